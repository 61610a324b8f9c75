/-! THE MACHINE: calls -/
def pm_fl (τ τ' : pr_St) : Prop := (∀ o k, pm_FT o k = false → τ'.1 o k = τ.1 o k) ∧ ∀ a, τ'.2.1 a = τ.2.1 a
theorem pm_fl_x {τ τ' : pr_St} (h : pm_fl τ τ') : pm_fx τ τ' := by
  refine ⟨fun o k hk => h.1 o k (Bool.eq_false_iff.mpr (fun w => hk ?_)), fun a _ => h.2 a⟩
  simp [pm_FT] at w
  exact w
theorem pm_argsT {τ : pr_St} {k LF c fu z : Nat} {p : Int32} (hk : k < 13000) (h17 : τ.2.1 17 k = nI LF) (h59 : ¬ τ.1 0 59 = 0) : prf_X_step_259 (fu + 1) τ (nI z) (nI k) (nI c) p = prf_X_step_306 pr_FU τ (nI z) (nI c) 0 := by
  rw [prf_X_step_259, pl_behX hk h17, pl_sb, if_neg h59]
  by_cases q : nI (k + LF) ≤ p
  · rw [if_pos q]
  · rw [if_neg q]
/-- the SUMs of a call -/
theorem pm_args {T : pl_Tx} {m : Nat} {rep : Nat → Nat} {A E : List (Nat × Bool)} {z P nO ic qe k LF : Nat} (hk : k + LF ≤ 12870) (hqe : qe ≤ nO) : ∀ (Gs : List (List pl_N × List pl_O)) (p q c rd fu : Nat) (σ τ : pr_St), (∀ x, x ∈ Gs → pl_sm T 190 x.1 x.2) → pm_vc T m rep A E z P nO σ τ → pm_iv ic rd σ τ → pl_nd T τ m rep p (pl_catF Gs) → pl_ops σ q (pl_catP Gs) → pm_lk T E σ (pl_cl false (pl_catF Gs)) → p + (pl_catF Gs).length = k + LF → q + (pl_catP Gs).length ≤ qe → rd + (pl_catP Gs).length < 2 ^ 30 → τ.2.1 17 k = nI LF → σ.1 7 13 = nI c → c + Gs.length ≤ 12 → σ.1 7 11 = 0 → τ.1 0 59 = 0 → (∀ j, j < c → (τ.2.2 36 j).toInt32 = σ.2.1 51 j) → Gs.length + 1 ≤ fu →
    (∃ (n rd' : Nat) (σ' τ' : pr_St), n ≤ (pl_catP Gs).length ∧ rd' ≤ rd + (pl_catP Gs).length ∧ pm_go z qe n q (q + (pl_catP Gs).length) σ σ' ∧ prf_X_step_259 fu τ (nI z) (nI k) (nI c) (nI p) = prf_X_step_306 pr_FU τ' (nI z) (nI (c + Gs.length)) 0 ∧ pl_fr pm_FE pm_GE σ σ' ∧ pm_fl τ τ' ∧ σ'.1 7 13 = nI (c + Gs.length) ∧ σ'.1 7 11 = 0 ∧ τ'.1 0 59 = 0 ∧ pm_iv ic rd' σ' τ' ∧ ∀ j, j < c + Gs.length → (τ'.2.2 36 j).toInt32 = σ'.2.1 51 j) ∨
    (∃ (n : Nat) (w : Int32) (rd' : Nat) (σ' τ' : pr_St) (N : Nat), n ≤ (pl_catP Gs).length + 1 ∧ rd' ≤ rd + (pl_catP Gs).length ∧ pm_ht z qe n q σ σ' ∧ prf_X_step_259 fu τ (nI z) (nI k) (nI c) (nI p) = prf_X_step_306 pr_FU τ' (nI z) (nI (N + 1)) 0 ∧ N < 12 ∧ pl_fr pm_FE pm_GE σ σ' ∧ pm_fl τ τ' ∧ (0 : Int32) < w ∧ σ'.1 7 11 = w ∧ τ'.1 0 59 = w ∧ pm_iv ic rd' σ' τ') := by
  intro Gs
  induction Gs with
  | nil =>
    intro p q c rd fu σ τ hG hv hi hnd hop hlk hp hq hrd h17 h13 hc h11 h59 hL hfu
    obtain ⟨fu, rfl⟩ : ∃ y, fu = y + 1 := ⟨fu - 1, by omega⟩
    have hp' : p = k + LF := hp
    refine Or.inl ⟨0, rd, σ, τ, Nat.zero_le _, Nat.le_refl _, fun g => rfl, ?_, pl_fr.rf, ⟨fun _ _ _ => rfl, fun _ => rfl⟩, h13, h11, h59, hi, hL⟩
    rw [prf_X_step_259, pl_behX (by omega) h17, pl_sb, hp', if_pos (Int32.le_refl _)]
    rfl
  | cons e l il =>
    intro p q c rd fu σ τ hG hv hi hnd hop hlk hp hq hrd h17 h13 hc h11 h59 hL hfu
    obtain ⟨fu, rfl⟩ : ∃ y, fu = y + 1 := ⟨fu - 1, by omega⟩
    rw [List.length_cons] at hfu hc ⊢
    have hsm := hG e List.mem_cons_self
    have lN : (pl_catF (e :: l)).length = e.1.length + (pl_catF l).length := by
      show (e.1 ++ pl_catF l).length = _
      rw [List.length_append]
    have lO : (pl_catP (e :: l)).length = e.2.length + (pl_catP l).length := by
      show (e.2 ++ pl_catP l).length = _
      rw [List.length_append]
    rw [lN] at hp
    rw [lO] at hq hrd ⊢
    obtain ⟨n1, n2⟩ := pl_nd_l e.1 (pl_catF l) p hnd
    obtain ⟨p1, p2⟩ := pm_opl e.2 (pl_catP l) q hop
    have hcl : pl_cl false (pl_catF (e :: l)) = pl_cl false e.1 ++ pl_cl false (pl_catF l) := by
      show pl_cl false (e.1 ++ pl_catF l) = _
      rw [pl_cl_app, pm_sm14 _ _ _ hsm]
    rw [hcl] at hlk
    obtain ⟨lk1, lk2⟩ := pm_lk_l hlk
    have hro := pl_sm_ro hsm
    have rsz : τ.2.1 17 p = nI e.1.length := pm_sz hro n1
    have hpos : 1 ≤ e.1.length := by
      obtain ⟨x, y, w, _⟩ := hro
      rw [w, List.length_cons]; omega
    rcases pm_sum (qe := qe) (ic := ic) 190 e.1 e.2 p q c rd σ τ hsm ⟨hv, hi, n1, p1, lk1, ⟨by omega, by omega, hqe, by omega⟩, h13, h11, h59⟩ (by omega) with ⟨n, v, rd1, σ1, τ1, a1, a2, a3, a4, a5⟩ | ⟨n, w, rd1, σ1, τ1, a1, a2, a3, a4, a5⟩
    · obtain ⟨f1, f2, g13, g51, gj, g11, g59, giv⟩ := a5
      dsimp only at a4
      have a4' : prf_X_reckon (prF_X_reckon 200) τ (nI p) = some (v.toInt64, τ1) := a4 201 (by omega)
      obtain ⟨τ2, hτ2⟩ : ∃ τ2, τ2 = pr_sL τ1 36 (vp_updL (τ1.2.2 36) c v.toInt64) := ⟨_, rfl⟩
      have t1 : τ2.1 = τ1.1 := by rw [hτ2]; rfl
      have t2 : τ2.2.1 = τ1.2.1 := by rw [hτ2]; rfl
      have hv1' : pm_vc T m rep A E z P nO σ1 τ1 := pm_vc_fr hv f1 f2
      have hv1 : pm_vc T m rep A E z P nO σ1 τ2 := by rw [hτ2]; exact hv1'
      have hi1 : pm_iv ic rd1 σ1 τ2 := by rw [hτ2]; exact giv
      have nd2 : pl_nd T τ2 m rep (p + e.1.length) (pl_catF l) := pl_nd_eq (Nat.le_refl _) (fun _ _ => rfl) _ _ (fun r x _ _ _ _ _ => by rw [t2, f2.2.1 r rfl]) n2
      have r17' : τ2.2.1 17 k = nI LF := by rw [t2, f2.2.1 17 rfl]; exact h17
      have rszl : (pr_sL τ1 36 (vp_updL (τ1.2.2 36) c v.toInt64)).2.1 17 p = nI e.1.length := by
        show τ1.2.1 17 p = _
        rw [f2.2.1 17 rfl]; exact rsz
      have hX : prf_X_step_259 (fu + 1) τ (nI z) (nI k) (nI c) (nI p) = prf_X_step_259 fu τ2 (nI z) (nI k) (nI (c + 1)) (nI (p + e.1.length)) := by
        rw [prf_X_step_259, pl_behX (by omega) h17, pl_sb, if_neg (nI_ge (by omega) (by omega)), if_pos h59, a4', pl_sb]
        dsimp only
        rw [pl_ck (show c < 13 by omega) (by omega), nI_clamp (show c < 2 ^ 31 by omega), pl_behX (by omega) rszl, pl_sb, nI_1, ← hτ2]
      have hL2 : ∀ j, j < c + 1 → (τ2.2.2 36 j).toInt32 = σ1.2.1 51 j := by
        intro j hj
        rw [hτ2]
        show (vp_updL (τ1.2.2 36) c v.toInt64 j).toInt32 = _
        by_cases w : j = c
        · rw [w, pk_uLs, pl_6432, g51]
        · rw [show vp_updL (τ1.2.2 36) c v.toInt64 j = τ1.2.2 36 j from if_neg w, f2.2.2, hL j (by omega), gj j (by omega)]
      have fl1 : pm_fl τ τ2 := ⟨fun o x hx => by rw [t1]; exact f2.1 o x hx, fun a => by rw [t2]; exact f2.2.1 a rfl⟩
      rcases il (p + e.1.length) (q + e.2.length) (c + 1) rd1 fu σ1 τ2 (fun x hx => hG x (List.mem_cons_of_mem _ hx)) hv1 hi1 nd2 (pm_ops f1 p2) (pm_lk_fr lk2 (f1.2.1 24 rfl)) (by omega) (by omega) (by omega) r17' g13 (by omega) g11 (by rw [t1]; exact g59) hL2 (by omega) with ⟨n', rd', σ', τ', c1, c2, c3, c4, c5, c6, c7, c8, c9, c10, c11⟩ | ⟨n', w', rd', σ', τ', N, c1, c2, c3, c4, c5, c6, c7, c8, c9, c10, c11⟩
      · have hgo := pm_go.tr a3 c3
        rw [show q + e.2.length + (pl_catP l).length = q + (e.2.length + (pl_catP l).length) by omega] at hgo
        rw [show c + 1 + l.length = c + (l.length + 1) by omega] at c4 c7 c11
        exact Or.inl ⟨n + n', rd', σ', τ', by omega, by omega, hgo, hX.trans c4, f1.tr c5, ⟨fun o x hx => (c6.1 o x hx).trans (fl1.1 o x hx), fun a => (c6.2 a).trans (fl1.2 a)⟩, c7, c8, c9, c10, c11⟩
      · exact Or.inr ⟨n + n', w', rd', σ', τ', N, by omega, by omega, pm_go.ht a3 c3, hX.trans c4, c5, f1.tr c6, ⟨fun o x hx => (c7.1 o x hx).trans (fl1.1 o x hx), fun a => (c7.2 a).trans (fl1.2 a)⟩, c8, c9, c10, c11⟩
    · obtain ⟨f1, f2, w0, w1, w2, giv⟩ := a5
      dsimp only at a4
      obtain ⟨v64, ev⟩ := a4 201 (by omega)
      have a4' : prf_X_reckon (prF_X_reckon 200) τ (nI p) = some (v64, τ1) := ev
      obtain ⟨fu, rfl⟩ : ∃ y, fu = y + 1 := ⟨fu - 1, by omega⟩
      have rszl : (pr_sL τ1 36 (vp_updL (τ1.2.2 36) c v64)).2.1 17 p = nI e.1.length := by
        show τ1.2.1 17 p = _
        rw [f2.2.1 17 rfl]; exact rsz
      have r17l : (pr_sL τ1 36 (vp_updL (τ1.2.2 36) c v64)).2.1 17 k = nI LF := by
        show τ1.2.1 17 k = _
        rw [f2.2.1 17 rfl]; exact h17
      have w59 : ¬ (pr_sL τ1 36 (vp_updL (τ1.2.2 36) c v64)).1 0 59 = 0 := by
        show ¬ τ1.1 0 59 = 0
        rw [w2]; exact pl_neg0 w0
      have hX : prf_X_step_259 (fu + 1 + 1) τ (nI z) (nI k) (nI c) (nI p) = prf_X_step_306 pr_FU (pr_sL τ1 36 (vp_updL (τ1.2.2 36) c v64)) (nI z) (nI (c + 1)) 0 := by
        rw [prf_X_step_259, pl_behX (by omega) h17, pl_sb, if_neg (nI_ge (by omega) (by omega)), if_pos h59, a4', pl_sb]
        dsimp only
        rw [pl_ck (show c < 13 by omega) (by omega), nI_clamp (show c < 2 ^ 31 by omega), pl_behX (by omega) rszl, pl_sb, nI_1, pm_argsT (by omega) r17l w59]
      exact Or.inr ⟨n, w, rd1, σ1, pr_sL τ1 36 (vp_updL (τ1.2.2 36) c v64), c, by omega, by omega, a3, hX, by omega, f1, ⟨fun o x hx => f2.1 o x hx, fun a => f2.2.1 a rfl⟩, w0, w1, w2, giv⟩
/-- the values of a call are put to the numbers -/
theorem pm_put {z cn N P : Nat} (hcn : cn + N ≤ 12) (hz : z < P) (hP : P ≤ 249) : ∀ (r j fC fX : Nat) (σ τ : pr_St), j + r = N → r + 1 ≤ fC → r + 1 ≤ fX → σ.1 7 13 = nI N → σ.1 4 14 = nI (P + 1) → σ.2.1 28 z = nI cn → τ.2.1 23 z = nI cn → τ.1 0 59 = 0 → (∀ i, i < N → (τ.2.2 36 i).toInt32 = σ.2.1 51 i) → pm_cl σ τ → ∃ σ' τ', prf_M_step_136 fC σ (nI z) (nI j) = ((prf_O_intoOf σ' (nI z)).bind fun r48 => some (r48, σ')) ∧ prf_X_step_306 fX τ (nI z) (nI N) (nI j) = prf_X_step_348 τ' (nI z) ∧ σ'.1 = σ.1 ∧ τ'.1 = τ.1 ∧ (∀ a, ¬ a = 48 → σ'.2.1 a = σ.2.1 a) ∧ (∀ a, ¬ a = 34 → τ'.2.1 a = τ.2.1 a) ∧ pm_cl σ' τ' := by
  intro r
  induction r with
  | zero =>
    intro j fC fX σ τ hj hfC hfX h13 h14 h28 h23 h59 hL hcl
    obtain ⟨fC, rfl⟩ : ∃ y, fC = y + 1 := ⟨fC - 1, by omega⟩
    obtain ⟨fX, rfl⟩ : ∃ y, fX = y + 1 := ⟨fX - 1, by omega⟩
    have : j = N := by omega
    subst this
    refine ⟨σ, τ, ?_, ?_, rfl, rfl, fun _ _ => rfl, fun _ _ => rfl, hcl⟩
    · rw [prf_M_step_136, h13, if_pos (Int32.le_refl _)]
    · rw [prf_X_step_306, if_pos (Int32.le_refl _)]
  | succ r ih =>
    intro j fC fX σ τ hj hfC hfX h13 h14 h28 h23 h59 hL hcl
    obtain ⟨fC, rfl⟩ : ∃ y, fC = y + 1 := ⟨fC - 1, by omega⟩
    obtain ⟨fX, rfl⟩ : ∃ y, fX = y + 1 := ⟨fX - 1, by omega⟩
    have hn := (pl_pnt h14 (show P + 1 ≤ 250 by omega) (show z < P + 1 by omega)).2.2.1
    rw [h28] at hn
    obtain ⟨v, hv⟩ : ∃ v, v = σ.2.1 51 j := ⟨_, rfl⟩
    obtain ⟨σ', τ', e1, e2, e3, e4, e5, e6, e7⟩ := ih (j + 1) fC fX (pr_sA σ 48 (upd (σ.2.1 48) (cn + j) v)) (pr_sA τ 34 (upd (τ.2.1 34) (cn + j) v)) (by omega) (by omega) (by omega) h13 h14 (by rw [pl_sA_ne (by decide)]; exact h28) (by rw [pl_sA_ne (by decide)]; exact h23) h59 (fun i hi => by rw [pl_sA_ne (by decide)]; exact hL i hi) ⟨fun i hi => by
      rw [pl_sA_same, pl_sA_same]
      by_cases w : i = cn + j
      · rw [w, pk_us, pk_us]
      · rw [pk_un w, pk_un w]; exact hcl.1 i hi, fun i hi => by rw [pl_sA_ne (by decide), pl_sA_ne (by decide)]; exact hcl.2 i hi⟩
    refine ⟨σ', τ', ?_, ?_, e3, e4, fun a ha => by rw [e5 a ha, pl_sA_ne ha], fun a ha => by rw [e6 a ha, pl_sA_ne ha], e7⟩
    · rw [prf_M_step_136, if_neg (by rw [h13]; exact nI_ge (by omega) (by omega)), hn, pl_sb, pm_wat h13 (by omega) (by omega), pl_sb, nI_add, pm_setN (by omega), pl_sb, nI_1, ← hv]
      exact e1
    · rw [prf_X_step_306, if_neg (nI_ge (by omega) (by omega)), if_pos h59, pl_ck (show z < 250 by omega) (by omega), nI_clamp (show z < 2 ^ 31 by omega), h23, pl_ck (show j < 13 by omega) (by omega), nI_clamp (show j < 2 ^ 31 by omega), nI_add, pl_ck (show cn + j < 12 by omega) (by omega), nI_clamp (show cn + j < 2 ^ 31 by omega), hL j (by omega), nI_1, ← hv]
      exact e2
/-- a call -/
theorem pm_st6 {T : pl_Tx} {m : Nat} {rep : Nat → Nat} {Ps : List pl_En} {W : pl_Wt} {P : Nat} {nx : Nat → Nat} {σp τp σ0 σ τ : pr_St} {z ic rd f k s q en : Nat} {F : List pl_N} {S' : List pl_S} {O : List pl_O} {r : pl_S} {par : Int32} (hE : pm_En T m rep Ps W P nx z ic rd σp τp σ τ) (hPt : pm_Pt T m rep Ps W P nx z σ0 σ τ τp f k s q en F S' O r par) (h : pl_st6 T s q (W z).2 F (r :: S') O) : pm_SR T W P z ic rd σ τ := by
  obtain ⟨t, n0, e, h0, Gs, k1, k2, k3, k4, k5, rfl, rfl, hS, hG⟩ := h
  obtain ⟨hr, hS'⟩ := List.cons.inj hS
  subst hS'
  have hr1 : r.1 = 4 := by rw [hr]
  have hrt : r.2.1 = t := by rw [hr]
  have hrd4 : r.2.2.2.1 = Gs.length := by rw [hr]
  have hre : r.2.2.2.2.2.2 = e + 2 := by rw [hr]
  obtain ⟨hRP, hT0, hag, hax, hz, h55, hcl, har, hi, hrd, h11, h59⟩ := id hE
  have hv := pm_vc1 hRP hT0 hag hz hPt h55 hcl har
  have htv := hv.1
  have he1 : e + 1 + 1 < pl_xc T := htv.2.2.2.2 (e + 1) (by omega)
  have n1 := pm_nq1 hPt
  obtain ⟨⟨a1, a2, a3, a4, a5⟩, b2, c3, b4, b5, b6, b7, _, ⟨_, pk, _⟩, d1, d2, _⟩ := id hPt
  have hn0 : t ≤ n0 := by rcases k2 with ⟨w, _⟩ | ⟨w, _⟩ <;> omega
  have hlk : pm_lk T (W z).2 σ (pl_cl false (pl_catF Gs)) := by
    rcases k3 with ⟨rfl, _⟩ | hcm
    · intro c hc; cases hc
    · have hab := hcm.1
      exact pm_lkc hRP.1.1 hcm (by omega) (by omega) c3.1 c3.2.1 (by omega) (by omega) (fun w => by omega)
  obtain ⟨LF, hLF⟩ : ∃ LF, LF = 3 + (pl_catF Gs).length := ⟨_, rfl⟩
  have hk := b2.1
  rw [List.length_cons, List.length_cons, List.length_cons] at hk
  have hqO := b2.2.1
  have h8 := b2.2.2.2.1
  have r13 : τ.2.1 13 k = nI 7 := a2.1.1
  have r17 : τ.2.1 17 k = nI LF := by rw [hLF]; exact a2.1.2.2.2.2
  have hnd : pl_nd T τ m rep (k + 3) (pl_catF Gs) := a2.2.2.2
  rcases pk with ⟨w, -⟩ | ⟨_, x1, x2, _, x4⟩ | ⟨w, -⟩
  · omega
  · rw [hrd4] at x2
    have head : prf_X_step τ = prf_X_step_259 pr_FU τ (nI z) (nI k) (nI 0) (nI (k + 3)) := by
      have e3 : nI k + 3 = nI (k + 3) := nI_add k 3
      unfold prf_X_step
      rw [h55, pl_ck (show z < 250 by omega) (by omega), nI_clamp (show z < 2 ^ 31 by omega), b6.1, pl_ck (show k < 13000 by omega) (by omega), nI_clamp (show k < 2 ^ 31 by omega), r13, if_neg (show ¬ nI 7 = 3 by decide), if_neg (show ¬ nI 7 = 4 by decide), if_neg (show ¬ nI 7 = 5 by decide), if_neg (show ¬ nI 7 = 6 by decide), if_pos (show nI 7 = 7 from rfl), e3]
      rfl
    have f01 : pl_fr pm_FE pm_GE σ (pr_sI σ 7 13 (nI 0)) := pl_sI_fr (o := 7) (k := 13) rfl
    have erk := pm_rk b7.2.2.2.2.2.1 b7.2.2.1 hz b4.2.1 n1 a5
    obtain ⟨σ1, hσ1⟩ : ∃ σ1, σ1 = pr_sI σ 7 13 (nI 0) := ⟨_, rfl⟩
    have s13 : σ1.1 7 13 = nI 0 := by rw [hσ1]; exact pr_sI_same
    have s11 : σ1.1 7 11 = 0 := by rw [hσ1, pr_sI_ne (by omega)]; exact h11
    have si : pm_iv ic rd σ1 τ := by rw [hσ1]; exact pm_iv_eq hi f01 pl_fr.rf (by rw [pr_sI_ne (by omega)]) rfl
    rw [← hσ1] at f01 erk
    have hv1 := pm_vc_fr hv f01 (pl_fr.rf (σ := τ))
    have hFU : pr_FU = 100000 := rfl
    -- the end of a step of the reference
    have h348 : ∀ τ', pm_fx τ τ' → prf_X_step_348 τ' (nI z) = if nI en ≤ nI (z + 1) then some (nI (nx z), τ') else some (nI (z + 1), τ') := by
      intro τ' h'
      unfold prf_X_step_348
      rw [pl_ck (show z < 250 by omega) (by omega), nI_clamp (show z < 2 ^ 31 by omega), h'.2 22 (by omega), b6.2.2.1, nI_1, pm_aft hPt hax h', pl_sb]
    rcases pm_args (k := k) (LF := LF) (qe := q + (pl_catP Gs).length) (ic := ic) (by omega) hqO Gs (k + 3) q 0 rd pr_FU σ1 τ hG hv1 si hnd (pm_ops f01 a3) (pm_lk_fr hlk (f01.2.1 24 rfl)) (by omega) (Nat.le_refl _) (by omega) r17 s13 (by omega) s11 h59 (fun j hj => by omega) (by rw [hFU]; omega) with ⟨n, rd', σ', τ', y1, y2, y3, y4, y5, y6, y7, y8, y9, y10, y11⟩ | ⟨n, w, rd', σ', τ', N, y1, y2, y3, y4, y5, y6, y7, y8, y9, y10, y11⟩
    · rw [Nat.zero_add] at y4 y7 y11
      have ereck := erk.trans (pm_rkG y3 (by omega))
      have fa := f01.tr y5
      have fx := pm_fl_x y6
      have hPt1 := pm_Pt_fr hPt (pm_fcE fa) fx
      have hcl1 : pm_cl σ' τ' := by
        unfold pm_cl
        rw [fa.2.1 48 rfl, fa.2.1 50 rfl, y6.2 34, y6.2 35]
        exact hcl
      have b4' := hPt1.2.2.2.1
      have b6' := hPt1.2.2.2.2.2.1
      have b7' := hPt1.2.2.2.2.2.2.1
      obtain ⟨σ2, τ2, u1, u2, u3, u4, u5, u6, u7⟩ := pm_put (z := z) (cn := pl_cnt false (pl_wv W z)) (N := Gs.length) (P := P) x2 hz b7.2.2.1 Gs.length 0 pr_FU pr_FU σ' τ' (by omega) (by rw [hFU]; omega) (by rw [hFU]; omega) y7 b7'.2.2.2.2.2.1 b4'.2.2.1 b6'.2.2.2.1 y9 y11 hcl1
      have fc2 : pm_fc σ' σ2 := ⟨fun o x _ => by rw [u3], fun a ha => u5 a (by omega)⟩
      have fx2 : pm_fx τ' τ2 := ⟨fun o x _ => by rw [u4], fun a ha => u6 a (by omega)⟩
      have hPt2 := pm_Pt_fr hPt1 fc2 fx2
      have b5'' := hPt2.2.2.2.2.1
      have hi2 : pm_iv ic rd' σ2 τ2 := by
        obtain ⟨w1, w2, w3, w4, w5, w6⟩ := y10
        refine ⟨by rw [u3]; exact w1, by rw [u4]; exact w2, w3, ?_, by rw [u4]; exact w5, by rw [u3]; exact w6⟩
        rw [u5 47 (by decide), u6 33 (by decide)]
        exact w4
      have hCs := (pm_stC ereck y8 (pm_acc hPt1).1 (by omega)).2.2.2.1 hr1
      have hz0 : (0 : Int32) = nI 0 := rfl
      rw [hz0, u1, (pm_acc hPt2).2.2.2.2.1, pl_sb, b5''.2.1, if_neg (show ¬ r.1 = 6 by omega)] at hCs
      have hX : prf_X_step τ = if nI en ≤ nI (z + 1) then some (nI (nx z), τ2) else some (nI (z + 1), τ2) := by
        rw [head, y4, hz0, u2]
        exact h348 τ2 (fx.tr fx2)
      have har2 : ∀ V, pm_ar T V σ → pm_ar T V σ2 := fun V hV => pm_ar_eq (pm_ar_fr hV fa) (u5 49 (by decide)) (u5 50 (by decide))
      have fin : ∀ nz, prf_M_step σ (nI z) = some (nI nz, σ2) → prf_X_step τ = some (nI nz, τ2) → nz ≤ P → pm_ar T (pl_wv W nz) σ → pm_SR T W P z ic rd σ τ := fun nz v1 v2 v3 v4 => Or.inl ⟨nz, rd', σ2, τ2, v1, v2, v3, by rw [u3]; exact y8, by rw [u4]; exact y9, (pm_fcE fa).tr fc2, fx.tr fx2, hi2, by omega, u7, har2 _ v4⟩
      rcases x4 with ⟨v1, v2, v3, v4⟩ | ⟨v1, v2⟩
      · have hne : ¬ σ0.2.1 36 z = -1 := by
          rw [v1]
          intro w
          exact nI_pos (show z + 1 < 2 ^ 31 by omega) (by rw [w]; decide)
        rw [if_neg hne, v1] at hCs
        rw [if_neg (nI_ge (by omega) (by omega))] at hX
        refine fin _ hCs hX (by omega) ?_
        have : pl_wv W (z + 1) = pl_wv W z ++ (W (z + 1)).2 := by
          show (W (z + 1)).1 ++ (W (z + 1)).2 = _
          rw [v3]
        rw [this]
        exact pm_ar_app har v4
      · rw [if_pos v1] at hCs
        rw [if_pos (nI_le (by omega) (by omega))] at hX
        exact fin _ hCs hX d1 (pm_nxar hPt htv.2.2.1 har (by omega) (fun w => by omega))
    · have fa := f01.tr y6
      have fx := pm_fl_x y7
      have w59 : ¬ τ'.1 0 59 = 0 := by rw [y10]; exact pl_neg0 y8
      have hX : ∃ y, prf_X_step τ = some (y, τ') := by
        rw [head, y4, show pr_FU = 99999 + 1 from rfl, prf_X_step_306, if_neg (show ¬ nI (N + 1) ≤ 0 from fun u => nI_nle (by omega) (by omega) u), if_neg w59, h348 τ' fx]
        by_cases u : nI en ≤ nI (z + 1)
        · rw [if_pos u]; exact ⟨_, rfl⟩
        · rw [if_neg u]; exact ⟨_, rfl⟩
      obtain ⟨y, hX⟩ := hX
      have ereck := erk.trans (pm_rkT y3 (by omega))
      refine Or.inr ⟨y, w, rd', σ', τ', ?_, hX, y8, y9, y10, pm_fcE fa, fx, y11, by omega, ?_, pm_ar_fr har fa⟩
      · unfold prf_M_step
        rw [ereck, pl_sb, if_neg (by rw [y9]; exact pl_neg0 y8)]
      · unfold pm_cl
        rw [fa.2.1 48 rfl, fa.2.1 50 rfl, y7.2 34, y7.2 35]
        exact hcl
  · omega
