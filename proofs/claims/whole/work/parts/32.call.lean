/-! THE PARSER: calls -/
theorem pl_detS {T : pl_Tx} {a q d s s2 : Nat} {σ τ : pr_St} (g : pl_gs T a q d s2 σ τ) (h : s < s2) (h2 : s2 ≤ 2001) (v : Int32) : ∃ σ1, prf_G_setDetail σ (nI s) v = some σ1 ∧ pl_gs T a q d s2 σ1 τ ∧ pl_fs q s σ σ1 ∧ σ1.2.1 20 s = v ∧ (∀ r z, ¬ (r = 20 ∧ z = s) → σ1.2.1 r z = σ.2.1 r z) ∧ σ1.1 = σ.1 := by
  obtain ⟨⟨g1, g2, g3, g4, g5, g6⟩, gs⟩ := g
  have hr : ∀ r z, ¬ (r = 20 ∧ z = s) → (pr_sA σ 20 (upd (σ.2.1 20) s v)).2.1 r z = σ.2.1 r z := by
    intro r z hrz
    by_cases hr : r = 20
    · subst hr
      rw [pl_sA_same, pk_un (fun q => hrz ⟨rfl, q⟩)]
    · rw [pl_sA_ne hr]
  have hfr : pl_fr pl_FS pl_GS σ (pr_sA σ 20 (upd (σ.2.1 20) s v)) := pl_sA_fr rfl
  refine ⟨_, ?_, ⟨⟨pl_tt_fr g1 hfr (pl_fr.rf (F := pl_FQ) (G := pl_GD)) ⟨rfl, rfl, rfl, rfl, rfl, rfl⟩ ⟨rfl, rfl, rfl, rfl, rfl, rfl⟩, g2, g3, g4, g5, g6⟩, gs⟩, ⟨hfr, fun r z h1 h2 _ => hr r z (fun q => by omega), fun r z h1 h2 hz => hr r z (fun q => by omega)⟩, ?_, hr, rfl⟩
  · unfold prf_G_setDetail prf_G_isStatement
    rw [if_neg (nI_pos (by omega)), gs, if_neg (nI_ge h (by omega)), pl_sb, if_neg pl_10, pl_ck (by omega) (by omega), nI_clamp (by omega)]
  · show upd (σ.2.1 20) s v s = _
    rw [pk_us]
/-- the end of the SUMs of a call -/
theorem pl_aend {T : pl_Tx} {a q d s t0 q0 det n : Nat} {σ τ : pr_St} (g : pl_gs T a q d (s + 1) σ τ) (hs : s ≤ 2000) (op : pl_op σ s 4 t0 q0 det) (hd : d ≤ 2 * a + 5) : ∃ a' σ' τ', a ≤ a' ∧ pl_fs q s σ σ' ∧ (∀ x, pl_fx x τ τ') ∧ pl_op σ' s 4 t0 q0 n ∧ (∀ r z, 22 ≤ r → σ'.2.1 r z = σ.2.1 r z) ∧
    ((((prf_G_setDetail σ (nI s) (nI n)).bind fun r34 => (prf_R_take r34 13).bind fun r35 => pr_z r35.1 (some (r35.1, r35.2))) = some (1, σ') ∧ prf_X_take τ 41 = some τ' ∧ pl_gs T a' q d (s + 1) σ' τ' ∧ pl_xK T a = 13 ∧ a' = a + 1) ∨
     (((prf_G_setDetail σ (nI s) (nI n)).bind fun r34 => (prf_R_take r34 13).bind fun r35 => pr_z r35.1 (some (r35.1, r35.2))) = some (0, σ') ∧ prf_X_take τ 41 = some τ' ∧ σ'.1 2 11 = nI (s + 1) ∧ (∀ d0, d0 ≤ d → pl_bd T a' d0 5 σ' τ') ∧ a' = a)) := by
  obtain ⟨σ1, e1, g1, fs1, r20, rr, rf⟩ := pl_detS g (s := s) (by omega) (by omega) (nI n)
  have op1 : pl_op σ1 s 4 t0 q0 n := ⟨by rw [rr 17 s (by omega)]; exact op.1, by rw [rr 18 s (by omega)]; exact op.2.1, by rw [rr 19 s (by omega)]; exact op.2.2.1, r20⟩
  by_cases k13 : pl_xK T a = 13
  · obtain ⟨σ2, τ2, c2, c2', x2, g2, fc2, fx2, s2, r2⟩ := pl_takeA g1.1 k13 (by decide)
    have c2'' : prf_R_take σ1 13 = some (1, σ2) := c2
    refine ⟨a + 1, σ2, τ2, by omega, fs1.tr (fc2 q).fs (Nat.le_refl _) (Nat.le_refl _), fx2, pl_op_fc op1 (fc2 0), fun r z hr => by rw [s2, rr r z (by omega)], Or.inl ⟨?_, x2, pl_gs_fc g1 g2 (fc2 0), k13, rfl⟩⟩
    rw [e1, pl_sb, c2'', pl_sb]
    rfl
  · obtain ⟨c2, τ2, x2, b2, fx2⟩ := pl_takeZ g1.1 (k := 13) (by decide) k13
    have c2'' : prf_R_take σ1 13 = some (0, σ1) := c2
    refine ⟨a, σ1, τ2, Nat.le_refl _, fs1, fx2, op1, fun r z hr => by rw [rr r z (by omega)], Or.inr ⟨?_, x2, g1.2, fun d0 h0 => b2 d0 5 h0 (by omega), rfl⟩⟩
    rw [e1, pl_sb, c2'', pl_sb]
    rfl
/-- the SUMs of a call behind the first one -/
theorem pl_aloop {T : pl_Tx} (D : Nat) (hD : D < 900) (s x d0 b0 q0 t0 tt kk qq : Nat) (H : List pl_N) (hs : s ≤ 2000) :
    ∀ (M a i q d mC mX : Nat) (σ τ : pr_St) (cs : List (Nat × List pl_N)) (Gs : List (List pl_N × List pl_O)), pl_xc T ≤ a + M → M + 1 ≤ mC → M + 1 ≤ mX → i + 1 ≤ a → pl_gs T a q d (s + 1) σ τ → q ≤ a → d ≤ 2 * a → d0 ≤ d → pl_dt τ (pl_xP T) d0 d x kk tt 0 cs → pl_cat cs = H ++ pl_catF Gs → pl_cm (pl_xK T) b0 a (pl_catF Gs) → Gs.length = i + 1 → q = q0 + (pl_catP Gs).length → (pl_catP Gs).length + b0 ≤ a → pl_ops σ q0 (pl_catP Gs) → (∀ e, e ∈ Gs → pl_sm T 190 e.1 e.2) → pl_op σ s 4 t0 qq 0 →
    ∃ (a' : Nat) (σ' τ' : pr_St), a ≤ a' ∧ pl_fs q s σ σ' ∧ pl_fx d0 τ τ' ∧ σ'.1 2 11 = nI (s + 1) ∧
      ((∃ (d' e : Nat) (Gs' : List (List pl_N × List pl_O)), prf_R_readCall_60 mC σ (nI s) (nI D) (nI (i + 1)) (nI i) = some (1, σ') ∧ prf_X_sums_38 mX τ (nI x) (nI D) = some τ' ∧ pl_gs T a' (q0 + (pl_catP Gs').length) d' (s + 1) σ' τ' ∧ a' = e + 1 ∧ pl_xK T e = 13 ∧ (pl_catP Gs').length + b0 ≤ a' ∧ 5 * d' + 8 * a ≤ 5 * d + 8 * a' ∧ pl_tr τ' (pl_xP T) d0 d' x ((kk, tt, 0, 1 + (H ++ pl_catF Gs').length) :: (H ++ pl_catF Gs')) ∧ pl_ops σ' q0 (pl_catP Gs') ∧ pl_cm (pl_xK T) b0 e (pl_catF Gs') ∧ pl_op σ' s 4 t0 qq Gs'.length ∧ ∀ e, e ∈ Gs' → pl_sm T 190 e.1 e.2) ∨
       (prf_R_readCall_60 mC σ (nI s) (nI D) (nI (i + 1)) (nI i) = some (0, σ') ∧ prf_X_sums_38 mX τ (nI x) (nI D) = some τ' ∧ pl_bd T a' d0 5 σ' τ')) := by
  intro M
  induction M with
  | zero =>
    intro a i q d mC mX σ τ cs Gs hM _ _ _ g
    have := g.1.2.2.1
    omega
  | succ M ih =>
    intro a i q d mC mX σ τ cs Gs hM hmC hmX hi g hq hd hd0 ht hcat hcm hn hqq hqa hops hGs hop
    obtain ⟨mC, rfl⟩ : ∃ z, mC = z + 1 := ⟨mC - 1, by omega⟩
    obtain ⟨mX, rfl⟩ : ∃ z, mX = z + 1 := ⟨mX - 1, by omega⟩
    have h8 := pl_gd8 g.1
    have hK := pl_gdK g.1
    have n8 : ¬ (8000 : Int32) ≤ nI i := nI_ge (b := 8000) (by omega) (by omega)
    by_cases k18 : pl_xK T a = 18
    · obtain ⟨σ2, τ2, c2, c2', x2, g2, fc2, fx2, s2, r2⟩ := pl_takeA g.1 k18 (by decide)
      have c2'' : prf_R_take σ 18 = some (1, σ2) := c2
      have x2'' : prf_X_take τ 44 = some τ2 := x2
      have hs2 := ht.fx (fx2 d) (Nat.le_refl _)
      obtain ⟨a', σ', τ', hle, fc', fx', hr⟩ := pl_sumN (T := T) (D + 1) (by omega) (by omega) (a + 1) q d σ2 τ2 g2 (by omega) (by omega)
      have fcA : pl_fc q σ σ' := (fc2 q).tr fc' (Nat.le_refl _)
      have fxA : pl_fx d τ τ' := (fx2 d).tr fx' (Nat.le_refl _)
      have hs3 := hs2.fx fx' (Nat.le_refl _)
      have eC0 : prf_R_readCall_60 (mC + 1) σ (nI s) (nI D) (nI (i + 1)) (nI i) = (prf_R_readSum (prF_R_readFactor 70) σ2 (nI (D + 1))).bind fun r37 => if r37.1 = 0 then some (0, r37.2) else prf_R_readCall_60 mC r37.2 (nI s) (nI D) (nI (i + 1 + 1)) (nI (i + 1)) := by
        rw [prf_R_readCall_60, if_neg n8, c2'', pl_sb, if_neg (show ¬ ((1 : Int32), σ2).1 = 0 from pl_10), nI_1, nI_1, nI_1]
      have eX0 : prf_X_sums_38 (mX + 1) τ (nI x) (nI D) = (prf_X_sum (prF_X_factor 70) τ2 (nI (D + 1))).bind fun r22 => (prf_X_join r22.2 (nI x) r22.1).bind fun r23 => prf_X_sums_38 mX r23 (nI x) (nI D) := by
        rw [prf_X_sums_38, pl_lookG g.1, pl_sb, k18, if_pos (show nI (pl_km 18) = 44 from rfl), x2'', pl_sb, if_pos g2.2.2.2.1, nI_1]
      rcases hr with ⟨y, d', G2, Q2, hC1, hX1, g6, hO, hD', tr6, ops6, cm6, sm6⟩ | ⟨hC1, v, hX1, b6, vi6⟩
      · have h86 := pl_gd8 g6
        have iv6 := tr6.iv
        have hC1' : prf_R_readSum (prF_R_readFactor 70) σ2 (nI (D + 1)) = some (1, σ') := hC1
        have hX1' : prf_X_sum (prF_X_factor 70) τ2 (nI (D + 1)) = some (nI y, τ') := hX1
        obtain ⟨τ8, e8, g8, fx8, t8⟩ := pl_joinG (l := d0) (h := d') g6 hs3 tr6 (by omega) (Or.inl (Nat.le_refl _)) (by omega) (by omega) (by omega) (by omega)
        rw [hC1', pl_sb, if_neg (show ¬ ((1 : Int32), σ').1 = 0 from pl_10)] at eC0
        rw [hX1', pl_sb, e8, pl_sb] at eX0
        have eN : pl_catF (Gs ++ [(G2, Q2)]) = pl_catF Gs ++ G2 := by rw [pl_catF_app]; simp [pl_catF]
        have eO : pl_catP (Gs ++ [(G2, Q2)]) = pl_catP Gs ++ Q2 := by rw [pl_catP_app]; simp [pl_catP]
        have eOl : (pl_catP (Gs ++ [(G2, Q2)])).length = (pl_catP Gs).length + Q2.length := by rw [eO, List.length_append]
        obtain ⟨a2, σ'', τ'', hle2, fcI, fxI, hcI, hrI⟩ := ih a' (i + 1) (q + Q2.length) d' mC mX σ' τ8 _ (Gs ++ [(G2, Q2)]) (by omega) (by omega) (by omega) (by omega) (pl_gs_fc g g8 fcA) (by omega) (by omega) (by omega) t8 (by rw [pl_cat_app, hcat, eN]; simp [pl_cat]) (by rw [eN]; exact pl_cm_app (pl_cm_suf hcm (by rw [k18]; exact ⟨by decide, by decide, by decide, by decide⟩) (by omega)) cm6 (fun t ht2 hk2 => by
            have : t = a := by omega
            subst this
            omega)) (by rw [List.length_append, hn]; rfl) (by rw [eOl]; omega) (by rw [eOl]; omega) (by
            rw [eO]
            refine pl_ops_app _ _ q0 (pl_ops_eq fcA.2 _ _ (by omega) hops) ?_
            rw [← hqq]
            exact ops6) (fun e he => by
            rcases List.mem_append.mp he with he | he
            · exact hGs e he
            · have : e = (G2, Q2) := by simpa using he
              subst this
              exact pl_sm_ff sm6 (by omega)) (pl_op_fc hop fcA)
        refine ⟨a2, σ'', τ'', by omega, (fcA.fs).tr fcI (by omega) (Nat.le_refl _), (fxA.le hd0).tr (fx8.tr fxI (Nat.le_refl _)) (Nat.le_refl _), hcI, ?_⟩
        rw [eC0, eX0]
        rcases hrI with ⟨d2, e, Gs2, w1, w2, w3, w4, w5, w6, w7, w8⟩ | w
        · exact Or.inl ⟨d2, e, Gs2, w1, w2, w3, w4, w5, w6, by omega, w8⟩
        · exact Or.inr w
      · have hC1' : prf_R_readSum (prF_R_readFactor 70) σ2 (nI (D + 1)) = some (0, σ') := hC1
        have hX1' : prf_X_sum (prF_X_factor 70) τ2 (nI (D + 1)) = some (v, τ') := hX1
        obtain ⟨τ8, e8, b8, fx8, j8⟩ := pl_joinW (d0 := d0) b6 (hs3.jb (Nat.le_refl _) (by omega)) (vi6.le hd0)
        rw [hC1', pl_sb, if_pos rfl] at eC0
        obtain ⟨mX, rfl⟩ : ∃ z, mX = z + 1 := ⟨mX - 1, by omega⟩
        have eS : prf_X_sums_38 (mX + 1) τ8 (nI x) (nI D) = some τ8 := by
          rw [prf_X_sums_38, pl_lookW b8, pl_sb, if_neg (show ¬ (1 : Int32) = 44 by decide), pl_takeW b8, pl_sb]
        rw [hX1', pl_sb, e8, pl_sb, eS] at eX0
        exact ⟨a', σ', τ8, by omega, fcA.fs, (fxA.le hd0).tr fx8 (Nat.le_refl _), by rw [fcA.1.1 2 11 rfl]; exact g.2, Or.inr ⟨eC0, eX0, b8.le (by omega) (by omega)⟩⟩
    · have c2 : prf_R_take σ 18 = some (0, σ) := (pl_takeZ g.1 (k := 18) (by decide) k18).1
      obtain ⟨a', σ', τ', hle, fs', fx', op', rr', hr⟩ := pl_aend (n := i + 1) g hs hop (by omega)
      have eC0 : prf_R_readCall_60 (mC + 1) σ (nI s) (nI D) (nI (i + 1)) (nI i) = (prf_G_setDetail σ (nI s) (nI (i + 1))).bind fun r34 => (prf_R_take r34 13).bind fun r35 => pr_z r35.1 (some (r35.1, r35.2)) := by
        rw [prf_R_readCall_60, if_neg n8, c2, pl_sb, if_pos rfl]
      have eX0 : prf_X_sums_38 (mX + 1) τ (nI x) (nI D) = (prf_X_take τ 41).bind fun r19 => some r19 := by
        rw [prf_X_sums_38, pl_lookG g.1, pl_sb, if_neg (pl_kn hK (j := 18) (v := 44) (by decide) rfl k18)]
      rcases hr with ⟨w1, w2, w3, w4, w5⟩ | ⟨w1, w2, w3, w4, w5⟩
      · rw [w1] at eC0
        rw [w2, pl_sb] at eX0
        refine ⟨a', σ', τ', hle, fs', fx' d0, w3.2, Or.inl ⟨d, a, Gs, eC0, eX0, by rw [← hqq]; exact w3, w5, w4, by omega, by omega, ?_, ?_, hcm, by rw [hn]; exact op', hGs⟩⟩
        · have t := (ht.fx (fx' d) (Nat.le_refl _)).tr
          rw [hcat] at t
          exact t
        · exact pl_ops_fs (q := q) (s := s) fs' _ _ (by omega) hops
      · rw [w1] at eC0
        rw [w2, pl_sb] at eX0
        exact ⟨a', σ', τ', hle, fs', fx' d0, w3, Or.inr ⟨eC0, eX0, w4 d0 hd0⟩⟩
/-- all SUMs of a call: from behind its ( on -/
theorem pl_args {T : pl_Tx} (D : Nat) (hD : D < 900) {s x d0 b q d t0 tt kk qq : Nat} {H : List pl_N} {σ τ : pr_St} {cs : List (Nat × List pl_N)} (hs : s ≤ 2000) (g : pl_gs T b q d (s + 1) σ τ) (hq : q ≤ b) (hd : d ≤ 2 * b) (hd0 : d0 ≤ d) (ht : pl_dt τ (pl_xP T) d0 d x kk tt 0 cs) (hcat : pl_cat cs = H) (hop : pl_op σ s 4 t0 qq 0) :
    ∃ (a' : Nat) (σ' τ' : pr_St), b ≤ a' ∧ pl_fs q s σ σ' ∧ pl_fx d0 τ τ' ∧ σ'.1 2 11 = nI (s + 1) ∧
      ((∃ (d' e : Nat) (Gs : List (List pl_N × List pl_O)), ((prf_R_now σ).bind fun r48 => if r48 = 13 then (prf_G_setDetail σ (nI s) 0).bind fun r50 => (prf_R_take r50 13).bind fun r51 => pr_z r51.1 (some (r51.1, r51.2)) else (prf_R_readSum (prF_R_readFactor 70) σ (nI (D + 1))).bind fun r53 => if r53.1 = 0 then some (0, r53.2) else prf_R_readCall_60 pr_FU r53.2 (nI s) (nI D) 1 0) = some (1, σ') ∧ ((prf_X_look τ).bind fun r26 => if r26 = 41 then (prf_X_take τ 41).bind fun r28 => some r28 else if (τ.1 0 9) = 0 then (prf_X_sum (prF_X_factor 70) τ (nI (D + 1))).bind fun r30 => (prf_X_join r30.2 (nI x) r30.1).bind fun r31 => prf_X_sums_38 pr_FU r31 (nI x) (nI D) else (prf_X_join τ (nI x) (-1)).bind fun r32 => prf_X_sums_38 pr_FU r32 (nI x) (nI D)) = some τ' ∧ pl_gs T a' (q + (pl_catP Gs).length) d' (s + 1) σ' τ' ∧ a' = e + 1 ∧ pl_xK T e = 13 ∧ (pl_catP Gs).length + b ≤ a' ∧ 5 * d' + 8 * b ≤ 5 * d + 8 * a' ∧ pl_tr τ' (pl_xP T) d0 d' x ((kk, tt, 0, 1 + (H ++ pl_catF Gs).length) :: (H ++ pl_catF Gs)) ∧ pl_ops σ' q (pl_catP Gs) ∧ ((Gs = [] ∧ e = b) ∨ pl_cm (pl_xK T) b e (pl_catF Gs)) ∧ pl_op σ' s 4 t0 qq Gs.length ∧ ∀ e, e ∈ Gs → pl_sm T 190 e.1 e.2) ∨
       (((prf_R_now σ).bind fun r48 => if r48 = 13 then (prf_G_setDetail σ (nI s) 0).bind fun r50 => (prf_R_take r50 13).bind fun r51 => pr_z r51.1 (some (r51.1, r51.2)) else (prf_R_readSum (prF_R_readFactor 70) σ (nI (D + 1))).bind fun r53 => if r53.1 = 0 then some (0, r53.2) else prf_R_readCall_60 pr_FU r53.2 (nI s) (nI D) 1 0) = some (0, σ') ∧ ((prf_X_look τ).bind fun r26 => if r26 = 41 then (prf_X_take τ 41).bind fun r28 => some r28 else if (τ.1 0 9) = 0 then (prf_X_sum (prF_X_factor 70) τ (nI (D + 1))).bind fun r30 => (prf_X_join r30.2 (nI x) r30.1).bind fun r31 => prf_X_sums_38 pr_FU r31 (nI x) (nI D) else (prf_X_join τ (nI x) (-1)).bind fun r32 => prf_X_sums_38 pr_FU r32 (nI x) (nI D)) = some τ' ∧ pl_bd T a' d0 5 σ' τ')) := by
  have h8 := pl_gd8 g.1
  have hF : pr_FU = 99999 + 1 := rfl
  rw [pl_nowG g.1, pl_sb, pl_lookG g.1, pl_sb]
  by_cases k13 : pl_xK T b = 13
  · obtain ⟨a', σ', τ', hle, fs', fx', op', rr', hr⟩ := pl_aend (n := 0) g hs hop (by omega)
    rw [k13, if_pos (show nI 13 = 13 from rfl), if_pos (show nI (pl_km 13) = 41 from rfl)]
    rcases hr with ⟨w1, w2, w3, w4, w5⟩ | ⟨w1, w2, w3, w4, w5⟩
    · have w1' : ((prf_G_setDetail σ (nI s) 0).bind fun r50 => (prf_R_take r50 13).bind fun r51 => pr_z r51.1 (some (r51.1, r51.2))) = some (1, σ') := w1
      have t := (ht.fx (fx' d) (Nat.le_refl _)).tr
      rw [hcat] at t
      refine ⟨a', σ', τ', hle, fs', fx' d0, w3.2, Or.inl ⟨d, b, [], w1', by rw [w2, pl_sb], w3, w5, k13, by show 0 + b ≤ a'; omega, by omega, ?_, trivial, Or.inl ⟨rfl, rfl⟩, op', fun e he => by cases he⟩⟩
      have e0 : H ++ pl_catF [] = H := by simp [pl_catF]
      rw [e0]
      exact t
    · have w1' : ((prf_G_setDetail σ (nI s) 0).bind fun r50 => (prf_R_take r50 13).bind fun r51 => pr_z r51.1 (some (r51.1, r51.2))) = some (0, σ') := w1
      exact ⟨a', σ', τ', hle, fs', fx' d0, w3, Or.inr ⟨w1', by rw [w2, pl_sb], w4 d0 hd0⟩⟩
  · rw [if_neg (pl_cn (pl_gdK g.1) (j := 13) (v := 13) (by decide) rfl k13), if_neg (pl_kn (pl_gdK g.1) (j := 13) (v := 41) (by decide) rfl k13), if_pos g.1.2.2.2.1]
    obtain ⟨a', σ', τ', hle, fc', fx', hr⟩ := pl_sumN (T := T) (D + 1) (by omega) (by omega) b q d σ τ g.1 (by omega) (by omega)
    have hs3 := ht.fx fx' (Nat.le_refl _)
    rcases hr with ⟨y, d', G2, Q2, hC1, hX1, g6, hO, hD', tr6, ops6, cm6, sm6⟩ | ⟨hC1, v, hX1, b6, vi6⟩
    · have h86 := pl_gd8 g6
      have iv6 := tr6.iv
      have hC1' : prf_R_readSum (prF_R_readFactor 70) σ (nI (D + 1)) = some (1, σ') := hC1
      have hX1' : prf_X_sum (prF_X_factor 70) τ (nI (D + 1)) = some (nI y, τ') := hX1
      obtain ⟨τ8, e8, g8, fx8, t8⟩ := pl_joinG (l := d0) (h := d') g6 hs3 tr6 (by omega) (Or.inl (Nat.le_refl _)) (by omega) (by omega) (by omega) (by omega)
      rw [hC1', pl_sb, if_neg (show ¬ ((1 : Int32), σ').1 = 0 from pl_10), hX1', pl_sb, e8, pl_sb]
      have c8 := pl_c8 g6.1
      have c61 := cm6.1
      obtain ⟨a2, σ'', τ'', hle2, fcI, fxI, hcI, hrI⟩ := pl_aloop (T := T) D hD s x d0 b q t0 tt kk qq H hs 8001 a' 0 (q + Q2.length) d' pr_FU pr_FU σ' τ8 _ [(G2, Q2)] (by omega) (by rw [hF]; omega) (by rw [hF]; omega) (by omega) (pl_gs_fc g g8 fc') (by omega) (by omega) (by omega) t8 (by rw [pl_cat_app, hcat]; simp [pl_cat, pl_catF]) (by simpa [pl_catF] using cm6) rfl (by simp [pl_catP]) (by simpa [pl_catP] using hO) (by simpa [pl_catP] using ops6) (fun e he => by
        have : e = (G2, Q2) := by simpa using he
        subst this
        exact pl_sm_ff sm6 (by omega)) (pl_op_fc hop fc')
      refine ⟨a2, σ'', τ'', by omega, (fc'.fs).tr fcI (by omega) (Nat.le_refl _), (fx'.le hd0).tr (fx8.tr fxI (Nat.le_refl _)) (Nat.le_refl _), hcI, ?_⟩
      rcases hrI with ⟨d2, e, Gs2, w1, w2, w3, w4, w5, w6, w7, w8, w9, w10, w11⟩ | w
      · exact Or.inl ⟨d2, e, Gs2, w1, w2, w3, w4, w5, w6, by omega, w8, w9, Or.inr w10, w11⟩
      · exact Or.inr w
    · have hC1' : prf_R_readSum (prF_R_readFactor 70) σ (nI (D + 1)) = some (0, σ') := hC1
      have hX1' : prf_X_sum (prF_X_factor 70) τ (nI (D + 1)) = some (v, τ') := hX1
      obtain ⟨τ8, e8, b8, fx8, j8⟩ := pl_joinW (d0 := d0) b6 (hs3.jb (Nat.le_refl _) (by omega)) (vi6.le hd0)
      rw [hC1', pl_sb, if_pos rfl, hX1', pl_sb, e8, pl_sb, hF, prf_X_sums_38, pl_lookW b8, pl_sb, if_neg (show ¬ (1 : Int32) = 44 by decide), pl_takeW b8, pl_sb]
      exact ⟨a', σ', τ8, hle, fc'.fs, (fx'.le hd0).tr fx8 (Nat.le_refl _), by rw [fc'.1.1 2 11 rfl]; exact g.2, Or.inr ⟨rfl, rfl, b8.le (by omega) (by omega)⟩⟩
