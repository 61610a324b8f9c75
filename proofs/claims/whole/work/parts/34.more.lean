/-! THE PARSER: calls, assert, return -/
theorem pl_sI_sI {σ : pr_St} {o k : Nat} {v w : Int32} : pr_sI (pr_sI σ o k v) o k w = pr_sI σ o k w := by
  unfold pr_sI
  refine Prod.ext ?_ rfl
  funext x y
  by_cases h1 : x = o
  · by_cases h2 : y = k
    · subst h1; subst h2; simp
    · simp [h1, h2]
  · simp [h1]
/-- a call without a NAME in front -/
theorem pl_stCall {T : pl_Tx} {a q d s : Nat} {σ τ : pr_St} (g : pl_gs T a q d s σ τ) (hq : q ≤ a) (hd : d ≤ 2 * a) (h4 : 4 * s ≤ pl_xP T a) (hk : pl_xK T a = 2) (k12 : pl_xK T (a + 1) = 12) (rc rcX : pr_St → Int32 → Option (Int32 × pr_St)) (D : Nat) (hD : D < 900) (E : List (Nat × Bool)) : pl_phS T (pl_Φl T E) a q d s σ τ (prf_R_readStatement rc σ (nI D)) (prf_X_statement1 rcX τ (nI D)) := by
  have h8 := pl_gd8 g.1
  have hs := pl_s2000 g h4
  obtain ⟨σ1, eo, g1, fs1, op1, o1⟩ := pl_openS g hs (k := 4) (by decide)
  obtain ⟨σ3, τ3, c3, c3', x3, g3, fc3, fx3, s3, t3⟩ := pl_nameG g1.1 hk (by omega)
  have h83 := pl_gd8 g3
  obtain ⟨τ4, e4, g4, fx4, t4⟩ := pl_draftG g3 (by omega) 7 a 0
  obtain ⟨τ5, e5, g5, fx5, t5⟩ := pl_draftG g4 (by omega) 33 a 0
  obtain ⟨τ6, e6, g6, fx6, t6⟩ := pl_joinG (l := d + 1) (h := d + 3) g5 (t4.fx fx5 (Nat.le_refl _)) t5.tr (by omega) (Or.inl (Nat.le_refl _)) (by omega) (by omega) (by omega) (by omega)
  have t3' := ((t3.fx fx4 (Nat.le_refl _)).fx fx5 (by omega)).fx fx6 (Nat.le_refl _)
  obtain ⟨τ7, e7, g7, fx7, t7⟩ := pl_joinG (l := d) (h := d + 3) g6 t6 t3'.tr (by omega) (Or.inr (Nat.le_refl _)) (by omega) (by omega) (by omega) (by omega)
  obtain ⟨σ8, τ8, c8, c8', x8, g8, fc8, fx8, s8, r8⟩ := pl_takeA g7 k12 (by decide)
  have hn1 : ¬ nI s = -1 := pl_nIm1 (by omega)
  have t8 := t7.fx (fx8 (d + 3)) (Nat.le_refl _)
  have fcB : pl_fc q σ1 σ8 := (fc3 q).tr (fc8 q) (Nat.le_refl _)
  have fxB : pl_fx d τ τ8 := ((((fx3.tr fx4 (by omega)).tr fx5 (by omega)).tr fx6 (by omega)).tr fx7 (by omega)).tr (fx8 d) (Nat.le_refl _)
  have e88 : pr_sI σ1 3 2 (σ1.1 3 2 + 2) = σ8 := by
    rw [← c8', ← c3', pl_sI_sI, pr_sI_same, g1.1.2.1.1, nI_1, nI_1, pl_n2]
  have eC0 : prf_R_readStatement rc σ (nI D) = (prf_R_readCall σ1 (nI s) (nI D)).bind fun r195 => if r195.1 = 0 then (prf_G_closeStatement r195.2 (nI s)).bind fun r197 => some (0, (pr_sI r197 3 3 (nI 4))) else (prf_R_take r195.2 19).bind fun r198 => if r198.1 = 0 then (prf_G_closeStatement r198.2 (nI s)).bind fun r200 => some (0, (pr_sI r200 3 3 (nI 4))) else (prf_G_closeStatement r198.2 (nI s)).bind fun r201 => some (1, (pr_sI r201 3 3 (nI 4))) := by
    have ek : prf_R_statementKind σ = some (nI 4) := by
      rw [pl_kbn g.1 hk, if_pos (Or.inl k12)]
    unfold prf_R_readStatement
    rw [ek, pl_sb, if_neg (show ¬ nI 4 = 0 by decide), eo, pl_sb, if_neg hn1, if_neg (show ¬ nI 4 = 1 by decide), if_neg (show ¬ nI 4 = 2 by decide), if_neg (show ¬ nI 4 = 3 by decide), if_pos (show nI 4 = 4 from rfl)]
  have hm := pl_more g.1.1 g.1.2.2.1 (by omega)
  have eV : prf_R_readCall σ1 (nI s) (nI D) = ((prf_R_now σ8).bind fun r48 => if r48 = 13 then (prf_G_setDetail σ8 (nI s) 0).bind fun r50 => (prf_R_take r50 13).bind fun r51 => pr_z r51.1 (some (r51.1, r51.2)) else (prf_R_readSum (prF_R_readFactor 70) σ8 (nI (D + 1))).bind fun r53 => if r53.1 = 0 then some (0, r53.2) else prf_R_readCall_60 pr_FU r53.2 (nI s) (nI D) 1 0) := by
    have ek : prf_T_kindAt σ1 (σ1.1 3 2 + 1) = some (nI 12) := by rw [g1.1.2.1.1, nI_1, pl_kindG g1.1.1 hm, k12]
    unfold prf_R_readCall
    rw [ek, pl_sb, if_neg (show ¬ nI 12 = 20 by decide), e88, nI_1]
  have eN : prf_X_named τ (nI (pl_xP T a)) (nI D) = ((prf_X_look τ8).bind fun r26 => if r26 = 41 then (prf_X_take τ8 41).bind fun r28 => some r28 else if (τ8.1 0 9) = 0 then (prf_X_sum (prF_X_factor 70) τ8 (nI (D + 1))).bind fun r30 => (prf_X_join r30.2 (nI (d + 1)) r30.1).bind fun r31 => prf_X_sums_38 pr_FU r31 (nI (d + 1)) (nI D) else (prf_X_join τ8 (nI (d + 1)) (-1)).bind fun r32 => prf_X_sums_38 pr_FU r32 (nI (d + 1)) (nI D)).bind fun r90 => some (nI (d + 1), r90) := by
    have e4' : prf_X_draft τ3 7 (nI (pl_xP T a)) 0 = some (nI (d + 1), τ4) := e4
    have e5' : prf_X_draft τ4 33 (nI (pl_xP T a)) 0 = some (nI (d + 1 + 1), τ5) := e5
    have x8'' : prf_X_take τ7 40 = some τ8 := x8
    unfold prf_X_named prf_X_sums
    rw [x3, pl_sb, pl_lookG g3, pl_sb, k12, if_pos (show nI (pl_km 12) = 40 from rfl), e4', pl_sb, e5', pl_sb, e6, pl_sb, e7, pl_sb, x8'', pl_sb, nI_1]
  have eX00 := pl_stX g.1 hk rcX (nI D)
  obtain ⟨a', σ', τ', hle, fs', fx', hc', hr⟩ := pl_args (H := [(33, a, 0, 1), (13, a, nI a, 1)]) (t0 := a) (qq := q) D hD hs (pl_gs_fc g1 g8 fcB) (by omega) (by omega) (show d ≤ d + 3 by omega) t8 (by simp [pl_cat]) (pl_op_fc op1 fcB)
  have fsA : pl_fs q s σ σ' := (fs1.tr fcB.fs (Nat.le_refl _) (Nat.le_refl _)).tr fs' (Nat.le_refl _) (Nat.le_refl _)
  have fxA : pl_fx d τ τ' := fxB.tr fx' (Nat.le_refl _)
  rcases hr with ⟨d', e, Gs, w1, w2, w3, w4, w5, w6, w7, w8, w9, w10, w11, w12⟩ | ⟨w1, w2, w3⟩
  · have h89 := pl_gd8 w3.1
    rw [eV, w1, pl_sb, if_neg (show ¬ ((1 : Int32), σ').1 = 0 from pl_10)] at eC0
    rw [eN, w2, pl_sb, pl_sb] at eX00
    have he : a + 2 ≤ e := by
      rcases w10 with ⟨_, q⟩ | q
      · omega
      · have := q.1; omega
    have hP3 := pl_Pm g.1.1 (a' - a) a (by have := w3.1.2.2.1; omega)
    rw [show a + (a' - a) = a' by omega] at hP3
    have eF : ((7, a, (0 : Int32), 1 + ([(33, a, 0, 1), (13, a, nI a, 1)] ++ pl_catF Gs).length) :: ([(33, a, 0, 1), (13, a, nI a, 1)] ++ pl_catF Gs) : List pl_N) = (7, a, 0, 3 + (pl_catF Gs).length) :: (33, a, 0, 1) :: (13, a, nI a, 1) :: pl_catF Gs := by
      simp <;> omega
    rw [eF] at w8
    refine pl_semiS (b := a') (y := d + 1) (F := (7, a, 0, 3 + (pl_catF Gs).length) :: (33, a, 0, 1) :: (13, a, nI a, 1) :: pl_catF Gs) (O := pl_catP Gs) (E := E) hs w3 (by omega) fsA fxA rfl (by omega) (by omega) (by omega) (by omega) w8 w9 w11 ?_ (fun k19 => ⟨?_, _, _, rfl, rfl⟩) eC0 eX00
    · show a ≤ a ∧ pl_ni (pl_catF Gs) (a + 1) a'
      refine ⟨Nat.le_refl _, ?_⟩
      rcases w10 with ⟨q, _⟩ | q
      · rw [q]; show a + 1 ≤ a'; omega
      · exact pl_ni_hi (pl_ni_lo _ _ _ _ (by omega) q.ni) (by omega)
    · exact Or.inr (Or.inr (Or.inr (Or.inr (Or.inr (Or.inl ⟨a, a, e, (33, a, 0, 1), Gs, hk, Or.inl ⟨rfl, k12, rfl⟩, w10, w5, by rw [← w4]; exact k19, rfl, rfl, by rw [w4], w12⟩)))))
  · rw [eV, w1, pl_sb, if_pos rfl] at eC0
    rw [eN, w2, pl_sb, pl_sb, pl_takeW w3, pl_sb] at eX00
    exact pl_failS (b := a') hc' (Nat.lt_succ_self s) (by omega) (by omega) fsA fxA w3 (pl_vi1 (by omega) (by omega)) eC0 eX00
/-- a call with a NAME in front -/
theorem pl_stCallT {T : pl_Tx} {a q d s : Nat} {σ τ : pr_St} (g : pl_gs T a q d s σ τ) (hq : q ≤ a) (hd : d ≤ 2 * a) (h4 : 4 * s ≤ pl_xP T a) (hk : pl_xK T a = 2) (k20 : pl_xK T (a + 1) = 20) (k2 : pl_xK T (a + 2) = 2) (k12 : pl_xK T (a + 3) = 12) (rc rcX : pr_St → Int32 → Option (Int32 × pr_St)) (D : Nat) (hD : D < 900) (E : List (Nat × Bool)) : pl_phS T (pl_Φl T E) a q d s σ τ (prf_R_readStatement rc σ (nI D)) (prf_X_statement1 rcX τ (nI D)) := by
  have h8 := pl_gd8 g.1
  have hs := pl_s2000 g h4
  obtain ⟨σ1, eo, g1, fs1, op1, o1⟩ := pl_openS g hs (k := 4) (by decide)
  obtain ⟨σ3, τ3, c3, c3', x3, g3, fc3, fx3, s3, t3⟩ := pl_nameG g1.1 hk (by omega)
  obtain ⟨σ4, τ4, c4, c4', x4, g4, fc4, fx4, s4, r4⟩ := pl_takeA g3 k20 (by decide)
  have h84 := pl_gd8 g4
  obtain ⟨τ5, e5, g5, fx5, t5⟩ := pl_draftG g4 (by omega) 7 a 0
  have t3' := (t3.fx (fx4 (d + 1)) (Nat.le_refl _)).fx fx5 (Nat.le_refl _)
  obtain ⟨τ6, e6, g6, fx6, t6⟩ := pl_joinG (l := d) (h := d + 2) g5 t5 t3'.tr (by omega) (Or.inr (Nat.le_refl _)) (by omega) (by omega) (by omega) (by omega)
  obtain ⟨σ7, τ7, c7, c7', x7, g7, fc7, fx7, s7, t7⟩ := pl_nameG g6 k2 (by omega)
  obtain ⟨τ8, e8, g8, fx8, t8⟩ := pl_joinG (l := d) (h := d + 3) g7 (t6.fx fx7 (Nat.le_refl _)) t7.tr (by omega) (Or.inl (Nat.le_refl _)) (by omega) (by omega) (by omega) (by omega)
  obtain ⟨σ9, τ9, c9, c9', x9, g9, fc9, fx9, s9, r9⟩ := pl_takeA g8 k12 (by decide)
  have hn1 : ¬ nI s = -1 := pl_nIm1 (by omega)
  have t9 := t8.fx (fx9 (d + 3)) (Nat.le_refl _)
  have fcB : pl_fc q σ1 σ9 := (((fc3 q).tr (fc4 q) (Nat.le_refl _)).tr (fc7 q) (Nat.le_refl _)).tr (fc9 q) (Nat.le_refl _)
  have fxB : pl_fx d τ τ9 := (((((fx3.tr (fx4 d) (Nat.le_refl _)).tr fx5 (by omega)).tr fx6 (by omega)).tr fx7 (by omega)).tr fx8 (Nat.le_refl _)).tr (fx9 d) (Nat.le_refl _)
  have e99 : pr_sI σ1 3 2 (σ1.1 3 2 + 4) = σ9 := by
    rw [← c9', ← c7', ← c4', ← c3']
    simp only [pl_sI_sI, pr_sI_same]
    rw [g1.1.2.1.1, nI_1, nI_1, nI_1, nI_1, pl_n4]
  have eC0 : prf_R_readStatement rc σ (nI D) = (prf_R_readCall σ1 (nI s) (nI D)).bind fun r195 => if r195.1 = 0 then (prf_G_closeStatement r195.2 (nI s)).bind fun r197 => some (0, (pr_sI r197 3 3 (nI 4))) else (prf_R_take r195.2 19).bind fun r198 => if r198.1 = 0 then (prf_G_closeStatement r198.2 (nI s)).bind fun r200 => some (0, (pr_sI r200 3 3 (nI 4))) else (prf_G_closeStatement r198.2 (nI s)).bind fun r201 => some (1, (pr_sI r201 3 3 (nI 4))) := by
    have ek : prf_R_statementKind σ = some (nI 4) := by
      rw [pl_kbn g.1 hk, if_pos (Or.inr ⟨k20, k2, k12⟩)]
    unfold prf_R_readStatement
    rw [ek, pl_sb, if_neg (show ¬ nI 4 = 0 by decide), eo, pl_sb, if_neg hn1, if_neg (show ¬ nI 4 = 1 by decide), if_neg (show ¬ nI 4 = 2 by decide), if_neg (show ¬ nI 4 = 3 by decide), if_pos (show nI 4 = 4 from rfl)]
  have hm := pl_more g.1.1 g.1.2.2.1 (by omega)
  have eV : prf_R_readCall σ1 (nI s) (nI D) = ((prf_R_now σ9).bind fun r48 => if r48 = 13 then (prf_G_setDetail σ9 (nI s) 0).bind fun r50 => (prf_R_take r50 13).bind fun r51 => pr_z r51.1 (some (r51.1, r51.2)) else (prf_R_readSum (prF_R_readFactor 70) σ9 (nI (D + 1))).bind fun r53 => if r53.1 = 0 then some (0, r53.2) else prf_R_readCall_60 pr_FU r53.2 (nI s) (nI D) 1 0) := by
    have ek : prf_T_kindAt σ1 (σ1.1 3 2 + 1) = some (nI 20) := by rw [g1.1.2.1.1, nI_1, pl_kindG g1.1.1 hm, k20]
    unfold prf_R_readCall
    rw [ek, pl_sb, if_pos (show nI 20 = 20 from rfl), e99, nI_1]
  have eN : prf_X_named τ (nI (pl_xP T a)) (nI D) = ((prf_X_look τ9).bind fun r26 => if r26 = 41 then (prf_X_take τ9 41).bind fun r28 => some r28 else if (τ9.1 0 9) = 0 then (prf_X_sum (prF_X_factor 70) τ9 (nI (D + 1))).bind fun r30 => (prf_X_join r30.2 (nI (d + 1)) r30.1).bind fun r31 => prf_X_sums_38 pr_FU r31 (nI (d + 1)) (nI D) else (prf_X_join τ9 (nI (d + 1)) (-1)).bind fun r32 => prf_X_sums_38 pr_FU r32 (nI (d + 1)) (nI D)).bind fun r90 => some (nI (d + 1), r90) := by
    have e5' : prf_X_draft τ4 7 (nI (pl_xP T a)) 0 = some (nI (d + 1), τ5) := e5
    have x4'' : prf_X_take τ3 61 = some τ4 := x4
    have x9'' : prf_X_take τ8 40 = some τ9 := x9
    have hm4 := pl_more g4.1 g4.2.2.1 (by have : pl_xK T (a + 1 + 1) = 2 := k2; omega)
    have r3 : τ4.2.1 3 (a + 1 + 1 + 1) = nI (pl_km (pl_xK T (a + 1 + 1 + 1))) := (g4.1.2.2.2.1.2.2 _ hm4).2.2.2.2.1
    have c8 := pl_c8 g4.1
    have k12' : pl_xK T (a + 1 + 1 + 1) = 12 := k12
    unfold prf_X_named prf_X_sums
    rw [x3, pl_sb, pl_lookG g3, pl_sb, k20, if_neg (show ¬ nI (pl_km 20) = 40 by decide), pl_sb, if_neg (show ¬ nI (pl_km 20) = 91 by decide), x4'', pl_sb, pl_lookG g4, pl_sb, if_pos (show nI (pl_km (pl_xK T (a + 1 + 1))) = 2 by rw [show pl_xK T (a + 1 + 1) = 2 from k2]; rfl), g4.2.1.2, nI_1, pl_ck (by omega) (by omega), nI_clamp (by omega), r3, k12', if_pos (show nI (pl_km 12) = 40 from rfl), e5', pl_sb, e6, pl_sb, x7, pl_sb, e8, pl_sb, x9'', pl_sb, nI_1]
  have eX00 := pl_stX g.1 hk rcX (nI D)
  obtain ⟨a', σ', τ', hle, fs', fx', hc', hr⟩ := pl_args (H := [(13, a, nI a, 1), (13, a + 2, nI (a + 2), 1)]) (t0 := a) (qq := q) D hD hs (pl_gs_fc g1 g9 fcB) (by omega) (by omega) (show d ≤ d + 3 by omega) t9 (by simp [pl_cat]) (pl_op_fc op1 fcB)
  have fsA : pl_fs q s σ σ' := (fs1.tr fcB.fs (Nat.le_refl _) (Nat.le_refl _)).tr fs' (Nat.le_refl _) (Nat.le_refl _)
  have fxA : pl_fx d τ τ' := fxB.tr fx' (Nat.le_refl _)
  rcases hr with ⟨d', e, Gs, w1, w2, w3, w4, w5, w6, w7, w8, w9, w10, w11, w12⟩ | ⟨w1, w2, w3⟩
  · have h89 := pl_gd8 w3.1
    rw [eV, w1, pl_sb, if_neg (show ¬ ((1 : Int32), σ').1 = 0 from pl_10)] at eC0
    rw [eN, w2, pl_sb, pl_sb] at eX00
    have he : a + 4 ≤ e := by
      rcases w10 with ⟨_, q⟩ | q
      · omega
      · have := q.1; omega
    have hP3 := pl_Pm g.1.1 (a' - a) a (by have := w3.1.2.2.1; omega)
    rw [show a + (a' - a) = a' by omega] at hP3
    have eF : ((7, a, (0 : Int32), 1 + ([(13, a, nI a, 1), (13, a + 2, nI (a + 2), 1)] ++ pl_catF Gs).length) :: ([(13, a, nI a, 1), (13, a + 2, nI (a + 2), 1)] ++ pl_catF Gs) : List pl_N) = (7, a, 0, 3 + (pl_catF Gs).length) :: (13, a, nI a, 1) :: (13, a + 2, nI (a + 2), 1) :: pl_catF Gs := by
      simp <;> omega
    rw [eF] at w8
    refine pl_semiS (b := a') (y := d + 1) (F := (7, a, 0, 3 + (pl_catF Gs).length) :: (13, a, nI a, 1) :: (13, a + 2, nI (a + 2), 1) :: pl_catF Gs) (O := pl_catP Gs) (E := E) hs w3 (by omega) fsA fxA rfl (by omega) (by omega) (by omega) (by omega) w8 w9 w11 ?_ (fun k19 => ⟨?_, _, _, rfl, rfl⟩) eC0 eX00
    · show a ≤ a ∧ a + 1 ≤ a + 2 ∧ pl_ni (pl_catF Gs) (a + 2 + 1) a'
      refine ⟨Nat.le_refl _, by omega, ?_⟩
      rcases w10 with ⟨q, _⟩ | q
      · rw [q]; show a + 2 + 1 ≤ a'; omega
      · exact pl_ni_hi (pl_ni_lo _ _ _ _ (by omega) q.ni) (by omega)
    · exact Or.inr (Or.inr (Or.inr (Or.inr (Or.inr (Or.inl ⟨a, a + 2, e, (13, a, nI a, 1), Gs, hk, Or.inr ⟨rfl, k20, k2, k12, rfl⟩, w10, w5, by rw [← w4]; exact k19, rfl, rfl, by rw [w4], w12⟩)))))
  · rw [eV, w1, pl_sb, if_pos rfl] at eC0
    rw [eN, w2, pl_sb, pl_sb, pl_takeW w3, pl_sb] at eX00
    exact pl_failS (b := a') hc' (Nat.lt_succ_self s) (by omega) (by omega) fsA fxA w3 (pl_vi1 (by omega) (by omega)) eC0 eX00
/-- assert -/
theorem pl_stAssert {T : pl_Tx} {a q d s : Nat} {σ τ : pr_St} (g : pl_gs T a q d s σ τ) (hq : q ≤ a) (hd : d ≤ 2 * a) (h4 : 4 * s ≤ pl_xP T a) (hk : pl_xK T a = 9) (rc rcX : pr_St → Int32 → Option (Int32 × pr_St)) (D : Nat) (hD : D < 900) (E : List (Nat × Bool)) : pl_phS T (pl_Φl T E) a q d s σ τ (prf_R_readStatement rc σ (nI D)) (prf_X_statement1 rcX τ (nI D)) := by
  have h8 := pl_gd8 g.1
  have hs := pl_s2000 g h4
  obtain ⟨σ1, eo, g1, fs1, op1, o1⟩ := pl_openS g hs (k := 7) (by decide)
  obtain ⟨τ2, e2, g2, fx2, t2⟩ := pl_draftG g1.1 (by omega) 10 a 0
  obtain ⟨σ3, τ3, c3, c3', x3, g3, fc3, fx3, s3, r3⟩ := pl_takeA g2 hk (by decide)
  have hn1 : ¬ nI s = -1 := pl_nIm1 (by omega)
  have h83 := pl_gd8 g3
  have t3 := t2.fx (fx3 (d + 1)) (Nat.le_refl _)
  have fxA : pl_fx d τ τ3 := fx2.tr (fx3 d) (Nat.le_refl _)
  have eC0 : prf_R_readStatement rc σ (nI D) = (prf_R_take σ3 12).bind fun r214 => if r214.1 = 0 then (prf_G_closeStatement r214.2 (nI s)).bind fun r216 => some (0, (pr_sI r216 3 3 (nI 7))) else (prf_R_readCond (prF_R_readTest 70) r214.2 (nI (D + 1))).bind fun r217 => if r217.1 = 0 then (prf_G_closeStatement r217.2 (nI s)).bind fun r219 => some (0, (pr_sI r219 3 3 (nI 7))) else (prf_R_take r217.2 13).bind fun r220 => if r220.1 = 0 then (prf_G_closeStatement r220.2 (nI s)).bind fun r222 => some (0, (pr_sI r222 3 3 (nI 7))) else (prf_R_take r220.2 19).bind fun r223 => if r223.1 = 0 then (prf_G_closeStatement r223.2 (nI s)).bind fun r225 => some (0, (pr_sI r225 3 3 (nI 7))) else (prf_G_closeStatement r223.2 (nI s)).bind fun r226 => some (1, (pr_sI r226 3 3 (nI 7))) := by
    have ek : prf_R_statementKind σ = some (nI 7) := by
      unfold prf_R_statementKind
      rw [pl_nowG g.1, pl_sb, hk, if_neg (show ¬ nI 9 = 2 by decide), if_neg (show ¬ nI 9 = 3 by decide), if_neg (show ¬ nI 9 = 4 by decide), if_neg (show ¬ nI 9 = 5 by decide), if_neg (show ¬ nI 9 = 6 by decide), if_neg (show ¬ nI 9 = 7 by decide), if_neg (show ¬ nI 9 = 8 by decide), if_pos (show nI 9 = 9 from rfl)]
      rfl
    have c3'' : prf_R_take σ1 9 = some (1, σ3) := c3
    unfold prf_R_readStatement
    rw [ek, pl_sb, if_neg (show ¬ nI 7 = 0 by decide), eo, pl_sb, if_neg hn1, if_neg (show ¬ nI 7 = 1 by decide), if_neg (show ¬ nI 7 = 2 by decide), if_neg (show ¬ nI 7 = 3 by decide), if_neg (show ¬ nI 7 = 4 by decide), if_neg (show ¬ nI 7 = 5 by decide), if_neg (show ¬ nI 7 = 6 by decide), if_pos (show nI 7 = 7 from rfl), c3'', pl_sb, if_neg (show ¬ ((1 : Int32), σ3).1 = 0 from pl_10), nI_1]
  have eX0 : prf_X_statement1 rcX τ (nI D) = (prf_X_take τ3 40).bind fun r286 => if (r286.1 0 9) = 0 then (prf_X_cond (prF_X_test 200) r286 (nI (D + 1))).bind fun r288 => (prf_X_join r288.2 (nI d) r288.1).bind fun r289 => (prf_X_take r289 41).bind fun r290 => (prf_X_take r290 59).bind fun r291 => some (nI d, r291) else (prf_X_join r286 (nI d) (-1)).bind fun r292 => (prf_X_take r292 41).bind fun r293 => (prf_X_take r293 59).bind fun r294 => some (nI d, r294) := by
    have e2' : prf_X_draft τ 10 (nI (pl_xP T a)) 0 = some (nI d, τ2) := e2
    have x3'' : prf_X_take τ2 305 = some τ3 := x3
    unfold prf_X_statement1
    rw [(pl_placeG g.1).1, pl_lookG g.1, pl_sb, hk, if_neg (show ¬ nI (pl_km 9) = 301 by decide), if_neg (show ¬ nI (pl_km 9) = 2 by decide), if_neg (show ¬ nI (pl_km 9) = 302 by decide), if_neg (show ¬ nI (pl_km 9) = 304 by decide), if_pos (show nI (pl_km 9) = 305 from rfl), (pl_placeG (α := Nat) (k := none) g.1).2, e2', pl_sb, x3'', pl_sb, nI_1]
  by_cases k12 : pl_xK T (a + 1) = 12
  · obtain ⟨σ4, τ4, c4, c4', x4, g4, fc4, fx4, s4, r4⟩ := pl_takeA g3 k12 (by decide)
    have c4'' : prf_R_take σ3 12 = some (1, σ4) := c4
    have x4'' : prf_X_take τ3 40 = some τ4 := x4
    have t4 := t3.fx (fx4 (d + 1)) (Nat.le_refl _)
    rw [c4'', pl_sb, if_neg (show ¬ ((1 : Int32), σ4).1 = 0 from pl_10)] at eC0
    rw [x4'', pl_sb, if_pos g4.2.2.2.1] at eX0
    obtain ⟨a7, σ7, τ7, hle7, fc7, fx7, hr7⟩ := pl_condN (T := T) (D + 1) (by omega) (by omega) (a + 2) q (d + 1) σ4 τ4 g4 (by omega) (by omega)
    have fcC : pl_fc q σ1 σ7 := ((fc3 q).tr (fc4 q) (Nat.le_refl _)).tr fc7 (Nat.le_refl _)
    have fxC : pl_fx d τ τ7 := (fxA.tr (fx4 d) (Nat.le_refl _)).tr fx7 (by omega)
    have t7 := t4.fx fx7 (Nat.le_refl _)
    rcases hr7 with ⟨y, d7, G, Q, hC, hX, g7, hO, hD7, tr7, ops7, cm7, sm7⟩ | ⟨hC, v, hX, b7, vi7⟩
    · have h87 := pl_gd8 g7
      have iv7 := tr7.iv
      have hC' : prf_R_readCond (prF_R_readTest 70) σ4 (nI (D + 1)) = some (1, σ7) := hC
      have hX' : prf_X_cond (prF_X_test 200) τ4 (nI (D + 1)) = some (nI y, τ7) := hX
      obtain ⟨τ8, e8, g8, fx8, t8⟩ := pl_joinG (l := d) (h := d7) g7 t7 tr7 (by omega) (Or.inl (Nat.le_refl _)) (by omega) (by omega) (by omega) (by omega)
      rw [hC', pl_sb, if_neg (show ¬ ((1 : Int32), σ7).1 = 0 from pl_10)] at eC0
      rw [hX', pl_sb, e8, pl_sb] at eX0
      have fxD : pl_fx d τ τ8 := fxC.tr fx8 (Nat.le_refl _)
      by_cases k13 : pl_xK T a7 = 13
      · obtain ⟨σ9, τ9, c9, c9', x9, g9, fc9, fx9, s9, r9⟩ := pl_takeA g8 k13 (by decide)
        have c9'' : prf_R_take σ7 13 = some (1, σ9) := c9
        have x9'' : prf_X_take τ8 41 = some τ9 := x9
        rw [c9'', pl_sb, if_neg (show ¬ ((1 : Int32), σ9).1 = 0 from pl_10)] at eC0
        rw [x9'', pl_sb] at eX0
        have fcE : pl_fc q σ1 σ9 := fcC.tr (fc9 q) (Nat.le_refl _)
        have c71 := cm7.1
        have hP3 := pl_Pm g.1.1 (a7 + 1 - a) a (by have := g9.2.2.1; omega)
        rw [show a + (a7 + 1 - a) = a7 + 1 by omega] at hP3
        have eF : ((10, a, (0 : Int32), 1 + (pl_cat ([] ++ [(y, G)])).length) :: pl_cat ([] ++ [(y, G)]) : List pl_N) = (10, a, 0, 1 + G.length) :: G := by
          simp [pl_cat]
        have t9 : pl_tr τ9 (pl_xP T) d d7 d ((10, a, 0, 1 + G.length) :: G) := by rw [← eF]; exact (t8.fx (fx9 d7) (Nat.le_refl _)).tr
        refine pl_semiS (b := a7 + 1) (y := d) (F := (10, a, 0, 1 + G.length) :: G) (O := Q) (E := E) hs (pl_gs_fc g1 g9 fcE) (by omega) (fs1.tr fcE.fs (Nat.le_refl _) (Nat.le_refl _)) (fxD.tr (fx9 d) (Nat.le_refl _)) rfl (by omega) (by omega) (by omega) (by omega) t9 (pl_ops_eq (fc9 (q + Q.length)).2 _ _ (Nat.le_refl _) ops7) (pl_op_fc op1 fcE) ?_ (fun k19 => ⟨?_, _, _, rfl, rfl⟩) eC0 eX0
        · show pl_ni G a (a7 + 1)
          exact pl_ni_hi (pl_ni_lo _ _ _ _ (by omega) cm7.ni) (by omega)
        · exact Or.inr (Or.inr (Or.inr (Or.inr (Or.inr (Or.inr (Or.inl ⟨a, a7, G, hk, k12, k13, k19, cm7, pl_cd_ff sm7 (by decide), rfl, rfl⟩))))))
      · obtain ⟨c9, τ9, x9, b9, fx9⟩ := pl_takeZ g8 (k := 13) (by decide) k13
        have b9' := b9 d 5 (by omega) (by omega)
        have c9'' : prf_R_take σ7 13 = some (0, σ7) := c9
        have x9'' : prf_X_take τ8 41 = some τ9 := x9
        rw [c9'', pl_sb, if_pos rfl] at eC0
        rw [x9'', pl_sb, pl_takeW b9', pl_sb] at eX0
        exact pl_failS (b := a7) (by rw [fcC.1.1 2 11 rfl]; exact g1.2) (Nat.lt_succ_self s) (by omega) (by omega) (fs1.tr fcC.fs (Nat.le_refl _) (Nat.le_refl _)) (fxD.tr (fx9 d) (Nat.le_refl _)) b9' (pl_vi1 (by omega) (by omega)) eC0 eX0
    · have hC' : prf_R_readCond (prF_R_readTest 70) σ4 (nI (D + 1)) = some (0, σ7) := hC
      have hX' : prf_X_cond (prF_X_test 200) τ4 (nI (D + 1)) = some (v, τ7) := hX
      obtain ⟨τ8, e8, b8, fx8, j8⟩ := pl_joinW (d0 := d) b7 (t7.jb (Nat.le_refl _) (by omega)) (vi7.le (by omega))
      rw [hC', pl_sb, if_pos rfl] at eC0
      rw [hX', pl_sb, e8, pl_sb, pl_takeW b8, pl_sb, pl_takeW b8, pl_sb] at eX0
      exact pl_failS (b := a7) (by rw [fcC.1.1 2 11 rfl]; exact g1.2) (Nat.lt_succ_self s) (by omega) (by omega) (fs1.tr fcC.fs (Nat.le_refl _) (Nat.le_refl _)) (fxC.tr fx8 (Nat.le_refl _)) (b8.le (by omega) (by omega)) (pl_vi1 (by omega) (by omega)) eC0 eX0
  · obtain ⟨c4, τ4, x4, b4, fx4⟩ := pl_takeZ g3 (k := 12) (by decide) k12
    have b4' := b4 d 5 (by omega) (by omega)
    have c4'' : prf_R_take σ3 12 = some (0, σ3) := c4
    have x4'' : prf_X_take τ3 40 = some τ4 := x4
    rw [c4'', pl_sb, if_pos rfl] at eC0
    rw [x4'', pl_sb, if_neg (pl_nbW b4'), pl_join0, pl_sb, pl_takeW b4', pl_sb, pl_takeW b4', pl_sb] at eX0
    exact pl_failS (b := a + 1) (pl_gs_fc g1 g3 (fc3 0)).2 (Nat.lt_succ_self s) (by omega) (by omega) (fs1.tr (fc3 q).fs (Nat.le_refl _) (Nat.le_refl _)) (fxA.tr (fx4 d) (Nat.le_refl _)) b4' (pl_vi1 (by omega) (by omega)) eC0 eX0
/-- return -/
theorem pl_stReturn {T : pl_Tx} {a q d s : Nat} {σ τ : pr_St} (g : pl_gs T a q d s σ τ) (hq : q ≤ a) (hd : d ≤ 2 * a) (h4 : 4 * s ≤ pl_xP T a) (hk : pl_xK T a = 10) (rc rcX : pr_St → Int32 → Option (Int32 × pr_St)) (D : Nat) (hD : D < 900) (E : List (Nat × Bool)) : pl_phS T (pl_Φl T E) a q d s σ τ (prf_R_readStatement rc σ (nI D)) (prf_X_statement1 rcX τ (nI D)) := by
  have h8 := pl_gd8 g.1
  have hs := pl_s2000 g h4
  obtain ⟨σ1, eo, g1, fs1, op1, o1⟩ := pl_openS g hs (k := 8) (by decide)
  obtain ⟨σ2, τ2, c2, c2', x2, g2, fc2, fx2, s2, r2⟩ := pl_takeA g1.1 hk (by decide)
  have h82 := pl_gd8 g2
  obtain ⟨τ3, e3, g3, fx3, t3⟩ := pl_draftG g2 (by omega) 11 a 0
  have hn1 : ¬ nI s = -1 := pl_nIm1 (by omega)
  have hP1 := pl_P2 g.1.1 (pl_more g.1.1 g.1.2.2.1 (by omega)) (show 4 ≤ pl_xK T a by omega) (by omega)
  have eC0 : prf_R_readStatement rc σ (nI D) = (prf_R_readSum (prF_R_readFactor 70) σ2 (nI (D + 1))).bind fun r231 => if r231.1 = 0 then (prf_G_closeStatement r231.2 (nI s)).bind fun r233 => some (0, (pr_sI r233 3 3 (nI 8))) else (prf_R_take r231.2 19).bind fun r234 => if r234.1 = 0 then (prf_G_closeStatement r234.2 (nI s)).bind fun r236 => some (0, (pr_sI r236 3 3 (nI 8))) else (prf_G_closeStatement r234.2 (nI s)).bind fun r237 => some (1, (pr_sI r237 3 3 (nI 8))) := by
    have ek : prf_R_statementKind σ = some (nI 8) := by
      unfold prf_R_statementKind
      rw [pl_nowG g.1, pl_sb, hk, if_neg (show ¬ nI 10 = 2 by decide), if_neg (show ¬ nI 10 = 3 by decide), if_neg (show ¬ nI 10 = 4 by decide), if_neg (show ¬ nI 10 = 5 by decide), if_neg (show ¬ nI 10 = 6 by decide), if_neg (show ¬ nI 10 = 7 by decide), if_neg (show ¬ nI 10 = 8 by decide), if_neg (show ¬ nI 10 = 9 by decide), if_pos (show nI 10 = 10 from rfl)]
      rfl
    have c2'' : prf_R_take σ1 10 = some (1, σ2) := c2
    unfold prf_R_readStatement
    rw [ek, pl_sb, if_neg (show ¬ nI 8 = 0 by decide), eo, pl_sb, if_neg hn1, if_neg (show ¬ nI 8 = 1 by decide), if_neg (show ¬ nI 8 = 2 by decide), if_neg (show ¬ nI 8 = 3 by decide), if_neg (show ¬ nI 8 = 4 by decide), if_neg (show ¬ nI 8 = 5 by decide), if_neg (show ¬ nI 8 = 6 by decide), if_neg (show ¬ nI 8 = 7 by decide), if_pos (show nI 8 = 8 from rfl), c2'', pl_sb, if_neg (show ¬ ((1 : Int32), σ2).1 = 0 from pl_10), nI_1]
  have eX0 : prf_X_statement1 rcX τ (nI D) = (prf_X_sum (prF_X_factor 70) τ3 (nI (D + 1))).bind fun r279 => (prf_X_join r279.2 (nI d) r279.1).bind fun r280 => (prf_X_take r280 59).bind fun r281 => some (nI d, r281) := by
    have e3' : prf_X_draft τ2 11 (nI (pl_xP T a)) 0 = some (nI d, τ3) := e3
    have x2'' : prf_X_take τ 306 = some τ2 := x2
    unfold prf_X_statement1
    rw [(pl_placeG g.1).1, pl_lookG g.1, pl_sb, hk, if_neg (show ¬ nI (pl_km 10) = 301 by decide), if_neg (show ¬ nI (pl_km 10) = 2 by decide), if_neg (show ¬ nI (pl_km 10) = 302 by decide), if_neg (show ¬ nI (pl_km 10) = 304 by decide), if_neg (show ¬ nI (pl_km 10) = 305 by decide), (pl_placeG (α := Nat) (k := none) g.1).2, x2'', pl_sb, e3', pl_sb, if_pos g3.2.2.2.1, nI_1]
  obtain ⟨a7, σ7, τ7, hle7, fc7, fx7, hr7⟩ := pl_sumN (T := T) (D + 1) (by omega) (by omega) (a + 1) q (d + 1) σ2 τ3 g3 (by omega) (by omega)
  have fcC : pl_fc q σ1 σ7 := (fc2 q).tr fc7 (Nat.le_refl _)
  have fxC : pl_fx d τ τ7 := ((fx2 d).tr fx3 (Nat.le_refl _)).tr fx7 (by omega)
  have t7 := t3.fx fx7 (Nat.le_refl _)
  rcases hr7 with ⟨y, d7, G, Q, hC, hX, g7, hO, hD7, tr7, ops7, cm7, sm7⟩ | ⟨hC, v, hX, b7, vi7⟩
  · have h87 := pl_gd8 g7
    have iv7 := tr7.iv
    have hC' : prf_R_readSum (prF_R_readFactor 70) σ2 (nI (D + 1)) = some (1, σ7) := hC
    have hX' : prf_X_sum (prF_X_factor 70) τ3 (nI (D + 1)) = some (nI y, τ7) := hX
    obtain ⟨τ8, e8, g8, fx8, t8⟩ := pl_joinG (l := d) (h := d7) g7 t7 tr7 (by omega) (Or.inl (Nat.le_refl _)) (by omega) (by omega) (by omega) (by omega)
    rw [hC', pl_sb, if_neg (show ¬ ((1 : Int32), σ7).1 = 0 from pl_10)] at eC0
    rw [hX', pl_sb, e8, pl_sb] at eX0
    have c71 := cm7.1
    have hP3 := pl_Pm g.1.1 (a7 - (a + 1)) (a + 1) (by have := g7.2.2.1; omega)
    rw [show a + 1 + (a7 - (a + 1)) = a7 by omega] at hP3
    have eF : ((11, a, (0 : Int32), 1 + (pl_cat ([] ++ [(y, G)])).length) :: pl_cat ([] ++ [(y, G)]) : List pl_N) = (11, a, 0, 1 + G.length) :: G := by
      simp [pl_cat]
    have t9 : pl_tr τ8 (pl_xP T) d d7 d ((11, a, 0, 1 + G.length) :: G) := by rw [← eF]; exact t8.tr
    refine pl_semiS (b := a7) (y := d) (F := (11, a, 0, 1 + G.length) :: G) (O := Q) (E := E) hs (pl_gs_fc g1 g8 fcC) (by omega) (fs1.tr fcC.fs (Nat.le_refl _) (Nat.le_refl _)) (fxC.tr fx8 (Nat.le_refl _)) rfl (by omega) (by omega) (by omega) (by omega) t9 ops7 (pl_op_fc op1 fcC) ?_ (fun k19 => ⟨?_, _, _, rfl, rfl⟩) eC0 eX0
    · show pl_ni G a a7
      exact pl_ni_lo _ _ _ _ (by omega) cm7.ni
    · exact Or.inr (Or.inr (Or.inr (Or.inr (Or.inr (Or.inr (Or.inr ⟨a, a7, G, hk, k19, cm7, pl_sm_ff sm7 (by omega), rfl, rfl⟩))))))
  · have hC' : prf_R_readSum (prF_R_readFactor 70) σ2 (nI (D + 1)) = some (0, σ7) := hC
    have hX' : prf_X_sum (prF_X_factor 70) τ3 (nI (D + 1)) = some (v, τ7) := hX
    obtain ⟨τ8, e8, b8, fx8, j8⟩ := pl_joinW (d0 := d) b7 (t7.jb (Nat.le_refl _) (by omega)) (vi7.le (by omega))
    rw [hC', pl_sb, if_pos rfl] at eC0
    rw [hX', pl_sb, e8, pl_sb, pl_takeW b8, pl_sb] at eX0
    exact pl_failS (b := a7) (by rw [fcC.1.1 2 11 rfl]; exact g1.2) (Nat.lt_succ_self s) (by omega) (by omega) (fs1.tr fcC.fs (Nat.le_refl _) (Nat.le_refl _)) (fxC.tr fx8 (Nat.le_refl _)) (b8.le (by omega) (by omega)) (pl_vi1 (by omega) (by omega)) eC0 eX0
