/-! THE PARSER: statements that begin with a NAME -/
theorem pl_n2 (a : Nat) : nI a + 2 = nI (a + 2) := nI_add a 2
theorem pl_n4 (a : Nat) : nI a + 4 = nI (a + 4) := nI_add a 4
theorem pl_kindG {T : pl_Tx} {σ τ : pr_St} (h : pl_tt T σ τ) {t : Nat} (ht : t < pl_xc T) : prf_T_kindAt σ (nI t) = some (nI (pl_xK T t)) := pl_kind h ht
theorem pl_callAt {T : pl_Tx} {σ τ : pr_St} (h : pl_tt T σ τ) {t : Nat} (ht : t < pl_xc T) : prf_R_isCallAt σ (nI t) = some (if pl_xK T t = 2 ∧ pl_xK T (t + 1) = 12 then 1 else 0) := by
  unfold prf_R_isCallAt
  rw [pl_kindG h ht, pl_sb]
  by_cases k2 : pl_xK T t = 2
  · have hm := pl_more h ht (by omega)
    rw [k2, if_pos (show nI 2 = 2 from rfl), nI_1, pl_kindG h hm, pl_sb]
    by_cases k12 : pl_xK T (t + 1) = 12
    · rw [if_pos (show nI (pl_xK T (t + 1)) = 12 by rw [k12]; rfl), if_pos ⟨rfl, k12⟩]
    · rw [if_neg (pl_cn (pl_K35 h hm) (j := 12) (v := 12) (by decide) rfl k12), if_neg (fun q => k12 q.2)]
  · rw [if_neg (pl_cn (pl_K35 h ht) (j := 2) (v := 2) (by decide) rfl k2), if_neg (fun q => k2 q.1)]
theorem pl_kbn {T : pl_Tx} {a q d : Nat} {σ τ : pr_St} (g : pl_gd T a q d σ τ) (hk : pl_xK T a = 2) : prf_R_statementKind σ = some (nI (if pl_xK T (a + 1) = 12 ∨ (pl_xK T (a + 1) = 20 ∧ pl_xK T (a + 2) = 2 ∧ pl_xK T (a + 3) = 12) then 4 else if pl_xK T (a + 1) = 16 then 3 else 2)) := by
  have hm := pl_more g.1 g.2.2.1 (by omega)
  have hK := pl_K35 g.1 hm
  unfold prf_R_statementKind prf_R_kindBehindName
  rw [pl_nowG g, pl_sb, hk, if_pos (show nI 2 = 2 from rfl), g.2.1.1, nI_1, pl_n2, pl_kindG g.1 hm, pl_sb]
  by_cases k12 : pl_xK T (a + 1) = 12
  · rw [if_pos (show nI (pl_xK T (a + 1)) = 12 by rw [k12]; rfl), if_pos (Or.inl k12)]
    rfl
  · rw [if_neg (pl_cn hK (j := 12) (v := 12) (by decide) rfl k12)]
    by_cases k20 : pl_xK T (a + 1) = 20
    · have hm2 := pl_more g.1 hm (by omega)
      have n16 : ¬ nI (pl_xK T (a + 1)) = 16 := pl_cn hK (j := 16) (v := 16) (by decide) rfl (by omega)
      rw [if_pos (show nI (pl_xK T (a + 1)) = 20 by rw [k20]; rfl), pl_callAt g.1 hm2, pl_sb]
      by_cases kc : pl_xK T (a + 2) = 2 ∧ pl_xK T (a + 2 + 1) = 12
      · rw [if_pos kc, if_neg pl_10, if_pos (Or.inr ⟨k20, kc⟩)]
        rfl
      · rw [if_neg kc, if_pos rfl, if_neg n16, if_neg (fun q => q.elim k12 (fun z => kc z.2)), if_neg (by omega)]
        rfl
    · rw [if_neg (pl_cn hK (j := 20) (v := 20) (by decide) rfl k20), if_neg (show ¬ (pl_xK T (a + 1) = 12 ∨ (pl_xK T (a + 1) = 20 ∧ pl_xK T (a + 2) = 2 ∧ pl_xK T (a + 3) = 12)) from fun q => q.elim k12 (fun z => k20 z.1))]
      by_cases k16 : pl_xK T (a + 1) = 16
      · rw [if_pos (show nI (pl_xK T (a + 1)) = 16 by rw [k16]; rfl), if_pos k16]
        rfl
      · rw [if_neg (pl_cn hK (j := 16) (v := 16) (by decide) rfl k16), if_neg k16]
        rfl
theorem pl_stX {T : pl_Tx} {a q d : Nat} {σ τ : pr_St} (g : pl_gd T a q d σ τ) (hk : pl_xK T a = 2) (rcX : pr_St → Int32 → Option (Int32 × pr_St)) (D : Int32) : prf_X_statement1 rcX τ D = (prf_X_named τ (nI (pl_xP T a)) D).bind fun r295 => (prf_X_take r295.2 59).bind fun r296 => some (r295.1, r296) := by
  unfold prf_X_statement1
  rw [(pl_placeG g).1, pl_lookG g, pl_sb, hk, if_neg (show ¬ nI (pl_km 2) = 301 by decide), if_pos (show nI (pl_km 2) = 2 from rfl), (pl_placeG (α := Nat) (k := none) g).2]
/-- NAME = SUM ; -/
theorem pl_stSet {T : pl_Tx} {a q d s : Nat} {σ τ : pr_St} (g : pl_gs T a q d s σ τ) (hq : q ≤ a) (hd : d ≤ 2 * a) (h4 : 4 * s ≤ pl_xP T a) (hk : pl_xK T a = 2) (n12 : ¬ pl_xK T (a + 1) = 12) (n16 : ¬ pl_xK T (a + 1) = 16) (nc : ¬ (pl_xK T (a + 1) = 20 ∧ pl_xK T (a + 2) = 2 ∧ pl_xK T (a + 3) = 12)) (rc rcX : pr_St → Int32 → Option (Int32 × pr_St)) (D : Nat) (hD : D < 900) (E : List (Nat × Bool)) : pl_phS T (pl_Φl T E) a q d s σ τ (prf_R_readStatement rc σ (nI D)) (prf_X_statement1 rcX τ (nI D)) := by
  have h8 := pl_gd8 g.1
  have hs := pl_s2000 g h4
  obtain ⟨σ1, eo, g1, fs1, op1, o1⟩ := pl_openS g hs (k := 2) (by decide)
  obtain ⟨σ3, τ3, c3, c3', x3, g3, fc3, fx3, s3, t3⟩ := pl_nameG g1.1 hk (by omega)
  have h83 := pl_gd8 g3
  have hn1 : ¬ nI s = -1 := pl_nIm1 (by omega)
  have eC0 : prf_R_readStatement rc σ (nI D) = (prf_R_take σ3 20).bind fun r176 => if r176.1 = 0 then (prf_G_closeStatement r176.2 (nI s)).bind fun r178 => some (0, (pr_sI r178 3 3 (nI 2))) else (prf_R_readSum (prF_R_readFactor 70) r176.2 (nI (D + 1))).bind fun r179 => if r179.1 = 0 then (prf_G_closeStatement r179.2 (nI s)).bind fun r181 => some (0, (pr_sI r181 3 3 (nI 2))) else (prf_R_take r179.2 19).bind fun r182 => if r182.1 = 0 then (prf_G_closeStatement r182.2 (nI s)).bind fun r184 => some (0, (pr_sI r184 3 3 (nI 2))) else (prf_G_closeStatement r182.2 (nI s)).bind fun r185 => some (1, (pr_sI r185 3 3 (nI 2))) := by
    have ek : prf_R_statementKind σ = some (nI 2) := by
      rw [pl_kbn g.1 hk, if_neg (fun q => q.elim n12 nc), if_neg n16]
    unfold prf_R_readStatement
    rw [ek, pl_sb, if_neg (show ¬ nI 2 = 0 by decide), eo, pl_sb, if_neg hn1, if_neg (show ¬ nI 2 = 1 by decide), if_pos (show nI 2 = 2 from rfl), c3, pl_sb, if_neg (show ¬ ((1 : Int32), σ3).1 = 0 from pl_10), nI_1]
  have l40 : ¬ nI (pl_km (pl_xK T (a + 1))) = 40 := pl_kn (pl_gdK g3) (j := 12) (v := 40) (by decide) rfl n12
  have l91 : ¬ nI (pl_km (pl_xK T (a + 1))) = 91 := pl_kn (pl_gdK g3) (j := 16) (v := 91) (by decide) rfl n16
  have eX00 := pl_stX g.1 hk rcX (nI D)
  by_cases k20 : pl_xK T (a + 1) = 20
  · obtain ⟨σ4, τ4, c4, c4', x4, g4, fc4, fx4, s4, r4⟩ := pl_takeA g3 k20 (by decide)
    have c4'' : prf_R_take σ3 20 = some (1, σ4) := c4
    have x4'' : prf_X_take τ3 61 = some τ4 := x4
    have h84 := pl_gd8 g4
    obtain ⟨τ5, e5, g5, fx5, t5⟩ := pl_draftG g4 (by omega) 5 a 0
    obtain ⟨τ6, e6, g6, fx6, t6⟩ := pl_joinG (l := d) (h := d + 2) g5 t5 ((t3.fx (fx4 (d + 1)) (Nat.le_refl _)).fx fx5 (Nat.le_refl _)).tr (by omega) (Or.inr (Nat.le_refl _)) (by omega) (by omega) (by omega) (by omega)
    have e5' : prf_X_draft τ4 5 (nI (pl_xP T a)) 0 = some (nI (d + 1), τ5) := e5
    have e217 : prf_X_named_217 τ4 (nI (pl_xP T a)) (nI D) (nI d) = (prf_X_sum (prF_X_factor 70) τ6 (nI (D + 1))).bind fun r49 => (prf_X_join r49.2 (nI (d + 1)) r49.1).bind fun r50 => some (nI (d + 1), r50) := by
      unfold prf_X_named_217
      rw [e5', pl_sb, e6, pl_sb, if_pos g6.2.2.2.1, nI_1]
    have eN : prf_X_named τ (nI (pl_xP T a)) (nI D) = (prf_X_sum (prF_X_factor 70) τ6 (nI (D + 1))).bind fun r49 => (prf_X_join r49.2 (nI (d + 1)) r49.1).bind fun r50 => some (nI (d + 1), r50) := by
      unfold prf_X_named
      rw [x3, pl_sb, pl_lookG g3, pl_sb, if_neg l40, pl_sb, if_neg l91, x4'', pl_sb, pl_lookG g4, pl_sb]
      by_cases k2 : pl_xK T (a + 1 + 1) = 2
      · have hm := pl_more g4.1 g4.2.2.1 (by omega)
        have r3 : τ4.2.1 3 (a + 1 + 1 + 1) = nI (pl_km (pl_xK T (a + 1 + 1 + 1))) := (g4.1.2.2.2.1.2.2 _ hm).2.2.2.2.1
        have k12' : ¬ pl_xK T (a + 1 + 1 + 1) = 12 := fun q => nc ⟨k20, k2, q⟩
        have c8 := pl_c8 g4.1
        rw [if_pos (show nI (pl_km (pl_xK T (a + 1 + 1))) = 2 by rw [k2]; rfl), g4.2.1.2, nI_1, pl_ck (by omega) (by omega), nI_clamp (by omega), r3, if_neg (pl_kn (pl_K35 g4.1 hm) (j := 12) (v := 40) (by decide) rfl k12'), e217]
      · rw [if_neg (pl_kn (pl_gdK g4) (j := 2) (v := 2) (by decide) rfl k2), e217]
    rw [eN] at eX00
    have fcB : pl_fc q σ1 σ4 := (fc3 q).tr (fc4 q) (Nat.le_refl _)
    have fxB : pl_fx d τ τ6 := ((fx3.tr (fx4 d) (Nat.le_refl _)).tr fx5 (by omega)).tr fx6 (by omega)
    rw [c4'', pl_sb, if_neg (show ¬ ((1 : Int32), σ4).1 = 0 from pl_10)] at eC0
    obtain ⟨a7, σ7, τ7, hle7, fc7, fx7, hr7⟩ := pl_sumN (T := T) (D + 1) (by omega) (by omega) (a + 2) q (d + 2) σ4 τ6 g6 (by omega) (by omega)
    have fcC : pl_fc q σ1 σ7 := fcB.tr fc7 (Nat.le_refl _)
    have fxC : pl_fx d τ τ7 := fxB.tr fx7 (by omega)
    have t7 := t6.fx fx7 (Nat.le_refl _)
    rcases hr7 with ⟨y, d7, G, Q, hC, hX, g7, hO, hD7, tr7, ops7, cm7, sm7⟩ | ⟨hC, v, hX, b7, vi7⟩
    · have h87 := pl_gd8 g7
      have iv7 := tr7.iv
      have hC' : prf_R_readSum (prF_R_readFactor 70) σ4 (nI (D + 1)) = some (1, σ7) := hC
      have hX' : prf_X_sum (prF_X_factor 70) τ6 (nI (D + 1)) = some (nI y, τ7) := hX
      obtain ⟨τ8, e8, g8, fx8, t8⟩ := pl_joinG (l := d) (h := d7) g7 t7 tr7 (by omega) (Or.inl (Nat.le_refl _)) (by omega) (by omega) (by omega) (by omega)
      rw [hC', pl_sb, if_neg (show ¬ ((1 : Int32), σ7).1 = 0 from pl_10)] at eC0
      rw [hX', pl_sb, e8, pl_sb, pl_sb] at eX00
      have c71 := cm7.1
      have hP3 := pl_Pm g.1.1 (a7 - a) a (by have := g7.2.2.1; omega)
      rw [show a + (a7 - a) = a7 by omega] at hP3
      have eF : ((5, a, (0 : Int32), 1 + (pl_cat ([] ++ [(d, [(13, a, nI a, 1 + (pl_cat []).length)] ++ pl_cat [])] ++ [(y, G)])).length) :: pl_cat ([] ++ [(d, [(13, a, nI a, 1 + (pl_cat []).length)] ++ pl_cat [])] ++ [(y, G)]) : List pl_N) = (5, a, 0, 2 + G.length) :: (13, a, nI a, 1) :: G := by
        simp [pl_cat] <;> omega
      have t9 : pl_tr τ8 (pl_xP T) d d7 (d + 1) ((5, a, 0, 2 + G.length) :: (13, a, nI a, 1) :: G) := by rw [← eF]; exact t8.tr
      refine pl_semiS (b := a7) (y := d + 1) (F := (5, a, 0, 2 + G.length) :: (13, a, nI a, 1) :: G) (O := Q) (E := E) hs (pl_gs_fc g1 g8 fcC) (by omega) (fs1.tr fcC.fs (Nat.le_refl _) (Nat.le_refl _)) (fxC.tr fx8 (Nat.le_refl _)) rfl (by omega) (by omega) (by omega) (by omega) t9 ops7 (pl_op_fc op1 fcC) ?_ (fun k19 => ⟨?_, _, _, rfl, rfl⟩) eC0 eX00
      · show a ≤ a ∧ pl_ni G (a + 1) a7
        exact ⟨by omega, pl_ni_lo _ _ _ _ (by omega) cm7.ni⟩
      · exact Or.inr (Or.inr (Or.inr (Or.inl ⟨a, a7, G, hk, k20, fun q => nc ⟨k20, q⟩, k19, cm7, pl_sm_ff sm7 (by omega), rfl, rfl⟩)))
    · have hC' : prf_R_readSum (prF_R_readFactor 70) σ4 (nI (D + 1)) = some (0, σ7) := hC
      have hX' : prf_X_sum (prF_X_factor 70) τ6 (nI (D + 1)) = some (v, τ7) := hX
      obtain ⟨τ8, e8, b8, fx8, j8⟩ := pl_joinW (d0 := d) b7 (t7.jb (Nat.le_refl _) (by omega)) (vi7.le (by omega))
      rw [hC', pl_sb, if_pos rfl] at eC0
      rw [hX', pl_sb, e8, pl_sb, pl_sb, pl_takeW b8, pl_sb] at eX00
      exact pl_failS (b := a7) (by rw [fcC.1.1 2 11 rfl]; exact g1.2) (Nat.lt_succ_self s) (by omega) (by omega) (fs1.tr fcC.fs (Nat.le_refl _) (Nat.le_refl _)) (fxC.tr fx8 (Nat.le_refl _)) (b8.le (by omega) (by omega)) (pl_vi1 (by omega) (by omega)) eC0 eX00
  · obtain ⟨c4, τ4, x4, b4, fx4⟩ := pl_takeZ g3 (k := 20) (by decide) k20
    have b4' := b4 (d + 1) 2 (Nat.le_refl _) (by omega)
    have c4'' : prf_R_take σ3 20 = some (0, σ3) := c4
    have x4'' : prf_X_take τ3 61 = some τ4 := x4
    obtain ⟨y5, τ5, e5, y5a, y5b, b5, fx5, j5⟩ := pl_draftW b4' (by decide) 5 (nI (pl_xP T a)) 0
    obtain ⟨τ6, e6, b6, fx6, j6⟩ := pl_joinW (d0 := d) b5 (by obtain ⟨q1, q2, q3⟩ := j5; exact ⟨by omega, q2, by rcases q3 with q3 | ⟨q3, z, z1, z2, z3⟩; exact Or.inl q3; exact Or.inr ⟨q3, z, by omega, z2, z3⟩⟩) (pl_vi1 (Nat.le_refl _) (show d < 26000 by omega))
    have eN : prf_X_named τ (nI (pl_xP T a)) (nI D) = some (nI y5, τ6) := by
      unfold prf_X_named prf_X_named_217
      rw [x3, pl_sb, pl_lookG g3, pl_sb, if_neg l40, pl_sb, if_neg l91, x4'', pl_sb, pl_lookW b4', pl_sb, if_neg (show ¬ (1 : Int32) = 2 by decide), e5, pl_sb, e6, pl_sb, if_neg (pl_nbW b6), pl_join0, pl_sb]
    rw [eN, pl_sb, pl_takeW b6, pl_sb] at eX00
    rw [c4'', pl_sb, if_pos rfl] at eC0
    exact pl_failS (b := a + 1) (pl_gs_fc g1 g3 (fc3 0)).2 (Nat.lt_succ_self s) (by omega) (by omega) (fs1.tr (fc3 q).fs (Nat.le_refl _) (Nat.le_refl _)) (((fx3.tr (fx4 d) (Nat.le_refl _)).tr fx5 (by omega)).tr fx6 (Nat.le_refl _)) (b6.le (by omega) (by omega)) (pl_vi1 (by omega) y5b) eC0 eX00
/-- NAME [ SUM ] = SUM ; -/
theorem pl_stPlace {T : pl_Tx} {a q d s : Nat} {σ τ : pr_St} (g : pl_gs T a q d s σ τ) (hq : q ≤ a) (hd : d ≤ 2 * a) (h4 : 4 * s ≤ pl_xP T a) (hk : pl_xK T a = 2) (k16 : pl_xK T (a + 1) = 16) (rc rcX : pr_St → Int32 → Option (Int32 × pr_St)) (D : Nat) (hD : D < 900) (E : List (Nat × Bool)) : pl_phS T (pl_Φl T E) a q d s σ τ (prf_R_readStatement rc σ (nI D)) (prf_X_statement1 rcX τ (nI D)) := by
  have h8 := pl_gd8 g.1
  have hs := pl_s2000 g h4
  obtain ⟨σ1, eo, g1, fs1, op1, o1⟩ := pl_openS g hs (k := 3) (by decide)
  obtain ⟨σ2, e2, g2, fc2, o2, at2⟩ := pl_addG g1.1 (by omega) (o := 36) (by decide) (nI a)
  obtain ⟨σ3, τ3, c3, c3', x3, g3, fc3, fx3, s3, t3⟩ := pl_nameG g2 hk (by omega)
  have h83 := pl_gd8 g3
  obtain ⟨τ4, e4, g4, fx4, t4⟩ := pl_draftG g3 (by omega) 6 a 0
  obtain ⟨τ5, e5, g5, fx5, t5⟩ := pl_joinG (l := d) (h := d + 2) g4 t4 (t3.fx fx4 (Nat.le_refl _)).tr (by omega) (Or.inr (Nat.le_refl _)) (by omega) (by omega) (by omega) (by omega)
  obtain ⟨σ6, τ6, c6, c6', x6, g6, fc6, fx6, s6, r6⟩ := pl_takeA g5 k16 (by decide)
  have hn1 : ¬ nI s = -1 := pl_nIm1 (by omega)
  have t6 := t5.fx (fx6 (d + 2)) (Nat.le_refl _)
  have fcB : pl_fc q σ1 σ6 := (fc2.tr (fc3 q) (Nat.le_refl _)).tr (fc6 q) (Nat.le_refl _)
  have fxB : pl_fx d τ τ6 := ((fx3.tr fx4 (by omega)).tr fx5 (by omega)).tr (fx6 d) (Nat.le_refl _)
  have o6 : pl_ops σ6 q [(36, nI a)] := pl_ops_eq ((fc3 (q + 1)).tr (fc6 (q + 1)) (Nat.le_refl _)).2 _ q (Nat.le_refl _) o2
  have eC0 : prf_R_readStatement rc σ (nI D) = (prf_R_readSetPlace σ1 (nI D)).bind fun r187 => if r187.1 = 0 then (prf_G_closeStatement r187.2 (nI s)).bind fun r189 => some (0, (pr_sI r189 3 3 (nI 3))) else (prf_R_take r187.2 19).bind fun r190 => if r190.1 = 0 then (prf_G_closeStatement r190.2 (nI s)).bind fun r192 => some (0, (pr_sI r192 3 3 (nI 3))) else (prf_G_closeStatement r190.2 (nI s)).bind fun r193 => some (1, (pr_sI r193 3 3 (nI 3))) := by
    have ek : prf_R_statementKind σ = some (nI 3) := by
      rw [pl_kbn g.1 hk, if_neg (show ¬ (pl_xK T (a + 1) = 12 ∨ (pl_xK T (a + 1) = 20 ∧ pl_xK T (a + 2) = 2 ∧ pl_xK T (a + 3) = 12)) by omega), if_pos k16]
    unfold prf_R_readStatement
    rw [ek, pl_sb, if_neg (show ¬ nI 3 = 0 by decide), eo, pl_sb, if_neg hn1, if_neg (show ¬ nI 3 = 1 by decide), if_neg (show ¬ nI 3 = 2 by decide), if_pos (show nI 3 = 3 from rfl)]
  have eV0 : prf_R_readSetPlace σ1 (nI D) = (prf_R_readSum (prF_R_readFactor 70) σ6 (nI (D + 1))).bind fun r20 => if r20.1 = 0 then some (0, r20.2) else (prf_R_take r20.2 17).bind fun r22 => if r22.1 = 0 then some (0, r22.2) else (prf_G_addOperation r22.2 37 (-1)).bind fun r24 => (prf_R_take r24 20).bind fun r25 => if r25.1 = 0 then some (0, r25.2) else (prf_R_readSum (prF_R_readFactor 70) r25.2 (nI (D + 1))).bind fun r27 => if r27.1 = 0 then some (0, r27.2) else some (1, r27.2) := by
    have e2' : prf_G_addOperation σ1 36 (σ1.1 3 2) = some σ2 := by rw [g1.1.2.1.1]; exact e2
    have c6'' : prf_R_take σ3 16 = some (1, σ6) := c6
    unfold prf_R_readSetPlace
    rw [e2', pl_sb, c3, pl_sb, if_neg (show ¬ ((1 : Int32), σ3).1 = 0 from pl_10), c6'', pl_sb, if_neg (show ¬ ((1 : Int32), σ6).1 = 0 from pl_10), nI_1]
  have eN : prf_X_named τ (nI (pl_xP T a)) (nI D) = (prf_X_sum (prF_X_factor 70) τ6 (nI (D + 1))).bind fun r71 => (prf_X_join r71.2 (nI (d + 1)) r71.1).bind fun r72 => (prf_X_take r72 93).bind fun r73 => (prf_X_take r73 61).bind fun r74 => if (r74.1 0 9) = 0 then (prf_X_sum (prF_X_factor 70) r74 (nI (D + 1))).bind fun r76 => (prf_X_join r76.2 (nI (d + 1)) r76.1).bind fun r77 => some (nI (d + 1), r77) else (prf_X_join r74 (nI (d + 1)) (-1)).bind fun r78 => some (nI (d + 1), r78) := by
    have e4' : prf_X_draft τ3 6 (nI (pl_xP T a)) 0 = some (nI (d + 1), τ4) := e4
    have x6'' : prf_X_take τ5 91 = some τ6 := x6
    unfold prf_X_named
    rw [x3, pl_sb, pl_lookG g3, pl_sb, k16, if_neg (show ¬ nI (pl_km 16) = 40 by decide), pl_sb, if_pos (show nI (pl_km 16) = 91 from rfl), e4', pl_sb, e5, pl_sb, x6'', pl_sb, if_pos g6.2.2.2.1, nI_1]
  have eX00 := pl_stX g.1 hk rcX (nI D)
  obtain ⟨a7, σ7, τ7, hle7, fc7, fx7, hr7⟩ := pl_sumN (T := T) (D + 1) (by omega) (by omega) (a + 2) (q + 1) (d + 2) σ6 τ6 g6 (by omega) (by omega)
  have fcC : pl_fc q σ1 σ7 := fcB.tr fc7 (by omega)
  have fxC : pl_fx d τ τ7 := fxB.tr fx7 (by omega)
  have t7 := t6.fx fx7 (Nat.le_refl _)
  rcases hr7 with ⟨y, d7, G, Q, hC, hX, g7, hO, hD7, tr7, ops7, cm7, sm7⟩ | ⟨hC, v, hX, b7, vi7⟩
  · have h87 := pl_gd8 g7
    have iv7 := tr7.iv
    have hC' : prf_R_readSum (prF_R_readFactor 70) σ6 (nI (D + 1)) = some (1, σ7) := hC
    have hX' : prf_X_sum (prF_X_factor 70) τ6 (nI (D + 1)) = some (nI y, τ7) := hX
    obtain ⟨τ8, e8, g8, fx8, t8⟩ := pl_joinG (l := d) (h := d7) g7 t7 tr7 (by omega) (Or.inl (Nat.le_refl _)) (by omega) (by omega) (by omega) (by omega)
    rw [hC', pl_sb, if_neg (show ¬ ((1 : Int32), σ7).1 = 0 from pl_10)] at eV0
    rw [hX', pl_sb, e8, pl_sb] at eN
    have fxD : pl_fx d τ τ8 := fxC.tr fx8 (Nat.le_refl _)
    by_cases k17 : pl_xK T a7 = 17
    · obtain ⟨σ9, τ9, c9, c9', x9, g9, fc9, fx9, s9, r9⟩ := pl_takeA g8 k17 (by decide)
      have c9'' : prf_R_take σ7 17 = some (1, σ9) := c9
      have x9'' : prf_X_take τ8 93 = some τ9 := x9
      obtain ⟨σ10, e10, g10, fc10, o10, at10⟩ := pl_addG g9 (by omega) (o := 37) (by decide) (-1)
      have e10' : prf_G_addOperation σ9 37 (-1) = some σ10 := e10
      rw [c9'', pl_sb, if_neg (show ¬ ((1 : Int32), σ9).1 = 0 from pl_10), e10', pl_sb] at eV0
      rw [x9'', pl_sb] at eN
      have fcE : pl_fc q σ1 σ10 := (fcC.tr (fc9 q) (Nat.le_refl _)).tr fc10 (by omega)
      have fxE : pl_fx d τ τ9 := fxD.tr (fx9 d) (Nat.le_refl _)
      have t9 := t8.fx (fx9 d7) (Nat.le_refl _)
      by_cases k20 : pl_xK T (a7 + 1) = 20
      · obtain ⟨σ11, τ11, c11, c11', x11, g11, fc11, fx11, s11, r11⟩ := pl_takeA g10 k20 (by decide)
        have c11'' : prf_R_take σ10 20 = some (1, σ11) := c11
        have x11'' : prf_X_take τ9 61 = some τ11 := x11
        rw [c11'', pl_sb, if_neg (show ¬ ((1 : Int32), σ11).1 = 0 from pl_10)] at eV0
        rw [x11'', pl_sb, if_pos g11.2.2.2.1] at eN
        have t11 := t9.fx (fx11 d7) (Nat.le_refl _)
        obtain ⟨a12, σ12, τ12, hle12, fc12, fx12, hr12⟩ := pl_sumN (T := T) (D + 1) (by omega) (by omega) (a7 + 2) (q + 1 + Q.length + 1) d7 σ11 τ11 g11 (by omega) (by omega)
        have fcF : pl_fc q σ1 σ12 := (fcE.tr (fc11 q) (Nat.le_refl _)).tr fc12 (by omega)
        have fxF : pl_fx d τ τ12 := (fxE.tr (fx11 d) (Nat.le_refl _)).tr fx12 (by omega)
        have t12 := t11.fx fx12 (Nat.le_refl _)
        rcases hr12 with ⟨y2, d12, H, R, hC2, hX2, g12, hO2, hD12, tr12, ops12, cm12, sm12⟩ | ⟨hC2, v2, hX2, b12, vi12⟩
        · have h812 := pl_gd8 g12
          have iv12 := tr12.iv
          have hC2' : prf_R_readSum (prF_R_readFactor 70) σ11 (nI (D + 1)) = some (1, σ12) := hC2
          have hX2' : prf_X_sum (prF_X_factor 70) τ11 (nI (D + 1)) = some (nI y2, τ12) := hX2
          obtain ⟨τ13, e13, g13, fx13, t13⟩ := pl_joinG (l := d) (h := d12) g12 t12 tr12 (by omega) (Or.inl (Nat.le_refl _)) (by omega) (by omega) (by omega) (by omega)
          rw [hC2', pl_sb, if_neg (show ¬ ((1 : Int32), σ12).1 = 0 from pl_10)] at eV0
          rw [hX2', pl_sb, e13, pl_sb] at eN
          rw [eN, pl_sb] at eX00
          rw [eV0, pl_sb, if_neg (show ¬ ((1 : Int32), σ12).1 = 0 from pl_10)] at eC0
          have c71 := cm7.1
          have c121 := cm12.1
          have hP3 := pl_Pm g.1.1 (a12 - a) a (by have := g12.2.2.1; omega)
          rw [show a + (a12 - a) = a12 by omega] at hP3
          have eF : ((6, a, (0 : Int32), 1 + (pl_cat ([] ++ [(d, [(13, a, nI a, 1 + (pl_cat []).length)] ++ pl_cat [])] ++ [(y, G)] ++ [(y2, H)])).length) :: pl_cat ([] ++ [(d, [(13, a, nI a, 1 + (pl_cat []).length)] ++ pl_cat [])] ++ [(y, G)] ++ [(y2, H)]) : List pl_N) = (6, a, 0, 2 + (G ++ H).length) :: (13, a, nI a, 1) :: (G ++ H) := by
            simp [pl_cat] <;> omega
          have t14 : pl_tr τ13 (pl_xP T) d d12 (d + 1) ((6, a, 0, 2 + (G ++ H).length) :: (13, a, nI a, 1) :: (G ++ H)) := by rw [← eF]; exact t13.tr
          have eL : (((36, nI a) :: (Q ++ [((37 : Nat), (-1 : Int32))])) ++ R).length = 1 + Q.length + 1 + R.length := by simp <;> omega
          refine pl_semiS (b := a12) (y := d + 1) (F := (6, a, 0, 2 + (G ++ H).length) :: (13, a, nI a, 1) :: (G ++ H)) (O := ((36, nI a) :: (Q ++ [(37, -1)])) ++ R) (E := E) hs (pl_gs_fc g1 g13 fcF) (by omega) (fs1.tr fcF.fs (Nat.le_refl _) (Nat.le_refl _)) (fxF.tr fx13 (Nat.le_refl _)) (by rw [eL]; omega) (by rw [eL]; omega) (by omega) (by omega) (by omega) t14 ?_ (pl_op_fc op1 fcF) ?_ (fun k19 => ⟨?_, _, _, rfl, rfl⟩) eC0 eX00
          · have p1 : pl_ops σ12 q [(36, nI a)] := pl_ops_eq ((((fc7.tr (fc9 (q + 1)) (Nat.le_refl _)).tr fc10 (by omega)).tr (fc11 (q + 1)) (Nat.le_refl _)).tr fc12 (by omega)).2 _ q (Nat.le_refl _) o6
            have p2 : pl_ops σ12 (q + 1) Q := pl_ops_eq ((((fc9 (q + 1 + Q.length)).tr fc10 (Nat.le_refl _)).tr (fc11 _) (Nat.le_refl _)).tr fc12 (by omega)).2 _ _ (Nat.le_refl _) ops7
            have p3 : pl_ops σ12 (q + 1 + Q.length) [(37, -1)] := pl_ops_eq ((fc11 (q + 1 + Q.length + 1)).tr fc12 (Nat.le_refl _)).2 _ _ (Nat.le_refl _) o10
            refine pl_ops_app _ R q (pl_ops_app [(36, nI a)] _ q p1 (pl_ops_app Q _ (q + 1) p2 p3)) ?_
            rw [show q + ((36, nI a) :: (Q ++ [((37 : Nat), (-1 : Int32))])).length = q + 1 + Q.length + 1 by simp <;> omega]
            exact ops12
          · show a ≤ a ∧ pl_ni (G ++ H) (a + 1) a12
            exact ⟨by omega, pl_ni_app G H _ a7 _ (pl_ni_lo _ _ _ _ (by omega) cm7.ni) (pl_ni_lo _ _ _ _ (by omega) cm12.ni)⟩
          · exact Or.inr (Or.inr (Or.inr (Or.inr (Or.inl ⟨a, a7, a12, G, H, Q, R, hk, k16, k17, k20, k19, cm7, cm12, pl_sm_ff sm7 (by omega), pl_sm_ff sm12 (by omega), rfl, rfl, rfl⟩))))
        · have hC2' : prf_R_readSum (prF_R_readFactor 70) σ11 (nI (D + 1)) = some (0, σ12) := hC2
          have hX2' : prf_X_sum (prF_X_factor 70) τ11 (nI (D + 1)) = some (v2, τ12) := hX2
          obtain ⟨τ13, e13, b13, fx13, j13⟩ := pl_joinW (d0 := d) b12 (t12.jb (Nat.le_refl _) (by omega)) (vi12.le (by omega))
          rw [hC2', pl_sb, if_pos rfl] at eV0
          rw [hX2', pl_sb, e13, pl_sb] at eN
          rw [eN, pl_sb, pl_takeW b13, pl_sb] at eX00
          rw [eV0, pl_sb, if_pos rfl] at eC0
          exact pl_failS (b := a12) (by rw [fcF.1.1 2 11 rfl]; exact g1.2) (Nat.lt_succ_self s) (by omega) (by omega) (fs1.tr fcF.fs (Nat.le_refl _) (Nat.le_refl _)) (fxF.tr fx13 (Nat.le_refl _)) (b13.le (by omega) (by omega)) (pl_vi1 (by omega) (by omega)) eC0 eX00
      · obtain ⟨c11, τ11, x11, b11, fx11⟩ := pl_takeZ g10 (k := 20) (by decide) k20
        have b11' := b11 d 5 (by omega) (by omega)
        have c11'' : prf_R_take σ10 20 = some (0, σ10) := c11
        have x11'' : prf_X_take τ9 61 = some τ11 := x11
        rw [c11'', pl_sb, if_pos rfl] at eV0
        rw [x11'', pl_sb, if_neg (pl_nbW b11'), pl_join0, pl_sb] at eN
        rw [eN, pl_sb, pl_takeW b11', pl_sb] at eX00
        rw [eV0, pl_sb, if_pos rfl] at eC0
        exact pl_failS (b := a7 + 1) (by rw [fcE.1.1 2 11 rfl]; exact g1.2) (Nat.lt_succ_self s) (by omega) (by omega) (fs1.tr fcE.fs (Nat.le_refl _) (Nat.le_refl _)) (fxE.tr (fx11 d) (Nat.le_refl _)) b11' (pl_vi1 (by omega) (by omega)) eC0 eX00
    · obtain ⟨c9, τ9, x9, b9, fx9⟩ := pl_takeZ g8 (k := 17) (by decide) k17
      have b9' := b9 d 5 (by omega) (by omega)
      have c9'' : prf_R_take σ7 17 = some (0, σ7) := c9
      have x9'' : prf_X_take τ8 93 = some τ9 := x9
      rw [c9'', pl_sb, if_pos rfl] at eV0
      rw [x9'', pl_sb, pl_takeW b9', pl_sb, if_neg (pl_nbW b9'), pl_join0, pl_sb] at eN
      rw [eN, pl_sb, pl_takeW b9', pl_sb] at eX00
      rw [eV0, pl_sb, if_pos rfl] at eC0
      exact pl_failS (b := a7) (by rw [fcC.1.1 2 11 rfl]; exact g1.2) (Nat.lt_succ_self s) (by omega) (by omega) (fs1.tr fcC.fs (Nat.le_refl _) (Nat.le_refl _)) (fxD.tr (fx9 d) (Nat.le_refl _)) b9' (pl_vi1 (by omega) (by omega)) eC0 eX00
  · have hC' : prf_R_readSum (prF_R_readFactor 70) σ6 (nI (D + 1)) = some (0, σ7) := hC
    have hX' : prf_X_sum (prF_X_factor 70) τ6 (nI (D + 1)) = some (v, τ7) := hX
    obtain ⟨τ8, e8, b8, fx8, j8⟩ := pl_joinW (d0 := d) b7 (t7.jb (Nat.le_refl _) (by omega)) (vi7.le (by omega))
    rw [hC', pl_sb, if_pos rfl] at eV0
    rw [hX', pl_sb, e8, pl_sb, pl_takeW b8, pl_sb, pl_takeW b8, pl_sb, if_neg (pl_nbW b8), pl_join0, pl_sb] at eN
    rw [eN, pl_sb, pl_takeW b8, pl_sb] at eX00
    rw [eV0, pl_sb, if_pos rfl] at eC0
    exact pl_failS (b := a7) (by rw [fcC.1.1 2 11 rfl]; exact g1.2) (Nat.lt_succ_self s) (by omega) (by omega) (fs1.tr fcC.fs (Nat.le_refl _) (Nat.le_refl _)) (fxC.tr fx8 (Nat.le_refl _)) (b8.le (by omega) (by omega)) (pl_vi1 (by omega) (by omega)) eC0 eX00
