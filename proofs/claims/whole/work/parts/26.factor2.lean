/-! THE PARSER: more factors -/
/-- a factor behind - -/
theorem pl_facNeg {T : pl_Tx} {a q d : Nat} {σ τ : pr_St} (g : pl_gd T a q d σ τ) (hq : q ≤ a) (hd : d ≤ 2 * a) (hk : pl_xK T a = 22) (rc rcX : pr_St → Int32 → Option (Int32 × pr_St)) (D f : Nat) (hD : D ≤ 60) (H : D + 1 ≤ 60 → pl_sp T (fun _ F O => pl_sm T f F O) (fun σ => rc σ (nI (D + 1))) (fun τ => rcX τ (nI (D + 1)))) : pl_ph T (fun _ F O => pl_sm T (f + 1) F O) a q d σ τ (prf_R_readFactor rc σ (nI D)) (prf_X_factor rcX τ (nI D)) := by
  have h8 := pl_gd8 g
  obtain ⟨τ1, e1, g1, fx1, t1⟩ := pl_draftG g (by omega) 15 a 0
  obtain ⟨σ2, τ2, c2, c2', x2, g2, fc2, fx2, s2, r2⟩ := pl_takeA g1 hk (by decide)
  have t2 := t1.fx (fx2 (d + 1)) (Nat.le_refl _)
  have eC0 : prf_R_readFactor rc σ (nI D) = if 60 ≤ nI D then some (0, σ2) else (rc σ2 (nI (D + 1))).bind fun r72 => if r72.1 = 0 then some (0, r72.2) else (prf_G_addOperation r72.2 35 (-1)).bind fun r74 => some (1, r74) := by
    unfold prf_R_readFactor
    rw [pl_nowG g, pl_sb, hk, if_neg (show ¬ nI 22 = 2 by decide), if_neg (show ¬ nI 22 = 3 by decide), if_neg (show ¬ nI 22 = 11 by decide), if_neg (show ¬ nI 22 = 12 by decide), if_pos (show nI 22 = 22 from rfl), c2', nI_1]
  have eX0 : prf_X_factor rcX τ (nI D) = (prf_X_deep τ2 (nI (D + 1))).bind fun r70 => if (r70.1 0 9) = 0 then (rcX r70 (nI (D + 1))).bind fun r72 => (prf_X_join r72.2 (nI d) r72.1).bind fun r73 => some (nI d, r73) else (prf_X_join r70 (nI d) (-1)).bind fun r74 => some (nI d, r74) := by
    have e1' : prf_X_draft τ 15 (nI (pl_xP T a)) 0 = some (nI d, τ1) := e1
    have x2' : prf_X_take τ1 45 = some τ2 := x2
    unfold prf_X_factor
    rw [pl_lookG g, pl_sb, hk, if_neg (show ¬ nI (pl_km 22) = 3 by decide), if_neg (show ¬ nI (pl_km 22) = 2 by decide), if_pos (show nI (pl_km 22) = 45 from rfl), (pl_placeG g).1, (pl_placeG (α := Nat) (k := none) g).2, e1', pl_sb, x2', pl_sb, nI_1]
  by_cases hD1 : D + 1 ≤ 60
  · obtain ⟨a', σ', τ', hle, fc', fx', hr⟩ := H hD1 (a + 1) q (d + 1) σ2 τ2 g2 (by omega) (by omega)
    have fcA : pl_fc q σ σ' := (fc2 q).tr fc' (Nat.le_refl _)
    have fxA : pl_fx d τ τ' := (fx1.tr (fx2 d) (Nat.le_refl _)).tr fx' (by omega)
    have t3 := t2.fx fx' (Nat.le_refl _)
    rw [if_neg (show ¬ (60 : Int32) ≤ nI D from nI_ge (b := 60) (by omega) (by omega))] at eC0
    rw [pl_deepY hD1, pl_sb, if_pos g2.2.2.2.1] at eX0
    rcases hr with ⟨y, d', G, Q, hC, hX, g6, hO, hD', tr6, ops6, cm6, sm6⟩ | ⟨hC, v, hX, b6, vi6⟩
    · have h86 := pl_gd8 g6
      have iv6 := tr6.iv
      have hC' : rc σ2 (nI (D + 1)) = some (1, σ') := hC
      have hX' : rcX τ2 (nI (D + 1)) = some (nI y, τ') := hX
      obtain ⟨τ7, e7, g7, fx7, t7⟩ := pl_joinG (l := d) (h := d') g6 t3 tr6 (by omega) (Or.inl (Nat.le_refl _)) (by omega) (by omega) (by omega) (by omega)
      obtain ⟨σ9, e9, g9, fc9, o9, at9⟩ := pl_addG g7 (by omega) (o := 35) (by decide) (-1)
      have eC : prf_R_readFactor rc σ (nI D) = some (1, σ9) := by
        have e9' : prf_G_addOperation σ' 35 (-1) = some σ9 := e9
        rw [eC0, hC', pl_sb, if_neg (show ¬ ((1 : Int32), σ').1 = 0 from pl_10), e9', pl_sb]
      have eX : prf_X_factor rcX τ (nI D) = some (nI d, τ7) := by
        rw [eX0, hX', pl_sb, e7, pl_sb]
      have eF : ((15, a, (0 : Int32), 1 + (pl_cat ([] ++ [(y, G)])).length) :: pl_cat ([] ++ [(y, G)]) : List pl_N) = (15, a, 0, 1 + G.length) :: G := by
        simp [pl_cat]
      have t9 : pl_tr τ7 (pl_xP T) d d' d ((15, a, 0, 1 + G.length) :: G) := by rw [← eF]; exact t7.tr
      refine ⟨a', σ9, τ7, by omega, fcA.tr fc9 (by omega), fxA.tr fx7 (Nat.le_refl _), Or.inl ⟨d, d', _, Q ++ [(35, -1)], eC, eX, ?_, by simp <;> omega, by omega, t9, pl_ops_app Q _ q (pl_ops_eq fc9.2 _ _ (Nat.le_refl _) ops6) o9, ?_, Or.inr (Or.inr (Or.inr (Or.inl ⟨a, G, Q, rfl, rfl, sm6⟩)))⟩⟩
      · rw [List.length_append]; exact g9
      · exact pl_cm_hd (pl_cm_pre cm6 (by rw [hk]; exact ⟨by decide, by decide, by decide, by decide⟩)) (by simp) (by simp) (by simp)
    · have hC' : rc σ2 (nI (D + 1)) = some (0, σ') := hC
      have hX' : rcX τ2 (nI (D + 1)) = some (v, τ') := hX
      obtain ⟨τ7, e7, b7, fx7, j7⟩ := pl_joinW (d0 := d) b6 (t3.jb (Nat.le_refl _) (by omega)) (vi6.le (by omega))
      have eC : prf_R_readFactor rc σ (nI D) = some (0, σ') := by rw [eC0, hC', pl_sb, if_pos rfl]
      have eX : prf_X_factor rcX τ (nI D) = some (nI d, τ7) := by rw [eX0, hX', pl_sb, e7, pl_sb]
      exact ⟨a', σ', τ7, by omega, fcA, fxA.tr fx7 (Nat.le_refl _), Or.inr ⟨eC, nI d, eX, b7.le (by omega) (Nat.le_refl _), pl_vi1 (Nat.le_refl _) (by omega)⟩⟩
  · obtain ⟨τ3, x3, b3, fx3⟩ := pl_deepN g2 (D := D + 1) (by omega) (by omega)
    rw [if_pos (show (60 : Int32) ≤ nI D from nI_le (a := 60) (by omega) (by omega))] at eC0
    have b3' := b3 d 3 (by omega) (by omega)
    rw [x3, pl_sb, if_neg (pl_nbW b3'), pl_join0, pl_sb] at eX0
    exact ⟨a + 1, σ2, τ3, by omega, fc2 q, (fx1.tr (fx2 d) (Nat.le_refl _)).tr (fx3 d) (Nat.le_refl _), Or.inr ⟨eC0, nI d, eX0, b3', pl_vi1 (Nat.le_refl _) (by omega)⟩⟩
/-- a SUM in ( ) -/
theorem pl_facPar {T : pl_Tx} {a q d : Nat} {σ τ : pr_St} (g : pl_gd T a q d σ τ) (hq : q ≤ a) (hd : d ≤ 2 * a) (hk : pl_xK T a = 12) (rc rcX : pr_St → Int32 → Option (Int32 × pr_St)) (D f : Nat) (Hs : pl_sp T (fun _ F O => pl_sm T f F O) (fun σ => prf_R_readSum rc σ (nI (D + 1))) (fun τ => prf_X_sum rcX τ (nI (D + 1)))) : pl_ph T (fun _ F O => pl_sm T (f + 1) F O) a q d σ τ (prf_R_readFactor rc σ (nI D)) (prf_X_factor rcX τ (nI D)) := by
  have h8 := pl_gd8 g
  obtain ⟨σ2, τ2, c2, c2', x2, g2, fc2, fx2, s2, r2⟩ := pl_takeA g hk (by decide)
  have eC0 : prf_R_readFactor rc σ (nI D) = (prf_R_readSum rc σ2 (nI (D + 1))).bind fun r66 => if r66.1 = 0 then some (0, r66.2) else (prf_R_take r66.2 13).bind fun r68 => if r68.1 = 0 then some (0, r68.2) else some (1, r68.2) := by
    unfold prf_R_readFactor
    rw [pl_nowG g, pl_sb, hk, if_neg (show ¬ nI 12 = 2 by decide), if_neg (show ¬ nI 12 = 3 by decide), if_neg (show ¬ nI 12 = 11 by decide), if_pos (show nI 12 = 12 from rfl), c2', nI_1]
  have eX0 : prf_X_factor rcX τ (nI D) = (prf_X_sum rcX τ2 (nI (D + 1))).bind fun r52 => (prf_X_take r52.2 41).bind fun r53 => some (r52.1, r53) := by
    have x2' : prf_X_take τ 40 = some τ2 := x2
    unfold prf_X_factor
    rw [pl_lookG g, pl_sb, hk, if_neg (show ¬ nI (pl_km 12) = 3 by decide), if_neg (show ¬ nI (pl_km 12) = 2 by decide), if_neg (show ¬ nI (pl_km 12) = 45 by decide), if_neg (show ¬ nI (pl_km 12) = 307 by decide), x2', pl_sb, if_pos g2.2.2.2.1, nI_1]
  obtain ⟨a', σ', τ', hle, fc', fx', hr⟩ := Hs (a + 1) q d σ2 τ2 g2 (by omega) (by omega)
  have fcA : pl_fc q σ σ' := (fc2 q).tr fc' (Nat.le_refl _)
  have fxA : pl_fx d τ τ' := (fx2 d).tr fx' (Nat.le_refl _)
  rcases hr with ⟨y, d', G, Q, hC, hX, g6, hO, hD', tr6, ops6, cm6, sm6⟩ | ⟨hC, v, hX, b6, vi6⟩
  · have h86 := pl_gd8 g6
    have iv6 := tr6.iv
    have hC' : prf_R_readSum rc σ2 (nI (D + 1)) = some (1, σ') := hC
    have hX' : prf_X_sum rcX τ2 (nI (D + 1)) = some (nI y, τ') := hX
    by_cases k13 : pl_xK T a' = 13
    · obtain ⟨σ8, τ8, c8, c8', x8, g8, fc8, fx8, s8, r8⟩ := pl_takeA g6 k13 (by decide)
      have eC : prf_R_readFactor rc σ (nI D) = some (1, σ8) := by
        have c8' : prf_R_take σ' 13 = some (1, σ8) := c8
        rw [eC0, hC', pl_sb, if_neg (show ¬ ((1 : Int32), σ').1 = 0 from pl_10), c8', pl_sb, if_neg (show ¬ ((1 : Int32), σ8).1 = 0 from pl_10)]
      have eX : prf_X_factor rcX τ (nI D) = some (nI y, τ8) := by
        have x8' : prf_X_take τ' 41 = some τ8 := x8
        rw [eX0, hX', pl_sb, x8', pl_sb]
      refine ⟨a' + 1, σ8, τ8, by omega, fcA.tr (fc8 q) (Nat.le_refl _), fxA.tr (fx8 d) (Nat.le_refl _), Or.inl ⟨y, d', G, Q, eC, eX, g8, by omega, by omega, tr6.fx (fx8 d') (Nat.le_refl _), pl_ops_eq (fc8 (q + Q.length)).2 _ _ (Nat.le_refl _) ops6, ?_, pl_sm_f _ _ _ sm6⟩⟩
      exact pl_cm_suf (pl_cm_pre cm6 (by rw [hk]; exact ⟨by decide, by decide, by decide, by decide⟩)) (by rw [k13]; exact ⟨by decide, by decide, by decide, by decide⟩) (by omega)
    · obtain ⟨c8, τ8, x8, b8, fx8⟩ := pl_takeZ g6 (k := 13) (by decide) k13
      have eC : prf_R_readFactor rc σ (nI D) = some (0, σ') := by
        have c8' : prf_R_take σ' 13 = some (0, σ') := c8
        rw [eC0, hC', pl_sb, if_neg (show ¬ ((1 : Int32), σ').1 = 0 from pl_10), c8', pl_sb, if_pos rfl]
      have eX : prf_X_factor rcX τ (nI D) = some (nI y, τ8) := by
        have x8' : prf_X_take τ' 41 = some τ8 := x8
        rw [eX0, hX', pl_sb, x8', pl_sb]
      exact ⟨a', σ', τ8, by omega, fcA, fxA.tr (fx8 d) (Nat.le_refl _), Or.inr ⟨eC, nI y, eX, b8 d 3 (by omega) (by omega), pl_vi1 (by omega) (by omega)⟩⟩
  · have hC' : prf_R_readSum rc σ2 (nI (D + 1)) = some (0, σ') := hC
    have hX' : prf_X_sum rcX τ2 (nI (D + 1)) = some (v, τ') := hX
    have eC : prf_R_readFactor rc σ (nI D) = some (0, σ') := by rw [eC0, hC', pl_sb, if_pos rfl]
    have eX : prf_X_factor rcX τ (nI D) = some (v, τ') := by rw [eX0, hX', pl_sb, pl_takeW b6, pl_sb]
    exact ⟨a', σ', τ', by omega, fcA, fxA, Or.inr ⟨eC, v, eX, b6, vi6⟩⟩
/-- no factor begins here -/
theorem pl_facNo {T : pl_Tx} {a q d : Nat} {σ τ : pr_St} (g : pl_gd T a q d σ τ) (hd : d ≤ 2 * a) (k2 : ¬ pl_xK T a = 2) (k3 : ¬ pl_xK T a = 3) (k11 : ¬ pl_xK T a = 11) (k12 : ¬ pl_xK T a = 12) (k22 : ¬ pl_xK T a = 22) (rc rcX : pr_St → Int32 → Option (Int32 × pr_St)) (D : Int32) (Φ : Nat → List pl_N → List pl_O → Prop) : pl_ph T Φ a q d σ τ (prf_R_readFactor rc σ D) (prf_X_factor rcX τ D) := by
  have hK := pl_gdK g
  obtain ⟨c8, τ8, x8, b8, fx8⟩ := pl_takeZ g (k := 12) (by decide) k12
  have b8' := b8 d 3 (Nat.le_refl _) (by omega)
  have eC : prf_R_readFactor rc σ D = some (0, σ) := by
    unfold prf_R_readFactor
    rw [pl_nowG g, pl_sb, if_neg (pl_cn hK (j := 2) (v := 2) (by decide) rfl k2), if_neg (pl_cn hK (j := 3) (v := 3) (by decide) rfl k3), if_neg (pl_cn hK (j := 11) (v := 11) (by decide) rfl k11), if_neg (pl_cn hK (j := 12) (v := 12) (by decide) rfl k12), if_neg (pl_cn hK (j := 22) (v := 22) (by decide) rfl k22)]
  have eX : prf_X_factor rcX τ D = some (-1, τ8) := by
    have x8' : prf_X_take τ 40 = some τ8 := x8
    unfold prf_X_factor
    rw [pl_lookG g, pl_sb, if_neg (pl_kn hK (j := 3) (v := 3) (by decide) rfl k3), if_neg (pl_kn hK (j := 2) (v := 2) (by decide) rfl k2), if_neg (pl_kn hK (j := 22) (v := 45) (by decide) rfl k22), if_neg (pl_kn hK (j := 11) (v := 307) (by decide) rfl k11), x8', pl_sb, if_neg (pl_nbW b8'), pl_takeW b8', pl_sb]
  exact ⟨a, σ, τ8, Nat.le_refl _, pl_fc.rf, fx8 d, Or.inr ⟨eC, -1, eX, b8', pl_vi0⟩⟩
/-- any, with or without limits -/
theorem pl_facAny {T : pl_Tx} {a q d : Nat} {σ τ : pr_St} (g : pl_gd T a q d σ τ) (hq : q ≤ a) (hd : d ≤ 2 * a) (hk : pl_xK T a = 11) (rc rcX : pr_St → Int32 → Option (Int32 × pr_St)) (D : Int32) (f : Nat) : pl_ph T (fun _ F O => pl_sm T (f + 1) F O) a q d σ τ (prf_R_readFactor rc σ D) (prf_X_factor rcX τ D) := by
  have h8 := pl_gd8 g
  obtain ⟨σ1, e1, g1, fc1, o1, at1⟩ := pl_addG g (by omega) (o := 11) (by decide) (nI a)
  obtain ⟨τ2, e2, g2, fx2, t2⟩ := pl_draftG g1 (by omega) 16 a 0
  obtain ⟨σ3, τ3, c3, c3', x3, g3, fc3, fx3, s3, r3⟩ := pl_takeA g2 hk (by decide)
  have h83 := pl_gd8 g3
  have t3 := t2.fx (fx3 (d + 1)) (Nat.le_refl _)
  have o3 : pl_ops σ3 q [(11, nI a)] := pl_ops_eq (fc3 (q + 1)).2 _ q (Nat.le_refl _) o1
  have eC0 : prf_R_readFactor rc σ D = (prf_R_take σ3 12).bind fun r55 => if r55.1 = 0 then some (1, r55.2) else (prf_R_readLimit r55.2).bind fun r57 => if r57.1 = 0 then some (0, r57.2) else (prf_R_take r57.2 18).bind fun r59 => if r59.1 = 0 then some (0, r59.2) else (prf_R_readLimit r59.2).bind fun r61 => if r61.1 = 0 then some (0, r61.2) else (prf_R_take r61.2 13).bind fun r63 => if r63.1 = 0 then some (0, r63.2) else some (1, r63.2) := by
    have e1' : prf_G_addOperation σ 11 (σ.1 3 2) = some σ1 := by rw [g.2.1.1]; exact e1
    unfold prf_R_readFactor
    rw [pl_nowG g, pl_sb, hk, if_neg (show ¬ nI 11 = 2 by decide), if_neg (show ¬ nI 11 = 3 by decide), if_pos (show nI 11 = 11 from rfl), e1', pl_sb, c3']
  have eX0 : prf_X_factor rcX τ D = (prf_X_look τ3).bind fun r58 => if r58 = 40 then (prf_X_take τ3 40).bind fun r60 => (prf_X_number r60 1).bind fun r61 => (prf_X_join r61.2 (nI d) r61.1).bind fun r62 => (prf_X_take r62 44).bind fun r63 => (prf_X_number r63 1).bind fun r64 => (prf_X_join r64.2 (nI d) r64.1).bind fun r65 => (prf_X_take r65 41).bind fun r66 => some (nI d, r66) else some (nI d, τ3) := by
    have e2' : prf_X_draft τ 16 (nI (pl_xP T a)) 0 = some (nI d, τ2) := e2
    have x3' : prf_X_take τ2 307 = some τ3 := x3
    unfold prf_X_factor
    rw [pl_lookG g, pl_sb, hk, if_neg (show ¬ nI (pl_km 11) = 3 by decide), if_neg (show ¬ nI (pl_km 11) = 2 by decide), if_neg (show ¬ nI (pl_km 11) = 45 by decide), if_pos (show nI (pl_km 11) = 307 from rfl), (pl_placeG g).1, (pl_placeG (α := Nat) (k := none) g).2, e2', pl_sb, x3', pl_sb]
  have fcA : pl_fc q σ σ3 := fc1.tr (fc3 q) (Nat.le_refl _)
  have fxA : pl_fx d τ τ3 := fx2.tr (fx3 d) (Nat.le_refl _)
  by_cases k12 : pl_xK T (a + 1) = 12
  · obtain ⟨σ4, τ4, c4, c4', x4, g4, fc4, fx4, s4, r4⟩ := pl_takeA g3 k12 (by decide)
    have t4 := t3.fx (fx4 (d + 1)) (Nat.le_refl _)
    have c4' : prf_R_take σ3 12 = some (1, σ4) := c4
    have x4' : prf_X_take τ3 40 = some τ4 := x4
    rw [c4', pl_sb, if_neg (show ¬ ((1 : Int32), σ4).1 = 0 from pl_10)] at eC0
    rw [pl_lookG g3, pl_sb, k12, if_pos (show nI (pl_km 12) = 40 from rfl), x4', pl_sb] at eX0
    have fcB : pl_fc q σ σ4 := fcA.tr (fc4 q) (Nat.le_refl _)
    have fxB : pl_fx d τ τ4 := fxA.tr (fx4 d) (Nat.le_refl _)
    obtain ⟨a5, σ5, τ5, h5, fc5, fx5, hr5⟩ := pl_limG g4 (by omega)
    have fcC : pl_fc q σ σ5 := fcB.tr (fc5 q) (Nat.le_refl _)
    have fxC : pl_fx d τ τ5 := fxB.tr fx5 (by omega)
    have t5 := t4.fx fx5 (Nat.le_refl _)
    rcases hr5 with ⟨l1, l2, g5, t5', s5, k5⟩ | ⟨l1, y5, y5a, y5b, l2, b5⟩
    · have h85 := pl_gd8 g5
      obtain ⟨τ6, e6, g6, fx6, t6⟩ := pl_joinG (l := d) (h := d + 2) g5 t5 t5'.tr (by omega) (Or.inl (Nat.le_refl _)) (by omega) (by omega) (by omega) (by omega)
      rw [l1, pl_sb, if_neg (show ¬ ((1 : Int32), σ5).1 = 0 from pl_10)] at eC0
      rw [l2, pl_sb, e6, pl_sb] at eX0
      have fxD : pl_fx d τ τ6 := fxC.tr fx6 (Nat.le_refl _)
      by_cases k18 : pl_xK T a5 = 18
      · obtain ⟨σ7, τ7, c7, _, x7, g7, fc7, fx7, s7, r7⟩ := pl_takeA g6 k18 (by decide)
        have t7 := t6.fx (fx7 (d + 2)) (Nat.le_refl _)
        have c7' : prf_R_take σ5 18 = some (1, σ7) := c7
        have x7' : prf_X_take τ6 44 = some τ7 := x7
        rw [c7', pl_sb, if_neg (show ¬ ((1 : Int32), σ7).1 = 0 from pl_10)] at eC0
        rw [x7', pl_sb] at eX0
        have h87 := pl_gd8 g7
        obtain ⟨a8, σ8, τ8, h8', fc8, fx8, hr8⟩ := pl_limG g7 (by omega)
        have fcE : pl_fc q σ σ8 := (fcC.tr (fc7 q) (Nat.le_refl _)).tr (fc8 q) (Nat.le_refl _)
        have fxE : pl_fx d τ τ8 := (fxD.tr (fx7 d) (Nat.le_refl _)).tr fx8 (by omega)
        have t8 := t7.fx fx8 (Nat.le_refl _)
        rcases hr8 with ⟨m1, m2, g8, t8', s8, k8⟩ | ⟨m1, y8, y8a, y8b, m2, b8⟩
        · have h88 := pl_gd8 g8
          obtain ⟨τ9, e9, g9, fx9, t9⟩ := pl_joinG (l := d) (h := d + 3) g8 t8 t8'.tr (by omega) (Or.inl (Nat.le_refl _)) (by omega) (by omega) (by omega) (by omega)
          rw [m1, pl_sb, if_neg (show ¬ ((1 : Int32), σ8).1 = 0 from pl_10)] at eC0
          rw [m2, pl_sb, e9, pl_sb] at eX0
          have fxF : pl_fx d τ τ9 := fxE.tr fx9 (Nat.le_refl _)
          by_cases k13 : pl_xK T a8 = 13
          · obtain ⟨σ10, τ10, c10, _, x10, g10, fc10, fx10, s10, r10⟩ := pl_takeA g9 k13 (by decide)
            have c10' : prf_R_take σ8 13 = some (1, σ10) := c10
            have x10' : prf_X_take τ9 41 = some τ10 := x10
            rw [c10', pl_sb, if_neg (show ¬ ((1 : Int32), σ10).1 = 0 from pl_10)] at eC0
            rw [x10', pl_sb] at eX0
            have eS : a5 + 1 = pl_sec T (a + 2) := by
              unfold pl_sec
              rcases k5 with ⟨q1, q2, q3⟩ | ⟨q1, q3⟩
              · rw [if_pos q1]; omega
              · have q1' : pl_xK T (a + 2) = 3 := q1
                rw [if_neg (show ¬ pl_xK T (a + 2) = 22 by omega)]; omega
            have t10 := (t9.fx (fx10 (d + 3)) (Nat.le_refl _)).tr
            refine ⟨a8 + 1, σ10, τ10, by omega, fcE.tr (fc10 q) (Nat.le_refl _), fxF.tr (fx10 d) (Nat.le_refl _), Or.inl ⟨d, d + 3, [(16, a, 0, 3), (12, a + 2, pl_lim T (a + 2), 1), (12, pl_sec T (a + 2), pl_lim T (pl_sec T (a + 2)), 1)], [(11, nI a)], eC0, eX0, g10, by show 1 + a ≤ a8 + 1; omega, by omega, ?_, ?_, ?_, Or.inr (Or.inr (Or.inr (Or.inr (Or.inr (Or.inl ⟨a, hk, k12, rfl, rfl⟩)))))⟩⟩
            · rw [← eS]; exact t10
            · exact pl_ops_eq (((((fc4 (q + 1)).tr (fc5 _) (Nat.le_refl _)).tr (fc7 _) (Nat.le_refl _)).tr (fc8 _) (Nat.le_refl _)).tr (fc10 _) (Nat.le_refl _)).2 _ q (Nat.le_refl _) o3
            · refine pl_cm_lim hk k12 (by omega) (show pl_sec T (a + 2) + 1 < a8 + 1 by rw [← eS]; rcases k8 with ⟨_, _, q3⟩ | ⟨_, q3⟩ <;> omega) (fun t h1 h2 => ?_)
              have hcase : t = a + 1 ∨ t = a + 2 ∨ t = a + 3 ∨ t = a5 ∨ t = a5 + 1 ∨ t = a5 + 2 ∨ t = a8 := by omega
              have p22 : pl_pn 22 := ⟨by decide, by decide, by decide, by decide⟩
              have p3 : pl_pn 3 := ⟨by decide, by decide, by decide, by decide⟩
              have p18 : pl_pn 18 := ⟨by decide, by decide, by decide, by decide⟩
              have p13 : pl_pn 13 := ⟨by decide, by decide, by decide, by decide⟩
              have p12 : pl_pn 12 := ⟨by decide, by decide, by decide, by decide⟩
              have all5 : ∀ t, a + 2 ≤ t → t < a5 → pl_pn (pl_xK T t) := by
                intro t h1 h2
                rcases k5 with ⟨q1, q2, q3⟩ | ⟨q1, q3⟩
                · by_cases ht : t = a + 1 + 1
                  · rw [ht, q1]; exact p22
                  · rw [show t = a + 1 + 1 + 1 by omega, q2]; exact p3
                · rw [show t = a + 1 + 1 by omega, q1]; exact p3
              have all8 : ∀ t, a5 + 1 ≤ t → t < a8 → pl_pn (pl_xK T t) := by
                intro t h1 h2
                rcases k8 with ⟨q1, q2, q3⟩ | ⟨q1, q3⟩
                · by_cases ht : t = a5 + 1
                  · rw [ht, q1]; exact p22
                  · rw [show t = a5 + 1 + 1 by omega, q2]; exact p3
                · rw [show t = a5 + 1 by omega, q1]; exact p3
              by_cases z1 : t = a + 1
              · rw [z1, k12]; exact p12
              · by_cases z2 : t < a5
                · exact all5 t (by omega) z2
                · by_cases z3 : t = a5
                  · rw [z3, k18]; exact p18
                  · by_cases z4 : t < a8
                    · exact all8 t (by omega) z4
                    · rw [show t = a8 by omega, k13]; exact p13
          · obtain ⟨c10, τ10, x10, b10, fx10⟩ := pl_takeZ g9 (k := 13) (by decide) k13
            have c10' : prf_R_take σ8 13 = some (0, σ8) := c10
            have x10' : prf_X_take τ9 41 = some τ10 := x10
            rw [c10', pl_sb, if_pos rfl] at eC0
            rw [x10', pl_sb] at eX0
            exact ⟨a8, σ8, τ10, by omega, fcE, fxF.tr (fx10 d) (Nat.le_refl _), Or.inr ⟨eC0, nI d, eX0, b10 d 3 (by omega) (by omega), pl_vi1 (Nat.le_refl _) (by omega)⟩⟩
        · have b8' := b8 2 (by omega) (by omega)
          obtain ⟨τ9, e9, b9, fx9, j9⟩ := pl_joinW (d0 := d) b8' (t8.jb (Nat.le_refl _) (by omega)) (pl_vi1 (by omega) y8b)
          rw [m1, pl_sb, if_pos rfl] at eC0
          rw [m2, pl_sb, e9, pl_sb, pl_takeW b9, pl_sb] at eX0
          exact ⟨a8, σ8, τ9, by omega, fcE, fxE.tr fx9 (Nat.le_refl _), Or.inr ⟨eC0, nI d, eX0, b9.le (by omega) (by omega), pl_vi1 (Nat.le_refl _) (by omega)⟩⟩
      · obtain ⟨c7, τ7, x7, b7, fx7⟩ := pl_takeZ g6 (k := 18) (by decide) k18
        have c7' : prf_R_take σ5 18 = some (0, σ5) := c7
        have x7' : prf_X_take τ6 44 = some τ7 := x7
        have t7 := t6.fx (fx7 (d + 2)) (Nat.le_refl _)
        obtain ⟨y8, τ8, e8, y8a, y8b, b8, fx8⟩ := pl_numW (b7 (d + 2) 2 (Nat.le_refl _) (by omega)) (by decide) 1
        have t8 := t7.fx fx8 (Nat.le_refl _)
        obtain ⟨τ9, e9, b9, fx9, j9⟩ := pl_joinW (d0 := d) b8 (t8.jb (Nat.le_refl _) (by omega)) (pl_vi1 (by omega) y8b)
        rw [c7', pl_sb, if_pos rfl] at eC0
        rw [x7', pl_sb, e8, pl_sb, e9, pl_sb, pl_takeW b9, pl_sb] at eX0
        exact ⟨a5, σ5, τ9, by omega, fcC, ((fxD.tr (fx7 d) (Nat.le_refl _)).tr fx8 (by omega)).tr fx9 (Nat.le_refl _), Or.inr ⟨eC0, nI d, eX0, b9.le (by omega) (by omega), pl_vi1 (Nat.le_refl _) (by omega)⟩⟩
    · have b5' := b5 0 (by omega) (by omega)
      obtain ⟨τ6, e6, b6, fx6, j6⟩ := pl_joinW (d0 := d) b5' (t5.jb (Nat.le_refl _) (by omega)) (pl_vi1 (by omega) y5b)
      obtain ⟨y8, τ8, e8, y8a, y8b, b8, fx8⟩ := pl_numW b6 (by decide) 1
      have j8 := j6.fx fx8 (by omega)
      obtain ⟨τ9, e9, b9, fx9, j9⟩ := pl_joinW (d0 := d) b8 j8 (pl_vi1 (by omega) y8b)
      rw [l1, pl_sb, if_pos rfl] at eC0
      rw [l2, pl_sb, e6, pl_sb, pl_takeW b6, pl_sb, e8, pl_sb, e9, pl_sb, pl_takeW b9, pl_sb] at eX0
      exact ⟨a5, σ5, τ9, by omega, fcC, ((fxC.tr fx6 (Nat.le_refl _)).tr fx8 (by omega)).tr fx9 (Nat.le_refl _), Or.inr ⟨eC0, nI d, eX0, b9.le (by omega) (by omega), pl_vi1 (Nat.le_refl _) (by omega)⟩⟩
  · have c4 : prf_R_take σ3 12 = some (0, σ3) := (pl_takeZ g3 (k := 12) (by decide) k12).1
    rw [c4, pl_sb, if_pos rfl] at eC0
    rw [pl_lookG g3, pl_sb, if_neg (pl_kn (pl_gdK g3) (j := 12) (v := 40) (by decide) rfl k12)] at eX0
    refine ⟨a + 1, σ3, τ3, by omega, fcA, fxA, Or.inl ⟨d, d + 1, [(16, a, 0, 1)], [(11, nI a)], eC0, eX0, g3, by show 1 + a ≤ a + 1; omega, by omega, t3.tr, o3, ?_, Or.inr (Or.inr (Or.inr (Or.inr (Or.inl ⟨a, hk, k12, rfl, rfl⟩))))⟩⟩
    refine ⟨by omega, rfl, ?_, pl_tok2_1 (by omega) (by omega)⟩
    rw [pl_cu_1, pl_ct1, if_neg (by omega), if_neg (fun q => k12 q.2)]
    rfl
/-- a factor -/
theorem pl_factor {T : pl_Tx} (rc rcX : pr_St → Int32 → Option (Int32 × pr_St)) (D f : Nat) (hD : D ≤ 60) (H : D + 1 ≤ 60 → pl_sp T (fun _ F O => pl_sm T f F O) (fun σ => rc σ (nI (D + 1))) (fun τ => rcX τ (nI (D + 1)))) (Hs : pl_sp T (fun _ F O => pl_sm T f F O) (fun σ => prf_R_readSum rc σ (nI (D + 1))) (fun τ => prf_X_sum rcX τ (nI (D + 1)))) : pl_sp T (fun _ F O => pl_sm T (f + 1) F O) (fun σ => prf_R_readFactor rc σ (nI D)) (fun τ => prf_X_factor rcX τ (nI D)) := by
  intro a q d σ τ g hq hd
  by_cases k2 : pl_xK T a = 2
  · exact pl_facName g hq hd k2 rc rcX D f Hs
  by_cases k3 : pl_xK T a = 3
  · exact pl_facNum g hq hd k3 rc rcX (nI D) f
  by_cases k11 : pl_xK T a = 11
  · exact pl_facAny g hq hd k11 rc rcX (nI D) f
  by_cases k12 : pl_xK T a = 12
  · exact pl_facPar g hq hd k12 rc rcX D f Hs
  by_cases k22 : pl_xK T a = 22
  · exact pl_facNeg g hq hd k22 rc rcX D f hD H
  exact pl_facNo g hd k2 k3 k11 k12 k22 rc rcX (nI D) _
