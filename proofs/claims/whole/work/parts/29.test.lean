/-! THE PARSER: TESTs, and the recursion of CONDs -/
theorem pl_need1 {τ : pr_St} : prf_X_need τ 1 = some τ := rfl
/-- a TEST behind ! -/
theorem pl_testNot {T : pl_Tx} {a q d : Nat} {σ τ : pr_St} (g : pl_gd T a q d σ τ) (hq : q ≤ a) (hd : d ≤ 2 * a) (hk : pl_xK T a = 34) (rc : pr_St → Int32 → Option (Int32 × pr_St)) (rcX : Nat → pr_St → Int32 → Int32 → Option (Int32 × pr_St)) (D f : Nat) (hD : D ≤ 60) (H : D + 1 ≤ 60 → pl_sp T (fun q F O => pl_cd T f q F O) (fun σ => rc σ (nI (D + 1))) (fun τ => rcX 0 τ (nI (D + 1)) 0)) : pl_ph T (fun q F O => pl_cd T (f + 1) q F O) a q d σ τ (prf_R_readTest rc σ (nI D)) (prf_X_test rcX τ (nI D)) := by
  have h8 := pl_gd8 g
  obtain ⟨τ1, e1, g1, fx1, t1⟩ := pl_draftG g (by omega) 26 a 0
  obtain ⟨σ2, τ2, c2, c2', x2, g2, fc2, fx2, s2, r2⟩ := pl_takeA g1 hk (by decide)
  have t2 := t1.fx (fx2 (d + 1)) (Nat.le_refl _)
  have eC0 : prf_R_readTest rc σ (nI D) = if 60 ≤ nI D then some (0, σ2) else (rc σ2 (nI (D + 1))).bind fun r38 => if r38.1 = 0 then some (0, r38.2) else (prf_G_addOperation r38.2 34 (-1)).bind fun r40 => some (1, r40) := by
    have c2'' : prf_R_take σ 34 = some (1, σ2) := c2
    unfold prf_R_readTest
    rw [c2'', pl_sb, if_neg (show ¬ ((1 : Int32), σ2).1 = 0 from pl_10), nI_1]
  have eX0 : prf_X_test rcX τ (nI D) = (prf_X_deep τ2 (nI (D + 1))).bind fun r284 => if (r284.1 0 9) = 0 then (rcX 0 r284 (nI (D + 1)) 0).bind fun r286 => (prf_X_join r286.2 (nI d) r286.1).bind fun r287 => some (nI d, r287) else (prf_X_join r284 (nI d) (-1)).bind fun r288 => some (nI d, r288) := by
    have e1' : prf_X_draft τ 26 (nI (pl_xP T a)) 0 = some (nI d, τ1) := e1
    have x2' : prf_X_take τ1 33 = some τ2 := x2
    unfold prf_X_test
    rw [pl_lookG g, pl_sb, hk, if_pos (show nI (pl_km 34) = 33 from rfl), (pl_placeG g).1, (pl_placeG (α := Nat) (k := none) g).2, e1', pl_sb, x2', pl_sb, nI_1]
  by_cases hD1 : D + 1 ≤ 60
  · obtain ⟨a', σ', τ', hle, fc', fx', hr⟩ := H hD1 (a + 1) q (d + 1) σ2 τ2 g2 (by omega) (by omega)
    have fcA : pl_fc q σ σ' := (fc2 q).tr fc' (Nat.le_refl _)
    have fxA : pl_fx d τ τ' := (fx1.tr (fx2 d) (Nat.le_refl _)).tr fx' (by omega)
    have t3 := t2.fx fx' (Nat.le_refl _)
    rw [if_neg (show ¬ (60 : Int32) ≤ nI D from nI_ge (b := 60) (by omega) (by omega))] at eC0
    rw [pl_deepY hD1, pl_sb, if_pos g2.2.2.2.1] at eX0
    rcases hr with ⟨y, d', G, Q, hC, hX, g6, hO, hD', tr6, ops6, cm6, sm6⟩ | ⟨hC, v, hX, b6, vi6⟩
    · have h86 := pl_gd8 g6
      have iv6 := tr6.iv
      have hC' : rc σ2 (nI (D + 1)) = some (1, σ') := hC
      have hX' : rcX 0 τ2 (nI (D + 1)) 0 = some (nI y, τ') := hX
      obtain ⟨τ7, e7, g7, fx7, t7⟩ := pl_joinG (l := d) (h := d') g6 t3 tr6 (by omega) (Or.inl (Nat.le_refl _)) (by omega) (by omega) (by omega) (by omega)
      obtain ⟨σ9, e9, g9, fc9, o9, at9⟩ := pl_addG g7 (by omega) (o := 34) (by decide) (-1)
      have eC : prf_R_readTest rc σ (nI D) = some (1, σ9) := by
        have e9' : prf_G_addOperation σ' 34 (-1) = some σ9 := e9
        rw [eC0, hC', pl_sb, if_neg (show ¬ ((1 : Int32), σ').1 = 0 from pl_10), e9', pl_sb]
      have eX : prf_X_test rcX τ (nI D) = some (nI d, τ7) := by
        rw [eX0, hX', pl_sb, e7, pl_sb]
      have eF : ((26, a, (0 : Int32), 1 + (pl_cat ([] ++ [(y, G)])).length) :: pl_cat ([] ++ [(y, G)]) : List pl_N) = (26, a, 0, 1 + G.length) :: G := by
        simp [pl_cat]
      have t9 : pl_tr τ7 (pl_xP T) d d' d ((26, a, 0, 1 + G.length) :: G) := by rw [← eF]; exact t7.tr
      refine ⟨a', σ9, τ7, by omega, fcA.tr fc9 (by omega), fxA.tr fx7 (Nat.le_refl _), Or.inl ⟨d, d', _, Q ++ [(34, -1)], eC, eX, ?_, by simp <;> omega, by omega, t9, pl_ops_app Q _ q (pl_ops_eq fc9.2 _ _ (Nat.le_refl _) ops6) o9, ?_, Or.inr (Or.inl ⟨a, G, Q, rfl, rfl, sm6⟩)⟩⟩
      · rw [List.length_append]; exact g9
      · exact pl_cm_hd (pl_cm_pre cm6 (by rw [hk]; exact ⟨by decide, by decide, by decide, by decide⟩)) (by simp) (by simp) (by simp)
    · have hC' : rc σ2 (nI (D + 1)) = some (0, σ') := hC
      have hX' : rcX 0 τ2 (nI (D + 1)) 0 = some (v, τ') := hX
      obtain ⟨τ7, e7, b7, fx7, j7⟩ := pl_joinW (d0 := d) b6 (t3.jb (Nat.le_refl _) (by omega)) (vi6.le (by omega))
      have eC : prf_R_readTest rc σ (nI D) = some (0, σ') := by rw [eC0, hC', pl_sb, if_pos rfl]
      have eX : prf_X_test rcX τ (nI D) = some (nI d, τ7) := by rw [eX0, hX', pl_sb, e7, pl_sb]
      exact ⟨a', σ', τ7, by omega, fcA, fxA.tr fx7 (Nat.le_refl _), Or.inr ⟨eC, nI d, eX, b7.le (by omega) (Nat.le_refl _), pl_vi1 (Nat.le_refl _) (by omega)⟩⟩
  · obtain ⟨τ3, x3, b3, fx3⟩ := pl_deepN g2 (D := D + 1) (by omega) (by omega)
    rw [if_pos (show (60 : Int32) ≤ nI D from nI_le (a := 60) (by omega) (by omega))] at eC0
    have b3' := b3 d 3 (by omega) (by omega)
    rw [x3, pl_sb, if_neg (pl_nbW b3'), pl_join0, pl_sb] at eX0
    exact ⟨a + 1, σ2, τ3, by omega, fc2 q, (fx1.tr (fx2 d) (Nat.le_refl _)).tr (fx3 d) (Nat.le_refl _), Or.inr ⟨eC0, nI d, eX0, b3', pl_vi1 (Nat.le_refl _) (by omega)⟩⟩
/-- a COND in [ ] -/
theorem pl_testPar {T : pl_Tx} {a q d : Nat} {σ τ : pr_St} (g : pl_gd T a q d σ τ) (hq : q ≤ a) (hd : d ≤ 2 * a) (hk : pl_xK T a = 16) (rc : pr_St → Int32 → Option (Int32 × pr_St)) (rcX : Nat → pr_St → Int32 → Int32 → Option (Int32 × pr_St)) (D f : Nat) (Hc : pl_sp T (fun q F O => pl_cd T f q F O) (fun σ => prf_R_readCond rc σ (nI (D + 1))) (fun τ => prf_X_cond rcX τ (nI (D + 1)))) : pl_ph T (fun q F O => pl_cd T f q F O) a q d σ τ (prf_R_readTest rc σ (nI D)) (prf_X_test rcX τ (nI D)) := by
  have h8 := pl_gd8 g
  obtain ⟨σ2, τ2, c2, c2', x2, g2, fc2, fx2, s2, r2⟩ := pl_takeA g hk (by decide)
  have eC0 : prf_R_readTest rc σ (nI D) = (prf_R_readCond rc σ2 (nI (D + 1))).bind fun r33 => if r33.1 = 0 then some (0, r33.2) else (prf_R_take r33.2 17).bind fun r35 => if r35.1 = 0 then some (0, r35.2) else some (1, r35.2) := by
    have c0 : prf_R_take σ 34 = some (0, σ) := (pl_takeZ g (k := 34) (by decide) (by omega)).1
    have c2'' : prf_R_take σ 16 = some (1, σ2) := c2
    unfold prf_R_readTest
    rw [c0, pl_sb, if_pos rfl, c2'', pl_sb, if_neg (show ¬ ((1 : Int32), σ2).1 = 0 from pl_10), nI_1]
  have eX0 : prf_X_test rcX τ (nI D) = (prf_X_cond rcX τ2 (nI (D + 1))).bind fun r278 => (prf_X_take r278.2 93).bind fun r279 => some (r278.1, r279) := by
    have x2' : prf_X_take τ 91 = some τ2 := x2
    unfold prf_X_test
    rw [pl_lookG g, pl_sb, hk, if_neg (show ¬ nI (pl_km 16) = 33 by decide), pl_sb, if_pos (show nI (pl_km 16) = 91 from rfl), x2', pl_sb, if_pos g2.2.2.2.1, nI_1]
  obtain ⟨a', σ', τ', hle, fc', fx', hr⟩ := Hc (a + 1) q d σ2 τ2 g2 (by omega) (by omega)
  have fcA : pl_fc q σ σ' := (fc2 q).tr fc' (Nat.le_refl _)
  have fxA : pl_fx d τ τ' := (fx2 d).tr fx' (Nat.le_refl _)
  rcases hr with ⟨y, d', G, Q, hC, hX, g6, hO, hD', tr6, ops6, cm6, sm6⟩ | ⟨hC, v, hX, b6, vi6⟩
  · have h86 := pl_gd8 g6
    have iv6 := tr6.iv
    have hC' : prf_R_readCond rc σ2 (nI (D + 1)) = some (1, σ') := hC
    have hX' : prf_X_cond rcX τ2 (nI (D + 1)) = some (nI y, τ') := hX
    by_cases k17 : pl_xK T a' = 17
    · obtain ⟨σ8, τ8, c8, c8', x8, g8, fc8, fx8, s8, r8⟩ := pl_takeA g6 k17 (by decide)
      have eC : prf_R_readTest rc σ (nI D) = some (1, σ8) := by
        have c8' : prf_R_take σ' 17 = some (1, σ8) := c8
        rw [eC0, hC', pl_sb, if_neg (show ¬ ((1 : Int32), σ').1 = 0 from pl_10), c8', pl_sb, if_neg (show ¬ ((1 : Int32), σ8).1 = 0 from pl_10)]
      have eX : prf_X_test rcX τ (nI D) = some (nI y, τ8) := by
        have x8' : prf_X_take τ' 93 = some τ8 := x8
        rw [eX0, hX', pl_sb, x8', pl_sb]
      refine ⟨a' + 1, σ8, τ8, by omega, fcA.tr (fc8 q) (Nat.le_refl _), fxA.tr (fx8 d) (Nat.le_refl _), Or.inl ⟨y, d', G, Q, eC, eX, g8, by omega, by omega, tr6.fx (fx8 d') (Nat.le_refl _), pl_ops_eq (fc8 (q + Q.length)).2 _ _ (Nat.le_refl _) ops6, ?_, sm6⟩⟩
      exact pl_cm_suf (pl_cm_pre cm6 (by rw [hk]; exact ⟨by decide, by decide, by decide, by decide⟩)) (by rw [k17]; exact ⟨by decide, by decide, by decide, by decide⟩) (by omega)
    · obtain ⟨c8, τ8, x8, b8, fx8⟩ := pl_takeZ g6 (k := 17) (by decide) k17
      have eC : prf_R_readTest rc σ (nI D) = some (0, σ') := by
        have c8' : prf_R_take σ' 17 = some (0, σ') := c8
        rw [eC0, hC', pl_sb, if_neg (show ¬ ((1 : Int32), σ').1 = 0 from pl_10), c8', pl_sb, if_pos rfl]
      have eX : prf_X_test rcX τ (nI D) = some (nI y, τ8) := by
        have x8' : prf_X_take τ' 93 = some τ8 := x8
        rw [eX0, hX', pl_sb, x8', pl_sb]
      exact ⟨a', σ', τ8, by omega, fcA, fxA.tr (fx8 d) (Nat.le_refl _), Or.inr ⟨eC, nI y, eX, b8 d 3 (by omega) (by omega), pl_vi1 (by omega) (by omega)⟩⟩
  · have hC' : prf_R_readCond rc σ2 (nI (D + 1)) = some (0, σ') := hC
    have hX' : prf_X_cond rcX τ2 (nI (D + 1)) = some (v, τ') := hX
    have eC : prf_R_readTest rc σ (nI D) = some (0, σ') := by rw [eC0, hC', pl_sb, if_pos rfl]
    have eX : prf_X_test rcX τ (nI D) = some (v, τ') := by rw [eX0, hX', pl_sb, pl_takeW b6, pl_sb]
    exact ⟨a', σ', τ', by omega, fcA, fxA, Or.inr ⟨eC, v, eX, b6, vi6⟩⟩
/-- two SUMs with a relation between them -/
theorem pl_testRel {T : pl_Tx} {a q d : Nat} {σ τ : pr_St} (g : pl_gd T a q d σ τ) (hq : q ≤ a) (hd : d ≤ 2 * a) (k34 : ¬ pl_xK T a = 34) (k16 : ¬ pl_xK T a = 16) (rc : pr_St → Int32 → Option (Int32 × pr_St)) (rcX : Nat → pr_St → Int32 → Int32 → Option (Int32 × pr_St)) (D f : Nat) (Hs : pl_sp T (fun _ F O => pl_sm T f F O) (fun σ => prf_R_readSum (prF_R_readFactor 70) σ (nI (D + 1))) (fun τ => prf_X_sum (prF_X_factor 70) τ (nI (D + 1)))) : pl_ph T (fun q F O => pl_cd T (f + 1) q F O) a q d σ τ (prf_R_readTest rc σ (nI D)) (prf_X_test rcX τ (nI D)) := by
  have h8 := pl_gd8 g
  have eC0 : prf_R_readTest rc σ (nI D) = (prf_R_readSum (prF_R_readFactor 70) σ (nI (D + 1))).bind fun r25 => if r25.1 = 0 then some (0, r25.2) else (prf_R_now r25.2).bind fun r27 => if r27 < 26 then some (0, r25.2) else if r27 ≤ 31 then (prf_R_readSum (prF_R_readFactor 70) (pr_sI r25.2 3 2 ((r25.2.1 3 2) + 1)) (nI (D + 1))).bind fun r30 => if r30.1 = 0 then some (0, r30.2) else (prf_G_addOperation r30.2 r27 (-1)).bind fun r32 => some (1, r32) else some (0, r25.2) := by
    have c0 : prf_R_take σ 34 = some (0, σ) := (pl_takeZ g (k := 34) (by decide) k34).1
    have c1 : prf_R_take σ 16 = some (0, σ) := (pl_takeZ g (k := 16) (by decide) k16).1
    unfold prf_R_readTest
    rw [c0, pl_sb, if_pos rfl, c1, pl_sb, if_pos rfl, nI_1]
  obtain ⟨a1, σ1, τ1, hle, fc1, fx1, hr⟩ := Hs a q d σ τ g hq hd
  rcases hr with ⟨y, d1, G, Q, hC, hX, g1, hO, hD1, tr1, ops1, cm1, sm1⟩ | ⟨hC, v, hX, b1, vi1⟩
  · have h81 := pl_gd8 g1
    have iv1 := tr1.iv
    have hC' : prf_R_readSum (prF_R_readFactor 70) σ (nI (D + 1)) = some (1, σ1) := hC
    have hX' : prf_X_sum (prF_X_factor 70) τ (nI (D + 1)) = some (nI y, τ1) := hX
    rw [hC', pl_sb, if_neg (show ¬ ((1 : Int32), σ1).1 = 0 from pl_10), pl_nowG g1, pl_sb] at eC0
    by_cases hrel : 26 ≤ pl_xK T a1 ∧ pl_xK T a1 ≤ 31
    · obtain ⟨k, hk⟩ : ∃ k, pl_xK T a1 = k := ⟨_, rfl⟩
      rw [hk] at hrel
      obtain ⟨t, htp⟩ := pl_tr_place tr1
      obtain ⟨τ2, e2, g2, fx2, t2⟩ := pl_draftG g1 (by omega) (k + 1) t 0
      obtain ⟨σ3, τ3, c3, c3', x3, g3, fc3, fx3, s3, r3⟩ := pl_takeA g2 hk (by omega)
      have t3 := t2.fx (fx3 (d1 + 1)) (Nat.le_refl _)
      have tr3 := (tr1.fx fx2 (Nat.le_refl _)).fx (fx3 d1) (Nat.le_refl _)
      obtain ⟨τ4, e4, g4, fx4, t4⟩ := pl_joinG (l := d) (h := d1 + 1) g3 t3 tr3 (by omega) (Or.inr (Nat.le_refl _)) (by omega) (by omega) (by omega) (by omega)
      have eX0 : prf_X_test rcX τ (nI D) = (prf_X_sum (prF_X_factor 70) τ4 (nI (D + 1))).bind fun r274 => (prf_X_join r274.2 (nI d1) r274.1).bind fun r275 => some (nI d1, r275) := by
        have hk' : k = 26 ∨ k = 27 ∨ k = 28 ∨ k = 29 ∨ k = 30 ∨ k = 31 := by omega
        unfold prf_X_test
        rw [pl_lookG g, pl_sb, if_neg (pl_kn (pl_gdK g) (j := 34) (v := 33) (by decide) rfl k34), pl_sb, if_neg (pl_kn (pl_gdK g) (j := 16) (v := 91) (by decide) rfl k16), nI_1, hX', pl_sb, pl_lookG g1, pl_sb, hk]
        rcases hk' with rfl | rfl | rfl | rfl | rfl | rfl
        · have e2' : prf_X_draft τ1 27 (nI (pl_xP T t)) 0 = some (nI d1, τ2) := e2
          rw [if_pos (show nI (pl_km 26) = 60 from rfl), if_neg (show ¬ (27 : Int32) ≤ 0 by decide), pl_need1, pl_sb, if_pos g1.2.2.2.1, pl_ck (show y < 26000 by omega) (by omega), nI_clamp (by omega), htp, e2', pl_sb, x3, pl_sb, e4, pl_sb]
        · have e2' : prf_X_draft τ1 28 (nI (pl_xP T t)) 0 = some (nI d1, τ2) := e2
          rw [if_neg (show ¬ nI (pl_km 27) = 60 by decide), if_pos (show nI (pl_km 27) = 256 from rfl), if_neg (show ¬ (28 : Int32) ≤ 0 by decide), pl_need1, pl_sb, if_pos g1.2.2.2.1, pl_ck (show y < 26000 by omega) (by omega), nI_clamp (by omega), htp, e2', pl_sb, x3, pl_sb, e4, pl_sb]
        · have e2' : prf_X_draft τ1 29 (nI (pl_xP T t)) 0 = some (nI d1, τ2) := e2
          rw [if_neg (show ¬ nI (pl_km 28) = 60 by decide), if_neg (show ¬ nI (pl_km 28) = 256 by decide), if_pos (show nI (pl_km 28) = 62 from rfl), if_neg (show ¬ (29 : Int32) ≤ 0 by decide), pl_need1, pl_sb, if_pos g1.2.2.2.1, pl_ck (show y < 26000 by omega) (by omega), nI_clamp (by omega), htp, e2', pl_sb, x3, pl_sb, e4, pl_sb]
        · have e2' : prf_X_draft τ1 30 (nI (pl_xP T t)) 0 = some (nI d1, τ2) := e2
          rw [if_neg (show ¬ nI (pl_km 29) = 60 by decide), if_neg (show ¬ nI (pl_km 29) = 256 by decide), if_neg (show ¬ nI (pl_km 29) = 62 by decide), if_pos (show nI (pl_km 29) = 257 from rfl), if_neg (show ¬ (30 : Int32) ≤ 0 by decide), pl_need1, pl_sb, if_pos g1.2.2.2.1, pl_ck (show y < 26000 by omega) (by omega), nI_clamp (by omega), htp, e2', pl_sb, x3, pl_sb, e4, pl_sb]
        · have e2' : prf_X_draft τ1 31 (nI (pl_xP T t)) 0 = some (nI d1, τ2) := e2
          rw [if_neg (show ¬ nI (pl_km 30) = 60 by decide), if_neg (show ¬ nI (pl_km 30) = 256 by decide), if_neg (show ¬ nI (pl_km 30) = 62 by decide), if_neg (show ¬ nI (pl_km 30) = 257 by decide), if_pos (show nI (pl_km 30) = 258 from rfl), if_neg (show ¬ (31 : Int32) ≤ 0 by decide), pl_need1, pl_sb, if_pos g1.2.2.2.1, pl_ck (show y < 26000 by omega) (by omega), nI_clamp (by omega), htp, e2', pl_sb, x3, pl_sb, e4, pl_sb]
        · have e2' : prf_X_draft τ1 32 (nI (pl_xP T t)) 0 = some (nI d1, τ2) := e2
          rw [if_neg (show ¬ nI (pl_km 31) = 60 by decide), if_neg (show ¬ nI (pl_km 31) = 256 by decide), if_neg (show ¬ nI (pl_km 31) = 62 by decide), if_neg (show ¬ nI (pl_km 31) = 257 by decide), if_neg (show ¬ nI (pl_km 31) = 258 by decide), if_pos (show nI (pl_km 31) = 259 from rfl), if_neg (show ¬ (32 : Int32) ≤ 0 by decide), pl_need1, pl_sb, if_pos g1.2.2.2.1, pl_ck (show y < 26000 by omega) (by omega), nI_clamp (by omega), htp, e2', pl_sb, x3, pl_sb, e4, pl_sb]
      rw [hk, if_neg (show ¬ nI k < 26 from nI_nlt (b := 26) hrel.1 (by omega)), if_pos (show nI k ≤ 31 from nI_le (b := 31) hrel.2 (by omega)), c3'] at eC0
      obtain ⟨a5, σ5, τ5, hle5, fc5, fx5, hr5⟩ := Hs (a1 + 1) (q + Q.length) (d1 + 1) σ3 τ4 g4 (by omega) (by omega)
      have fcA : pl_fc q σ σ5 := (fc1.tr (fc3 q) (Nat.le_refl _)).tr fc5 (by omega)
      have fxA : pl_fx d τ τ5 := (((fx1.tr fx2 (by omega)).tr (fx3 d) (Nat.le_refl _)).tr fx4 (by omega)).tr fx5 (by omega)
      have t5 := t4.fx fx5 (Nat.le_refl _)
      rcases hr5 with ⟨y5, d5, G5, Q5, hC5, hX5, g5, hO5, hD5, tr5, ops5, cm5, sm5⟩ | ⟨hC5, v5, hX5, b5, vi5⟩
      · have h85 := pl_gd8 g5
        have iv5 := tr5.iv
        have hC5' : prf_R_readSum (prF_R_readFactor 70) σ3 (nI (D + 1)) = some (1, σ5) := hC5
        have hX5' : prf_X_sum (prF_X_factor 70) τ4 (nI (D + 1)) = some (nI y5, τ5) := hX5
        obtain ⟨τ6, e6, g6, fx6, t6⟩ := pl_joinG (l := d) (h := d5) g5 t5 tr5 (by omega) (Or.inl (Nat.le_refl _)) (by omega) (by omega) (by omega) (by omega)
        obtain ⟨σ7, e7, g7, fc7, o7, at7⟩ := pl_addG g6 (by omega) (o := k) (by omega) (-1)
        rw [hC5', pl_sb, if_neg (show ¬ ((1 : Int32), σ5).1 = 0 from pl_10), e7, pl_sb] at eC0
        rw [hX5', pl_sb, e6, pl_sb] at eX0
        have eF : ((k + 1, t, (0 : Int32), 1 + (pl_cat ([] ++ [(y, G)] ++ [(y5, G5)])).length) :: pl_cat ([] ++ [(y, G)] ++ [(y5, G5)]) : List pl_N) = (k + 1, t, 0, 1 + (G ++ G5).length) :: (G ++ G5) := by
          simp [pl_cat]
        have t9 : pl_tr τ6 (pl_xP T) d d5 d1 ((k + 1, t, 0, 1 + (G ++ G5).length) :: (G ++ G5)) := by rw [← eF]; exact t6.tr
        have eL : q + ((Q ++ Q5) ++ [(k, (-1 : Int32))]).length = q + Q.length + Q5.length + 1 := by simp <;> omega
        refine ⟨a5, σ7, τ6, by omega, fcA.tr fc7 (by omega), fxA.tr fx6 (Nat.le_refl _), Or.inl ⟨d1, d5, _, (Q ++ Q5) ++ [(k, -1)], eC0, eX0, by rw [eL]; exact g7, by simp <;> omega, by omega, t9, ?_, ?_, Or.inl ⟨k + 1, t, G, G5, Q, Q5, by omega, rfl, rfl, sm1, sm5⟩⟩⟩
        · have o1' : pl_ops σ7 q Q := pl_ops_eq (((fc3 (q + Q.length)).tr fc5 (Nat.le_refl _)).tr fc7 (by omega)).2 _ _ (Nat.le_refl _) ops1
          have o5' : pl_ops σ7 (q + Q.length) Q5 := pl_ops_eq fc7.2 _ _ (Nat.le_refl _) ops5
          exact pl_ops_app _ _ q (pl_ops_app _ _ q o1' o5') (by rw [List.length_append, ← Nat.add_assoc]; exact o7)
        · have pk : pl_pn k := ⟨by omega, by omega, by omega, by omega⟩
          refine pl_cm_hd (pl_cm_app (pl_cm_suf cm1 (by rw [hk]; exact pk) (by omega)) cm5 (fun t2 ht2 hk2 => ?_)) (by show ¬ k + 1 = 13; omega) (by show ¬ k + 1 = 14; omega) (by show ¬ k + 1 = 16; omega)
          have : t2 = a1 := by omega
          subst this
          omega
      · have hC5' : prf_R_readSum (prF_R_readFactor 70) σ3 (nI (D + 1)) = some (0, σ5) := hC5
        have hX5' : prf_X_sum (prF_X_factor 70) τ4 (nI (D + 1)) = some (v5, τ5) := hX5
        obtain ⟨τ6, e6, b6, fx6, j6⟩ := pl_joinW (d0 := d) b5 (t5.jb (Nat.le_refl _) (by omega)) (vi5.le (by omega))
        rw [hC5', pl_sb, if_pos rfl] at eC0
        rw [hX5', pl_sb, e6, pl_sb] at eX0
        exact ⟨a5, σ5, τ6, by omega, fcA, fxA.tr fx6 (Nat.le_refl _), Or.inr ⟨eC0, nI d1, eX0, b6.le (by omega) (Nat.le_refl _), pl_vi1 (by omega) (by omega)⟩⟩
    · have hK1 := pl_gdK g1
      have eC : prf_R_readTest rc σ (nI D) = some (0, σ1) := by
        rw [eC0]
        by_cases q26 : nI (pl_xK T a1) < 26
        · rw [if_pos q26]
        · rw [if_neg q26]
          by_cases q31 : nI (pl_xK T a1) ≤ 31
          · exfalso
            refine hrel ⟨?_, ?_⟩
            · by_cases z : 26 ≤ pl_xK T a1
              · exact z
              · exact absurd (show nI (pl_xK T a1) < 26 from nI_lt (b := 26) (by omega) (by omega)) q26
            · by_cases z : pl_xK T a1 ≤ 31
              · exact z
              · exact absurd q31 (show ¬ nI (pl_xK T a1) ≤ 31 from nI_ge (a := 31) (by omega) (by omega))
          · rw [if_neg q31]
      have ne : ∀ j, j < 35 → (26 ≤ j ∧ j ≤ 31) → ¬ pl_xK T a1 = j := fun j _ hj q => hrel (by rw [q]; exact hj)
      obtain ⟨τ2, x2, b2, fx2⟩ : ∃ τ2, prf_X_need τ1 0 = some τ2 ∧ pl_bd T a1 d 3 σ1 τ2 ∧ pl_fx d τ1 τ2 := by
        obtain ⟨τ2, y2, b2, fx2⟩ := pl_deepN g1 (D := 61) (by decide) (by decide)
        refine ⟨τ2, ?_, b2 d 3 (by omega) (by omega), fx2 d⟩
        unfold prf_X_deep at y2
        rw [if_pos (show (60 : Int32) < nI 61 by decide)] at y2
        cases hn : prf_X_need τ1 0 with
        | none => rw [hn] at y2; cases y2
        | some z => rw [hn] at y2; exact y2
      have eX : prf_X_test rcX τ (nI D) = some (-1, τ2) := by
        unfold prf_X_test
        rw [pl_lookG g, pl_sb, if_neg (pl_kn (pl_gdK g) (j := 34) (v := 33) (by decide) rfl k34), pl_sb, if_neg (pl_kn (pl_gdK g) (j := 16) (v := 91) (by decide) rfl k16), nI_1, hX', pl_sb, pl_lookG g1, pl_sb, if_neg (pl_kn hK1 (j := 26) (v := 60) (by decide) rfl (ne 26 (by decide) (by decide))), if_neg (pl_kn hK1 (j := 27) (v := 256) (by decide) rfl (ne 27 (by decide) (by decide))), if_neg (pl_kn hK1 (j := 28) (v := 62) (by decide) rfl (ne 28 (by decide) (by decide))), if_neg (pl_kn hK1 (j := 29) (v := 257) (by decide) rfl (ne 29 (by decide) (by decide))), if_neg (pl_kn hK1 (j := 30) (v := 258) (by decide) rfl (ne 30 (by decide) (by decide))), if_neg (pl_kn hK1 (j := 31) (v := 259) (by decide) rfl (ne 31 (by decide) (by decide))), if_pos (show (0 : Int32) ≤ 0 by decide), x2, pl_sb, if_neg (pl_nbW b2)]
      exact ⟨a1, σ1, τ2, hle, fc1, fx1.tr fx2 (Nat.le_refl _), Or.inr ⟨eC, -1, eX, b2, pl_vi0⟩⟩
  · have hC' : prf_R_readSum (prF_R_readFactor 70) σ (nI (D + 1)) = some (0, σ1) := hC
    have hX' : prf_X_sum (prF_X_factor 70) τ (nI (D + 1)) = some (v, τ1) := hX
    rw [hC', pl_sb, if_pos rfl] at eC0
    have eX : prf_X_test rcX τ (nI D) = some (-1, τ1) := by
      unfold prf_X_test
      rw [pl_lookG g, pl_sb, if_neg (pl_kn (pl_gdK g) (j := 34) (v := 33) (by decide) rfl k34), pl_sb, if_neg (pl_kn (pl_gdK g) (j := 16) (v := 91) (by decide) rfl k16), nI_1, hX', pl_sb, pl_lookW b1, pl_sb, if_neg (show ¬ (1 : Int32) = 60 by decide), if_neg (show ¬ (1 : Int32) = 256 by decide), if_neg (show ¬ (1 : Int32) = 62 by decide), if_neg (show ¬ (1 : Int32) = 257 by decide), if_neg (show ¬ (1 : Int32) = 258 by decide), if_neg (show ¬ (1 : Int32) = 259 by decide), if_pos (show (0 : Int32) ≤ 0 by decide), pl_needBad b1.2.2.2.1, pl_sb, if_neg (pl_nbW b1)]
    exact ⟨a1, σ1, τ1, hle, fc1, fx1, Or.inr ⟨eC0, -1, eX, b1, pl_vi0⟩⟩
/-- a TEST -/
theorem pl_test {T : pl_Tx} (rc : pr_St → Int32 → Option (Int32 × pr_St)) (rcX : Nat → pr_St → Int32 → Int32 → Option (Int32 × pr_St)) (D f : Nat) (hD : D ≤ 60) (H : D + 1 ≤ 60 → pl_sp T (fun q F O => pl_cd T f q F O) (fun σ => rc σ (nI (D + 1))) (fun τ => rcX 0 τ (nI (D + 1)) 0)) (Hc : pl_sp T (fun q F O => pl_cd T (f + 1) q F O) (fun σ => prf_R_readCond rc σ (nI (D + 1))) (fun τ => prf_X_cond rcX τ (nI (D + 1)))) (Hs : pl_sp T (fun _ F O => pl_sm T f F O) (fun σ => prf_R_readSum (prF_R_readFactor 70) σ (nI (D + 1))) (fun τ => prf_X_sum (prF_X_factor 70) τ (nI (D + 1)))) : pl_sp T (fun q F O => pl_cd T (f + 1) q F O) (fun σ => prf_R_readTest rc σ (nI D)) (fun τ => prf_X_test rcX τ (nI D)) := by
  intro a q d σ τ g hq hd
  by_cases k34 : pl_xK T a = 34
  · exact pl_testNot g hq hd k34 rc rcX D f hD H
  by_cases k16 : pl_xK T a = 16
  · exact pl_testPar g hq hd k16 rc rcX D (f + 1) Hc
  exact pl_testRel g hq hd k34 k16 rc rcX D f Hs
/-- the recursion is tied -/
theorem pl_testN {T : pl_Tx} : ∀ (m D h hx : Nat), D + m = 60 → m < h → 3 * m < hx → pl_sp T (fun q F O => pl_cd T (3 * m + 3) q F O) (fun σ => prF_R_readTest h σ (nI D)) (fun τ => prF_X_test hx 0 τ (nI D) 0) := by
  intro m
  induction m with
  | zero =>
    intro D h hx hD hh hhx
    obtain ⟨h, rfl⟩ : ∃ z, h = z + 1 := ⟨h - 1, by omega⟩
    obtain ⟨hx, rfl⟩ : ∃ z, hx = z + 1 := ⟨hx - 1, by omega⟩
    refine pl_test (prF_R_readTest h) (prF_X_test hx) D 2 (by omega) (fun q => absurd q (by omega)) ?_ ?_
    · intro a q d σ τ g hq hd
      obtain ⟨τ1, x1, b1, fx1⟩ := pl_deepN g (D := D + 1) (by omega) (by omega)
      have b1' := b1 d 3 (Nat.le_refl _) (by omega)
      have eC : prf_R_readCond (prF_R_readTest h) σ (nI (D + 1)) = some (0, σ) := by
        unfold prf_R_readCond
        rw [if_pos (show (60 : Int32) < nI (D + 1) from nI_lt (a := 60) (by omega) (by omega))]
      have eX : prf_X_cond (prF_X_test hx) τ (nI (D + 1)) = some (-1, τ1) := by
        unfold prf_X_cond
        rw [x1, pl_sb, if_neg (pl_nbW b1')]
      exact ⟨a, σ, τ1, Nat.le_refl _, pl_fc.rf, fx1 d, Or.inr ⟨eC, -1, eX, b1', pl_vi0⟩⟩
    · exact pl_sp_mono (pl_sumN (D + 1) (by omega) (by omega)) (fun _ F O h => pl_sm_ff h (by omega))
  | succ m ih =>
    intro D h hx hD hh hhx
    obtain ⟨h, rfl⟩ : ∃ z, h = z + 1 := ⟨h - 1, by omega⟩
    obtain ⟨hx, rfl⟩ : ∃ z, hx = z + 1 + 1 + 1 + 1 := ⟨hx - 4, by omega⟩
    have I1 := ih (D + 1) h (hx + 1 + 1 + 1) (by omega) (by omega) (by omega)
    have I3 := ih (D + 1) h (hx + 1) (by omega) (by omega) (by omega)
    refine pl_test (prF_R_readTest h) (prF_X_test (hx + 1 + 1 + 1)) D (3 * m + 5) (by omega) (fun _ => pl_sp_mono I1 (fun _ F O h => pl_cd_ff h (by omega))) ?_ ?_
    · exact pl_sp_mono (pl_cond (prF_R_readTest h) (prF_X_test (hx + 1 + 1 + 1)) (prF_X_test (hx + 1 + 1)) (prF_X_test (hx + 1)) (D + 1) (3 * m + 3) (by omega) (fun _ _ _ => rfl) (fun _ _ _ => rfl) (fun _ => I3)) (fun _ F O h => pl_cd_ff h (by omega))
    · exact pl_sp_mono (pl_sumN (D + 1) (by omega) (by omega)) (fun _ F O h => pl_sm_ff h (by omega))
/-- a COND as the statements ask for it -/
theorem pl_condN {T : pl_Tx} (D : Nat) (h1 : 1 ≤ D) (hD : D < 1000) : pl_sp T (fun q F O => pl_cd T 188 q F O) (fun σ => prf_R_readCond (prF_R_readTest 70) σ (nI D)) (fun τ => prf_X_cond (prF_X_test 200) τ (nI D)) := by
  have e : ∀ n τ x y, prF_X_test (n + 1) 1 τ x y = prf_X_tests (prF_X_test n) τ x y := fun _ _ _ _ => rfl
  exact pl_sp_mono (pl_cond (prF_R_readTest 70) (prF_X_test 200) (prF_X_test 199) (prF_X_test 198) D (3 * (60 - D) + 3) hD (e 199) (e 198) (fun h => pl_testN (60 - D) D 70 198 (by omega) (by omega) (by omega))) (fun _ F O h => pl_cd_ff h (by omega))
