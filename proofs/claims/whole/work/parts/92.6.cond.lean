/-! THE MACHINE: CONDs -/
def pm_Ec (z qe q lO c ic rd f : Nat) (σ τ : pr_St) (X : Nat → Option (Int32 × pr_St)) : Prop :=
  (∃ (n : Nat) (v : Int32) (rd' : Nat) (σ' τ' : pr_St), (v = 0 ∨ v = 1) ∧ n ≤ lO ∧ rd' ≤ rd + lO ∧ pm_go z qe n q (q + lO) σ σ' ∧ (∀ h, f ≤ h → X h = some (v, τ')) ∧ pm_EG c ic rd' v σ τ σ' τ') ∨
  (∃ (n : Nat) (w : Int32) (rd' : Nat) (σ' τ' : pr_St), n ≤ lO + 1 ∧ rd' ≤ rd + lO ∧ pm_ht z qe n q σ σ' ∧ (∀ h, f ≤ h → ∃ b, X h = some (b, τ')) ∧ pm_EB ic rd' w σ τ σ' τ')
def pm_CD (T : pl_Tx) (m : Nat) (rep : Nat → Nat) (A E : List (Nat × Bool)) (z P nO ic qe : Nat) (f : Nat) : Prop := ∀ (F : List pl_N) (O : List pl_O) (k q c rd : Nat) (σ τ : pr_St), pl_cd T f q F O → pm_C T m rep A E z P nO ic qe k q c rd F O σ τ → c + f ≤ 256 → pm_Ec z qe q O.length c ic rd f σ τ (fun h => prF_X_holds h τ (nI k))
theorem pm_cd14 {T : pl_Tx} : ∀ (f q : Nat) (F : List pl_N) (O : List pl_O), pl_cd T f q F O → ∀ b, pl_l14 b F = false := by
  intro f
  induction f with
  | zero => intro q F O h; exact h.elim
  | succ f ih =>
    intro q F O h b
    rcases h with ⟨k, t, F1, F2, O1, O2, h0, rfl, _, h3, h4⟩ | ⟨t, G, Q, rfl, _, h3⟩ | ⟨k, t, G, Q, Ls, h0, rfl, _, h3, h4⟩
    · show pl_l14 _ (F1 ++ F2) = false
      rw [pl_l14_app]
      exact pm_sm14 _ _ _ h4 _
    · exact ih q G Q h3 _
    · show pl_l14 _ (G ++ pl_catF Ls) = false
      rw [pl_l14_app, ih q G Q h3]
      have : ∀ (L : List (List pl_N × List pl_O)) (b : Nat), pl_cdl (pl_cd T f) b L → pl_l14 false (pl_catF L) = false := by
        intro L
        induction L with
        | nil => intro _ _; rfl
        | cons e l il =>
          intro b hL
          show pl_l14 _ (e.1 ++ pl_catF l) = false
          rw [pl_l14_app, ih _ _ _ hL.1]
          exact il _ hL.2
      exact this Ls _ h4
def pm_rel (k : Nat) (a b : Int32) : Int32 := if k = 27 then (if b ≤ a then 0 else 1) else if k = 28 then (if b < a then 0 else 1) else if k = 29 then (if a ≤ b then 0 else 1) else if k = 30 then (if a < b then 0 else 1) else if k = 31 then (if a = b then 1 else 0) else (if a = b then 0 else 1)
theorem pm_rel01 (k : Nat) (a b : Int32) : pm_rel k a b = 0 ∨ pm_rel k a b = 1 := by
  unfold pm_rel
  repeat' split
  all_goals first | exact Or.inl rfl | exact Or.inr rfl
def pm_chX (x : Int32) (a b : Int64) (τ : pr_St) : Option (Int32 × pr_St) := if x = 27 then (if 0 ≤ lg_cmp a b then some (0, τ) else some (1, τ)) else if x = 28 then (if 0 < lg_cmp a b then some (0, τ) else some (1, τ)) else if x = 29 then (if lg_cmp a b ≤ 0 then some (0, τ) else some (1, τ)) else if x = 30 then (if lg_cmp a b < 0 then some (0, τ) else some (1, τ)) else if x = 31 then (if lg_cmp a b = 0 then some (1, τ) else some (0, τ)) else (if lg_cmp a b = 0 then some (0, τ) else some (1, τ))
theorem pm_chB (x : Int32) (a b : Int64) (τ : pr_St) : ∃ y, pm_chX x a b τ = some (y, τ) := by
  unfold pm_chX
  repeat' split
  all_goals exact ⟨_, rfl⟩
theorem pm_chG {k : Nat} (hk : 27 ≤ k ∧ k ≤ 32) (a b : Int32) (τ : pr_St) : pm_chX (nI k) a.toInt64 b.toInt64 τ = some (pm_rel k a b, τ) := by
  have g1 : (0 ≤ lg_cmp a.toInt64 b.toInt64) ↔ b ≤ a := (lg_cmp_ge _ _).trans (pl_le64 b a)
  have g2 : (0 < lg_cmp a.toInt64 b.toInt64) ↔ b < a := (lg_cmp_gt _ _).trans (pl_lt64 b a)
  have g3 : (lg_cmp a.toInt64 b.toInt64 ≤ 0) ↔ a ≤ b := (lg_cmp_le _ _).trans (pl_le64 a b)
  have g4 : (lg_cmp a.toInt64 b.toInt64 < 0) ↔ a < b := (lg_cmp_lt _ _).trans (pl_lt64 a b)
  have g5 : (lg_cmp a.toInt64 b.toInt64 = 0) ↔ a = b := (lg_cmp_eq _ _).trans (pl_eq64 a b)
  have ite1 : ∀ (p q : Prop) [Decidable p] [Decidable q] (x y : Int32), (p ↔ q) → (if p then some (x, τ) else some (y, τ)) = some ((if q then x else y), τ) := by
    intro p q _ _ x y h
    by_cases w : q
    · rw [if_pos (h.mpr w), if_pos w]
    · rw [if_neg (fun u => w (h.mp u)), if_neg w]
  unfold pm_chX pm_rel
  have hc : k = 27 ∨ k = 28 ∨ k = 29 ∨ k = 30 ∨ k = 31 ∨ k = 32 := by omega
  rcases hc with rfl | rfl | rfl | rfl | rfl | rfl
  · rw [if_pos (show nI 27 = 27 by decide), if_pos (show (27 : Nat) = 27 from rfl)]; exact ite1 _ _ _ _ g1
  · rw [if_neg (show ¬ nI 28 = 27 by decide), if_pos (show nI 28 = 28 by decide), if_neg (show ¬ (28 : Nat) = 27 by decide), if_pos (show (28 : Nat) = 28 from rfl)]; exact ite1 _ _ _ _ g2
  · rw [if_neg (show ¬ nI 29 = 27 by decide), if_neg (show ¬ nI 29 = 28 by decide), if_pos (show nI 29 = 29 by decide), if_neg (show ¬ (29 : Nat) = 27 by decide), if_neg (show ¬ (29 : Nat) = 28 by decide), if_pos (show (29 : Nat) = 29 from rfl)]; exact ite1 _ _ _ _ g3
  · rw [if_neg (show ¬ nI 30 = 27 by decide), if_neg (show ¬ nI 30 = 28 by decide), if_neg (show ¬ nI 30 = 29 by decide), if_pos (show nI 30 = 30 by decide), if_neg (show ¬ (30 : Nat) = 27 by decide), if_neg (show ¬ (30 : Nat) = 28 by decide), if_neg (show ¬ (30 : Nat) = 29 by decide), if_pos (show (30 : Nat) = 30 from rfl)]; exact ite1 _ _ _ _ g4
  · rw [if_neg (show ¬ nI 31 = 27 by decide), if_neg (show ¬ nI 31 = 28 by decide), if_neg (show ¬ nI 31 = 29 by decide), if_neg (show ¬ nI 31 = 30 by decide), if_pos (show nI 31 = 31 by decide), if_neg (show ¬ (31 : Nat) = 27 by decide), if_neg (show ¬ (31 : Nat) = 28 by decide), if_neg (show ¬ (31 : Nat) = 29 by decide), if_neg (show ¬ (31 : Nat) = 30 by decide), if_pos (show (31 : Nat) = 31 from rfl)]; exact ite1 _ _ _ _ g5
  · rw [if_neg (show ¬ nI 32 = 27 by decide), if_neg (show ¬ nI 32 = 28 by decide), if_neg (show ¬ nI 32 = 29 by decide), if_neg (show ¬ nI 32 = 30 by decide), if_neg (show ¬ nI 32 = 31 by decide), if_neg (show ¬ (32 : Nat) = 27 by decide), if_neg (show ¬ (32 : Nat) = 28 by decide), if_neg (show ¬ (32 : Nat) = 29 by decide), if_neg (show ¬ (32 : Nat) = 30 by decide), if_neg (show ¬ (32 : Nat) = 31 by decide)]; exact ite1 _ _ _ _ g5
/-- two numbers compared -/
theorem pm_cmp {σ : pr_St} {c k : Nat} (hk : 27 ≤ k ∧ k ≤ 32) (h13 : σ.1 7 13 = nI (c + 2)) (hc : c + 2 ≤ 256) : prf_M_compareTwo σ (nI (k - 1)) = some (pm_ph (pr_sI (pr_sI σ 7 13 (nI (c + 1))) 7 13 (nI c)) c (pm_rel k (σ.2.1 51 c) (σ.2.1 51 (c + 1)))) := by
  obtain ⟨a, ha⟩ : ∃ a, a = σ.2.1 51 c := ⟨_, rfl⟩
  obtain ⟨b, hb⟩ : ∃ b, b = σ.2.1 51 (c + 1) := ⟨_, rfl⟩
  obtain ⟨σb, hσb⟩ : ∃ σb, σb = pr_sI (pr_sI σ 7 13 (nI (c + 1))) 7 13 (nI c) := ⟨_, rfl⟩
  have p1 := pm_pop (σ := σ) (c := c + 1) h13 (by omega)
  have p2 := pm_pop (σ := pr_sI σ 7 13 (nI (c + 1))) (c := c) pr_sI_same (by omega)
  have p2' : prf_M_pop (pr_sI σ 7 13 (nI (c + 1))) = some (a, σb) := by rw [p2, hσb, ha]; rfl
  rw [← hb] at p1
  rw [← ha, ← hb, ← hσb]
  have hbc : σb.1 7 13 = nI c := by rw [hσb]; exact pr_sI_same
  have t0 : prf_M_pushTruth σb 0 = some (pm_ph σb c 0) := by unfold prf_M_pushTruth; rw [if_pos rfl, pm_push hbc (by omega), pl_sb]
  have t1 : prf_M_pushTruth σb 1 = some (pm_ph σb c 1) := by unfold prf_M_pushTruth; rw [if_neg pl_10, pm_push hbc (by omega), pl_sb]
  have ite0 : ∀ (p : Prop) [Decidable p], (if p then ((prf_M_pushTruth σb 0).bind fun r => some r) else ((prf_M_pushTruth σb 1).bind fun r => some r)) = some (pm_ph σb c (if p then 0 else 1)) := by
    intro p _
    by_cases w : p
    · rw [if_pos w, if_pos w, t0, pl_sb]
    · rw [if_neg w, if_neg w, t1, pl_sb]
  have ite1 : ∀ (p : Prop) [Decidable p], (if p then ((prf_M_pushTruth σb 1).bind fun r => some r) else ((prf_M_pushTruth σb 0).bind fun r => some r)) = some (pm_ph σb c (if p then 1 else 0)) := by
    intro p _
    by_cases w : p
    · rw [if_pos w, if_pos w, t1, pl_sb]
    · rw [if_neg w, if_neg w, t0, pl_sb]
  unfold prf_M_compareTwo
  rw [p1, pl_sb]
  dsimp only
  rw [p2', pl_sb]
  dsimp only
  unfold pm_rel
  have hc : k = 27 ∨ k = 28 ∨ k = 29 ∨ k = 30 ∨ k = 31 ∨ k = 32 := by omega
  rcases hc with rfl | rfl | rfl | rfl | rfl | rfl
  · rw [if_pos (show nI (27 - 1) = 26 by decide), if_pos (show (27 : Nat) = 27 from rfl)]; exact ite0 _
  · rw [if_neg (show ¬ nI (28 - 1) = 26 by decide), if_pos (show nI (28 - 1) = 27 by decide), if_neg (show ¬ (28 : Nat) = 27 by decide), if_pos (show (28 : Nat) = 28 from rfl)]; exact ite0 _
  · rw [if_neg (show ¬ nI (29 - 1) = 26 by decide), if_neg (show ¬ nI (29 - 1) = 27 by decide), if_pos (show nI (29 - 1) = 28 by decide), if_neg (show ¬ (29 : Nat) = 27 by decide), if_neg (show ¬ (29 : Nat) = 28 by decide), if_pos (show (29 : Nat) = 29 from rfl)]; exact ite0 _
  · rw [if_neg (show ¬ nI (30 - 1) = 26 by decide), if_neg (show ¬ nI (30 - 1) = 27 by decide), if_neg (show ¬ nI (30 - 1) = 28 by decide), if_pos (show nI (30 - 1) = 29 by decide), if_neg (show ¬ (30 : Nat) = 27 by decide), if_neg (show ¬ (30 : Nat) = 28 by decide), if_neg (show ¬ (30 : Nat) = 29 by decide), if_pos (show (30 : Nat) = 30 from rfl)]; exact ite0 _
  · rw [if_neg (show ¬ nI (31 - 1) = 26 by decide), if_neg (show ¬ nI (31 - 1) = 27 by decide), if_neg (show ¬ nI (31 - 1) = 28 by decide), if_neg (show ¬ nI (31 - 1) = 29 by decide), if_pos (show nI (31 - 1) = 30 by decide), if_neg (show ¬ (31 : Nat) = 27 by decide), if_neg (show ¬ (31 : Nat) = 28 by decide), if_neg (show ¬ (31 : Nat) = 29 by decide), if_neg (show ¬ (31 : Nat) = 30 by decide), if_pos (show (31 : Nat) = 31 from rfl)]; exact ite1 _
  · rw [if_neg (show ¬ nI (32 - 1) = 26 by decide), if_neg (show ¬ nI (32 - 1) = 27 by decide), if_neg (show ¬ nI (32 - 1) = 28 by decide), if_neg (show ¬ nI (32 - 1) = 29 by decide), if_neg (show ¬ nI (32 - 1) = 30 by decide), if_neg (show ¬ (32 : Nat) = 27 by decide), if_neg (show ¬ (32 : Nat) = 28 by decide), if_neg (show ¬ (32 : Nat) = 29 by decide), if_neg (show ¬ (32 : Nat) = 30 by decide), if_neg (show ¬ (32 : Nat) = 31 by decide)]; exact ite0 _
/-- a relation of two SUMs -/
theorem pm_c1 {T : pl_Tx} {m : Nat} {rep : Nat → Nat} {A E : List (Nat × Bool)} {z P nO ic qe k q c rd t f kd : Nat} {σ τ : pr_St} {F1 F2 : List pl_N} {O1 O2 : List pl_O} (hkd : 27 ≤ kd ∧ kd ≤ 32) (h1 : pl_sm T f F1 O1) (h2 : pl_sm T f F2 O2) (h : pm_C T m rep A E z P nO ic qe k q c rd ((kd, t, 0, 1 + (F1 ++ F2).length) :: (F1 ++ F2)) ((O1 ++ O2) ++ [(kd - 1, -1)]) σ τ) (hc : c + (f + 1) ≤ 256) (hf : f ≤ 201) : pm_Ec z qe q ((O1 ++ O2) ++ [(kd - 1, (-1 : Int32))]).length c ic rd (f + 1) σ τ (fun h => prF_X_holds h τ (nI k)) := by
  obtain ⟨hv, hi, hnd, hop, hlk, ⟨b1, b2, b3, b4⟩, h13, h11, h59⟩ := h
  have lO : ((O1 ++ O2) ++ [(kd - 1, (-1 : Int32))]).length = O1.length + O2.length + 1 := by rw [List.length_append, List.length_append]; rfl
  rw [lO] at b2 b4 ⊢
  rw [List.length_cons, List.length_append] at b1
  have hf1 : 1 ≤ f := Nat.pos_of_ne_zero (fun w => by rw [w] at h1; exact h1.elim)
  obtain ⟨p12, p3⟩ := pm_opl _ _ q hop
  obtain ⟨p1, p2⟩ := pm_opl _ _ q p12
  rw [List.length_append] at p3
  have r13 : τ.2.1 13 k = nI kd := hnd.1.1
  obtain ⟨n1, n2⟩ := pl_nd_l F1 F2 (k + 1) hnd.2
  have hcl : pl_cl false ((kd, t, (0 : Int32), 1 + (F1 ++ F2).length) :: (F1 ++ F2)) = pl_cl false F1 ++ pl_cl false F2 := by
    have e1 : pl_cl false ((kd, t, (0 : Int32), 1 + (F1 ++ F2).length) :: (F1 ++ F2)) = (if kd = 13 then [(t, false)] else if kd = 16 ∧ 1 + (F1 ++ F2).length ≠ 1 then [(t, false)] else []) ++ pl_cl (kd == 14) (F1 ++ F2) := rfl
    have e14 : (kd == 14) = false := by
      have : ¬ kd = 14 := by omega
      simp [this]
    rw [e1, if_neg (by omega), if_neg (by omega), e14, pl_cl_app, pm_sm14 _ _ _ h1]
    rfl
  rw [hcl] at hlk
  obtain ⟨lk1, lk2⟩ := pm_lk_l hlk
  have rsz : τ.2.1 17 (k + 1) = nI F1.length := pm_sz (pl_sm_ro h1) n1
  have head : ∀ (rc : pr_St → Int32 → Option (Int32 × pr_St)), prf_X_holds rc τ (nI k) = (prf_X_reckon (prF_X_reckon 200) τ (nI (k + 1))).bind fun r54 => (prf_X_second r54.2 (nI k)).bind fun r55 => (prf_X_reckon (prF_X_reckon 200) r54.2 r55).bind fun r56 => pr_ck (nI k) 13000 <| pm_chX ((r56.2.2.1 13) (nI k).toNatClampNeg) r54.1 r56.1 r56.2 := by
    intro rc
    have d : ∀ (j : Nat) (v : Int32), j < 64 → nI j = v → ¬ kd = j → ¬ nI kd = v := fun j v hj hv hn => pl_nn (by omega) hj hv hn
    unfold prf_X_holds
    rw [h59, if_pos (by decide), pl_ck (show k < 13000 by omega) (by omega), nI_clamp (show k < 2 ^ 31 by omega), r13, if_neg (d 26 26 (by decide) rfl (by omega)), pl_ck (show k < 13000 by omega) (by omega), if_neg (d 24 24 (by decide) rfl (by omega)), pl_ck (show k < 13000 by omega) (by omega), if_neg (d 25 25 (by decide) rfl (by omega)), nI_1]
    rfl
  rcases pm_sum f F1 O1 (k + 1) q c rd σ τ h1 ⟨hv, hi, n1, p1, lk1, ⟨by omega, by omega, b3, by omega⟩, h13, h11, h59⟩ (by omega) with ⟨n, v, rd1, σ1, τ1, a1, a2, a3, a4, a5⟩ | ⟨n, w, rd1, σ1, τ1, a1, a2, a3, a4, a5⟩
  · obtain ⟨f1, f2, g13, g51, gj, g11, g59, giv⟩ := a5
    dsimp only at a4
    have hv1 := pm_vc_fr hv f1 f2
    have rsz1 : τ1.2.1 17 (k + 1) = nI F1.length := by rw [f2.2.1 17 rfl]; exact rsz
    have x1 : prf_X_reckon (prF_X_reckon 200) τ (nI (k + 1)) = some (v.toInt64, τ1) := a4 201 hf
    rcases pm_sum f F2 O2 (k + 1 + F1.length) (q + O1.length) (c + 1) rd1 σ1 τ1 h2 ⟨hv1, giv, pm_nd f2 n2, pm_ops f1 p2, pm_lk_fr lk2 (f1.2.1 24 rfl), ⟨by omega, by omega, b3, by omega⟩, g13, g11, g59⟩ (by omega) with ⟨n', v', rd2, σ2, τ2, c1, c2, c3, c4, c5⟩ | ⟨n', w, rd2, σ2, τ2, c1, c2, c3, c4, c5⟩
    · obtain ⟨k1, k2, k13, k51, kj, k11, k59, kiv⟩ := c5
      dsimp only at c4
      have hv2 := pm_vc_fr hv1 k1 k2
      obtain ⟨o1, o2⟩ := pm_vcO hv2
      have p3' := pm_ops (f1.tr k1) p3
      have x2 : prf_X_reckon (prF_X_reckon 200) τ1 (nI (k + 1 + F1.length)) = some (v'.toInt64, τ2) := c4 201 hf
      have cm := pm_cmp (σ := σ2) (c := c) hkd k13 (by omega)
      rw [kj c (by omega), g51, k51] at cm
      have fb : pl_fr pm_FE pm_GE σ2 (pr_sI (pr_sI σ2 7 13 (nI (c + 1))) 7 13 (nI c)) := (pl_sI_fr (o := 7) (k := 13) rfl).tr (pl_sI_fr (o := 7) (k := 13) rfl)
      have go3 := pm_op3 (z := z) o1 o2 (show q + (O1.length + O2.length) < qe by omega) b3 k11 p3'.1 p3'.2.1 (by omega) cm
      have c3' : pm_go z qe n' (q + O1.length) (q + (O1.length + O2.length)) σ1 σ2 := by
        intro g
        rw [← Nat.add_assoc]
        exact c3 g
      have hgo := pm_go.tr (pm_go.tr a3 c3') go3
      refine Or.inl ⟨n + n' + 1, pm_rel kd v v', rd2, _, τ2, pm_rel01 _ _ _, by omega, by omega, hgo, fun h hh => ?_, pm_EGq ((f1.tr k1).tr fb) (f2.tr k2) (fun j hj => (kj j (by omega)).trans (gj j hj)) (by rw [pr_sI_ne (by omega), pr_sI_ne (by omega)]; exact k11) k59 (pm_iv_eq kiv fb pl_fr.rf (by rw [pr_sI_ne (by omega), pr_sI_ne (by omega)]) rfl)⟩
      obtain ⟨h', rfl⟩ : ∃ y, h = y + 1 := ⟨h - 1, by omega⟩
      show prf_X_holds (prF_X_holds h') τ (nI k) = _
      have r13' : τ2.2.1 13 k = nI kd := by rw [(f2.tr k2).2.1 13 rfl]; exact r13
      rw [head, x1, pl_sb]
      dsimp only
      rw [pm_secX (by omega) rsz1, pl_sb, x2, pl_sb]
      dsimp only
      rw [pl_ck (by omega) (by omega), nI_clamp (by omega), r13']
      exact pm_chG hkd v v' τ2
    · obtain ⟨k1, k2, w0, w1, w2, kiv⟩ := c5
      dsimp only at c4
      refine Or.inr ⟨n + n', w, rd2, σ2, τ2, by omega, by omega, pm_go.ht a3 c3, fun h hh => ?_, f1.tr k1, f2.tr k2, w0, w1, w2, kiv⟩
      obtain ⟨h', rfl⟩ : ∃ y, h = y + 1 := ⟨h - 1, by omega⟩
      obtain ⟨v64, x2⟩ := c4 201 hf
      have x2' : prf_X_reckon (prF_X_reckon 200) τ1 (nI (k + 1 + F1.length)) = some (v64, τ2) := x2
      obtain ⟨y, hy⟩ := pm_chB (τ2.2.1 13 k) v.toInt64 v64 τ2
      refine ⟨y, ?_⟩
      show prf_X_holds (prF_X_holds h') τ (nI k) = _
      rw [head, x1, pl_sb]
      dsimp only
      rw [pm_secX (by omega) rsz1, pl_sb, x2', pl_sb]
      dsimp only
      rw [pl_ck (by omega) (by omega), nI_clamp (by omega)]
      exact hy
  · obtain ⟨f1, f2, w0, w1, w2, giv⟩ := a5
    dsimp only at a4
    have rsz1 : τ1.2.1 17 (k + 1) = nI F1.length := by rw [f2.2.1 17 rfl]; exact rsz
    refine Or.inr ⟨n, w, rd1, σ1, τ1, by omega, by omega, a3, fun h hh => ?_, f1, f2, w0, w1, w2, giv⟩
    obtain ⟨h', rfl⟩ : ∃ y, h = y + 1 := ⟨h - 1, by omega⟩
    obtain ⟨v64, x1⟩ := a4 201 hf
    have x1' : prf_X_reckon (prF_X_reckon 200) τ (nI (k + 1)) = some (v64, τ1) := x1
    obtain ⟨y, hy⟩ := pm_chB (τ1.2.1 13 k) v64 0 τ1
    refine ⟨y, ?_⟩
    show prf_X_holds (prF_X_holds h') τ (nI k) = _
    rw [head, x1', pl_sb]
    dsimp only
    rw [pm_secX (by omega) rsz1, pl_sb, pm_rkB (by rw [w2]; exact w0), pl_sb]
    dsimp only
    rw [pl_ck (by omega) (by omega), nI_clamp (by omega)]
    exact hy
/-- a TEST turned round -/
theorem pm_c2 {T : pl_Tx} {m : Nat} {rep : Nat → Nat} {A E : List (Nat × Bool)} {z P nO ic qe k q c rd t f : Nat} {σ τ : pr_St} {G : List pl_N} {Q : List pl_O} (ih : pm_CD T m rep A E z P nO ic qe f) (hcd : pl_cd T f q G Q) (h : pm_C T m rep A E z P nO ic qe k q c rd ((26, t, 0, 1 + G.length) :: G) (Q ++ [(34, -1)]) σ τ) (hc : c + (f + 1) ≤ 256) (hf : 1 ≤ f) : pm_Ec z qe q (Q ++ [(34, (-1 : Int32))]).length c ic rd (f + 1) σ τ (fun h => prF_X_holds h τ (nI k)) := by
  obtain ⟨hv, hi, hnd, hop, hlk, ⟨b1, b2, b3, b4⟩, h13, h11, h59⟩ := h
  have eL : (Q ++ [(34, (-1 : Int32))]).length = Q.length + 1 := by rw [List.length_append]; rfl
  rw [eL] at b2 b4 ⊢
  rw [List.length_cons] at b1
  obtain ⟨p1, p2⟩ := pm_opl Q _ q hop
  have r13 : τ.2.1 13 k = nI 26 := hnd.1.1
  have hlk' : pm_lk T E σ (pl_cl false G) := hlk
  have head : ∀ (rc : pr_St → Int32 → Option (Int32 × pr_St)), prf_X_holds rc τ (nI k) = (rc τ (nI (k + 1))).bind fun r69 => if r69.1 = 0 then some (1, r69.2) else some (0, r69.2) := by
    intro rc
    unfold prf_X_holds
    rw [h59, if_pos (by decide), pl_ck (by omega) (by omega), nI_clamp (by omega), r13, if_pos (by decide), nI_1]
  rcases ih G Q (k + 1) q c rd σ τ hcd ⟨hv, hi, hnd.2, p1, hlk', ⟨by omega, by omega, b3, by omega⟩, h13, h11, h59⟩ (by omega) with ⟨n, v, rd1, σ1, τ1, a0, a1, a2, a3, a4, a5⟩ | ⟨n, w, rd1, σ1, τ1, a1, a2, a3, a4, a5⟩
  · obtain ⟨f1, f2, g13, g51, gj, g11, g59, giv⟩ := a5
    dsimp only at a4
    have hv1 := pm_vc_fr hv f1 f2
    obtain ⟨o1, o2⟩ := pm_vcO hv1
    have p2' := pm_ops f1 p2
    have hpop := pm_pop (σ := σ1) (c := c) g13 (by omega)
    rw [g51] at hpop
    have fb : pl_fr pm_FE pm_GE σ1 (pr_sI σ1 7 13 (nI c)) := pl_sI_fr (o := 7) (k := 13) rfl
    have hib : pm_iv ic rd1 (pr_sI σ1 7 13 (nI c)) τ1 := pm_iv_eq giv fb pl_fr.rf (by rw [pr_sI_ne (by omega)]) rfl
    have eR : prf_M_reckonOne σ1 (nI z) (nI 34) (-1) = some (pm_ph (pr_sI σ1 7 13 (nI c)) c (if v = 0 then 1 else 0)) := by
      unfold prf_M_reckonOne
      rw [if_neg (by decide), if_neg (by decide), if_pos (by decide), hpop, pl_sb]
      dsimp only
      by_cases w : v = 0
      · rw [if_pos w, if_pos w]
        unfold prf_M_pushTruth
        rw [if_neg pl_10, pm_push pr_sI_same (by omega), pl_sb, pl_sb]
      · rw [if_neg w, if_neg w]
        unfold prf_M_pushTruth
        rw [if_pos rfl, pm_push pr_sI_same (by omega), pl_sb, pl_sb]
    refine Or.inl ⟨n + 1, (if v = 0 then 1 else 0), rd1, _, τ1, ?_, by omega, by omega, pm_go.tr a3 (pm_op1 o1 o2 (by omega) b3 g11 p2'.1 p2'.2.1 (Or.inr (Or.inr (Or.inr (by omega)))) eR), fun h hh => ?_, pm_EGq (f1.tr fb) f2 (fun j hj => gj j hj) (by rw [pr_sI_ne (by omega)]; exact g11) g59 hib⟩
    · by_cases w : v = 0
      · rw [if_pos w]; exact Or.inr rfl
      · rw [if_neg w]; exact Or.inl rfl
    · obtain ⟨h', rfl⟩ : ∃ y, h = y + 1 := ⟨h - 1, by omega⟩
      show prf_X_holds (prF_X_holds h') τ (nI k) = _
      rw [head, a4 h' (by omega), pl_sb]
      dsimp only
      by_cases w : v = 0
      · rw [if_pos w, if_pos w]
      · rw [if_neg w, if_neg w]
  · obtain ⟨f1, f2, w0, w1, w2, giv⟩ := a5
    dsimp only at a4
    refine Or.inr ⟨n, w, rd1, σ1, τ1, by omega, by omega, a3, fun h hh => ?_, f1, f2, w0, w1, w2, giv⟩
    obtain ⟨h', rfl⟩ : ∃ y, h = y + 1 := ⟨h - 1, by omega⟩
    obtain ⟨b, ev⟩ := a4 h' (by omega)
    refine ⟨if b = 0 then 1 else 0, ?_⟩
    show prf_X_holds (prF_X_holds h') τ (nI k) = _
    rw [head, ev, pl_sb]
    dsimp only
    by_cases w : b = 0
    · rw [if_pos w, if_pos w]
    · rw [if_neg w, if_neg w]
