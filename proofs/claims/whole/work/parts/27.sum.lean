/-! THE PARSER: terms and SUMs -/
theorem pl_km1 : ∀ k, k < 35 → 2 ≤ k → ¬ (1 : Int32) = nI (pl_km k) := by decide +kernel
theorem pl_tr_place {τ : pr_St} {P : Nat → Nat} {lo hi y : Nat} {F : List pl_N} (h : pl_tr τ P lo hi y F) : ∃ t, τ.2.1 7 y = nI (P t) := by
  obtain ⟨_, _, f, h⟩ := h
  cases f with
  | zero => exact h.elim
  | succ f =>
    obtain ⟨_, k, t, v, cs, h1, h2, h3, _⟩ := h
    exact ⟨t, h3⟩
/-- the loop of a term or a SUM: a sign and one more part, again and again -/
theorem pl_bloop {T : pl_Tx} (fC fX : pr_St → Option (Int32 × pr_St)) (f : Nat) (Hp : pl_sp T (fun _ F O => pl_sm T f F O) fC fX) (isop : Nat → Bool) (nk : Nat → Nat) (hnk : ∀ k, k < 35 → isop k = true → pl_pn k ∧ k ≠ 12 ∧ 2 ≤ k ∧ (18 ≤ nk k ∧ nk k ≤ 23 ∧ nk k ≠ 20) ∧ pl_opk (nk k) = k)
    (LC LX : Nat → pr_St → Int32 → Option (Int32 × pr_St))
    (hCs : ∀ m σ i k, i < 8000 → prf_R_now σ = some (nI k) → k < 35 → isop k = false → LC (m + 1) σ (nI i) = some (1, σ))
    (hCg : ∀ m σ i k, i < 8000 → prf_R_now σ = some (nI k) → k < 35 → isop k = true → LC (m + 1) σ (nI i) = (fC (pr_sI σ 3 2 (σ.1 3 2 + 1))).bind fun r => if r.1 = 0 then some (0, r.2) else (prf_G_addOperation r.2 (nI k) (-1)).bind fun r2 => LC m r2 (nI (i + 1)))
    (hXs : ∀ m τ s v, prf_X_look τ = some v → (∀ k, k < 35 → isop k = true → ¬ v = nI (pl_km k)) → LX (m + 1) τ s = some (s, τ))
    (hXg : ∀ m τ s k, prf_X_look τ = some (nI (pl_km k)) → k < 35 → isop k = true → LX (m + 1) τ s = pr_ck (τ.1 0 8) 8002 ((prf_X_draft τ (nI (nk k)) ((τ.2.1 4) (τ.1 0 8).toNatClampNeg) 0).bind fun r82 => (prf_X_look r82.2).bind fun r83 => (prf_X_take r82.2 r83).bind fun r84 => if (r84.1 0 9) = 0 then (fX r84).bind fun r86 => (prf_X_join r86.2 r82.1 r86.1).bind fun r87 => (prf_X_join r87 s r82.1).bind fun r88 => LX m r88 s else (prf_X_join r84 r82.1 (-1)).bind fun r89 => (prf_X_join r89 s r82.1).bind fun r90 => LX m r90 s))
    (q0 d0 a0 s k0 t0 : Nat) (G : List pl_N) (Q : List pl_O) :
    ∀ (M a i q d mC mX : Nat) (σ τ : pr_St) (cs : List (Nat × List pl_N)) (Ls : List (Nat × Nat × List pl_N × List pl_O)), pl_xc T ≤ a + M → M + 1 ≤ mC → M + 1 ≤ mX → i + 1 ≤ a → pl_gd T a q d σ τ → q ≤ a → d ≤ 2 * a + 1 → (isop (pl_xK T a) = false → d ≤ 2 * a) → d0 ≤ d → pl_dt τ (pl_xP T) d0 d s k0 t0 0 cs → pl_cat cs = G ++ pl_catN Ls → pl_cm (pl_xK T) a0 a (G ++ pl_catN Ls) → q = q0 + (Q ++ pl_catO Ls).length → (Q ++ pl_catO Ls).length + a0 ≤ a → pl_ops σ q0 (Q ++ pl_catO Ls) → (∀ e, e ∈ Ls → (18 ≤ e.1 ∧ e.1 ≤ 23 ∧ e.1 ≠ 20) ∧ pl_sm T f e.2.2.1 e.2.2.2) →
    ∃ (a' : Nat) (σ' τ' : pr_St), a ≤ a' ∧ pl_fc q σ σ' ∧ pl_fx d0 τ τ' ∧
      ((∃ (d' : Nat) (Ls' : List (Nat × Nat × List pl_N × List pl_O)), LC mC σ (nI i) = some (1, σ') ∧ LX mX τ (nI s) = some (nI s, τ') ∧ pl_gd T a' (q0 + (Q ++ pl_catO Ls').length) d' σ' τ' ∧ (Q ++ pl_catO Ls').length + a0 ≤ a' ∧ 5 * d' + 8 * a ≤ 5 * d + 8 * a' ∧ (isop (pl_xK T a) = true → 5 * d' + 8 * a + 6 ≤ 5 * d + 8 * a') ∧ pl_tr τ' (pl_xP T) d0 d' s ((k0, t0, 0, 1 + (G ++ pl_catN Ls').length) :: (G ++ pl_catN Ls')) ∧ pl_ops σ' q0 (Q ++ pl_catO Ls') ∧ pl_cm (pl_xK T) a0 a' (G ++ pl_catN Ls') ∧ ∀ e, e ∈ Ls' → (18 ≤ e.1 ∧ e.1 ≤ 23 ∧ e.1 ≠ 20) ∧ pl_sm T f e.2.2.1 e.2.2.2) ∨
       (LC mC σ (nI i) = some (0, σ') ∧ LX mX τ (nI s) = some (nI s, τ') ∧ pl_bd T a' d0 3 σ' τ')) := by
  intro M
  induction M with
  | zero =>
    intro a i q d mC mX σ τ cs Ls hM _ _ _ g
    have := g.2.2.1
    omega
  | succ M ih =>
    intro a i q d mC mX σ τ cs Ls hM hmC hmX hi g hq hd hd2 hd0 ht hcat hcm hqq hqa hops hLs
    obtain ⟨mC, rfl⟩ : ∃ z, mC = z + 1 := ⟨mC - 1, by omega⟩
    obtain ⟨mX, rfl⟩ : ∃ z, mX = z + 1 := ⟨mX - 1, by omega⟩
    have h8 := pl_gd8 g
    have hK := pl_gdK g
    cases hop : isop (pl_xK T a) with
    | false =>
      refine ⟨a, σ, τ, Nat.le_refl _, pl_fc.rf, pl_fx.rf, Or.inl ⟨d, Ls, hCs mC σ i _ (by omega) (pl_nowG g) hK hop, ?_, by rw [← hqq]; exact g, hqa, Nat.le_refl _, fun q => (by cases q), ?_, hops, hcm, hLs⟩⟩
      · refine hXs mX τ (nI s) _ (pl_lookG g) (fun k hk hk2 q => ?_)
        have e := pl_kminj _ hK k hk q
        rw [← e, hop] at hk2
        cases hk2
      · have t := ht.tr
        rw [hcat] at t
        exact t
    | true =>
      obtain ⟨n1, n2, n3, n4, n5⟩ := hnk _ hK hop
      obtain ⟨τ1, e1, g1, fx1, t1⟩ := pl_draftG g (by omega) (nk (pl_xK T a)) a 0
      obtain ⟨σ2, τ2, c2, c2', x2, g2, fc2, fx2, s2, r2⟩ := pl_takeA g1 rfl n3
      have t2 := t1.fx (fx2 (d + 1)) (Nat.le_refl _)
      have hs2 := (ht.fx fx1 (Nat.le_refl _)).fx (fx2 d) (Nat.le_refl _)
      have eC0 := hCg mC σ i _ (by omega) (pl_nowG g) hK hop
      have eX0 := hXg mX τ (nI s) _ (pl_lookG g) hK hop
      rw [c2'] at eC0
      rw [(pl_placeG g).1, (pl_placeG (α := Nat) (k := none) g).2, e1, pl_sb, pl_lookG g1, pl_sb, x2, pl_sb, if_pos g2.2.2.2.1] at eX0
      obtain ⟨a', σ', τ', hle, fc', fx', hr⟩ := Hp (a + 1) q (d + 1) σ2 τ2 g2 (by omega) (by omega)
      have fcA : pl_fc q σ σ' := (fc2 q).tr fc' (Nat.le_refl _)
      have fxA : pl_fx d τ τ' := (fx1.tr (fx2 d) (Nat.le_refl _)).tr fx' (by omega)
      have t3 := t2.fx fx' (Nat.le_refl _)
      have hs3 := hs2.fx fx' (by omega)
      rcases hr with ⟨y, d', G2, Q2, hC, hX, g6, hO, hD', tr6, ops6, cm6, sm6⟩ | ⟨hC, v, hX, b6, vi6⟩
      · have h86 := pl_gd8 g6
        have iv6 := tr6.iv
        obtain ⟨τ7, e7, g7, fx7, t7⟩ := pl_joinG (l := d) (h := d') g6 t3 tr6 (by omega) (Or.inl (Nat.le_refl _)) (by omega) (by omega) (by omega) (by omega)
        have hs7 := hs3.fx fx7 (Nat.le_refl _)
        obtain ⟨τ8, e8, g8, fx8, t8⟩ := pl_joinG (l := d0) (h := d') g7 hs7 t7.tr (by omega) (Or.inl (Nat.le_refl _)) (by omega) (by omega) (by omega) (by omega)
        obtain ⟨σ9, e9, g9, fc9, o9, at9⟩ := pl_addG g8 (by omega) (o := pl_xK T a) (by omega) (-1)
        rw [hC, pl_sb, if_neg (show ¬ ((1 : Int32), σ').1 = 0 from pl_10), e9, pl_sb] at eC0
        rw [hX, pl_sb, e7, pl_sb, e8, pl_sb] at eX0
        have eN : pl_catN (Ls ++ [(nk (pl_xK T a), a, G2, Q2)]) = pl_catN Ls ++ ((nk (pl_xK T a), a, (0 : Int32), 1 + G2.length) :: G2) := by
          rw [pl_catN_app]; simp [pl_catN]
        have eO : pl_catO (Ls ++ [(nk (pl_xK T a), a, G2, Q2)]) = pl_catO Ls ++ (Q2 ++ [(pl_xK T a, -1)]) := by
          rw [pl_catO_app]; simp [pl_catO, n5]
        have eOl : (Q ++ pl_catO (Ls ++ [(nk (pl_xK T a), a, G2, Q2)])).length = (Q ++ pl_catO Ls).length + Q2.length + 1 := by
          rw [eO]; simp <;> omega
        obtain ⟨a2, σ'', τ'', hle2, fcI, fxI, hrI⟩ := ih a' (i + 1) (q + Q2.length + 1) d' mC mX σ9 τ8 _ (Ls ++ [(nk (pl_xK T a), a, G2, Q2)]) (by omega) (by omega) (by omega) (by omega) g9 (by omega) (by omega) (fun _ => by omega) (by omega) t8 (by rw [pl_cat_app, hcat, eN]; simp [pl_cat]) (by rw [eN, ← List.append_assoc]; exact pl_cm_bin hcm n1 n2 cm6 (by show ¬ nk _ = 13; omega) (by show ¬ nk _ = 14; omega) (by show ¬ nk _ = 16; omega)) (by rw [eOl]; omega) (by rw [eOl]; omega) (by
            rw [eO, ← List.append_assoc]
            refine pl_ops_app _ _ q0 (pl_ops_eq (fcA.tr fc9 (by omega)).2 _ _ (by omega) hops) ?_
            rw [← hqq]
            exact pl_ops_app Q2 _ q (pl_ops_eq fc9.2 _ _ (Nat.le_refl _) ops6) o9) (fun e he => by
            rcases List.mem_append.mp he with he | he
            · exact hLs e he
            · have : e = (nk (pl_xK T a), a, G2, Q2) := by simpa using he
              subst this
              exact ⟨n4, sm6⟩)
        refine ⟨a2, σ'', τ'', by omega, (fcA.tr fc9 (by omega)).tr fcI (by omega), ((fxA.le hd0).tr (fx7.le hd0) (Nat.le_refl _)).tr (fx8.tr fxI (Nat.le_refl _)) (Nat.le_refl _), ?_⟩
        rw [eC0, eX0]
        rcases hrI with ⟨d2, Ls2, w1, w2, w3, w4, w5, w6, w7⟩ | w
        · exact Or.inl ⟨d2, Ls2, w1, w2, w3, w4, by omega, fun _ => by omega, w7⟩
        · exact Or.inr w
      · obtain ⟨τ7, e7, b7, fx7, j7⟩ := pl_joinW (d0 := d) b6 (t3.jb (Nat.le_refl _) (by omega)) (vi6.le (by omega))
        have hs7 := hs3.fx fx7 (Nat.le_refl _)
        obtain ⟨τ8, e8, b8, fx8, j8⟩ := pl_joinW (d0 := d0) b7 (hs7.jb (Nat.le_refl _) (by omega)) (pl_vi1 hd0 (by omega))
        rw [hC, pl_sb, if_pos rfl] at eC0
        obtain ⟨mX, rfl⟩ : ∃ z, mX = z + 1 := ⟨mX - 1, by omega⟩
        rw [hX, pl_sb, e7, pl_sb, e8, pl_sb, hXs mX τ8 (nI s) 1 (pl_lookW b8) (fun k hk hk2 => pl_km1 k hk (hnk k hk hk2).2.2.1)] at eX0
        exact ⟨a', σ', τ8, by omega, fcA, ((fxA.le hd0).tr (fx7.le hd0) (Nat.le_refl _)).tr fx8 (Nat.le_refl _), Or.inr ⟨eC0, eX0, b8.le (by omega) (Nat.le_refl _)⟩⟩
def pl_isT (k : Nat) : Bool := k == 23 || k == 24 || k == 25
def pl_isS (k : Nat) : Bool := k == 21 || k == 22
def pl_nkT (k : Nat) : Nat := if k = 23 then 21 else if k = 24 then 22 else 23
def pl_nkS (k : Nat) : Nat := if k = 21 then 18 else 19
theorem pl_isTc : ∀ k, k < 35 → pl_isT k = true → k = 23 ∨ k = 24 ∨ k = 25 := by decide +kernel
theorem pl_isSc : ∀ k, k < 35 → pl_isS k = true → k = 21 ∨ k = 22 := by decide +kernel
theorem pl_hnT : ∀ k, k < 35 → pl_isT k = true → pl_pn k ∧ k ≠ 12 ∧ 2 ≤ k ∧ (18 ≤ pl_nkT k ∧ pl_nkT k ≤ 23 ∧ pl_nkT k ≠ 20) ∧ pl_opk (pl_nkT k) = k := by
  intro k hk h
  rcases pl_isTc k hk h with rfl | rfl | rfl
  · exact ⟨⟨by decide, by decide, by decide, by decide⟩, by decide, by decide, by decide, rfl⟩
  · exact ⟨⟨by decide, by decide, by decide, by decide⟩, by decide, by decide, by decide, rfl⟩
  · exact ⟨⟨by decide, by decide, by decide, by decide⟩, by decide, by decide, by decide, rfl⟩
theorem pl_hnS : ∀ k, k < 35 → pl_isS k = true → pl_pn k ∧ k ≠ 12 ∧ 2 ≤ k ∧ (18 ≤ pl_nkS k ∧ pl_nkS k ≤ 23 ∧ pl_nkS k ≠ 20) ∧ pl_opk (pl_nkS k) = k := by
  intro k hk h
  rcases pl_isSc k hk h with rfl | rfl
  · exact ⟨⟨by decide, by decide, by decide, by decide⟩, by decide, by decide, by decide, rfl⟩
  · exact ⟨⟨by decide, by decide, by decide, by decide⟩, by decide, by decide, by decide, rfl⟩
theorem pl_isTn : ∀ k, k < 35 → pl_isT k = false → nI k < 23 ∨ (25 : Int32) < nI k := by decide +kernel
theorem pl_isTy : ∀ k, k < 35 → pl_isT k = true → ¬ nI k < 23 ∧ ¬ (25 : Int32) < nI k := by decide +kernel
/-- the term's loop, a turn at a time -/
theorem pl_term12s (rc : pr_St → Int32 → Option (Int32 × pr_St)) (D : Int32) : ∀ (m : Nat) (σ : pr_St) (i k : Nat), i < 8000 → prf_R_now σ = some (nI k) → k < 35 → pl_isT k = false → prf_R_readTerm_12 rc (m + 1) σ D (nI i) = some (1, σ) := by
  intro m σ i k hi hn hk h
  rw [prf_R_readTerm_12, if_neg (show ¬ (8000 : Int32) ≤ nI i from nI_ge (b := 8000) hi (by omega)), hn, pl_sb]
  rcases pl_isTn k hk h with q | q
  · rw [if_pos q]
  · by_cases q2 : nI k < 23
    · rw [if_pos q2]
    · rw [if_neg q2, pl_sb, if_pos q]
theorem pl_term12g (rc : pr_St → Int32 → Option (Int32 × pr_St)) (D : Int32) : ∀ (m : Nat) (σ : pr_St) (i k : Nat), i < 8000 → prf_R_now σ = some (nI k) → k < 35 → pl_isT k = true → prf_R_readTerm_12 rc (m + 1) σ D (nI i) = (rc (pr_sI σ 3 2 (σ.1 3 2 + 1)) D).bind fun r => if r.1 = 0 then some (0, r.2) else (prf_G_addOperation r.2 (nI k) (-1)).bind fun r2 => prf_R_readTerm_12 rc m r2 D (nI (i + 1)) := by
  intro m σ i k hi hn hk h
  obtain ⟨q1, q2⟩ := pl_isTy k hk h
  rw [prf_R_readTerm_12, if_neg (show ¬ (8000 : Int32) ≤ nI i from nI_ge (b := 8000) hi (by omega)), hn, pl_sb, if_neg q1, pl_sb, if_neg q2, pl_sb, nI_1]
theorem pl_term55s (rc : pr_St → Int32 → Option (Int32 × pr_St)) (D : Int32) : ∀ (m : Nat) (τ : pr_St) (s v : Int32), prf_X_look τ = some v → (∀ k, k < 35 → pl_isT k = true → ¬ v = nI (pl_km k)) → prf_X_term_55 rc (m + 1) τ D s = some (s, τ) := by
  intro m τ s v hl h
  rw [prf_X_term_55, hl, pl_sb, if_neg (show ¬ v = 42 from h 23 (by decide) rfl), pl_sb, if_neg (show ¬ v = 47 from h 24 (by decide) rfl), pl_sb, if_neg (show ¬ v = 37 from h 25 (by decide) rfl)]
theorem pl_term55g (rc : pr_St → Int32 → Option (Int32 × pr_St)) (D : Int32) : ∀ (m : Nat) (τ : pr_St) (s : Int32) (k : Nat), prf_X_look τ = some (nI (pl_km k)) → k < 35 → pl_isT k = true → prf_X_term_55 rc (m + 1) τ D s = pr_ck (τ.1 0 8) 8002 ((prf_X_draft τ (nI (pl_nkT k)) ((τ.2.1 4) (τ.1 0 8).toNatClampNeg) 0).bind fun r82 => (prf_X_look r82.2).bind fun r83 => (prf_X_take r82.2 r83).bind fun r84 => if (r84.1 0 9) = 0 then (rc r84 D).bind fun r86 => (prf_X_join r86.2 r82.1 r86.1).bind fun r87 => (prf_X_join r87 s r82.1).bind fun r88 => prf_X_term_55 rc m r88 D s else (prf_X_join r84 r82.1 (-1)).bind fun r89 => (prf_X_join r89 s r82.1).bind fun r90 => prf_X_term_55 rc m r90 D s) := by
  intro m τ s k hl hk h
  rcases pl_isTc k hk h with rfl | rfl | rfl
  · rw [prf_X_term_55, hl, pl_sb, if_pos (show nI (pl_km 23) = 42 from rfl), prf_X_term_82, hl, pl_sb, if_pos (show nI (pl_km 23) = 42 from rfl)]
    rfl
  · rw [prf_X_term_55, hl, pl_sb, if_neg (show ¬ nI (pl_km 24) = 42 by decide), pl_sb, if_pos (show nI (pl_km 24) = 47 from rfl), prf_X_term_82, hl, pl_sb, if_neg (show ¬ nI (pl_km 24) = 42 by decide), pl_sb, if_pos (show nI (pl_km 24) = 47 from rfl)]
    rfl
  · rw [prf_X_term_55, hl, pl_sb, if_neg (show ¬ nI (pl_km 25) = 42 by decide), pl_sb, if_neg (show ¬ nI (pl_km 25) = 47 by decide), pl_sb, if_pos (show nI (pl_km 25) = 37 from rfl), prf_X_term_82, hl, pl_sb, if_neg (show ¬ nI (pl_km 25) = 42 by decide), pl_sb, if_neg (show ¬ nI (pl_km 25) = 47 by decide)]
    rfl
theorem pl_sum18s (rc : pr_St → Int32 → Option (Int32 × pr_St)) (D : Int32) : ∀ (m : Nat) (σ : pr_St) (i k : Nat), i < 8000 → prf_R_now σ = some (nI k) → k < 35 → pl_isS k = false → prf_R_readSum_18 rc (m + 1) σ D (nI i) = some (1, σ) := by
  intro m σ i k hi hn hk h
  rw [prf_R_readSum_18, if_neg (show ¬ (8000 : Int32) ≤ nI i from nI_ge (b := 8000) hi (by omega)), hn, pl_sb, if_neg (pl_cn hk (j := 21) (v := 21) (by decide) rfl (fun q => by rw [q] at h; cases h)), pl_sb, if_neg (pl_cn hk (j := 22) (v := 22) (by decide) rfl (fun q => by rw [q] at h; cases h))]
theorem pl_sum18g (rc : pr_St → Int32 → Option (Int32 × pr_St)) (D : Int32) : ∀ (m : Nat) (σ : pr_St) (i k : Nat), i < 8000 → prf_R_now σ = some (nI k) → k < 35 → pl_isS k = true → prf_R_readSum_18 rc (m + 1) σ D (nI i) = (prf_R_readTerm rc (pr_sI σ 3 2 (σ.1 3 2 + 1)) D).bind fun r => if r.1 = 0 then some (0, r.2) else (prf_G_addOperation r.2 (nI k) (-1)).bind fun r2 => prf_R_readSum_18 rc m r2 D (nI (i + 1)) := by
  intro m σ i k hi hn hk h
  rcases pl_isSc k hk h with rfl | rfl
  · rw [prf_R_readSum_18, if_neg (show ¬ (8000 : Int32) ≤ nI i from nI_ge (b := 8000) hi (by omega)), hn, pl_sb, if_pos (show nI 21 = 21 from rfl), prf_R_readSum_43, hn, pl_sb, nI_1]
  · rw [prf_R_readSum_18, if_neg (show ¬ (8000 : Int32) ≤ nI i from nI_ge (b := 8000) hi (by omega)), hn, pl_sb, if_neg (show ¬ nI 22 = 21 by decide), pl_sb, if_pos (show nI 22 = 22 from rfl), prf_R_readSum_43, hn, pl_sb, nI_1]
theorem pl_sum62s (rc : pr_St → Int32 → Option (Int32 × pr_St)) (D : Int32) : ∀ (m : Nat) (τ : pr_St) (s v : Int32), prf_X_look τ = some v → (∀ k, k < 35 → pl_isS k = true → ¬ v = nI (pl_km k)) → prf_X_sum_62 rc (m + 1) τ D s = some (s, τ) := by
  intro m τ s v hl h
  rw [prf_X_sum_62, hl, pl_sb, if_neg (show ¬ v = 43 from h 21 (by decide) rfl), pl_sb, if_neg (show ¬ v = 45 from h 22 (by decide) rfl)]
theorem pl_sum62g (rc : pr_St → Int32 → Option (Int32 × pr_St)) (D : Int32) : ∀ (m : Nat) (τ : pr_St) (s : Int32) (k : Nat), prf_X_look τ = some (nI (pl_km k)) → k < 35 → pl_isS k = true → prf_X_sum_62 rc (m + 1) τ D s = pr_ck (τ.1 0 8) 8002 ((prf_X_draft τ (nI (pl_nkS k)) ((τ.2.1 4) (τ.1 0 8).toNatClampNeg) 0).bind fun r82 => (prf_X_look r82.2).bind fun r83 => (prf_X_take r82.2 r83).bind fun r84 => if (r84.1 0 9) = 0 then (prf_X_term rc r84 D).bind fun r86 => (prf_X_join r86.2 r82.1 r86.1).bind fun r87 => (prf_X_join r87 s r82.1).bind fun r88 => prf_X_sum_62 rc m r88 D s else (prf_X_join r84 r82.1 (-1)).bind fun r89 => (prf_X_join r89 s r82.1).bind fun r90 => prf_X_sum_62 rc m r90 D s) := by
  intro m τ s k hl hk h
  rcases pl_isSc k hk h with rfl | rfl
  · rw [prf_X_sum_62, hl, pl_sb, if_pos (show nI (pl_km 21) = 43 from rfl), prf_X_sum_80, hl, pl_sb, if_pos (show nI (pl_km 21) = 43 from rfl)]
    rfl
  · rw [prf_X_sum_62, hl, pl_sb, if_neg (show ¬ nI (pl_km 22) = 43 by decide), pl_sb, if_pos (show nI (pl_km 22) = 45 from rfl), prf_X_sum_80, hl, pl_sb, if_neg (show ¬ nI (pl_km 22) = 43 by decide)]
    rfl
/-- a term -/
theorem pl_term {T : pl_Tx} (rc rcX : pr_St → Int32 → Option (Int32 × pr_St)) (D : Int32) (f : Nat) (H : pl_sp T (fun _ F O => pl_sm T f F O) (fun σ => rc σ D) (fun τ => rcX τ D)) : pl_sp T (fun _ F O => pl_sm T (f + 1) F O) (fun σ => prf_R_readTerm rc σ D) (fun τ => prf_X_term rcX τ D) := by
  intro a q d σ τ g hq hd
  show pl_ph T _ a q d σ τ (prf_R_readTerm rc σ D) (prf_X_term rcX τ D)
  have h8 := pl_gd8 g
  have hF : pr_FU = 99999 + 1 := rfl
  obtain ⟨a1, σ1, τ1, hle, fc1, fx1, hr⟩ := H a q d σ τ g hq hd
  rcases hr with ⟨y, d1, G, Q, hC, hX, g1, hO, hD1, tr1, ops1, cm1, sm1⟩ | ⟨hC, v, hX, b1, vi1⟩
  · have h81 := pl_gd8 g1
    have iv1 := tr1.iv
    have hC' : rc σ D = some (1, σ1) := hC
    have hX' : rcX τ D = some (nI y, τ1) := hX
    have eC0 : prf_R_readTerm rc σ D = prf_R_readTerm_12 rc pr_FU σ1 D (nI 0) := by
      unfold prf_R_readTerm
      rw [hC', pl_sb, if_neg (show ¬ ((1 : Int32), σ1).1 = 0 from pl_10)]
      rfl
    cases hop : pl_isT (pl_xK T a1) with
    | false =>
      have eC : prf_R_readTerm rc σ D = some (1, σ1) := by
        rw [eC0, hF]
        exact pl_term12s rc D 99999 σ1 0 _ (by decide) (pl_nowG g1) (pl_gdK g1) hop
      have eX : prf_X_term rcX τ D = some (nI y, τ1) := by
        have n23 : ¬ pl_xK T a1 = 23 := fun q => by rw [q] at hop; cases hop
        have n24 : ¬ pl_xK T a1 = 24 := fun q => by rw [q] at hop; cases hop
        have n25 : ¬ pl_xK T a1 = 25 := fun q => by rw [q] at hop; cases hop
        unfold prf_X_term
        rw [hX', pl_sb, pl_lookG g1, pl_sb, if_neg (pl_kn (pl_gdK g1) (j := 23) (v := 42) (by decide) rfl n23), pl_sb, if_neg (pl_kn (pl_gdK g1) (j := 24) (v := 47) (by decide) rfl n24), pl_sb, if_neg (pl_kn (pl_gdK g1) (j := 25) (v := 37) (by decide) rfl n25)]
      exact ⟨a1, σ1, τ1, hle, fc1, fx1, Or.inl ⟨y, d1, G, Q, eC, eX, g1, hO, hD1, tr1, ops1, cm1, pl_sm_f _ _ _ sm1⟩⟩
    | true =>
      obtain ⟨t, htp⟩ := pl_tr_place tr1
      obtain ⟨τ2, e2, g2, fx2, t2⟩ := pl_draftG g1 (by omega) 20 t 0
      obtain ⟨τ3, e3, g3, fx3, t3⟩ := pl_joinG (l := d) (h := d1 + 1) g2 t2 (tr1.fx fx2 (Nat.le_refl _)) (by omega) (Or.inr (Nat.le_refl _)) (by omega) (by omega) (by omega) (by omega)
      have e2' : prf_X_draft τ1 20 (nI (pl_xP T t)) 0 = some (nI d1, τ2) := e2
      have eX0 : prf_X_term rcX τ D = prf_X_term_55 rcX pr_FU τ3 D (nI d1) := by
        unfold prf_X_term
        rcases pl_isTc _ (pl_gdK g1) hop with hk | hk | hk
        · rw [hX', pl_sb, pl_lookG g1, pl_sb, hk, if_pos (show nI (pl_km 23) = 42 from rfl), pl_ck (show y < 26000 by omega) (by omega), nI_clamp (by omega), htp, e2', pl_sb, e3, pl_sb]
        · rw [hX', pl_sb, pl_lookG g1, pl_sb, hk, if_neg (show ¬ nI (pl_km 24) = 42 by decide), pl_sb, if_pos (show nI (pl_km 24) = 47 from rfl), pl_ck (show y < 26000 by omega) (by omega), nI_clamp (by omega), htp, e2', pl_sb, e3, pl_sb]
        · rw [hX', pl_sb, pl_lookG g1, pl_sb, hk, if_neg (show ¬ nI (pl_km 25) = 42 by decide), pl_sb, if_neg (show ¬ nI (pl_km 25) = 47 by decide), pl_sb, if_pos (show nI (pl_km 25) = 37 from rfl), pl_ck (show y < 26000 by omega) (by omega), nI_clamp (by omega), htp, e2', pl_sb, e3, pl_sb]
      have c8 := pl_c8 g1.1
      obtain ⟨a', σ', τ', hle2, fc', fx', hr2⟩ := pl_bloop (fun σ => rc σ D) (fun τ => rcX τ D) f H pl_isT pl_nkT pl_hnT (fun m σ i => prf_R_readTerm_12 rc m σ D i) (fun m τ s => prf_X_term_55 rcX m τ D s) (pl_term12s rc D) (pl_term12g rc D) (pl_term55s rcX D) (pl_term55g rcX D) q d a d1 20 t G Q 8001 a1 0 (q + Q.length) (d1 + 1) pr_FU pr_FU σ1 τ3 ([] ++ [(y, G)]) [] (by omega) (by rw [hF]; omega) (by rw [hF]; omega) (by have := cm1.1; omega) g3 (by omega) (by omega) (fun q => by rw [hop] at q; cases q) (by omega) t3 (by simp [pl_cat, pl_catN]) (by simpa [pl_catN] using cm1) (by simp [pl_catO]) (by simpa [pl_catO] using hO) (by simpa [pl_catO] using ops1) (fun e he => by cases he)
      have fcA : pl_fc q σ σ' := fc1.tr fc' (by omega)
      have fxA : pl_fx d τ τ' := ((fx1.tr fx2 (by omega)).tr fx3 (by omega)).tr fx' (Nat.le_refl _)
      rw [← eC0, ← eX0] at hr2
      rcases hr2 with ⟨d', Ls, w1, w2, w3, w4, w5, w6, w7, w8, w9, w10⟩ | ⟨w1, w2, w3⟩
      · exact ⟨a', σ', τ', by omega, fcA, fxA, Or.inl ⟨d1, d', _, Q ++ pl_catO Ls, w1, w2, w3, w4, by have := w6 hop; omega, w7, w8, pl_cm_hd w9 (by simp) (by simp) (by simp), Or.inr (Or.inr (Or.inr (Or.inr (Or.inr (Or.inr ⟨20, t, G, Q, Ls, Or.inr rfl, rfl, rfl, sm1, w10⟩)))))⟩⟩
      · exact ⟨a', σ', τ', by omega, fcA, fxA, Or.inr ⟨w1, nI d1, w2, w3, pl_vi1 (by omega) (by omega)⟩⟩
  · have hC' : rc σ D = some (0, σ1) := hC
    have hX' : rcX τ D = some (v, τ1) := hX
    have eC : prf_R_readTerm rc σ D = some (0, σ1) := by
      unfold prf_R_readTerm
      rw [hC', pl_sb, if_pos rfl]
    have eX : prf_X_term rcX τ D = some (v, τ1) := by
      unfold prf_X_term
      rw [hX', pl_sb, pl_lookW b1, pl_sb, if_neg (show ¬ (1 : Int32) = 42 by decide), pl_sb, if_neg (show ¬ (1 : Int32) = 47 by decide), pl_sb, if_neg (show ¬ (1 : Int32) = 37 by decide)]
    exact ⟨a1, σ1, τ1, hle, fc1, fx1, Or.inr ⟨eC, v, eX, b1, vi1⟩⟩
/-- a SUM -/
theorem pl_sum {T : pl_Tx} (rc rcX : pr_St → Int32 → Option (Int32 × pr_St)) (D : Nat) (hDb : D < 1000) (f : Nat) (H : D ≤ 60 → pl_sp T (fun _ F O => pl_sm T f F O) (fun σ => rc σ (nI D)) (fun τ => rcX τ (nI D))) : pl_sp T (fun _ F O => pl_sm T (f + 2) F O) (fun σ => prf_R_readSum rc σ (nI D)) (fun τ => prf_X_sum rcX τ (nI D)) := by
  intro a q d σ τ g hq hd
  show pl_ph T _ a q d σ τ (prf_R_readSum rc σ (nI D)) (prf_X_sum rcX τ (nI D))
  have h8 := pl_gd8 g
  have hF : pr_FU = 99999 + 1 := rfl
  by_cases hD : D ≤ 60
  · have H2 := pl_term rc rcX (nI D) f (H hD)
    obtain ⟨a1, σ1, τ1, hle, fc1, fx1, hr⟩ := H2 a q d σ τ g hq hd
    have n60 : ¬ (60 : Int32) < nI D := nI_nlt (a := 60) hD (by omega)
    rcases hr with ⟨y, d1, G, Q, hC, hX, g1, hO, hD1, tr1, ops1, cm1, sm1⟩ | ⟨hC, v, hX, b1, vi1⟩
    · have h81 := pl_gd8 g1
      have iv1 := tr1.iv
      have hC' : prf_R_readTerm rc σ (nI D) = some (1, σ1) := hC
      have hX' : prf_X_term rcX τ (nI D) = some (nI y, τ1) := hX
      have eC0 : prf_R_readSum rc σ (nI D) = prf_R_readSum_18 rc pr_FU σ1 (nI D) (nI 0) := by
        unfold prf_R_readSum
        rw [if_neg n60, hC', pl_sb, if_neg (show ¬ ((1 : Int32), σ1).1 = 0 from pl_10)]
        rfl
      cases hop : pl_isS (pl_xK T a1) with
      | false =>
        have eC : prf_R_readSum rc σ (nI D) = some (1, σ1) := by
          rw [eC0, hF]
          exact pl_sum18s rc (nI D) 99999 σ1 0 _ (by decide) (pl_nowG g1) (pl_gdK g1) hop
        have eX : prf_X_sum rcX τ (nI D) = some (nI y, τ1) := by
          have n21 : ¬ pl_xK T a1 = 21 := fun q => by rw [q] at hop; cases hop
          have n22 : ¬ pl_xK T a1 = 22 := fun q => by rw [q] at hop; cases hop
          unfold prf_X_sum
          rw [pl_deepY hD, pl_sb, if_pos g.2.2.2.1, hX', pl_sb, pl_lookG g1, pl_sb, if_neg (pl_kn (pl_gdK g1) (j := 21) (v := 43) (by decide) rfl n21), pl_sb, if_neg (pl_kn (pl_gdK g1) (j := 22) (v := 45) (by decide) rfl n22)]
        exact ⟨a1, σ1, τ1, hle, fc1, fx1, Or.inl ⟨y, d1, G, Q, eC, eX, g1, hO, hD1, tr1, ops1, cm1, pl_sm_f _ _ _ sm1⟩⟩
      | true =>
        obtain ⟨t, htp⟩ := pl_tr_place tr1
        obtain ⟨τ2, e2, g2, fx2, t2⟩ := pl_draftG g1 (by omega) 17 t 0
        obtain ⟨τ3, e3, g3, fx3, t3⟩ := pl_joinG (l := d) (h := d1 + 1) g2 t2 (tr1.fx fx2 (Nat.le_refl _)) (by omega) (Or.inr (Nat.le_refl _)) (by omega) (by omega) (by omega) (by omega)
        have e2' : prf_X_draft τ1 17 (nI (pl_xP T t)) 0 = some (nI d1, τ2) := e2
        have eX0 : prf_X_sum rcX τ (nI D) = prf_X_sum_62 rcX pr_FU τ3 (nI D) (nI d1) := by
          unfold prf_X_sum
          rcases pl_isSc _ (pl_gdK g1) hop with hk | hk
          · rw [pl_deepY hD, pl_sb, if_pos g.2.2.2.1, hX', pl_sb, pl_lookG g1, pl_sb, hk, if_pos (show nI (pl_km 21) = 43 from rfl), pl_ck (show y < 26000 by omega) (by omega), nI_clamp (by omega), htp, e2', pl_sb, e3, pl_sb]
          · rw [pl_deepY hD, pl_sb, if_pos g.2.2.2.1, hX', pl_sb, pl_lookG g1, pl_sb, hk, if_neg (show ¬ nI (pl_km 22) = 43 by decide), pl_sb, if_pos (show nI (pl_km 22) = 45 from rfl), pl_ck (show y < 26000 by omega) (by omega), nI_clamp (by omega), htp, e2', pl_sb, e3, pl_sb]
        have c8 := pl_c8 g1.1
        obtain ⟨a', σ', τ', hle2, fc', fx', hr2⟩ := pl_bloop (fun σ => prf_R_readTerm rc σ (nI D)) (fun τ => prf_X_term rcX τ (nI D)) (f + 1) H2 pl_isS pl_nkS pl_hnS (fun m σ i => prf_R_readSum_18 rc m σ (nI D) i) (fun m τ s => prf_X_sum_62 rcX m τ (nI D) s) (pl_sum18s rc (nI D)) (pl_sum18g rc (nI D)) (pl_sum62s rcX (nI D)) (pl_sum62g rcX (nI D)) q d a d1 17 t G Q 8001 a1 0 (q + Q.length) (d1 + 1) pr_FU pr_FU σ1 τ3 ([] ++ [(y, G)]) [] (by omega) (by rw [hF]; omega) (by rw [hF]; omega) (by have := cm1.1; omega) g3 (by omega) (by omega) (fun q => by rw [hop] at q; cases q) (by omega) t3 (by simp [pl_cat, pl_catN]) (by simpa [pl_catN] using cm1) (by simp [pl_catO]) (by simpa [pl_catO] using hO) (by simpa [pl_catO] using ops1) (fun e he => by cases he)
        have fcA : pl_fc q σ σ' := fc1.tr fc' (by omega)
        have fxA : pl_fx d τ τ' := ((fx1.tr fx2 (by omega)).tr fx3 (by omega)).tr fx' (Nat.le_refl _)
        rw [← eC0, ← eX0] at hr2
        rcases hr2 with ⟨d', Ls, w1, w2, w3, w4, w5, w6, w7, w8, w9, w10⟩ | ⟨w1, w2, w3⟩
        · exact ⟨a', σ', τ', by omega, fcA, fxA, Or.inl ⟨d1, d', _, Q ++ pl_catO Ls, w1, w2, w3, w4, by have := w6 hop; omega, w7, w8, pl_cm_hd w9 (by simp) (by simp) (by simp), Or.inr (Or.inr (Or.inr (Or.inr (Or.inr (Or.inr ⟨17, t, G, Q, Ls, Or.inl rfl, rfl, rfl, sm1, w10⟩)))))⟩⟩
        · exact ⟨a', σ', τ', by omega, fcA, fxA, Or.inr ⟨w1, nI d1, w2, w3, pl_vi1 (by omega) (by omega)⟩⟩
    · have hC' : prf_R_readTerm rc σ (nI D) = some (0, σ1) := hC
      have hX' : prf_X_term rcX τ (nI D) = some (v, τ1) := hX
      have eC : prf_R_readSum rc σ (nI D) = some (0, σ1) := by
        unfold prf_R_readSum
        rw [if_neg n60, hC', pl_sb, if_pos rfl]
      have eX : prf_X_sum rcX τ (nI D) = some (v, τ1) := by
        unfold prf_X_sum
        rw [pl_deepY hD, pl_sb, if_pos g.2.2.2.1, hX', pl_sb, pl_lookW b1, pl_sb, if_neg (show ¬ (1 : Int32) = 43 by decide), pl_sb, if_neg (show ¬ (1 : Int32) = 45 by decide)]
      exact ⟨a1, σ1, τ1, hle, fc1, fx1, Or.inr ⟨eC, v, eX, b1, vi1⟩⟩
  · obtain ⟨τ1, x1, b1, fx1⟩ := pl_deepN g (D := D) (by omega) (by omega)
    have b1' := b1 d 3 (Nat.le_refl _) (by omega)
    have eC : prf_R_readSum rc σ (nI D) = some (0, σ) := by
      unfold prf_R_readSum
      rw [if_pos (show (60 : Int32) < nI D from nI_lt (a := 60) (by omega) (by omega))]
    have eX : prf_X_sum rcX τ (nI D) = some (-1, τ1) := by
      unfold prf_X_sum
      rw [x1, pl_sb, if_neg (pl_nbW b1'), pl_lookW b1', pl_sb, if_neg (show ¬ (1 : Int32) = 43 by decide), pl_sb, if_neg (show ¬ (1 : Int32) = 45 by decide)]
    exact ⟨a, σ, τ1, Nat.le_refl _, pl_fc.rf, fx1 d, Or.inr ⟨eC, -1, eX, b1', pl_vi0⟩⟩
/-- the recursion is tied: factors at depth D -/
theorem pl_factorN {T : pl_Tx} : ∀ (m D h : Nat), D + m = 60 → m < h → pl_sp T (fun _ F O => pl_sm T (3 * m + 3) F O) (fun σ => prF_R_readFactor h σ (nI D)) (fun τ => prF_X_factor h τ (nI D)) := by
  intro m
  induction m with
  | zero =>
    intro D h hD hh
    obtain ⟨h, rfl⟩ : ∃ z, h = z + 1 := ⟨h - 1, by omega⟩
    exact pl_factor (prF_R_readFactor h) (prF_X_factor h) D 2 (by omega) (fun q => absurd q (by omega)) (pl_sum _ _ (D + 1) (by omega) 0 (fun q => absurd q (by omega)))
  | succ m ih =>
    intro D h hD hh
    obtain ⟨h, rfl⟩ : ∃ z, h = z + 1 := ⟨h - 1, by omega⟩
    have I := ih (D + 1) h (by omega) (by omega)
    have S := pl_sum (prF_R_readFactor h) (prF_X_factor h) (D + 1) (by omega) (3 * m + 3) (fun _ => I)
    have I' : pl_sp T (fun _ F O => pl_sm T (3 * m + 5) F O) (fun σ => prF_R_readFactor h σ (nI (D + 1))) (fun τ => prF_X_factor h τ (nI (D + 1))) := by
      intro a q d σ τ g hq hd
      obtain ⟨a', σ', τ', h1, h2, h3, hr⟩ := I a q d σ τ g hq hd
      refine ⟨a', σ', τ', h1, h2, h3, ?_⟩
      rcases hr with ⟨y, d', G, Q, w1, w2, w3, w4, w5, w6, w7, w8, w9⟩ | w
      · exact Or.inl ⟨y, d', G, Q, w1, w2, w3, w4, w5, w6, w7, w8, pl_sm_ff w9 (by omega)⟩
      · exact Or.inr w
    exact pl_factor (prF_R_readFactor h) (prF_X_factor h) D (3 * m + 5) (by omega) (fun _ => I') S
/-- a SUM as the statements ask for it: f bounds its depth -/
theorem pl_sumN {T : pl_Tx} (D : Nat) (h1 : 1 ≤ D) (hD : D < 1000) : pl_sp T (fun _ F O => pl_sm T (185 - 3 * D) F O) (fun σ => prf_R_readSum (prF_R_readFactor 70) σ (nI D)) (fun τ => prf_X_sum (prF_X_factor 70) τ (nI D)) := by
  by_cases hD6 : D ≤ 60
  · have := pl_sum (T := T) (prF_R_readFactor 70) (prF_X_factor 70) D hD (3 * (60 - D) + 3) (fun _ => pl_factorN (60 - D) D 70 (by omega) (by omega))
    rw [show 3 * (60 - D) + 3 + 2 = 185 - 3 * D by omega] at this
    exact this
  · intro a q d σ τ g hq hd
    obtain ⟨a', σ', τ', h1, h2, h3, hr⟩ := pl_sum (T := T) (prF_R_readFactor 70) (prF_X_factor 70) D hD 0 (fun q => absurd q hD6) a q d σ τ g hq hd
    refine ⟨a', σ', τ', h1, h2, h3, ?_⟩
    rcases hr with ⟨y, d', G, Q, w1, w2, w3, w4, w5, w6, w7, w8, w9⟩ | w
    · exfalso
      have e : prf_R_readSum (prF_R_readFactor 70) σ (nI D) = some (0, σ) := by
        unfold prf_R_readSum
        rw [if_pos (show (60 : Int32) < nI D from nI_lt (a := 60) (by omega) (by omega))]
      have w1' : prf_R_readSum (prF_R_readFactor 70) σ (nI D) = some (1, σ') := w1
      rw [e] at w1'
      exact absurd (congrArg Prod.fst (Option.some.inj w1')) (show ¬ (0 : Int32) = 1 by decide)
    · exact Or.inr w
