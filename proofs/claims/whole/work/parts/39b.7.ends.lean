/-! THE LAYOUT: a statement with BLOCKs is laid -/
theorem pl_blkG {T : pl_Tx} {m : Nat} {rep : Nat → Nat} {Ps : List pl_En} {W W' : pl_Wt} {A E : List (Nat × Bool)} {d p ii nb bb fi send b bF f k s q bs x n p' nb' : Nat} {par : Int32} {σ τ σ' τ' : pr_St} {F : List pl_N} {S : List pl_S} {O : List pl_O} {r : pl_S} {rX : Option pr_St} (hZ : pl_Z T m rep Ps W A E d p ii nb bb fi send b bF par σ τ) (his : pl_is T m rep Ps σ τ f b k s q E F S O) (hS : ∃ S', S = r :: S') (hbs : τ.2.1 17 b = nI bs) (hkb : k + F.length ≤ b + bs) (hbl : b + bs ≤ 12870)
    (hfz : pl_fz p d (A ++ E).length σ τ σ' τ') (hn : n ≤ 3 * (p' - p)) (hrun : ∀ g, prf_Y_layProgram_65 (g + n) σ (nI x) = prf_Y_layProgram_65 g σ' (nI (x + n))) (hrX : rX = some τ') (c14 : σ'.1 4 14 = nI p') (c33 : τ'.1 0 33 = nI p') (hp' : p' ≤ 249) (hpp : p < p') (c69 : σ'.1 6 9 = nI (d + 1)) (c54 : σ'.1 5 4 = nI (pl_cnt false (A ++ E))) (c55 : σ'.1 5 5 = nI (pl_cnt true (A ++ E))) (x42 : τ'.1 0 42 = nI (A ++ E).length) (x43 : τ'.1 0 43 = nI A.length) (x45 : τ'.1 0 45 = nI (pl_cnt false (A ++ E))) (x46 : τ'.1 0 46 = nI (pl_cnt true (A ++ E))) (x47 : τ'.1 0 47 = 0) (x48 : τ'.1 0 48 = τ.1 0 48) (x44 : τ'.1 0 44 = nI nb') (hnb : nb ≤ nb') (hnb' : nb' ≤ nb + 2 * (p' - p)) (r42 : σ'.2.1 42 d = nI (s + S.length))
    (hC : σ'.2.1 25 p = nI r.1 ∧ σ'.2.1 26 p = nI (pl_xP T r.2.1) ∧ σ'.2.1 27 p = nI s ∧ σ'.2.1 28 p = nI (pl_cnt false (A ++ E)) ∧ σ'.2.1 29 p = nI (pl_cnt true (A ++ E)) ∧ σ'.2.1 30 p = nI (pl_cnt false A) ∧ σ'.2.1 31 p = nI (pl_cnt true A) ∧ σ'.2.1 32 p = par ∧ σ'.2.1 33 p = (if k + F.length = b + bs then 1 else 0)) (r35 : σ'.2.1 35 p = nI p')
    (hX : τ'.2.1 20 p = nI k ∧ τ'.2.1 21 p = par ∧ τ'.2.1 22 p = nI p' ∧ τ'.2.1 23 p = nI (pl_cnt false (A ++ E)) ∧ τ'.2.1 24 p = nI (pl_cnt true (A ++ E)) ∧ τ'.2.1 25 p = nI E.length)
    (hmt : ∀ i, i < E.length → τ'.2.1 26 (40 * p + i) = τ.2.1 29 (A.length + i) ∧ τ'.2.1 27 (40 * p + i) = τ.2.1 30 (A.length + i) ∧ τ'.2.1 28 (40 * p + i) = τ.2.1 31 (A.length + i))
    (hWz : ∀ z, z < p → W' z = W z) (hWp : W' p = (A, E)) (hsv' : pl_sv T Ps p' σ') (hin : ∀ z, p < z → z < p' → pl_pt T m rep Ps W' p' σ' τ' z) (hpg : ∀ z, p < z → z < p' → pl_pg T W' p' σ' z) (hlev : ∀ y, p < y → y < p' → ∃ pp, τ'.2.1 21 y = nI pp ∧ p ≤ pp ∧ pp < 250) (hpk : pl_pk T W' p k p' F.length r σ' τ') (hr8 : ¬ r.1 = 8) :
    pl_Lg T m rep Ps W A E E d p ii bb fi send b bF s (s + S.length) r.1 x par (if k + F.length = b + bs then 1 else 0) σ τ rX := by
  obtain ⟨z1, z2, ⟨z31, z32⟩, ⟨z41, z42, z43, z44, z45⟩, ⟨z51, z52, z53, z54, z55⟩, ⟨z61, z62, z63, z64, z65, z66⟩, z7⟩ := hZ
  have fC := hfz.1
  have fT := hfz.2.1
  have ewv : pl_wv W' p = A ++ E := by unfold pl_wv; rw [hWp]
  have hpf : pl_pf Ps.length W' A E p' bb fi b bF par σ' := by
    have := pl_pf_eq (X := []) z7 (fun a z h1 h2 hz => hfz.2.2.1 a z h1 (by omega) hz) hWz (show p ≤ p' by omega)
    rw [List.append_nil] at this
    exact this
  refine ⟨n, p', W', σ', τ', hn, hrun, hrX, ⟨⟨nb', ⟨pl_bs_fr z1 fC fT, ?_, ⟨x43, x47⟩, ⟨c14, c33, hp', c69, by omega⟩, ⟨?_, ?_, ?_, z54, z55⟩, ⟨x44, by omega, by omega, z64, z65, fun v hv => ?_⟩, hpf⟩⟩, r42, hfz, hWz, by omega, hsv', fun z h1 h2 => ?_, fun y h1 h2 => ?_, ⟨[], by rw [List.append_nil]⟩, x48, fun nb0 hn0 hle => ⟨nb', x44, ?_⟩⟩, hpp, hWp, hpg, r35, hC.2.2.2.2.2.2.2.2, hC.1, hC.2.2.1⟩
  · exact pl_scp_eq z2 c54 c55 x42 x45 x46 (fun a z h1 h2 hz => hfz.2.2.2.1 a z h1 h2 hz) (fun a z h1 h2 hz => hfz.2.2.2.2.2.2.2.2 a z h1 (by omega) hz)
  · rw [hfz.2.2.2.2.2.1 43 (by decide) (by decide)]; exact z51
  · rw [hfz.2.2.2.2.2.1 45 (by decide) (by decide)]; exact z52
  · rw [hfz.2.2.2.2.2.1 46 (by decide) (by decide)]; exact z53
  · rw [hfz.2.2.2.2.2.2.2.2 32 v (by decide) (by decide) hv]
    obtain ⟨j, j1, j2, j3⟩ := z66 v hv
    exact ⟨j, j1, by omega, j3⟩
  · by_cases hz : z = p
    · subst hz
      refine ⟨f, b, bs, k, s, q, p', F, S, O, r, par, by rw [hWp]; exact pl_is_fr his fC fT, hS, ⟨by rw [fT.2.1 17 rfl]; exact hbs, hkb, hbl⟩, ?_, ?_, ⟨hpp, Nat.le_refl _, hp', by rw [ewv]; exact z2.2.2.2.2.2.1, by rw [ewv]; exact z2.2.2.2.2.2.2.1⟩, ?_, ⟨?_, fun h => absurd h hr8⟩, hpk⟩
      · rw [ewv, hWp]
        obtain ⟨g1, g2, g3, g4, g5, g6, g7, g8, g9⟩ := hC
        exact ⟨g1, g2, g3, g4, g5, g6, g7, g8, g9, r35⟩
      · rw [ewv, hWp]
        exact hX
      · rw [hWp]
        intro i e hie
        have hi : i < E.length := by
          by_cases q : i < E.length
          · exact q
          · rw [List.getElem?_eq_none (by show E.length ≤ i; omega)] at hie; cases hie
        have hd := hmt i hi
        have hv := z2.2.2.2.2.2.2.2 (A.length + i) e (by rw [List.getElem?_append_right (by omega), show A.length + i - A.length = i by omega]; exact hie)
        obtain ⟨_, _, _, v4, v5, v6, v7, v8, v9⟩ := hv
        have etk : (A ++ E).take (A.length + i) = A ++ E.take i := by rw [List.take_length_add_append]
        rw [etk] at v5
        rw [hd.1, hd.2.1, hd.2.2]
        exact ⟨v4, v5, v6, v7, v8, v9⟩
      · rw [hWp]
        rcases z7 with ⟨q1, q2, _⟩ | ⟨pp, q1, q2, _, q3⟩
        · exact Or.inl ⟨q1, q2⟩
        · refine Or.inr ⟨pp, q1, q2, ?_⟩
          unfold pl_wv
          rw [hWz pp q2, hfz.2.2.1 25 pp (by decide) (by decide) q2]
          rcases q3 with ⟨w1, w2, _⟩ | ⟨w1, w2, w3, _, w4⟩
          · exact Or.inl ⟨w1, w2⟩
          · exact Or.inr ⟨w1, w2, w3, w4⟩
    · exact hin z (by omega) h2
  · by_cases hy : y = p
    · subst hy
      refine Or.inl ⟨k, hX.2.1, hX.1, ?_, ?_⟩
      · have := his.2.2.2.2.2.2.1.2.1
        have := (pl_is_17 his).2
        omega
      · rw [fT.2.1 16 rfl]
        obtain ⟨e0, l0, eF, _⟩ := pl_sT_ro his.1
        have i3 := his.2.2.1
        rw [eF] at i3
        exact pl_wh_0 i3
    · exact Or.inr (hlev y (by omega) h2)
  · have e : nb = nb0 := (nI_eq (by omega) (by omega)).mp (z61.symm.trans hn0)
    subst e
    exact ⟨hnb, hnb'⟩
/-- the class comes to the end of a BLOCK -/
def pl_cut (σ : pr_St) (d : Nat) (V : List (Nat × Bool)) : pr_St := pr_sI (pr_sI (pr_sI σ 6 10 (nI d)) 5 4 (nI (pl_cnt false V))) 5 5 (nI (pl_cnt true V))
theorem pl_cut_fr {σ : pr_St} {d : Nat} {V : List (Nat × Bool)} : pl_fr pl_FL pl_GL σ (pl_cut σ d V) := ((pl_sI_fr (o := 6) (k := 10) rfl).tr (pl_sI_fr (o := 5) (k := 4) rfl)).tr (pl_sI_fr (o := 5) (k := 5) rfl)
theorem pl_endC {d p P se oth x : Nat} {V : List (Nat × Bool)} {σ : pr_St} (h9 : σ.1 6 9 = nI (d + 1)) (hd : d < 250) (h14 : σ.1 4 14 = nI P) (hP : P ≤ 249) (hp : p < P) (h42 : σ.2.1 42 d = nI se) (h43 : σ.2.1 43 d = nI se) (h44 : σ.2.1 44 d = nI oth) (h45 : σ.2.1 45 d = nI p) (h28 : σ.2.1 28 p = nI (pl_cnt false V)) (h29 : σ.2.1 29 p = nI (pl_cnt true V)) (hse : se < 2 ^ 31) (ho : oth < 2 ^ 31) (hx : x < 1000) (g : Nat) : prf_Y_layProgram_65 (g + 1) σ (nI x) = prf_Y_layProgram_65 g (if oth ≤ se then pr_sI (pr_sA (pl_cut σ d V) 35 (upd (σ.2.1 35) p (nI P))) 6 9 (nI d) else pr_sA (pr_sA (pl_cut σ d V) 43 (upd (σ.2.1 43) d (nI oth))) 37 (upd (σ.2.1 37) p (nI P))) (nI (x + 1)) := by
  have hop : pl_opn d (pr_sI σ 6 10 (nI d)) := ⟨h9, pr_sI_same, hd⟩
  have e14 : (pr_sI σ 6 10 (nI d)).1 4 14 = nI P := h14
  have opc : pl_opn d (pl_cut σ d V) := ⟨h9, rfl, hd⟩
  have c14 : (pl_cut σ d V).1 4 14 = nI P := h14
  have etk : prf_Y_takeStatement (pr_sI σ 6 10 (nI d)) = some (-1, pr_sI σ 6 10 (nI d)) := by
    unfold prf_Y_takeStatement
    have e42 : (pr_sI σ 6 10 (nI d)).2.1 42 d = nI se := h42
    have e43 : (pr_sI σ 6 10 (nI d)).2.1 43 d = nI se := h43
    rw [pl_isO hop, pl_sb, if_neg pl_10, hop.2.1, pl_ck hd (by omega), pl_ck hd (by omega), nI_clamp (by omega), e42, e43, if_neg (nI_nlt (Nat.le_refl _) hse)]
  have epar : prf_Y_parent (pr_sI σ 6 10 (nI d)) = some (nI p) := by
    rw [(pl_opC hop).1]
    show some (σ.2.1 45 d) = _
    rw [h45]
  obtain ⟨p1, p2, p3, p4, _⟩ := pl_pnt e14 (by omega) hp
  have n3 : prf_O_numbersAt (pr_sI σ 6 10 (nI d)) (nI p) = some (nI (pl_cnt false V)) := by rw [p3]; show some (σ.2.1 28 p) = _; rw [h28]
  have n4 : prf_O_arraysAt (pr_sI σ 6 10 (nI d)) (nI p) = some (nI (pl_cnt true V)) := by rw [p4]; show some (σ.2.1 29 p) = _; rw [h29]
  have ecut : prf_S_cutTo (pr_sI σ 6 10 (nI d)) (nI (pl_cnt false V)) (nI (pl_cnt true V)) = some (pl_cut σ d V) := rfl
  have e44 : (pl_cut σ d V).2.1 44 d = nI oth := h44
  have e43 : (pl_cut σ d V).2.1 43 d = nI se := h43
  have eend : prf_Y_endBlock (pr_sI σ 6 10 (nI d)) = some (if oth ≤ se then pr_sI (pr_sA (pl_cut σ d V) 35 (upd (σ.2.1 35) p (nI P))) 6 9 (nI d) else pr_sA (pr_sA (pl_cut σ d V) 43 (upd (σ.2.1 43) d (nI oth))) 37 (upd (σ.2.1 37) p (nI P))) := by
    unfold prf_Y_endBlock
    rw [epar, pl_sb, n3, pl_sb, n4, pl_sb, ecut, pl_sb, pl_isO opc, pl_sb, if_neg pl_10, opc.2.1, pl_ck hd (by omega), pl_ck hd (by omega), nI_clamp (by omega), e44, e43]
    by_cases q : oth ≤ se
    · rw [if_pos (nI_le q hse), if_pos q]
      unfold prf_O_close
      rw [(pl_pnt c14 (by omega) hp).1, pl_sb, if_neg pl_10, pl_ck (by omega) (by omega), nI_clamp (by omega), c14, pl_sb]
      have e9 : (pr_sA (pl_cut σ d V) 35 (upd ((pl_cut σ d V).2.1 35) p (nI P))).1 6 9 - 1 = nI d := by
        show σ.1 6 9 - 1 = _
        rw [h9, pl_sub1]
      rw [e9]
      rfl
    · rw [if_neg (nI_ge (by omega) ho), if_neg q, pl_ck hd (by omega), pl_ck hd (by omega)]
      unfold prf_O_beginOther
      have c14' : (pr_sA (pl_cut σ d V) 43 (upd ((pl_cut σ d V).2.1 43) d (nI oth))).1 4 14 = nI P := h14
      rw [(pl_pnt c14' (by omega) hp).1, pl_sb, if_neg pl_10, pl_ck (by omega) (by omega), nI_clamp (by omega), c14', pl_sb]
      rfl
  rw [prf_Y_layProgram_65, if_neg (show ¬ (1000 : Int32) ≤ nI x from nI_ge (b := 1000) hx (by omega)), h9, if_neg (show ¬ nI (d + 1) ≤ 0 from fun q => nI_ge (a := 0) (b := d + 1) (by omega) (by omega) q), pl_sub1, etk, pl_sb, if_pos rfl]
  show (prf_Y_endBlock (pr_sI σ 6 10 (nI d))).bind _ = _
  rw [eend, pl_sb, nI_1]
