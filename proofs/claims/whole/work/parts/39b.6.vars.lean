/-! THE LAYOUT: the three kinds of var -/
theorem pl_var1L {rc : pr_St → Int32 → Int32 → Int32 → Int32 → Option pr_St} {T : pl_Tx} {m : Nat} {rep : Nat → Nat} {Ps : List pl_En} {W : pl_Wt} {A E : List (Nat × Bool)} {d p ii nb bb fi send b bF f k s q bs x : Nat} {par x3 : Int32} {σ τ : pr_St} {F : List pl_N} {S : List pl_S} {O : List pl_O} (hc : pl_cx T m rep Ps W A E d p ii nb bb fi send b bF f k s q bs x par σ τ F S O) (hp : p < 249) (h : pl_st1 T s q E F S O) : pl_LS T m rep Ps W A E d p ii bb fi send b bF k s bs x par σ τ F S 1 (prf_X_statement5 rc τ (nI k) (nI b) x3 par (nI ii)) := by
  obtain ⟨t, k1, k2, k3, rfl, rfl, rfl⟩ := h
  have his := hc.2.1
  have hZ := hc.1
  have hown := (pl_own hZ.1 his).2
  have hown : t + 3 ≤ pl_xc T := hown
  have hm3 := pl_more hZ.1.1 (t := t + 2) (by omega) (by omega)
  obtain ⟨i1, i2, i3, i4, i5, i6, ⟨i71, i72, i73, i74⟩, i8⟩ := his
  rw [List.length_cons, List.length_cons, List.length_nil] at i72
  obtain ⟨idn, e15, hidm, hsn⟩ : ∃ id, τ.2.1 15 (k + 1) = nI id ∧ id < m ∧ pl_sn T (rep id) (t + 1) := i2.2.1.2.2.1 rfl
  have h13 : τ.2.1 13 k = nI 3 := i2.1.1
  have h17 : τ.2.1 17 k = nI 2 := i2.1.2.2.2.2
  have head : ∀ (τ1 : pr_St) (f' : Nat), pl_fr pl_FM pl_GM τ τ1 → pl_ls T m rep A E (pl_s2 σ d (s + 1) A) τ1 → prf_X_statement5_96 rc (f' + 1) τ1 (nI k) (nI b) x3 (nI ii) (nI p) (nI (A ++ E).length) = (prf_X_isNew τ1 (nI (k + 1)) (nI ii)).bind fun r175 => if r175.1 = 0 then some (pl_e22 r175.2 p) else pr_ck (nI k) 13000 <| if ((r175.2.2.1 17) (nI k).toNatClampNeg) = 2 then prf_X_statement5_274 rc r175.2 (nI k) (nI ii) (nI p) else (prf_X_second r175.2 (nI k)).bind fun r180 => (prf_X_lookAll r175.2 r180).bind fun r181 => if r181.1 = 0 then some (pl_e22 r181.2 p) else prf_X_statement5_274 rc r181.2 (nI k) (nI ii) (nI p) := by
    intro τ1 f' fX hls
    have h42x : τ1.1 0 42 = nI (A ++ E).length := hls.2.2.1.2.2.1
    rw [prf_X_statement5_96, h42x, if_pos (Int32.le_refl _), pl_ck (by omega) (by omega), nI_clamp (by omega), fX.2.1 13 rfl, h13, if_pos (by rfl), nI_1]
    simp only [pl_e22_X (show p < 250 by omega)]
  refine pl_varNL (rc := rc) (x3 := x3) (e := t + 2) (idn := idn) hc hp k1 k2 (by omega) (Nat.le_refl _) hm3 k3 (fun u h1 h2 => by omega) i2.1.2.1 i2.2.1.2.1 e15 hidm hsn (by omega) (fun τ1 f' τx fX hls hn => ?_) (fun τ1 f' fX hls hn => ?_)
  · rw [head τ1 f' fX hls, hn, pl_sb, if_pos rfl]
  · rw [pl_cu_0]
    constructor
    · intro _
      rw [head τ1 f' fX hls, hn, pl_sb, if_neg (show ¬ ((1 : Int32), τ1).1 = 0 from pl_10), pl_ck (by omega) (by omega), nI_clamp (by omega)]
      show (if τ1.2.1 17 k = 2 then _ else _) = _
      rw [fX.2.1 17 rfl, h17, if_pos (by rfl)]
    · intro w pt hbad
      obtain ⟨C1, c, C2, e, _⟩ := hbad
      cases C1 <;> cases e
theorem pl_var2L {rc : pr_St → Int32 → Int32 → Int32 → Int32 → Option pr_St} {T : pl_Tx} {m : Nat} {rep : Nat → Nat} {Ps : List pl_En} {W : pl_Wt} {A E : List (Nat × Bool)} {d p ii nb bb fi send b bF f k s q bs x : Nat} {par x3 : Int32} {σ τ : pr_St} {F : List pl_N} {S : List pl_S} {O : List pl_O} (hc : pl_cx T m rep Ps W A E d p ii nb bb fi send b bF f k s q bs x par σ τ F S O) (hp : p < 249) (h : pl_st2 T s q E F S O) : pl_LS T m rep Ps W A E d p ii bb fi send b bF k s bs x par σ τ F S 1 (prf_X_statement5 rc τ (nI k) (nI b) x3 par (nI ii)) := by
  obtain ⟨t, e, G, k1, k2, k3, k4, hcm, hsm, rfl, rfl⟩ := h
  have his := hc.2.1
  have hZ := hc.1
  have htt := hZ.1.1
  have hown := (pl_own hZ.1 his).2
  have hown : e + 1 ≤ pl_xc T := hown
  have hte : t + 3 < e := hcm.1
  obtain ⟨i1, i2, i3, i4, i5, i6, ⟨i71, i72, i73, i74⟩, i8⟩ := his
  rw [List.length_cons, List.length_cons] at i72
  obtain ⟨idn, e15, hidm, hsn⟩ : ∃ id, τ.2.1 15 (k + 1) = nI id ∧ id < m ∧ pl_sn T (rep id) (t + 1) := i2.2.1.2.2.1 rfl
  have h13 : τ.2.1 13 k = nI 3 := i2.1.1
  have h17 : τ.2.1 17 k = nI (2 + G.length) := i2.1.2.2.2.2
  have h17b : τ.2.1 17 (k + 1) = nI 1 := i2.2.1.2.2.2.2
  have hG1 : 1 ≤ G.length := by
    obtain ⟨g0, l0, eg, _⟩ := pl_sm_ro hsm
    rw [eg, List.length_cons]; omega
  have ecu : pl_cu (pl_xK T) (t + 2) e = pl_cl false G := by
    rw [pl_cu_sk (a := t + 2) (by omega) (by omega) (by omega), hcm.2.2.1]
  have htc : pl_tc T (t + 2) e := pl_tc_app (pl_tc_1 (a := t + 2) (by omega) (by omega) (by omega) (by omega) (fun _ => by omega)) (pl_tc_cm htt hcm (by omega) (by omega))
  have head : ∀ (τ1 : pr_St) (f' : Nat), pl_fr pl_FM pl_GM τ τ1 → pl_ls T m rep A E (pl_s2 σ d (s + 1) A) τ1 → prf_X_statement5_96 rc (f' + 1) τ1 (nI k) (nI b) x3 (nI ii) (nI p) (nI (A ++ E).length) = (prf_X_isNew τ1 (nI (k + 1)) (nI ii)).bind fun r175 => if r175.1 = 0 then some (pl_e22 r175.2 p) else pr_ck (nI k) 13000 <| if ((r175.2.2.1 17) (nI k).toNatClampNeg) = 2 then prf_X_statement5_274 rc r175.2 (nI k) (nI ii) (nI p) else (prf_X_second r175.2 (nI k)).bind fun r180 => (prf_X_lookAll r175.2 r180).bind fun r181 => if r181.1 = 0 then some (pl_e22 r181.2 p) else prf_X_statement5_274 rc r181.2 (nI k) (nI ii) (nI p) := by
    intro τ1 f' fX hls
    have h42x : τ1.1 0 42 = nI (A ++ E).length := hls.2.2.1.2.2.1
    rw [prf_X_statement5_96, h42x, if_pos (Int32.le_refl _), pl_ck (by omega) (by omega), nI_clamp (by omega), fX.2.1 13 rfl, h13, if_pos (by rfl), nI_1]
    simp only [pl_e22_X (show p < 250 by omega)]
  refine pl_varNL (rc := rc) (x3 := x3) (e := e) (idn := idn) hc hp k1 k2 (by omega) (by omega) (by omega) k4 htc i2.1.2.1 i2.2.1.2.1 e15 hidm hsn (by omega) (fun τ1 f' τx fX hls hn => ?_) (fun τ1 f' fX hls hn => ?_)
  · rw [head τ1 f' fX hls, hn, pl_sb, if_pos rfl]
  · have n1 := pl_nd_fm i2 fX
    have w1 := pl_wh_fm i3 fX
    have wG : pl_wh τ1 (k + 2) (nI k) G := pl_wh_c (A := [(13, t + 1, nI (t + 1), 1)]) (C := []) w1 (by rw [List.append_nil]; rfl) (by show 2 + G.length = 1 + ((13, t + 1, nI (t + 1), 1) :: G).length; rw [List.length_cons]; omega) ⟨⟨Nat.le_refl _, Nat.le_refl _⟩, trivial⟩ (pl_sm_ro hsm)
    have nG : pl_nd T τ1 m rep (k + 2) G := n1.2.2
    obtain ⟨l1, l2⟩ := pl_lkX hls nG wG (pl_sm_xf _ _ _ hsm) (pl_sm_vn _ _ _ hsm).2 (pl_sm_ro hsm) (by omega) (by omega) (by rw [fX.2.1 13 rfl, h13]; decide)
    have hsec : prf_X_second τ1 (nI k) = some (nI (k + 2)) := by
      unfold prf_X_second
      rw [nI_1, pl_behX (by omega) (by rw [fX.2.1 17 rfl]; exact h17b), pl_sb]
    rw [ecu, head τ1 f' fX hls, hn, pl_sb, if_neg (show ¬ ((1 : Int32), τ1).1 = 0 from pl_10), pl_ck (by omega) (by omega), nI_clamp (by omega)]
    have hne : ¬ τ1.2.1 17 k = 2 := by
      rw [fX.2.1 17 rfl, h17]
      exact fun z => by have := (nI_eq (b := 2) (by omega) (by omega)).mp z; omega
    constructor
    · intro hall
      show (if τ1.2.1 17 k = 2 then _ else (prf_X_second τ1 (nI k)).bind _) = _
      rw [if_neg hne, hsec, pl_sb, l1 hall, pl_sb, if_neg (show ¬ ((1 : Int32), τ1).1 = 0 from pl_10)]
    · intro w pt hbad
      show (if τ1.2.1 17 k = 2 then _ else (prf_X_second τ1 (nI k)).bind _) = _
      rw [if_neg hne, hsec, pl_sb, l2 w pt hbad, pl_sb, if_pos rfl]
theorem pl_var3L {rc : pr_St → Int32 → Int32 → Int32 → Int32 → Option pr_St} {T : pl_Tx} {m : Nat} {rep : Nat → Nat} {Ps : List pl_En} {W : pl_Wt} {A E : List (Nat × Bool)} {d p ii nb bb fi send b bF f k s q bs x : Nat} {par x3 : Int32} {σ τ : pr_St} {F : List pl_N} {S : List pl_S} {O : List pl_O} (hc : pl_cx T m rep Ps W A E d p ii nb bb fi send b bF f k s q bs x par σ τ F S O) (hp : p < 249) (h : pl_st3 T s q E F S O) : pl_LS T m rep Ps W A E d p ii bb fi send b bF k s bs x par σ τ F S 1 (prf_X_statement5 rc τ (nI k) (nI b) x3 par (nI ii)) := by
  obtain ⟨t, k1, k2, k3, k4, k5, k6, rfl, rfl, rfl⟩ := h
  obtain ⟨hZ, his, h42, hse, hx, hbs, hkb, hbl, hlast, hsv, hss⟩ := hc
  have hown := (pl_own hZ.1 his).2
  have hown : t + 6 ≤ pl_xc T := hown
  have htt := hZ.1.1
  obtain ⟨i1, i2, i3, i4, i5, i6, ⟨i71, i72, i73, i74⟩, i8⟩ := id his
  rw [List.length_cons, List.length_cons, List.length_cons, List.length_nil] at i72
  obtain ⟨z1, z2, ⟨z31, z32⟩, ⟨z41, z42, z43, z44, z45⟩, ⟨z51, z52, z53, z54, z55⟩, ⟨z61, z62, z63, z64, z65, z66⟩, z7⟩ := id hZ
  obtain ⟨idn, h15', hid, hsn⟩ : ∃ id, τ.2.1 15 (k + 1) = nI id ∧ id < m ∧ pl_sn T (rep id) (t + 1) := i2.2.1.2.2.1 rfl
  have h13 : τ.2.1 13 k = nI 4 := i2.1.1
  have h14 : τ.2.1 14 k = nI (pl_xP T t) := i2.1.2.1
  have h14' : τ.2.1 14 (k + 1) = nI (pl_xP T (t + 1)) := i2.2.1.2.1
  have h14n : τ.2.1 14 (k + 2) = nI (pl_xP T (t + 3)) := i2.2.2.1.2.1
  have h15n : τ.2.1 15 (k + 2) = nI (pl_vt T (t + 3)) := i2.2.2.1.2.2.2.1 (show ¬ 12 = 13 by decide)
  have v31 := pl_vt31 htt (t := t + 3) (by omega) k4
  obtain ⟨σ2, hσ2⟩ : ∃ σ2, σ2 = pl_s2 σ d (s + 1) A := ⟨_, rfl⟩
  have f2 : pl_fr pl_FL pl_GL σ σ2 := by rw [hσ2]; exact pl_s2_fr
  have hls2 : pl_ls T m rep A E σ2 τ := by rw [hσ2]; exact pl_Z_ls hZ pl_fr.rf (fun _ _ _ => rfl) (fun _ _ => rfl)
  have hH := (pl_hold hZ (show s < pl_tS Ps by omega) i4 (show t < pl_xc T by omega)).2 hp
  have hH1 : prf_Y_holds (pl_s1 σ d (s + 1)) (nI s) = prf_Y_holds_67 σ2 (nI s) 1 (nI t) := by
    rw [hσ2]
    rw [if_neg (show ¬ nI 1 = 8 by decide)] at hH
    exact hH
  obtain ⟨vC1, vC2⟩ := pl_varC (e := s + 1) hZ (show t + 3 < pl_xc T by omega) k2
  rw [if_pos k3, ← hσ2] at vC2
  rw [← hσ2] at vC1
  obtain ⟨f', τ1, eX, hpX⟩ := pl_ptX (rc := rc) z2 (p := p) (k := k) (par := par) (x2 := nI b) (x3 := x3) (x5 := nI ii) z31 z42 hp
  have fX := pl_pX_fr hpX
  have new : ∀ τ1 : pr_St, pl_pX p k (A ++ E) A E par τ τ1 → ((∃ v e, bb ≤ v ∧ (A ++ E)[v]? = some e ∧ pl_sn T e.1 (t + 1)) → prf_X_isNew τ1 (nI (k + 1)) (nI ii) = some (0, pl_wX T τ1 2 (t + 1))) ∧ ((∀ v e, bb ≤ v → (A ++ E)[v]? = some e → ¬ pl_sn T e.1 (t + 1)) → prf_X_isNew τ1 (nI (k + 1)) (nI ii) = some (1, τ1)) := by
    intro τ1 hpX
    have fX := pl_pX_fr hpX
    have hls1 : pl_ls T m rep A E (pl_s2 σ d (s + 1) A) τ1 := pl_Z_ls hZ fX hpX.2.1 hpX.2.2.1
    exact pl_newX (nb := nb) hls1 z64 (fun v hv => by rw [hpX.2.2.1 32 (by omega)]; exact z66 v hv) (by omega) z63 (by omega) (by rw [fX.2.1 14 rfl]; exact h14') (by rw [fX.2.1 15 rfl]; exact h15') hid hsn
  have hls1 : pl_ls T m rep A E (pl_s2 σ d (s + 1) A) τ1 := pl_Z_ls hZ fX hpX.2.1 hpX.2.2.1
  have head : ∀ (τ1 : pr_St) (f' : Nat), pl_fr pl_FM pl_GM τ τ1 → pl_ls T m rep A E (pl_s2 σ d (s + 1) A) τ1 → prf_X_statement5_96 rc (f' + 1) τ1 (nI k) (nI b) x3 (nI ii) (nI p) (nI (A ++ E).length) = (prf_X_isNew τ1 (nI (k + 1)) (nI ii)).bind fun r186 => if r186.1 = 0 then some (pl_e22 r186.2 p) else if nI (pl_vt T (t + 3)) < 1 then prf_X_statement5_360 rc r186.2 (nI k) (nI ii) (nI p) (nI (pl_vt T (t + 3))) else if nI (pl_vt T (t + 3)) ≤ 64 then prf_X_statement5_372 rc r186.2 (nI k) (nI ii) (nI p) (nI (pl_vt T (t + 3))) else prf_X_statement5_360 rc r186.2 (nI k) (nI ii) (nI p) (nI (pl_vt T (t + 3))) := by
    intro τ1 f' fX hls
    have h42x : τ1.1 0 42 = nI (A ++ E).length := hls.2.2.1.2.2.1
    rw [prf_X_statement5_96, h42x, if_pos (Int32.le_refl _), pl_ck (by omega) (by omega), nI_clamp (by omega), fX.2.1 13 rfl, h13, if_neg (by decide), if_pos (by rfl), pl_n2, pl_ck (by omega) (by omega), nI_1, nI_clamp (n := k + 2) (by omega), fX.2.1 15 rfl, h15n]
    simp only [pl_e22_X (show p < 250 by omega)]
  have h360 : ∀ τ1 : pr_St, pl_fr pl_FM pl_GM τ τ1 → τ1.1 0 47 = 0 → prf_X_statement5_360 rc τ1 (nI k) (nI ii) (nI p) (nI (pl_vt T (t + 3))) = some (pl_e22 (pl_wX T τ1 9 (t + 3)) p) := by
    intro τ1 fX h47
    unfold prf_X_statement5_360
    rw [pl_n2, pl_wrX h47 (by omega) (by rw [fX.2.1 14 rfl]; exact h14n), pl_sb, if_pos rfl, pl_e22_X (show p < 250 by omega)]
  have h67 : ∀ v, prf_Y_varHolds σ2 (nI t) = some (0, v) → prf_Y_holds (pl_s1 σ d (s + 1)) (nI s) = some (0, v) := by
    intro v hv
    rw [hH1]
    unfold prf_Y_holds_67
    rw [if_pos rfl, hv, pl_sb, if_pos rfl]
  have h67' : prf_Y_varHolds σ2 (nI t) = some (1, σ2) → prf_Y_holds (pl_s1 σ d (s + 1)) (nI s) = prf_Y_holds_82 σ2 (nI s) 1 (nI t) := by
    intro hv
    rw [hH1]
    unfold prf_Y_holds_67
    rw [if_pos rfl, hv, pl_sb, if_neg (show ¬ ((1 : Int32), σ2).1 = 0 from pl_10)]
  have n0 : ∀ σ : pr_St, ¬ ((1 : Int32), σ).1 = 0 := fun _ => pl_10
  by_cases hdup : ∃ v e, bb ≤ v ∧ (A ++ E)[v]? = some e ∧ pl_sn T e.1 (t + 1)
  · refine Or.inr ?_
    exact pl_badG (σ3 := σ2) (τ' := pl_e22 (pl_wX T τ1 2 (t + 1)) p) (w := 2) (pt := t + 1) hZ i4 h42 hse hx (h67 _ (vC1 hdup)) f2 (by rw [eX, head τ1 f' fX hls1, (new τ1 hpX).1 hdup, pl_sb, if_pos rfl]) (pl_wX_47 (T := T) (τ := τ1) (w := 2) (t := t + 1)).1 (pl_wX_47 (T := T) (τ := τ1) (w := 2) (t := t + 1)).2 ((fX.tr pl_wX_fr).tr pl_e22_fr) (by decide)
  · have hnd : ∀ v e, bb ≤ v → (A ++ E)[v]? = some e → ¬ pl_sn T e.1 (t + 1) := fun v e v1 v2 v3 => hdup ⟨v, e, v1, v2, v3⟩
    have hX1 := (new τ1 hpX).2 hnd
    have hC1 := vC2 hnd
    have bad9 : prf_Y_varHolds σ2 (nI t) = some (0, pl_wC T σ2 9 (t + 3)) → prf_X_statement5 rc τ (nI k) (nI b) x3 par (nI ii) = some (pl_e22 (pl_wX T τ1 9 (t + 3)) p) → pl_Lb x σ τ (prf_X_statement5 rc τ (nI k) (nI b) x3 par (nI ii)) := fun h1 h2 => pl_badG (σ3 := σ2) (τ' := pl_e22 (pl_wX T τ1 9 (t + 3)) p) (w := 9) (pt := t + 3) hZ i4 h42 hse hx (h67 _ h1) f2 h2 (pl_wX_47 (T := T) (τ := τ1) (w := 9) (t := t + 3)).1 (pl_wX_47 (T := T) (τ := τ1) (w := 9) (t := t + 3)).2 ((fX.tr pl_wX_fr).tr pl_e22_fr) (by decide)
    by_cases q1 : nI (pl_vt T (t + 3)) < 1
    · refine Or.inr (bad9 ?_ ?_)
      · rw [hC1, if_pos q1]
      · rw [eX, head τ1 f' fX hls1, hX1, pl_sb, if_neg (n0 _), if_pos q1, h360 τ1 fX hls1.2.2.2.2.2.2.2.2]
    · by_cases q64 : nI (pl_vt T (t + 3)) ≤ 64
      · have v1 : 1 ≤ pl_vt T (t + 3) := by
          by_cases z : 1 ≤ pl_vt T (t + 3)
          · exact z
          · exact absurd (nI_lt (a := pl_vt T (t + 3)) (b := 1) (by omega) (by omega)) q1
        have v64 : pl_vt T (t + 3) ≤ 64 := by
          by_cases z : pl_vt T (t + 3) ≤ 64
          · exact z
          · exact absurd q64 (nI_ge (a := 64) (by omega) v31)
        rw [if_neg q1, if_pos q64] at hC1
        have h82 := h67' hC1
        have htc : pl_tc T (t + 2) (t + 5) := pl_tc_app (pl_tc_1 (a := t + 2) (by omega) (by omega) (by omega) (by omega) (fun _ => by omega)) (pl_tc_app (pl_tc_1 (a := t + 3) (by omega) (by omega) (by omega) (by omega) (fun _ => by omega)) (pl_tc_1 (a := t + 4) (by omega) (by omega) (by omega) (by omega) (fun _ => by omega)))
        have ecu : pl_cu (pl_xK T) (t + 2) (t + 5) = [] := by
          rw [pl_cu_sk (a := t + 2) (by omega) (by omega) (by omega), pl_cu_sk (a := t + 3) (by omega) (by omega) (by omega), pl_cu_sk (a := t + 4) (by omega) (by omega) (by omega), pl_cu_0]
        obtain ⟨t1, _⟩ := pl_tokH hls2 (nI s) (show t + 2 ≤ t + 5 by omega) (by omega) (Or.inl k6) htc
        obtain ⟨σ3, w1, w2⟩ := t1 (fun c hc => by rw [ecu] at hc; cases hc)
        obtain ⟨⟨g, eg⟩, _⟩ := id w2
        have ls3 : pl_ls T m rep A E σ3 τ := by rw [eg]; exact pl_ls_24 hls2 g
        have h13c : σ3.1 6 13 = -1 := by
          rw [eg]
          show σ2.1 6 13 = _
          rw [hσ2]
          unfold pl_s2
          rw [pr_sI_ne (by omega), pr_sI_ne (by omega), pr_sI_same]
        have ep : prf_G_parametersOf σ3 (-1) = some 0 := rfl
        have e2 : prf_Y_parametersHold σ3 = some (1, σ3) := by
          unfold prf_Y_parametersHold
          rw [show pr_FU = 99999 + 1 from rfl, prf_Y_parametersHold_2, h13c, ep, pl_sb, if_pos (by decide)]
        have e3 : prf_Y_thereIsRoom σ3 1 (nI t) = if pl_cnt true (A ++ E) < 6 then some (1, σ3) else some (0, pl_wC T σ3 13 t) := by
          unfold prf_Y_thereIsRoom prf_S_arrays
          rw [if_pos rfl, pl_n2, pl_kindG ls3.1 (by omega), pl_sb, if_pos (show nI (pl_xK T (t + 2)) = 16 by rw [k3]; rfl), ls3.2.2.1.2.1, pl_sb, pl_isW ls3.1 (by omega), pl_sb, if_pos rfl]
          have h6 := z2.2.2.2.2.2.2.1
          by_cases q : pl_cnt true (A ++ E) < 6
          · rw [if_pos (show nI (pl_cnt true (A ++ E)) < 6 from nI_lt (b := 6) q (by omega)), if_pos q]
          · rw [if_neg (show ¬ nI (pl_cnt true (A ++ E)) < 6 from nI_nlt (b := 6) (by omega) (by omega)), if_neg q]
        have e82 : prf_Y_holds_82 σ2 (nI s) 1 (nI t) = if pl_cnt true (A ++ E) < 6 then some (1, σ3) else some (0, pl_wC T σ3 13 t) := by
          unfold prf_Y_holds_82
          rw [if_pos rfl, pl_n2, w1, pl_sb, if_neg (n0 _), e2, pl_sb, if_neg (n0 _), e3]
          by_cases q : pl_cnt true (A ++ E) < 6
          · rw [if_pos q, pl_sb, if_neg (n0 _)]
          · rw [if_neg q, pl_sb, if_pos rfl]
        by_cases hroom : pl_cnt true (A ++ E) < 6
        · refine Or.inl ?_
          have hhold : prf_Y_holds (pl_s1 σ d (s + 1)) (nI s) = some (1, σ3) := by rw [h82, e82, if_pos hroom]
          have h3 : pl_h3 T (1, t, q, 0, s + 1, E, t + 6) (pl_s2 σ d (s + 1) A) σ3 := by
            rw [← hσ2]
            refine pl_h3_mk w2 rfl (show t ≤ t + 2 by omega) (by omega) (show t + 5 ≤ t + 6 by omega) (fun u g1 g2 g3 g4 => ?_)
            have g1 : t ≤ u := g1
            have g2 : u < t + 6 := g2
            have n0 : ¬ u = t := fun z => by rw [z] at g3; omega
            have n1 : ¬ u = t + 1 := fun z => g4 ⟨rfl, z⟩
            have n2 : ¬ u = t + 5 := fun z => by rw [z] at g3; omega
            omega
          have eex : pl_ex (pl_xK T) E [(1, t, q, 0, s + 1, E, t + 6)] = E ++ [(t + 1, true)] := by
            show (if 1 = 1 then E ++ [(t + 1, pl_xK T (t + 2) == 16)] else E) = _
            rw [if_pos rfl, k3]
            rfl
          rw [eex]
          refine pl_leafG (rc := rc) (x3 := x3) hZ his h42 hse hp hx hbs hkb hbl hlast hsv (show t < pl_xc T by omega) (Or.inl rfl) hhold h3 ?_ (fun _ => ⟨fun _ => ⟨hroom, v1, v64⟩, fun z => absurd k3 z⟩) (fun z => absurd z (show ¬ 1 = 8 by decide))
          intro σA τ1 f' fA fX hpX h47 scA
          have hls1 : pl_ls T m rep A E (pl_s2 σ d (s + 1) A) τ1 := pl_Z_ls hZ fX hpX.2.1 hpX.2.2.1
          obtain ⟨σ', eA, hsx⟩ := pl_varS (p := p) (ii := ii) (bo := true) scA (fun z => by cases z) (fun _ => hroom) hpX.1 k2 (by omega) hid hsn (fun _ => ⟨v1, v64⟩)
          refine ⟨σ', _, ?_, ?_, hsx⟩
          · have ttA := pl_tt_fr htt fA (pl_fr.rf (F := pl_FM) (G := pl_GM) (σ := τ)) ⟨rfl, rfl, rfl, rfl, rfl, rfl⟩ ⟨rfl, rfl, rfl, rfl, rfl, rfl⟩
            have eA' : prf_S_add σA (nI (t + 1)) 1 = some σ' := eA
            show pl_layK σA (nI s) (nI p) (nI t) (nI 1) = some σ'
            unfold pl_layK
            rw [if_pos (show nI 1 = 1 from rfl), pl_n2, nI_1, pl_kindG ttA (by omega), pl_sb, if_pos (show nI (pl_xK T (t + 2)) = 16 by rw [k3]; rfl), eA', pl_sb]
          · rw [head τ1 f' fX hls1, (new τ1 hpX).2 hnd, pl_sb, if_neg (n0 _), if_neg q1, if_pos q64]
            have h46 : τ1.1 0 46 = nI (pl_cnt true (A ++ E)) := scA.2.2.2.2.1
            have hl18 := pl_scp_len scA
            unfold prf_X_statement5_372 prf_X_statement5_391
            rw [h46, if_pos (show nI (pl_cnt true (A ++ E)) < 6 from nI_lt (b := 6) hroom (by omega)), nI_1, pl_ck (by omega) (by omega), nI_clamp (by omega), fX.2.1 15 rfl, h15', pl_giveX scA.2.2.1 (by omega), pl_sb, pl_ck (by omega) (by omega), nI_clamp (by omega)]
            have e46 : (pl_gv τ1 (A ++ E).length (nI idn) (nI (pl_cnt true (A ++ E))) (nI (pl_vt T (t + 3))) (nI ii)).1 0 46 + 1 = nI (pl_cnt true (A ++ E) + 1) := by
              unfold pl_gv
              rw [pr_sI_ne (by omega)]
              show τ1.1 0 46 + 1 = _
              rw [h46, nI_1]
            rw [e46]
            unfold pl_e22
            have e33 : (pl_gv τ1 (A ++ E).length (nI idn) (nI (pl_cnt true (A ++ E))) (nI (pl_vt T (t + 3))) (nI ii)).1 0 33 = (pr_sI (pl_gv τ1 (A ++ E).length (nI idn) (nI (pl_cnt true (A ++ E))) (pl_rm T (t + 1, true)) (nI ii)) 0 (if true = true then 46 else 45) (nI (pl_cnt true (A ++ E) + 1))).1 0 33 := by
              rw [pr_sI_ne (by simp)]
              rfl
            rw [e33]
            rfl
        · refine Or.inr ?_
          have hhold : prf_Y_holds (pl_s1 σ d (s + 1)) (nI s) = some (0, pl_wC T σ3 13 t) := by rw [h82, e82, if_neg hroom]
          have h46 : τ1.1 0 46 = nI (pl_cnt true (A ++ E)) := hls1.2.2.1.2.2.2.2.1
          refine pl_badG (σ3 := σ3) (τ' := pl_e22 (pl_wX T τ1 13 t) p) (w := 13) (pt := t) hZ i4 h42 hse hx hhold (f2.tr (by rw [eg]; exact pl_sA_fr rfl)) ?_ (pl_wX_47 (T := T) (τ := τ1) (w := 13) (t := t)).1 (pl_wX_47 (T := T) (τ := τ1) (w := 13) (t := t)).2 ((fX.tr pl_wX_fr).tr pl_e22_fr) (by decide)
          rw [eX, head τ1 f' fX hls1, hX1, pl_sb, if_neg (n0 _), if_neg q1, if_pos q64]
          unfold prf_X_statement5_372
          show (if τ1.1 0 46 < 6 then _ else (prf_X_wrong τ1 13 (nI k)).bind _) = _
          rw [h46, if_neg (show ¬ nI (pl_cnt true (A ++ E)) < 6 from nI_nlt (b := 6) (by omega) (by have := z2.2.2.2.2.2.2.1; omega)), pl_wrX hls1.2.2.2.2.2.2.2.2 (by omega) (by rw [fX.2.1 14 rfl]; exact h14), pl_sb, if_pos rfl, pl_e22_X (show p < 250 by omega)]
      · refine Or.inr (bad9 ?_ ?_)
        · rw [hC1, if_neg q1, if_neg q64]
        · rw [eX, head τ1 f' fX hls1, hX1, pl_sb, if_neg (n0 _), if_neg q1, if_neg q64, h360 τ1 fX hls1.2.2.2.2.2.2.2.2]
