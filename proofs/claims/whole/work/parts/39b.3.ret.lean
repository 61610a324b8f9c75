/-! THE LAYOUT: return -/
theorem pl_vt31 {T : pl_Tx} {σ τ : pr_St} (h : pl_tt T σ τ) {t : Nat} (ht : t < pl_xc T) (hk : pl_xK T t = 3) : pl_vt T t < 2 ^ 31 := by
  obtain ⟨_, _, _, _, _, hF⟩ := h
  have := ((hF t ht).1 hk).2
  unfold pl_vt pl_vl
  rw [if_pos hk]
  omega
/-- the function in which a BLOCK lies -/
def pl_ff (Ps : List pl_En) (fi nf lf bF b k e : Nat) (τ : pr_St) : Prop := nf < 13000 ∧ nf + lf < 13000 ∧ bF < 13000 ∧ b < 13000 ∧ (nf + lf = 1 + pl_tF Ps ↔ fi + 1 = Ps.length) ∧ ∀ τ1, pl_fr pl_FM pl_GM τ τ1 → prf_X_blockOf τ1 (nI nf) = some (nI bF) ∧ prf_X_behind τ1 (nI nf) = some (nI (nf + lf)) ∧ ∃ y, prf_X_lastStatement τ1 (nI b) = some (nI y) ∧ y < 13000 ∧ (y = k ↔ e = 1)
theorem pl_stRetL {rc : pr_St → Int32 → Int32 → Int32 → Int32 → Option pr_St} {T : pl_Tx} {m : Nat} {rep : Nat → Nat} {Ps : List pl_En} {W : pl_Wt} {A E : List (Nat × Bool)} {d p ii nb bb fi send b bF f k s q bs x nf lf l1 : Nat} {par : Int32} {σ τ : pr_St} {F : List pl_N} {S : List pl_S} {O : List pl_O} (hc : pl_cx T m rep Ps W A E d p ii nb bb fi send b bF f k s q bs x par σ τ F S O) (hp : p < 249) (hff : pl_ff Ps fi nf lf bF b k l1 τ) (hl1 : l1 = 1 ↔ k + F.length = b + bs) (h : pl_st0 T s q E F S O) : pl_LS T m rep Ps W A E d p ii bb fi send b bF k s bs x par σ τ F S 8 (prf_X_statement5 rc τ (nI k) (nI b) (nI nf) par (nI ii)) := by
  obtain ⟨t, e, G, k1, k4, hcm, hsm, rfl, rfl⟩ := h
  obtain ⟨hZ, his, h42, hse, hx, hbs, hkb, hbl, hlast, hsv, hss⟩ := hc
  have hown := (pl_own hZ.1 his).2
  have hown : e + 1 ≤ pl_xc T := hown
  have htt := hZ.1.1
  have hte : t + 1 < e := hcm.1
  obtain ⟨i1, i2, i3, i4, i5, i6, ⟨i71, i72, i73, i74⟩, i8⟩ := id his
  rw [List.length_cons] at i72
  obtain ⟨z1, z2, ⟨z31, z32⟩, ⟨z41, z42, z43, z44, z45⟩, ⟨z51, z52, z53, z54, z55⟩, z6, z7⟩ := id hZ
  have h24 : τ.1 0 24 = nI (1 + pl_tF Ps) := z1.2.2.2.2.2.2.2.2.2.2.2.2.1
  have hF9 := z1.2.2.2.2.2.2.2.2.1
  have hS7 := z1.2.2.2.2.2.2.1
  have hlastS : s + 1 = send ↔ k + (1 + G.length) = b + bs := by
    rw [Nat.add_comm 1 G.length]
    exact hlast
  have hl1' : l1 = 1 ↔ k + (1 + G.length) = b + bs := by
    rw [Nat.add_comm 1 G.length]
    exact hl1
  -- the class' state and questions
  obtain ⟨σ2, hσ2⟩ : ∃ σ2, σ2 = pl_s2 σ d (s + 1) A := ⟨_, rfl⟩
  have o2 : pl_opn d σ2 := by
    rw [hσ2]
    refine ⟨?_, ?_, by omega⟩
    · unfold pl_s2 pl_s1
      rw [pr_sI_ne (by omega), pr_sI_ne (by omega), pr_sI_ne (by omega)]
      show (pr_sI σ 6 10 (nI d)).1 6 9 = _
      rw [pr_sI_ne (by omega)]; exact z44
    · unfold pl_s2 pl_s1
      rw [pr_sI_ne (by omega), pr_sI_ne (by omega), pr_sI_ne (by omega)]
      show (pr_sI σ 6 10 (nI d)).1 6 10 = _
      rw [pr_sI_same]
  have f2 : pl_fr pl_FL pl_GL σ σ2 := by rw [hσ2]; exact pl_s2_fr
  have r2 : ∀ a, ¬ a = 42 → σ2.2.1 a = σ.2.1 a := by
    intro a ha
    rw [hσ2]
    show (pl_s1 σ d (s + 1)).2.1 a = _
    unfold pl_s1
    rw [pl_sA_ne ha]; rfl
  have c2 : σ2.1 4 14 = nI p := by
    rw [hσ2]
    unfold pl_s2 pl_s1
    rw [pr_sI_ne (by omega), pr_sI_ne (by omega), pr_sI_ne (by omega)]
    show (pr_sI σ 6 10 (nI d)).1 4 14 = _
    rw [pr_sI_ne (by omega)]; exact z41
  have b2 := pl_bs_fr z1 f2 (pl_fr.rf (σ := τ))
  have epar := (pl_opC o2).1
  rw [r2 45 (by decide), z52] at epar
  have hrec2 := pl_rec (σ := σ2) b2.2.2.2.2.2.2.2.2.2.2.1 z1.2.2.2.2.2.2.1 (show s < pl_tS Ps by omega) (pl_sts_eq (σ := σ) _ s (fun q z h1 h2 _ _ => by rw [f2.2.1 q (pl_GL_lo (by omega))]) i4)
  have elast : prf_Y_isLast σ2 (nI s) = some (if k + (1 + G.length) = b + bs then 1 else 0) := by
    unfold prf_Y_isLast
    rw [pl_isO o2, pl_sb, if_neg pl_10, hrec2.2.2.2, pl_sb, o2.2.1, pl_ck o2.2.2 (by omega), nI_clamp (by have := o2.2.2; omega), r2 43 (by decide), z51]
    by_cases q : k + (1 + G.length) = b + bs
    · rw [if_pos (show nI (s + 1) = nI send by rw [hlastS.mpr q]), if_pos q]
    · rw [if_neg (show ¬ nI (s + 1) = nI send from fun w => q (hlastS.mp ((nI_eq (by omega) (by omega)).mp w))), if_neg q]
  have htc0 : t < pl_xc T := by omega
  have ew : ∀ w, prf_Y_isWrong σ2 w (nI t) = some (0, pl_wC T σ2 w t) := fun w => pl_isW b2.1 htc0 w
  have e33 : ∀ x3 : Int32, prf_Y_returnHolds_33 σ2 (nI s) (nI t) x3 = if k + (1 + G.length) = b + bs then (if x3 = 0 then some (1, σ2) else some (0, pl_wC T σ2 7 t)) else some (0, pl_wC T σ2 6 t) := by
    intro x3
    unfold prf_Y_returnHolds_33
    rw [if_neg pl_10, elast, pl_sb]
    by_cases q : k + (1 + G.length) = b + bs
    · rw [if_pos q, if_pos q, if_neg pl_10]
      by_cases qx : x3 = 0
      · rw [if_pos qx, if_pos qx]
      · rw [if_neg qx, if_neg qx, ew 7, pl_sb, if_pos rfl]
    · rw [if_neg q, if_neg q, if_pos rfl, ew 6, pl_sb]
      rfl
  have hH := (pl_hold hZ (show s < pl_tS Ps by omega) i4 htc0).2 hp
  rw [if_pos (show nI 8 = 8 from rfl)] at hH
  have hH' : ∀ w, prf_Y_returnHolds σ2 (nI s) (nI t) = some (0, pl_wC T σ2 w t) → prf_Y_holds (pl_s1 σ d (s + 1)) (nI s) = some (0, pl_wC T σ2 w t) := by
    intro w hw
    rw [hσ2] at hw ⊢
    have hH2 : prf_Y_holds (pl_s1 σ d (s + 1)) (nI s) = (prf_Y_returnHolds (pl_s2 σ d (s + 1) A) (nI s) (nI t)).bind _ := hH
    rw [hH2, hw, pl_sb, if_pos rfl]
  -- the reference
  obtain ⟨q1, q2, q3, q3', q4, q5⟩ := hff
  have refW : ∀ (τ1 : pr_St) (w : Int32), pl_fr pl_FM pl_GM τ τ1 → τ1.1 0 47 = 0 → prf_X_wrong τ1 w (nI k) = some (0, pl_wX T τ1 w t) := by
    intro τ1 w fX h47
    have n1 := pl_nd_fm i2 fX
    exact pl_wrX h47 (by omega) n1.1.2.1 w
  have head : ∀ (τ1 : pr_St) (f' : Nat), pl_fr pl_FM pl_GM τ τ1 → τ1.1 0 42 = nI (A ++ E).length → τ1.1 0 47 = 0 → τ1.1 0 24 = nI (1 + pl_tF Ps) → prf_X_statement5_96 rc (f' + 1) τ1 (nI k) (nI b) (nI nf) (nI ii) (nI p) (nI (A ++ E).length) = if bF = b ∧ k + (1 + G.length) = b + bs then (if fi + 1 = Ps.length then some (pl_e22 (pl_wX T τ1 7 t) p) else (prf_X_lookAll τ1 (nI (k + 1))).bind fun r155 => some (pl_e22 r155.2 p)) else some (pl_e22 (pl_wX T τ1 6 t) p) := by
    intro τ1 f' fX h42x h47 h24x
    have n1 := pl_nd_fm i2 fX
    have h13 : τ1.2.1 13 k = nI 11 := n1.1.1
    obtain ⟨y1, y2, y, y3, y4, y5⟩ := q5 τ1 fX
    have e617 : prf_X_statement5_617 rc τ1 (nI k) (nI nf) (nI p) = some (pl_e22 (pl_wX T τ1 6 t) p) := by
      unfold prf_X_statement5_617
      rw [y2, pl_sb]
      by_cases z : nI (nf + lf) = τ1.1 0 24
      · rw [if_pos z, if_pos (show (0 : Int32) = 0 from rfl), refW τ1 6 fX h47, pl_sb, if_pos rfl, pl_e22_X (show p < 250 by omega)]
      · rw [if_neg z, if_pos (show (0 : Int32) = 0 from rfl), refW τ1 6 fX h47, pl_sb, if_pos rfl, pl_e22_X (show p < 250 by omega)]
    rw [prf_X_statement5_96, h42x, if_pos (Int32.le_refl _), pl_ck (by omega) (by omega), nI_clamp (by omega), h13, if_neg (by decide), if_neg (by decide), if_neg (by decide), if_neg (by decide), if_neg (by decide), if_neg (by decide), if_neg (by decide), if_neg (by decide), y1, pl_sb]
    by_cases hb : bF = b
    · rw [if_pos (show nI bF = nI b by rw [hb]), y3, pl_sb]
      by_cases hy : y = k
      · have hk := hl1'.mp (y5.mp hy)
        rw [if_pos (show nI y = nI k by rw [hy]), y2, pl_sb, h24x, if_pos (show bF = b ∧ k + (1 + G.length) = b + bs from ⟨hb, hk⟩)]
        by_cases hn : fi + 1 = Ps.length
        · rw [if_pos (show nI (nf + lf) = nI (1 + pl_tF Ps) by rw [q4.mpr hn]), if_neg pl_10, if_pos hn]
          unfold prf_X_statement5_654
          rw [if_neg pl_10, refW τ1 7 fX h47, pl_sb, if_pos rfl, pl_e22_X (show p < 250 by omega)]
        · rw [if_neg (show ¬ nI (nf + lf) = nI (1 + pl_tF Ps) from fun z => hn (q4.mp ((nI_eq (by omega) (by omega)).mp z))), if_neg pl_10, if_neg hn]
          unfold prf_X_statement5_654
          rw [if_pos rfl, nI_1]
          simp only [pl_e22_X (show p < 250 by omega)]
      · rw [if_neg (show ¬ nI y = nI k from fun z => hy ((nI_eq (by omega) (by omega)).mp z)), if_neg (fun z => hy (y5.mpr (hl1'.mpr z.2))), e617]
    · rw [if_neg (show ¬ nI bF = nI b from fun z => hb ((nI_eq (by omega) (by omega)).mp z)), if_neg (fun z => hb z.1), e617]
  have bad : ∀ w, (0 : Int32) < w → prf_Y_returnHolds σ2 (nI s) (nI t) = some (0, pl_wC T σ2 w t) → (∀ (τ1 : pr_St) (f' : Nat), pl_fr pl_FM pl_GM τ τ1 → τ1.1 0 42 = nI (A ++ E).length → τ1.1 0 47 = 0 → τ1.1 0 24 = nI (1 + pl_tF Ps) → prf_X_statement5_96 rc (f' + 1) τ1 (nI k) (nI b) (nI nf) (nI ii) (nI p) (nI (A ++ E).length) = some (pl_e22 (pl_wX T τ1 w t) p)) → pl_Lb x σ τ (prf_X_statement5 rc τ (nI k) (nI b) (nI nf) par (nI ii)) := by
    intro w hw hC hR
    obtain ⟨f', τ1, eX, hpX⟩ := pl_ptX (rc := rc) z2 (p := p) (k := k) (par := par) (x2 := nI b) (x3 := nI nf) (x5 := nI ii) z31 z42 hp
    have fX := pl_pX_fr hpX
    exact pl_badG (σ3 := σ2) (τ' := pl_e22 (pl_wX T τ1 w t) p) (w := w) (pt := t) hZ i4 h42 hse hx (hH' w hC) f2 (by rw [eX]; exact hR τ1 f' fX (by rw [hpX.2.1 0 42 (by omega)]; exact z2.2.2.1) (by rw [hpX.2.1 0 47 (by omega)]; exact z32) (by rw [hpX.2.1 0 24 (by omega)]; exact h24)) (pl_wX_47 (T := T) (τ := τ1) (w := w) (t := t)).1 (pl_wX_47 (T := T) (τ := τ1) (w := w) (t := t)).2 ((fX.tr pl_wX_fr).tr pl_e22_fr) hw
  have hret : prf_Y_returnHolds σ2 (nI s) (nI t) = (if par = -1 then prf_Y_returnHolds_33 σ2 (nI s) (nI t) 1 else (prf_O_kindOf σ2 par).bind fun r55 => if r55 = 4 then prf_Y_returnHolds_33 σ2 (nI s) (nI t) 0 else some (0, pl_wC T σ2 6 t)) := by
    unfold prf_Y_returnHolds
    rw [epar, pl_sb, if_neg pl_10, if_pos (show (0 : Int32) = 0 from rfl), ew 6, pl_sb]
    simp only [pl_sb, if_pos (show (0 : Int32) = 0 from rfl)]
    rfl
  rcases z7 with ⟨rfl, hA0, _, hfin, hbF⟩ | ⟨pp, rfl, hpp, hrows, hk4⟩
  · -- in the program's own BLOCK
    refine Or.inr ?_
    rw [if_pos rfl, e33 1, if_neg pl_10] at hret
    by_cases hk : k + (1 + G.length) = b + bs
    · rw [if_pos hk] at hret
      refine bad 7 (by decide) hret (fun τ1 f' fX h1 h2 h3 => ?_)
      rw [head τ1 f' fX h1 h2 h3, if_pos (show bF = b ∧ k + (1 + G.length) = b + bs from ⟨hbF.symm, hk⟩), if_pos hfin]
    · rw [if_neg hk] at hret
      refine bad 6 (by decide) hret (fun τ1 f' fX h1 h2 h3 => ?_)
      rw [head τ1 f' fX h1 h2 h3, if_neg (fun z => hk z.2)]
  · rw [if_neg (pl_nIm1 (by omega)), (pl_pnt c2 (by omega) hpp).2.1, pl_sb, r2 25 (by decide)] at hret
    rcases hk4 with ⟨k4', _, hfi, hbF⟩ | ⟨k4', _, _, hbF, _⟩
    · rw [if_pos k4', e33 0, if_pos (show (0 : Int32) = 0 from rfl)] at hret
      by_cases hk : k + (1 + G.length) = b + bs
      · rw [if_pos hk] at hret
        have ecu : pl_cu (pl_xK T) t e = pl_cl false G := by
          rw [pl_cu_sk (a := t) (by omega) (by omega) (by omega), hcm.2.2.1]
        have htc : pl_tc T t e := pl_tc_app (pl_tc_1 (by omega) (by omega) (by omega) (by omega) (fun _ => by omega)) (pl_tc_cm htt hcm (by omega) (by omega))
        rw [hσ2] at hret
        refine pl_leafN (rc := rc) (x3 := nI nf) (e := e) (r := (8, t, q, 0, s + 1, E, e + 1)) hZ his h42 hse hp hx hbs hkb hbl hlast hsv (Or.inr (Or.inr (Or.inr rfl))) rfl (show t ≤ e by omega) (by omega) k4 htc (fun _ => hret) (fun _ => ⟨pp, rfl, hpp, k4'⟩) (fun τ1 f' hpX fX hls => ?_)
        have n1 := pl_nd_fm i2 fX
        have w1 := pl_wh_fm i3 fX
        have wG : pl_wh τ1 (k + 1) (nI k) G := pl_wh_c (A := []) (C := []) w1 (by rw [List.append_nil]; rfl) rfl trivial (pl_sm_ro hsm)
        have h13 : τ1.2.1 13 k = nI 11 := n1.1.1
        obtain ⟨l1, l2⟩ := pl_lkX hls (show pl_nd T τ1 m rep (k + 1) G from n1.2) wG (pl_sm_xf _ _ _ hsm) (pl_sm_vn _ _ _ hsm).2 (pl_sm_ro hsm) (by omega) (by omega) (by rw [h13]; decide)
        rw [head τ1 f' fX hls.2.2.1.2.2.1 hls.2.2.2.2.2.2.2.2 (by rw [hpX.2.1 0 24 (by omega)]; exact h24), if_pos (show bF = b ∧ k + (1 + G.length) = b + bs from ⟨hbF.symm, hk⟩), if_neg (by omega)]
        show ((∀ c, c ∈ pl_cu (pl_xK T) t e → pl_yes T E c) → _) ∧ (∀ w pt, pl_bad T E (pl_cu (pl_xK T) t e) w pt → _)
        rw [ecu]
        exact ⟨fun hall => by rw [l1 hall, pl_sb], fun w pt hbad => by rw [l2 w pt hbad, pl_sb]⟩
      · rw [if_neg hk] at hret
        refine Or.inr (bad 6 (by decide) hret (fun τ1 f' fX h1 h2 h3 => ?_))
        rw [head τ1 f' fX h1 h2 h3, if_neg (fun z => hk z.2)]
    · rw [if_neg k4'] at hret
      refine Or.inr (bad 6 (by decide) hret (fun τ1 f' fX h1 h2 h3 => ?_))
      rw [head τ1 f' fX h1 h2 h3, if_neg (fun z => hbF z.1.symm)]
