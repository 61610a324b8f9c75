/-! THE LAYOUT: if and while -/
theorem pl_fF_in {Ps : List pl_En} {fi nf lf bF b bs b1 bs1 : Nat} {τ τB : pr_St} (h : pl_fF Ps fi nf lf bF b bs τ) (f : pl_fr pl_FM pl_GM τ τB) (h1 : b ≤ b1) (h2 : b1 + bs1 ≤ b + bs) (hb : b1 < 13000) : pl_fF Ps fi nf lf bF b1 bs1 τB := by
  obtain ⟨a1, a2, a3, a4, a5, a6, a7, a8, a9, a10⟩ := h
  exact ⟨a1, a2, a3, a4, hb, by omega, by omega, by omega, a9, fun τ1 f1 => a10 τ1 (f.tr f1)⟩
/-- a fault within a BLOCK -/
theorem pl_brBad {rX rX' : Option pr_St} {x n1 x1 : Nat} {σ τ σB τB : pr_St} (hb : pl_Lb x1 σB τB rX') (hx1 : x1 = x + n1) (hrun : ∀ g, prf_Y_layProgram_65 (g + n1) σ (nI x) = prf_Y_layProgram_65 g σB (nI (x + n1))) (f1 : pl_fr pl_FL pl_GL σ σB) (f2 : pl_fr pl_FM pl_GM τ τB) (hX : ∀ τ', rX' = some τ' → (0 : Int32) < τ'.1 0 47 → pl_fr pl_FM pl_GM τB τ' → ∃ τ2, rX = some τ2 ∧ τ2.1 0 47 = τ'.1 0 47 ∧ τ2.1 0 48 = τ'.1 0 48 ∧ pl_fr pl_FM pl_GM τ' τ2) : pl_Lb x σ τ rX := by
  obtain ⟨n, σ', τ', g1, g2, g3, g4, g5, g6, g7, g8⟩ := hb
  obtain ⟨τ2, e1, e2, e3, e4⟩ := hX τ' g2 g3 g7
  refine ⟨n + n1, σ', τ2, fun g => ?_, e1, by rw [e2]; exact g3, by rw [e2]; exact g4, by rw [e3]; exact g5, f1.tr g6, (f2.tr g7).tr e4, by omega⟩
  rw [show g + (n + n1) = (g + n) + n1 by omega, hrun (g + n), ← hx1]
  exact g1 g
theorem pl_neg0 {v : Int32} (h : (0 : Int32) < v) : ¬ v = 0 := fun q => by rw [q] at h; exact absurd h (by decide)
theorem pl_stBrL {T : pl_Tx} {m : Nat} {rep : Nat → Nat} {Ps : List pl_En} {W : pl_Wt} {A E : List (Nat × Bool)} {h d p ii nb bb fi send b bF f0 f k s q bs x nf lf kr t eb : Nat} {par : Int32} {σ τ : pr_St} {F : List pl_N} {S : List pl_S} {O : List pl_O} {C B1 B2 : List pl_N} {Qc O1 O2 : List pl_O} {S1 S2 : List pl_S} (hLB : pl_LBh T m rep Ps h) (hh : 260 ≤ h + (p + 1)) (hc : pl_cx T m rep Ps W A E d p ii nb bb fi send b bF f0 k s q bs x par σ τ F S O) (hp : p < 249) (hx3 : x ≤ 3 * p) (hfF : pl_fF Ps fi nf lf bF b bs τ) (hb86 : b + bs ≤ 12860)
    (hkr : (kr = 8 ∧ pl_xK T t = 6) ∨ (kr = 9 ∧ pl_xK T t = 8 ∧ B2 = [] ∧ S2 = [] ∧ O2 = [])) (k1 : pl_xK T (t + 1) = 12) (k2 : pl_xK T eb = 13) (k3 : pl_xK T (eb + 1) = 14) (hcm : pl_cm (pl_xK T) (t + 2) eb C) (hcd : pl_cd T 190 q C Qc) (hB1 : pl_bk (pl_xK T) (pl_sT T f) (s + 1) (q + Qc.length) E B1 S1 O1) (hB2 : (B2 = [] ∧ S2 = [] ∧ O2 = []) ∨ pl_bk (pl_xK T) (pl_sT T f) (s + 1 + S1.length) (q + Qc.length + O1.length) E B2 S2 O2) (eF : F = (kr, t, 0, 1 + (C ++ B1 ++ B2).length) :: (C ++ B1 ++ B2)) (eS : S = (kr - 3, t, q, s + 1 + S1.length, s + 1 + S1.length + S2.length, E, eb + 1) :: (S1 ++ S2)) (eO : O = Qc ++ O1 ++ O2) :
    pl_LS T m rep Ps W A E d p ii bb fi send b bF k s bs x par σ τ F S (kr - 3) (prf_X_statement5 (prF_X_block4 (h + 1)) τ (nI k) (nI b) (nI nf) par (nI ii)) := by
  obtain ⟨tt, L1, rfl, rfl, rfl, hbl1⟩ := hB1
  subst eF eS eO
  obtain ⟨hZ, his, h42, hse, hx, hbs, hkb, hbl, hlast, hsv, hss⟩ := id hc
  obtain ⟨z1, z2, ⟨z31, z32⟩, ⟨z41, z42, z43, z44, z45⟩, ⟨z51, z52, z53, z54, z55⟩, ⟨z61, z62, z63, z64, z65, z66⟩, z7⟩ := id hZ
  have hex : pl_ex (pl_xK T) E ((kr - 3, t, q, s + 1 + (pl_b2 L1).length, s + 1 + (pl_b2 L1).length + S2.length, E, eb + 1) :: (pl_b2 L1 ++ S2)) = E := if_neg (show ¬ kr - 3 = 1 by omega)
  unfold pl_LS
  rw [hex]
  have hCn : pl_ns C := (pl_cd_vn _ _ _ _ hcd).2
  obtain ⟨il1, e17b, il2⟩ := pl_brIl (f := f) z1 his hCn hbl1 hB2
  have i2 := his.2.1
  have i7 := his.2.2.2.2.2.2.1
  have hlF : ((kr, t, 0, 1 + (C ++ ((2, tt, 0, 1 + (pl_b1 L1).length) :: pl_b1 L1) ++ B2).length) :: (C ++ ((2, tt, 0, 1 + (pl_b1 L1).length) :: pl_b1 L1) ++ B2) : List pl_N).length = 1 + (C.length + (1 + (pl_b1 L1).length) + B2.length) := by
    rw [List.length_cons, List.length_append, List.length_append, List.length_cons]; omega
  have hlS : ((kr - 3, t, q, s + 1 + (pl_b2 L1).length, s + 1 + (pl_b2 L1).length + S2.length, E, eb + 1) :: (pl_b2 L1 ++ S2) : List pl_S).length = 1 + (pl_b2 L1).length + S2.length := by
    rw [List.length_cons, List.length_append]; omega
  have e17k : τ.2.1 17 k = nI (1 + (C.length + (1 + (pl_b1 L1).length) + B2.length)) := by rw [(pl_is_17 his).1, hlF]
  have e17C : τ.2.1 17 (k + 1) = nI C.length := by
    have nC := (pl_nd_l C (((2, tt, 0, 1 + (pl_b1 L1).length) :: pl_b1 L1) ++ B2) (k + 1) (by rw [← List.append_assoc]; exact i2.2)).1
    obtain ⟨g0, l0, eg, hg⟩ := pl_cd_ro hcd
    rw [← hg]
    rw [eg] at nC
    exact nC.1.2.2.2.2
  have hSt : s + 1 + (pl_b2 L1).length + S2.length ≤ pl_tS Ps := by rw [hlS] at hss; omega
  have hS7 := z1.2.2.2.2.2.2.1
  have hbk : b < k := i7.1
  have hbF : bF ≤ b := hfF.2.2.2.2.2.1
  rw [hlF] at hkb
  have hel : E.length ≤ 40 := by
    have := pl_scp_len z2
    rw [List.length_append] at this
    omega
  -- the point is laid
  have hopen := pl_brOpen (rc := prF_X_block4 (h + 1)) (n1 := (pl_b2 L1).length) (n2 := S2.length) (C := C) (B := ((2, tt, 0, 1 + (pl_b1 L1).length) :: pl_b1 L1) ++ B2) (x3 := nI nf) (by rw [← List.append_assoc]; exact hc) hp (by
    rcases hkr with ⟨h1, h2⟩ | ⟨h1, h2, _, h4, _⟩
    · exact Or.inl ⟨h1, h2⟩
    · exact Or.inr ⟨h1, h2, by rw [h4]; rfl⟩) k1 k2 k3 hcm hcd (by rw [List.length_append])
  rcases hopen with hbad | ⟨σB, τB, hrun, hX, hM, ⟨c69, c14, c54, c55, c36, c37⟩, ⟨c42, c43, c44, c45, c46⟩, x33, x42, x43, x45, x46, x47, x44, x48⟩
  · exact Or.inr hbad
  have elast : (if k + (1 + (C ++ (((2, tt, 0, 1 + (pl_b1 L1).length) :: pl_b1 L1) ++ B2)).length) = b + bs then (1 : Int32) else 0) = (if k + ((kr, t, 0, 1 + (C ++ ((2, tt, 0, 1 + (pl_b1 L1).length) :: pl_b1 L1) ++ B2).length) :: (C ++ ((2, tt, 0, 1 + (pl_b1 L1).length) :: pl_b1 L1) ++ B2) : List pl_N).length = b + bs then 1 else 0) := by
    rw [hlF, List.length_append, List.length_append, List.length_cons]
    rw [show 1 + (C.length + ((pl_b1 L1).length + 1 + B2.length)) = 1 + (C.length + (1 + (pl_b1 L1).length) + B2.length) by omega]
  rw [elast] at hM
  have fσB := hM.1.1
  have fτB := hM.1.2.1
  have eB17 := fτB.2.1 17 rfl
  have hsecB := (pl_brK_e (rc := prF_X_block4 (h + 1)) (np := nI p) (x3 := nI nf) (p := p) (τ := τB) (k := k) (c0 := C.length) (c1 := 1 + (pl_b1 L1).length) (lF := 1 + (C.length + (1 + (pl_b1 L1).length) + B2.length)) (by omega) (by omega) (by rw [eB17]; exact e17C) (by rw [eB17]; exact e17b) (by rw [eB17]; exact e17k) (by omega)).1
  rw [hsecB, pl_sb] at hX
  have hZ1 := pl_brZ (b1 := k + 1 + C.length) (nb1 := nb + 1) (se1 := s + 1 + (pl_b2 L1).length) hZ hM (show ¬ kr - 3 = 4 by omega) (show ¬ kr - 3 = 1 by omega) (show kr - 3 < 64 by omega) hp (by omega) c69 c14 c54 c55 c43 c45 c46 (by omega) x33 x42 x43 x45 x46 x47 x44 (by omega) (by omega) (by omega)
  have hfF1 : pl_fF Ps fi nf lf bF (k + 1 + C.length) (1 + (pl_b1 L1).length) τB := pl_fF_in hfF fτB (by omega) (by omega) (by omega)
  have hblk := pl_nBlk (x1 := x + 1) (nf := nf) (lf := lf) hLB hZ1 hM hp hel (Nat.le_refl _) c42 (by
    have := pl_il_fr fσB fτB _ _ _ _ _ il1
    rw [show k + 2 + C.length = k + 1 + C.length + 1 by omega] at this
    exact this) rfl (by rw [eB17]; exact e17b) (by omega) (by omega) hfF1 hh
  -- the reference behind its first BLOCK
  have hK : ∀ τx, pl_fr pl_FM pl_GM τB τx → pl_brK (prF_X_block4 (h + 1)) (nI k) (nI p) (nI nf) p τx = if B2 = [] then some (pl_e22 τx p) else (prF_X_block4 (h + 1) (pr_sI τx 0 44 (τx.1 0 44 + 1)) (nI (k + 1 + C.length + (1 + (pl_b1 L1).length))) (nI nf) (nI p) (τx.1 0 44 + 1)).bind fun r226 => some (pl_e22 r226 p) := by
    intro τx fx
    have e17 := (fτB.tr fx).2.1 17 rfl
    rw [(pl_brK_e (rc := prF_X_block4 (h + 1)) (np := nI p) (x3 := nI nf) (p := p) (τ := τx) (k := k) (c0 := C.length) (c1 := 1 + (pl_b1 L1).length) (lF := 1 + (C.length + (1 + (pl_b1 L1).length) + B2.length)) (by omega) (by omega) (by rw [e17]; exact e17C) (by rw [e17]; exact e17b) (by rw [e17]; exact e17k) (by omega)).2]
    by_cases qb : B2 = []
    · rw [if_pos qb, if_pos (by rw [qb]; show k + (1 + (C.length + (1 + (pl_b1 L1).length) + 0)) = _; omega)]
    · have : B2.length ≠ 0 := fun z => qb (List.eq_nil_of_length_eq_zero z)
      rw [if_neg qb, if_neg (by omega)]
  rcases hblk with hbad | ⟨n, P1, W2, σ1, τ1, nb2, g1, g2, g3, g4, g5, g6, ⟨g71, g72, g73⟩, ⟨u33, u42, u43, u45, u46, u47, u44, u1, u2, u48⟩, g9, g10, g11, g12, g13⟩
  · refine Or.inr (pl_brBad hbad rfl hrun fσB fτB (fun τ' e1 e2 e3 => ?_))
    rw [e1, pl_sb, hK τ' e3] at hX
    by_cases qb : B2 = []
    · rw [if_pos qb] at hX
      exact ⟨pl_e22 τ' p, hX, rfl, rfl, pl_e22_fr⟩
    · rw [if_neg qb] at hX
      obtain ⟨t2, L2, eB2, _, _, _, e17c⟩ := il2.resolve_left (fun z => qb z.1)
      rw [pl_blk47 (bs := 1 + (pl_b1 L2).length) (by omega) (by show τ'.2.1 17 _ = _; rw [e3.2.1 17 rfl, eB17]; exact e17c) (Or.inl (by show ¬ (pr_sI τ' 0 44 (τ'.1 0 44 + 1)).1 0 47 = 0; rw [pr_sI_ne (by omega)]; exact pl_neg0 e2)), pl_sb] at hX
      exact ⟨_, hX, rfl, rfl, ((pl_sI_fr (o := 0) (k := 44) rfl).tr pl_rs_fr).tr pl_e22_fr⟩
  -- the first BLOCK was laid
  rw [g3, pl_sb, hK τ1 g9.2.1] at hX
  obtain ⟨a1, a2, a3, a4, a5, a6, a7, a8, a9⟩ := id g9
  have s36 : σ1.2.1 36 p = (if (pl_b2 L1).length = 0 then -1 else nI (p + 1)) := by rw [a3 36 p (by decide) (by decide) (by omega)]; exact c36
  have s37 : σ1.2.1 37 p = -1 := by rw [a3 37 p (by decide) (by decide) (by omega)]; exact c37
  have s43 : σ1.2.1 43 (d + 1) = nI (s + 1 + (pl_b2 L1).length) := by rw [a6 43 (by decide) (by decide)]; exact c43
  have s44 : σ1.2.1 44 (d + 1) = nI (s + 1 + (pl_b2 L1).length + S2.length) := by rw [a6 44 (by decide) (by decide)]; exact c44
  have s45 : σ1.2.1 45 (d + 1) = nI p := by rw [a6 45 (by decide) (by decide)]; exact c45
  have s46 : σ1.2.1 46 (d + 1) = nI fi := by rw [a6 46 (by decide) (by decide)]; exact c46
  have f1σ : pl_fr pl_FL pl_GL σ σ1 := fσB.tr a1
  have f1τ : pl_fr pl_FM pl_GM τ τ1 := fτB.tr a2
  have hrun1 : ∀ g, prf_Y_layProgram_65 (g + (1 + n)) σ (nI x) = prf_Y_layProgram_65 g σ1 (nI (x + (1 + n))) := by
    intro g
    rw [show g + (1 + n) = (g + n) + 1 by omega, hrun (g + n), g2 g, show x + 1 + n = x + (1 + n) by omega]
  have e17C1 : τ1.2.1 17 (k + 1) = nI C.length := by rw [f1τ.2.1 17 rfl]; exact e17C
  have e17b1 : τ1.2.1 17 (k + 1 + C.length) = nI (1 + (pl_b1 L1).length) := by rw [f1τ.2.1 17 rfl]; exact e17b
  have hWp : W2 p = (A, E) := g4.2.2.2.2.2.2.1.2
  -- where the point goes into
  have hinto : (σ1.2.1 36 p = nI (p + 1) ∧ 1 < 1 + (pl_b1 L1).length ∧ p + 1 < P1 ∧ W2 (p + 1) = W2 p) ∨ (σ1.2.1 36 p = -1 ∧ 1 + (pl_b1 L1).length = 1) := by
    by_cases ql : L1 = []
    · refine Or.inr ⟨?_, by rw [ql]; rfl⟩
      rw [s36, ql]; rfl
    · obtain ⟨j1, j2⟩ := pl_il_ne il1 ql
      obtain ⟨j3, j4, _⟩ := g12 ql
      exact Or.inl ⟨by rw [s36, if_neg (by omega)], by omega, j3, by rw [j4, hWp]⟩
  have hP1x : x + 1 + n ≤ 3 * P1 := by omega
  by_cases ql2 : S2 = []
  · -- no other branch
    have hn2 : S2.length = 0 := by rw [ql2]; rfl
    rw [hn2] at s44
    have key : ∀ (τ2 : pr_St) (nb3 : Nat), pl_fr pl_FM pl_GM τ1 τ2 → (∀ a z, 20 ≤ a → a ≤ 32 → τ2.2.1 a z = τ1.2.1 a z) → (τ2.1 0 33 = nI P1 ∧ τ2.1 0 42 = nI (A ++ E).length ∧ τ2.1 0 43 = nI A.length ∧ τ2.1 0 45 = nI (pl_cnt false (A ++ E)) ∧ τ2.1 0 46 = nI (pl_cnt true (A ++ E)) ∧ τ2.1 0 47 = 0 ∧ τ2.1 0 44 = nI nb3 ∧ τ2.1 0 48 = τ1.1 0 48) → nb2 ≤ nb3 → nb3 ≤ nb2 + 1 → prf_X_statement5 (prF_X_block4 (h + 1)) τ (nI k) (nI b) (nI nf) par (nI ii) = some (pl_e22 τ2 p) → (B2.length = 0 ∨ (kr = 8 ∧ τ.2.1 17 (k + 1 + C.length + (1 + (pl_b1 L1).length)) = nI 1)) → pl_Lg T m rep Ps W A E E d p ii bb fi send b bF s (s + ((kr - 3, t, q, s + 1 + (pl_b2 L1).length, s + 1 + (pl_b2 L1).length + S2.length, E, eb + 1) :: (pl_b2 L1 ++ S2) : List pl_S).length) (kr - 3) x par (if k + ((kr, t, 0, 1 + (C ++ ((2, tt, 0, 1 + (pl_b1 L1).length) :: pl_b1 L1) ++ B2).length) :: (C ++ ((2, tt, 0, 1 + (pl_b1 L1).length) :: pl_b1 L1) ++ B2) : List pl_N).length = b + bs then 1 else 0) σ τ (prf_X_statement5 (prF_X_block4 (h + 1)) τ (nI k) (nI b) (nI nf) par (nI ii)) := by
      intro τ2 nb3 f2 hrows ⟨v33, v42, v43, v45, v46, v47, v44, v48⟩ hn3 hn3' hXe hpk37
      have hM2 := pl_M_eq (σ1 := σ1) (τ1 := τ2) g4 g6 pl_fr.rf f2 (fun _ _ _ _ _ => rfl) (fun _ _ _ _ => rfl) (fun _ _ _ _ _ => rfl) (fun a z h1 h2 _ => hrows a z h1 h2)
      have hM2' : pl_M T m rep Ps W A E d p k s (s + ((kr - 3, t, q, s + 1 + (pl_b2 L1).length, s + 1 + (pl_b2 L1).length + S2.length, E, eb + 1) :: (pl_b2 L1 ++ S2) : List pl_S).length) (kr - 3, t, q, s + 1 + (pl_b2 L1).length, s + 1 + (pl_b2 L1).length + S2.length, E, eb + 1) par (if k + ((kr, t, 0, 1 + (C ++ ((2, tt, 0, 1 + (pl_b1 L1).length) :: pl_b1 L1) ++ B2).length) :: (C ++ ((2, tt, 0, 1 + (pl_b1 L1).length) :: pl_b1 L1) ++ B2) : List pl_N).length = b + bs then 1 else 0) (-1) σ τ P1 W2 σ1 τ2 := by
        rw [hlS, show s + (1 + (pl_b2 L1).length + S2.length) = s + 1 + (pl_b2 L1).length + S2.length by omega]
        exact hM2
      refine pl_brEnd (nb' := nb3) (n1 := 1 + n) (se := s + 1 + (pl_b2 L1).length) (ot := s + 1 + (pl_b2 L1).length + 0) hZ his ⟨_, rfl⟩ hbs (by rw [hlF]; exact hkb) hbl hp (show ¬ kr - 3 = 8 by omega) hM2' g6 g71 g72 g73 s43 s44 s45 (by omega) (by omega) (by omega) (by omega) hrun1 v33 v42 v43 v45 v46 v47 (by rw [v48, u48, x48]) v44 (by omega) (by omega) hXe ?_
      refine Or.inr (Or.inr ⟨show kr - 3 = 5 ∨ kr - 3 = 6 by omega, g4.2.2.2.1, C.length, 1 + (pl_b1 L1).length, by rw [f2.2.1 17 rfl]; exact e17C1, by rw [f2.2.1 17 rfl]; exact e17b1, by rw [hlF]; omega, hinto, Or.inl ⟨s37, ?_⟩⟩)
      rcases hpk37 with hz | ⟨h8, hz⟩
      · exact Or.inl (by rw [hlF]; omega)
      · exact Or.inr ⟨show kr - 3 = 5 by omega, by rw [(f1τ.tr f2).2.1 17 rfl]; exact hz⟩
    refine Or.inl ?_
    by_cases qb : B2 = []
    · rw [if_pos qb] at hX
      exact key τ1 nb2 pl_fr.rf (fun _ _ _ _ => rfl) ⟨u33, u42, u43, u45, u46, u47, u44, rfl⟩ (Nat.le_refl _) (by omega) hX (Or.inl (by rw [qb]; rfl))
    · rw [if_neg qb] at hX
      obtain ⟨t2, L2, eB2, eS2, _, il2', e17c⟩ := il2.resolve_left (fun z => qb z.1)
      have hL2 : L2 = [] := by
        by_cases z : L2 = []
        · exact z
        · have := (pl_il_ne il2' z).2
          rw [← eS2, hn2] at this
          omega
      rw [hL2] at e17c
      have h8 : kr = 8 := by
        rcases hkr with ⟨z, _⟩ | ⟨_, _, z, _⟩
        · exact z
        · exact absurd z qb
      have e17d : τ1.2.1 17 (k + 1 + C.length + (1 + (pl_b1 L1).length)) = nI 1 := by rw [f1τ.2.1 17 rfl]; exact e17c
      rw [u44, nI_1, pl_blk47 (τ := pr_sI τ1 0 44 (nI (nb2 + 1))) (bs := 1) (by omega) e17d (Or.inr rfl), pl_sb] at hX
      refine key _ (nb2 + 1) ((pl_sI_fr (o := 0) (k := 44) rfl).tr pl_rs_fr) (fun _ _ _ _ => rfl) ⟨?_, ?_, ?_, ?_, ?_, ?_, ?_, rfl⟩ (by omega) (Nat.le_refl _) hX (Or.inr ⟨h8, e17c⟩)
      all_goals unfold pl_rs
      · rw [pr_sI_ne (by omega), pr_sI_ne (by omega), pr_sI_ne (by omega), pr_sI_ne (by omega)]; exact u33
      · rw [pr_sI_ne (by omega), pr_sI_ne (by omega), pr_sI_same, pr_sI_ne (by omega)]; exact u42
      · rw [pr_sI_ne (by omega), pr_sI_ne (by omega), pr_sI_ne (by omega), pr_sI_ne (by omega)]; exact u43
      · rw [pr_sI_ne (by omega), pr_sI_same, pr_sI_ne (by omega)]; exact u45
      · rw [pr_sI_same, pr_sI_ne (by omega)]; exact u46
      · rw [pr_sI_ne (by omega), pr_sI_ne (by omega), pr_sI_ne (by omega), pr_sI_ne (by omega)]; exact u47
      · rw [pr_sI_ne (by omega), pr_sI_ne (by omega), pr_sI_ne (by omega), pr_sI_same]
  · -- the other branch
    have hn2 : ¬ S2.length = 0 := fun z => ql2 (List.eq_nil_of_length_eq_zero z)
    obtain ⟨t2, L2, eB2, eS2, eO2, il2', e17c⟩ := il2.resolve_left (fun z => ql2 z.2.1)
    have qb : ¬ B2 = [] := by rw [eB2]; exact List.cons_ne_nil _ _
    have h8 : kr = 8 := by
      rcases hkr with ⟨z, _⟩ | ⟨_, _, z, _⟩
      · exact z
      · exact absurd z qb
    have hL2 : ¬ L2 = [] := fun z => hn2 (by rw [eS2, z]; rfl)
    have hlB2 : B2.length = 1 + (pl_b1 L2).length := by rw [eB2, List.length_cons]; omega
    have hlS2 : S2.length = (pl_b2 L2).length := by rw [eS2]
    obtain ⟨j21, j22⟩ := pl_il_ne il2' hL2
    rw [if_neg qb, u44, nI_1] at hX
    have hendC := pl_endC (V := A ++ E) (d := d + 1) (p := p) (P := P1) (x := x + (1 + n)) g71 (by omega) g72 g6 g4.2.2.2.2.2.2.2.2.1 g73 s43 s44 s45 g4.2.2.1.2.2.2.1 g4.2.2.1.2.2.2.2.1 (by omega) (by omega) (by omega)
    rw [if_neg (show ¬ s + 1 + (pl_b2 L1).length + S2.length ≤ s + 1 + (pl_b2 L1).length by omega)] at hendC
    obtain ⟨σC, hσC⟩ : ∃ σC, σC = pr_sA (pr_sA (pl_cut σ1 (d + 1) (A ++ E)) 43 (upd (σ1.2.1 43) (d + 1) (nI (s + 1 + (pl_b2 L1).length + S2.length)))) 37 (upd (σ1.2.1 37) p (nI P1)) := ⟨_, rfl⟩
    rw [← hσC] at hendC
    have hrun2 : ∀ g, prf_Y_layProgram_65 (g + (2 + n)) σ (nI x) = prf_Y_layProgram_65 g σC (nI (x + (2 + n))) := by
      intro g
      rw [show g + (2 + n) = (g + 1) + (1 + n) by omega, hrun1 (g + 1), hendC g, show x + (1 + n) + 1 = x + (2 + n) by omega]
    have rC : ∀ a, ¬ a = 37 → ¬ a = 43 → σC.2.1 a = σ1.2.1 a := by
      intro a h37 h43
      rw [hσC, pl_sA_ne h37, pl_sA_ne h43]
      rfl
    have rC37 : σC.2.1 37 = upd (σ1.2.1 37) p (nI P1) := by rw [hσC]; exact pl_sA_same
    have rC43 : σC.2.1 43 = upd (σ1.2.1 43) (d + 1) (nI (s + 1 + (pl_b2 L1).length + S2.length)) := by rw [hσC, pl_sA_ne (by decide)]; exact pl_sA_same
    have fC : pl_fr pl_FL pl_GL σ1 σC := by rw [hσC]; exact (pl_cut_fr.tr (pl_sA_fr (o := 43) rfl)).tr (pl_sA_fr (o := 37) rfl)
    obtain ⟨τC, hτC⟩ : ∃ τC, τC = pr_sI τ1 0 44 (nI (nb2 + 1)) := ⟨_, rfl⟩
    rw [← hτC] at hX
    have fτC : pl_fr pl_FM pl_GM τ1 τC := by rw [hτC]; exact pl_sI_fr (o := 0) (k := 44) rfl
    have vC : ∀ q', ¬ q' = 44 → τC.1 0 q' = τ1.1 0 q' := by intro q' h'; rw [hτC, pr_sI_ne (by omega)]
    have wC : ∀ a, τC.2.1 a = τ1.2.1 a := by intro a; rw [hτC]; rfl
    have hMC := pl_M_eq (σ1 := σC) (τ1 := τC) g4 g6 fC fτC (fun a z h1 h2 h3' => by
      by_cases q37 : a = 37
      · subst q37; rw [rC37, pk_un (by omega)]
      · rw [rC a q37 (by omega)]) (fun a z h1 h2 => by rw [rC a (by omega) (by omega)]) (fun a z h1 h2 h3' => by
      by_cases q43 : a = 43
      · subst q43; rw [rC43, pk_un (by omega)]
      · rw [rC a (by omega) q43]) (fun a z _ _ _ => by rw [wC a])
    have hZ2 := pl_brZ (b1 := k + 1 + C.length + (1 + (pl_b1 L1).length)) (nb1 := nb2 + 1) (se1 := s + 1 + (pl_b2 L1).length + S2.length) hZ hMC (show ¬ kr - 3 = 4 by omega) (show ¬ kr - 3 = 1 by omega) (show kr - 3 < 64 by omega) hp g6 (by rw [hσC]; exact g71) (by rw [hσC]; exact g72) (by rw [hσC]; rfl) (by rw [hσC]; rfl) (by rw [rC43, pk_us]) (by rw [rC 45 (by decide) (by decide)]; exact s45) (by rw [rC 46 (by decide) (by decide)]; exact s46) hSt (by rw [vC 33 (by decide)]; exact u33) (by rw [vC 42 (by decide)]; exact u42) (by rw [vC 43 (by decide)]; exact u43) (by rw [vC 45 (by decide)]; exact u45) (by rw [vC 46 (by decide)]; exact u46) (by rw [vC 47 (by decide)]; exact u47) (by rw [hτC]; exact pr_sI_same) (by omega) (by omega) (by omega)
    have fCσ : pl_fr pl_FL pl_GL σ σC := f1σ.tr fC
    have fCτ : pl_fr pl_FM pl_GM τ τC := f1τ.tr fτC
    have hfF2 : pl_fF Ps fi nf lf bF (k + 1 + C.length + (1 + (pl_b1 L1).length)) (1 + (pl_b1 L2).length) τC := pl_fF_in hfF fCτ (by omega) (by omega) (by omega)
    have hblk2 := pl_nBlk (x1 := x + (2 + n)) (nf := nf) (lf := lf) hLB hZ2 hMC hp hel (Nat.le_refl _) (by rw [rC 42 (by decide) (by decide)]; exact g73) (pl_il_fr fCσ fCτ _ _ _ _ _ il2') (by rw [hlS2]) (by rw [wC 17, f1τ.2.1 17 rfl]; exact e17c) (by omega) (by omega) hfF2 (by omega)
    rcases hblk2 with hbad | ⟨n', P2, W3, σ2, τ2, nb4, g1', g2', g3', g4', g5', g6', ⟨g71', g72', g73'⟩, ⟨v33, v42, v43, v45, v46, v47, v44, v1, v2, v48⟩, g9', g10', g11', g12', g13'⟩
    · refine Or.inr (pl_brBad hbad rfl hrun2 fCσ fCτ (fun τ' e1 e2 e3 => ?_))
      rw [e1, pl_sb] at hX
      exact ⟨pl_e22 τ' p, hX, rfl, rfl, pl_e22_fr⟩
    · refine Or.inl ?_
      rw [g3', pl_sb] at hX
      obtain ⟨b1, b2, b3, b4, b5, b6, b7, b8, b9⟩ := id g9'
      have hrun3 : ∀ g, prf_Y_layProgram_65 (g + (2 + n + n')) σ (nI x) = prf_Y_layProgram_65 g σ2 (nI (x + (2 + n + n'))) := by
        intro g
        rw [show g + (2 + n + n') = (g + n') + (2 + n) by omega, hrun2 (g + n'), g2' g, show x + (2 + n) + n' = x + (2 + n + n') by omega]
      have hM2' : pl_M T m rep Ps W A E d p k s (s + ((kr - 3, t, q, s + 1 + (pl_b2 L1).length, s + 1 + (pl_b2 L1).length + S2.length, E, eb + 1) :: (pl_b2 L1 ++ S2) : List pl_S).length) (kr - 3, t, q, s + 1 + (pl_b2 L1).length, s + 1 + (pl_b2 L1).length + S2.length, E, eb + 1) par (if k + ((kr, t, 0, 1 + (C ++ ((2, tt, 0, 1 + (pl_b1 L1).length) :: pl_b1 L1) ++ B2).length) :: (C ++ ((2, tt, 0, 1 + (pl_b1 L1).length) :: pl_b1 L1) ++ B2) : List pl_N).length = b + bs then 1 else 0) (-1) σ τ P2 W3 σ2 τ2 := by
        rw [hlS, show s + (1 + (pl_b2 L1).length + S2.length) = s + 1 + (pl_b2 L1).length + S2.length by omega]
        exact g4'
      obtain ⟨j3, j4, ky, j5, j6, j7, j8⟩ := g12' hL2
      have hWp3 : W3 p = (A, E) := g4'.2.2.2.2.2.2.1.2
      refine pl_brEnd (nb' := nb4) (n1 := 2 + n + n') (se := s + 1 + (pl_b2 L1).length + S2.length) (ot := s + 1 + (pl_b2 L1).length + S2.length) hZ his ⟨_, rfl⟩ hbs (by rw [hlF]; exact hkb) hbl hp (show ¬ kr - 3 = 8 by omega) hM2' g6' g71' g72' g73' (by rw [b6 43 (by decide) (by decide), rC43, pk_us]) (by rw [b6 44 (by decide) (by decide), rC 44 (by decide) (by decide)]; exact s44) (by rw [b6 45 (by decide) (by decide), rC 45 (by decide) (by decide)]; exact s45) (by omega) (by omega) (by omega) (by omega) hrun3 v33 v42 v43 v45 v46 v47 (by rw [v48, vC 48 (by decide), u48, x48]) v44 (by omega) (by omega) hX ?_
      have pP1 : p < P1 := by omega
      have f2τ : pl_fr pl_FM pl_GM τ τ2 := fCτ.tr b2
      refine Or.inr (Or.inr ⟨show kr - 3 = 5 ∨ kr - 3 = 6 by omega, g4'.2.2.2.1, C.length, 1 + (pl_b1 L1).length, by rw [f2τ.2.1 17 rfl]; exact e17C, by rw [f2τ.2.1 17 rfl]; exact e17b, by rw [hlF]; omega, ?_, Or.inr ⟨show kr - 3 = 5 by omega, P1, 1 + (pl_b1 L2).length, ky, ?_, pP1, j3, by rw [hlF]; omega, by rw [f2τ.2.1 17 rfl]; exact e17c, by omega, by omega, by rw [j4, hWp3], j5, j6, j7, j8, fun y h1 h2 => ?_⟩⟩)
      · rw [b3 36 p (by decide) (by decide) pP1, rC 36 (by decide) (by decide)]
        rcases hinto with ⟨t1, t2', t3, t4⟩ | tq
        · exact Or.inl ⟨t1, t2', by omega, by rw [g10' (p + 1) t3, g10' p pP1]; exact t4⟩
        · exact Or.inr tq
      · rw [b3 37 p (by decide) (by decide) pP1, rC37, pk_us]
      · have hlev := g13 y (by omega) h2
        rw [b7 21 y (by decide) (by decide) h2, b7 20 y (by decide) (by decide) h2, wC 21, wC 20, b2.2.1 16 rfl, wC 16]
        rcases hlev with hl | ⟨pp, t1, t2', t3⟩
        · exact Or.inl hl
        · exact Or.inr ⟨pp, t1, by omega, t3⟩
