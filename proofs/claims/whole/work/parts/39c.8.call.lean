/-! THE LAYOUT: a call -/
theorem pl_stCallL {T : pl_Tx} {m : Nat} {rep : Nat → Nat} {Ps : List pl_En} {W : pl_Wt} {A E : List (Nat × Bool)} {h d p ii nb bb fi send b bF f0 k s q bs x nf lf : Nat} {par : Int32} {σ τ : pr_St} {F : List pl_N} {S : List pl_S} {O : List pl_O} (hLB : pl_LBh T m rep Ps h) (hh : 260 ≤ h + (p + 1)) (hc : pl_cx T m rep Ps W A E d p ii nb bb fi send b bF f0 k s q bs x par σ τ F S O) (hp : p < 249) (hx3 : x ≤ 3 * p) (hfF : pl_fF Ps fi nf lf bF b bs τ) (h6 : pl_st6 T s q E F S O) :
    pl_LS T m rep Ps W A E d p ii bb fi send b bF k s bs x par σ τ F S 4 (prf_X_statement5 (prF_X_block4 (h + 1)) τ (nI k) (nI b) (nI nf) par (nI ii)) := by
  obtain ⟨t, n0, e, h0, Gs, k1, hn0, hcm, k13, k19, eF, eO, eS, hsm⟩ := h6
  obtain ⟨hZ, his, h42, hse, hx, hbs, hkb, hbl, hlast, hsv, hss⟩ := id hc
  obtain ⟨z1, z2, ⟨z31, z32⟩, ⟨z41, z42, z43, z44, z45⟩, ⟨z51, z52, z53, z54, z55⟩, ⟨z61, z62, z63, z64, z65, z66⟩, z7⟩ := id hZ
  have hex : pl_ex (pl_xK T) E S = E := by rw [eS]; rfl
  unfold pl_LS
  rw [hex]
  have hel : E.length ≤ 40 := by
    have := pl_scp_len z2
    rw [List.length_append] at this
    omega
  rcases pl_callOpen (rc := prF_X_block4 (h + 1)) (x3 := nI nf) hc hp hfF k1 hn0 hcm k13 k19 eF eS hsm with hbad | ⟨σB, τB, j, nf', sf, qf, e', tg, hrun, hX, hM, ⟨gf, hj, enp, hroom⟩, ⟨c69, c14, c36, c37⟩, ⟨c42, c43, c44, c45, c46⟩, ⟨x33, x43, x47, x44, x48⟩, sB, r32, htgt⟩
  · exact Or.inr hbad
  have fσB := hM.1.1
  have fτB := hM.1.2.1
  have bB : pl_bs T m rep Ps σB τB := pl_bs_fr z1 fσB fτB
  obtain ⟨y1, y2, y3, y4, y5, y6⟩ := pl_bd_fn bB gf
  have elen := pl_eF_len e'
  obtain ⟨hff, e17B⟩ := pl_fF_fn bB gf
  obtain ⟨pe1, pe2, pe3, pe4⟩ := pl_pe_cnt e'.2.1 (e'.1 + 3)
  have m3 := hM.2.2.1
  have hsfe := gf.2.2.2.2.2.2.1
  have hZ1 : pl_Z T m rep Ps (fun z => if z = p then (A, E) else W z) (A ++ E) (pl_pe (e'.1 + 3) e'.2.1) (d + 1) (p + 1) (nb + 1) (nb + 1) (A ++ E).length j (sf + (pl_b2 e'.2.2.2).length) (nf' + 2 + e'.2.1) (nf' + 2 + e'.2.1) (nI p) σB τB := by
    have hWp : (fun z => if z = p then (A, E) else W z : pl_Wt) p = (A, E) := if_pos rfl
    have ewv : pl_wv (fun z => if z = p then (A, E) else W z) p = A ++ E := by unfold pl_wv; rw [hWp]
    refine ⟨bB, sB, ⟨x43, x47⟩, ⟨c14, x33, by omega, c69, by omega⟩, ⟨c43, c45, c46, hsfe, gf.2.2.2.2.1⟩, ⟨x44, by omega, Nat.le_refl _, Nat.le_refl _, by rw [List.length_append (as := A ++ E)]; omega, fun v hv => ?_⟩, Or.inr ⟨p, rfl, by omega, ?_, Or.inl ⟨by rw [m3.1]; rfl, ewv.symm, by omega, rfl⟩⟩⟩
    · by_cases hv' : v < (A ++ E).length
      · obtain ⟨i, i1, i2, i3⟩ := z66 v hv'
        exact ⟨i, by rw [hM.1.2.2.2.2.2.2.2.2 32 v (by decide) (by decide) hv']; exact i1, by omega, ⟨fun q => by omega, fun q => by omega⟩⟩
      · rw [List.length_append (as := A ++ E), pe3] at hv
        exact ⟨nb + 1, r32 v (by omega) hv, Nat.le_refl _, ⟨fun _ => by omega, fun _ => rfl⟩⟩
    · rw [ewv, hWp]
      exact ⟨m3.2.2.2.1, m3.2.2.2.2.1, m3.2.2.2.2.2.1, m3.2.2.2.2.2.2.1, rfl⟩
  have hblk := pl_nBlk (x1 := x + 1) (nf := nf') (lf := (pl_eF e').length) hLB hZ1 hM hp hel (by rw [List.length_append (as := A ++ E)]; omega) c42 (by
    have := gf.2.2.2.2.2.1
    rw [show nf' + 3 + e'.2.1 = nf' + 2 + e'.2.1 + 1 by omega] at this
    exact this) rfl e17B (by omega) (by omega) hff hh
  rcases hblk with hbad | ⟨n, P1, W2, σ1, τ1, nb2, g1, g2, g3, g4, g5, g6, ⟨g71, g72, g73⟩, ⟨u33, u42, u43, u45, u46, u47, u44, u1, u2, u48⟩, g9, g10, g11, g12, g13⟩
  · refine Or.inr (pl_brBad hbad rfl hrun fσB fτB (fun τ' e1 e2 e3 => ?_))
    rw [e1, pl_sb] at hX
    exact ⟨_, hX, rfl, rfl, (((pl_sI_fr (o := 0) (k := 42) rfl).tr (pl_sI_fr (o := 0) (k := 43) rfl)).tr (pl_sI_fr (o := 0) (k := 45) rfl)).tr pl_e22_fr⟩
  refine Or.inl ?_
  rw [g3, pl_sb] at hX
  obtain ⟨a1, a2, a3, a4, a5, a6, a7, a8, a9⟩ := id g9
  obtain ⟨τ2, hτ2⟩ : ∃ τ2, τ2 = pr_sI (pr_sI (pr_sI τ1 0 42 (nI (A ++ E).length)) 0 43 (nI A.length)) 0 45 (nI (pl_cnt false (A ++ E))) := ⟨_, rfl⟩
  rw [← hτ2] at hX
  have f2 : pl_fr pl_FM pl_GM τ1 τ2 := by rw [hτ2]; exact ((pl_sI_fr (o := 0) (k := 42) rfl).tr (pl_sI_fr (o := 0) (k := 43) rfl)).tr (pl_sI_fr (o := 0) (k := 45) rfl)
  have v2 : ∀ y, ¬ y = 42 → ¬ y = 43 → ¬ y = 45 → τ2.1 0 y = τ1.1 0 y := by intro y h1 h2 h3; rw [hτ2, pr_sI_ne (by omega), pr_sI_ne (by omega), pr_sI_ne (by omega)]
  have w2 : ∀ a, τ2.2.1 a = τ1.2.1 a := by intro a; rw [hτ2]; rfl
  have hM2 := pl_M_eq (σ1 := σ1) (τ1 := τ2) g4 g6 pl_fr.rf f2 (fun _ _ _ _ _ => rfl) (fun _ _ _ _ => rfl) (fun _ _ _ _ _ => rfl) (fun a z _ _ _ => by rw [w2 a])
  have hlS : S.length = 1 := by rw [eS]; rfl
  have hrun1 : ∀ g, prf_Y_layProgram_65 (g + (1 + n)) σ (nI x) = prf_Y_layProgram_65 g σ1 (nI (x + (1 + n))) := by
    intro g
    rw [show g + (1 + n) = (g + n) + 1 by omega, hrun (g + n), g2 g, show x + 1 + n = x + (1 + n) by omega]
  rw [← hlS] at hM2
  have hWp : W2 p = (A, E) := g4.2.2.2.2.2.2.1.2
  have ewv : pl_wv W2 p = A ++ E := by unfold pl_wv; rw [hWp]
  have s7 := z1.2.2.2.2.2.2.1
  refine pl_brEnd (r := (4, t, q, Gs.length, s + S.length, E, e + 2)) (nb' := nb2) (n1 := 1 + n) (se := sf + (pl_b2 e'.2.2.2).length) (ot := sf + (pl_b2 e'.2.2.2).length) hZ his ⟨[], by rw [hlS]; exact eS⟩ hbs hkb hbl hp (show ¬ 4 = 8 by decide) hM2 g6 g71 g72 g73 (by rw [a6 43 (by decide) (by decide)]; exact c43) (by rw [a6 44 (by decide) (by decide)]; exact c44) (by rw [a6 45 (by decide) (by decide)]; exact c45) (by omega) (Nat.le_refl _) (by omega) (by omega) hrun1 (by rw [v2 33 (by decide) (by decide) (by decide)]; exact u33) ?_ ?_ ?_ ?_ (by rw [v2 47 (by decide) (by decide) (by decide)]; exact u47) (by rw [v2 48 (by decide) (by decide) (by decide), u48, x48]) (by rw [v2 44 (by decide) (by decide) (by decide)]; exact u44) (by omega) (by omega) hX ?_
  · rw [hτ2, pr_sI_ne (by omega), pr_sI_ne (by omega)]; exact pr_sI_same
  · rw [hτ2, pr_sI_ne (by omega)]; exact pr_sI_same
  · rw [hτ2]; exact pr_sI_same
  · rw [v2 46 (by decide) (by decide) (by decide), u46, pl_cnt_app, pe1, Nat.add_zero]
  · refine Or.inr (Or.inl ⟨rfl, by rw [a3 37 p (by decide) (by decide) (by omega)]; exact c37, by rw [ewv]; exact hroom, ?_, ?_⟩)
    · rw [hWp, show σ1.2.1 34 p = tg from g4.2.2.2.1]
      exact htgt
    · have r36 : σ1.2.1 36 p = (if (pl_b2 e'.2.2.2).length = 0 then -1 else nI (p + 1)) := by rw [a3 36 p (by decide) (by decide) (by omega)]; exact c36
      by_cases ql : e'.2.2.2 = []
      · refine Or.inr ⟨?_, g11 ql⟩
        rw [r36, ql]; rfl
      · obtain ⟨j1, j2⟩ := pl_il_ne gf.2.2.2.2.2.1 ql
        obtain ⟨j3, j4, _⟩ := g12 ql
        exact Or.inl ⟨by rw [r36, if_neg (by omega)], j3, by rw [j4, ewv], by rw [j4]; exact pe4⟩
