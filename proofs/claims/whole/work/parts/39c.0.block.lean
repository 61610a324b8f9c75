/-! THE LAYOUT: a BLOCK within a statement is laid -/
theorem pl_lsX0 {T : pl_Tx} {m : Nat} {rep : Nat → Nat} {Ps : List pl_En} {σ τ : pr_St} {ff b bs s q : Nat} {E : List (Nat × Bool)} {Ls : List (List pl_N × List pl_S × List pl_O)} (hb : b < 12870) (hbs : τ.2.1 17 b = nI bs) (hil : pl_il T m rep Ps σ τ ff b (b + 1) s q E Ls) (hk : b + 1 + (pl_b1 Ls).length = b + bs) (hl : b + 1 + (pl_b1 Ls).length ≤ 12860) (hne : ¬ Ls = []) : prf_X_lastStatement τ (nI b) = some (pl_lk (b + 1) (nI 0) Ls) := by
  unfold prf_X_lastStatement
  have hF : pr_FU = 100000 := rfl
  cases Ls with
  | nil => exact absurd rfl hne
  | cons e l =>
    rw [nI_1]
    exact pl_lsX hb hbs (e :: l) (b + 1) s q E _ pr_FU hil hk hl (by rw [hF]; omega)
theorem pl_nBlk {T : pl_Tx} {m : Nat} {rep : Nat → Nat} {Ps : List pl_En} {W W1 : pl_Wt} {A E A' E1 : List (Nat × Bool)} {d p fi bF k s s' P nb1 s1 se1 b1 q1 f1 x1 nf lf h bb1 : Nat} {par last tg : Int32} {σ τ σB τB : pr_St} {r : pl_S} {L1 : List (List pl_N × List pl_S × List pl_O)} (hLB : pl_LBh T m rep Ps h) (hZ1 : pl_Z T m rep Ps W1 A' E1 (d + 1) P nb1 nb1 bb1 fi se1 b1 bF (nI p) σB τB) (hM : pl_M T m rep Ps W A E d p k s s' r par last tg σ τ P W1 σB τB) (hp : p < 249) (hel : E.length ≤ 40) (hL : (A ++ E).length ≤ (A' ++ E1).length) (c42 : σB.2.1 42 (d + 1) = nI s1) (hil : pl_il T m rep Ps σB τB f1 b1 (b1 + 1) s1 q1 E1 L1) (hs1 : s1 + (pl_b2 L1).length = se1) (h17 : τB.2.1 17 b1 = nI (1 + (pl_b1 L1).length)) (hb1 : b1 + 1 + (pl_b1 L1).length ≤ 12860) (hx1 : x1 ≤ 3 * P) (hfF : pl_fF Ps fi nf lf bF b1 (1 + (pl_b1 L1).length) τB) (hh : 260 ≤ h + P) :
    pl_Lb x1 σB τB (prF_X_block4 (h + 1) τB (nI b1) (nI nf) (nI p) (nI nb1)) ∨ ∃ (n P1 : Nat) (W2 : pl_Wt) (σ1 τ1 : pr_St) (nb2 : Nat), n ≤ 3 * (P1 - P) ∧ (∀ g, prf_Y_layProgram_65 (g + n) σB (nI x1) = prf_Y_layProgram_65 g σ1 (nI (x1 + n))) ∧ prF_X_block4 (h + 1) τB (nI b1) (nI nf) (nI p) (nI nb1) = some τ1 ∧ pl_M T m rep Ps W A E d p k s s' r par last tg σ τ P1 W2 σ1 τ1 ∧ P ≤ P1 ∧ P1 ≤ 249 ∧ (σ1.1 6 9 = nI (d + 2) ∧ σ1.1 4 14 = nI P1 ∧ σ1.2.1 42 (d + 1) = nI se1) ∧ (τ1.1 0 33 = nI P1 ∧ τ1.1 0 42 = nI (A' ++ E1).length ∧ τ1.1 0 43 = nI A'.length ∧ τ1.1 0 45 = nI (pl_cnt false (A' ++ E1)) ∧ τ1.1 0 46 = nI (pl_cnt true (A' ++ E1)) ∧ τ1.1 0 47 = 0 ∧ τ1.1 0 44 = nI nb2 ∧ nb1 ≤ nb2 ∧ nb2 ≤ nb1 + 2 * (P1 - P) ∧ τ1.1 0 48 = τB.1 0 48) ∧ pl_fz P (d + 1) (A' ++ E1).length σB τB σ1 τ1 ∧ (∀ z, z < P → W2 z = W1 z) ∧ (L1 = [] → P1 = P) ∧ (¬ L1 = [] → P < P1 ∧ W2 P = (A', E1) ∧ ∃ ky, τ1.2.1 21 P = nI p ∧ τ1.2.1 20 P = nI ky ∧ ky < 13000 ∧ τ1.2.1 16 ky = nI b1) ∧ pl_lev P P1 b1 (nI p) τ1 := by
  have hsv : pl_sv T Ps P σB := hM.2.2.2.2.2.2.2.1
  obtain ⟨u42, u45, u46⟩ : τB.1 0 42 = nI (A' ++ E1).length ∧ τB.1 0 45 = nI (pl_cnt false (A' ++ E1)) ∧ τB.1 0 46 = nI (pl_cnt true (A' ++ E1)) := ⟨hZ1.2.1.2.2.1, hZ1.2.1.2.2.2.1, hZ1.2.1.2.2.2.2.1⟩
  have hF : pr_FU = 100000 := rfl
  have hrc : prF_X_block4 (h + 1) τB (nI b1) (nI nf) (nI p) (nI nb1) = prf_X_block4_23 (prF_X_block4 h) pr_FU τB (nI b1) (nI nf) (nI p) (nI nb1) (τB.1 0 42) (τB.1 0 45) (τB.1 0 46) (nI (b1 + 1)) := by
    show prf_X_block4 (prF_X_block4 h) τB (nI b1) (nI nf) (nI p) (nI nb1) = _
    unfold prf_X_block4
    rw [nI_1]
  have hres := hLB L1 f1 b1 (b1 + 1) s1 q1 E1 A' W1 (d + 1) P nb1 nb1 bb1 fi se1 bF (1 + (pl_b1 L1).length) x1 nf lf pr_FU (nI p) (τB.1 0 42) (τB.1 0 45) (τB.1 0 46) σB τB hZ1 hil c42 hs1 (by omega) (by omega) h17 hx1 hsv hfF (fun hne τ1 fτ => pl_lsX0 (σ := σB) (by omega) (by rw [fτ.2.1 17 rfl]; exact h17) (pl_il_fr (pl_fr.rf (σ := σB)) fτ _ _ _ _ _ hil) (by omega) hb1 hne) hh (by rw [hF]; omega)
  rw [hrc]
  rcases hres with ⟨n, P1, W2, σ1, τ1, g1, g2, g3, g4, g5, g6, g7⟩ | hbad
  · refine Or.inr ?_
    have hMs := pl_M_step hM g4 g5 hL hel hp
    obtain ⟨⟨nb2, hZ2⟩, w2, w3, w4, w5, w6, w7, w8, w9, w10⟩ := g4
    obtain ⟨y1, y2, ⟨y31, y32⟩, ⟨y41, y42, y43, y44, y45⟩, y5, ⟨y61, y62, _⟩, y7⟩ := hZ2
    have z61 := hZ1.2.2.2.2.2.1.1
    have z62 := hZ1.2.2.2.2.2.1.2.1
    obtain ⟨nb3, v1, v2, v3⟩ := w10.2 nb1 z61 z62
    have fR : pl_fr pl_FM pl_GM τ1 (pl_rs τ1 (τB.1 0 42) (τB.1 0 45) (τB.1 0 46)) := pl_rs_fr
    have fld : ∀ o q, ¬ (o = 0 ∧ (q = 42 ∨ q = 45 ∨ q = 46)) → (pl_rs τ1 (τB.1 0 42) (τB.1 0 45) (τB.1 0 46)).1 o q = τ1.1 o q := by
      intro o q hq
      unfold pl_rs
      rw [pr_sI_ne (by omega), pr_sI_ne (by omega), pr_sI_ne (by omega)]
    refine ⟨n, P1, W2, σ1, pl_rs τ1 (τB.1 0 42) (τB.1 0 45) (τB.1 0 46), nb3, g1, g2, g3, pl_M_eq hMs y43 pl_fr.rf fR (fun _ _ _ _ _ => rfl) (fun _ _ _ _ => rfl) (fun _ _ _ _ _ => rfl) (fun _ _ _ _ _ => rfl), w5, y43, ⟨y44, y41, w2⟩, ⟨?_, ?_, ?_, ?_, ?_, ?_, ?_, v2, v3, by rw [fld 0 48 (by omega)]; exact w10.1⟩, ?_, w4, g6, g7, w8⟩
    · rw [fld 0 33 (by omega)]; exact y42
    · unfold pl_rs; rw [pr_sI_ne (by omega), pr_sI_ne (by omega), pr_sI_same]; exact u42
    · rw [fld 0 43 (by omega)]; exact y31
    · unfold pl_rs; rw [pr_sI_ne (by omega), pr_sI_same]; exact u45
    · unfold pl_rs; rw [pr_sI_same]; exact u46
    · rw [fld 0 47 (by omega)]; exact y32
    · rw [fld 0 44 (by omega)]; exact v1
    · obtain ⟨a1, a2, a3, a4, a5, a6, a7, a8, a9⟩ := w3
      exact ⟨a1, a2.tr fR, a3, a4, a5, a6, a7, a8, a9⟩
  · exact Or.inl hbad
/-- the state of a BLOCK of an if or while -/
theorem pl_brZ {T : pl_Tx} {m : Nat} {rep : Nat → Nat} {Ps : List pl_En} {W W1 : pl_Wt} {A E : List (Nat × Bool)} {d p ii nb bb fi send b bF k s s' P nb1 se1 b1 : Nat} {par last tg : Int32} {σ τ σB τB : pr_St} {r : pl_S} (hZ : pl_Z T m rep Ps W A E d p ii nb bb fi send b bF par σ τ) (hM : pl_M T m rep Ps W A E d p k s s' r par last tg σ τ P W1 σB τB) (hr4 : ¬ r.1 = 4) (hr1 : ¬ r.1 = 1) (hr64 : r.1 < 64) (hp : p < 249) (hP : P ≤ 249) (c69 : σB.1 6 9 = nI (d + 2)) (c14 : σB.1 4 14 = nI P) (c54 : σB.1 5 4 = nI (pl_cnt false (A ++ E))) (c55 : σB.1 5 5 = nI (pl_cnt true (A ++ E))) (c43 : σB.2.1 43 (d + 1) = nI se1) (c45 : σB.2.1 45 (d + 1) = nI p) (c46 : σB.2.1 46 (d + 1) = nI fi) (hse1 : se1 ≤ pl_tS Ps) (x33 : τB.1 0 33 = nI P) (x42 : τB.1 0 42 = nI (A ++ E).length) (x43 : τB.1 0 43 = nI A.length) (x45 : τB.1 0 45 = nI (pl_cnt false (A ++ E))) (x46 : τB.1 0 46 = nI (pl_cnt true (A ++ E))) (x47 : τB.1 0 47 = 0) (x44 : τB.1 0 44 = nI nb1) (hnb1 : nb < nb1) (hnb1' : nb1 ≤ 2 * P) (hbF : ¬ b1 = bF) :
    pl_Z T m rep Ps W1 A E (d + 1) P nb1 nb1 (A ++ E).length fi se1 b1 bF (nI p) σB τB := by
  obtain ⟨z1, z2, ⟨z31, z32⟩, ⟨z41, z42, z43, z44, z45⟩, ⟨z51, z52, z53, z54, z55⟩, ⟨z61, z62, z63, z64, z65, z66⟩, z7⟩ := hZ
  obtain ⟨m1, m2, m3, m4, m5, m6, ⟨m71, m72⟩, m8, m9, m10⟩ := hM
  obtain ⟨a1, a2, a3, a4, a5, a6, a7, a8, a9⟩ := m1
  have ewv : pl_wv W1 p = A ++ E := by unfold pl_wv; rw [m72]
  refine ⟨pl_bs_fr z1 a1 a2, pl_scp_eq z2 c54 c55 x42 x45 x46 (fun r z h1 h2 hz => a4 r z h1 h2 hz) (fun r z h1 h2 hz => a9 r z h1 (by omega) hz), ⟨x43, x47⟩, ⟨c14, x33, hP, c69, by omega⟩, ⟨c43, c45, c46, hse1, z55⟩, ⟨x44, hnb1', Nat.le_refl _, by rw [List.length_append]; omega, Nat.le_refl _, fun v hv => ?_⟩, Or.inr ⟨p, rfl, m9, ?_, Or.inr ⟨?_, by rw [m72], ⟨[], by rw [m72, List.append_nil]⟩, hbF, ?_⟩⟩⟩
  · obtain ⟨j, j1, j2, j3⟩ := z66 v hv
    exact ⟨j, by rw [a9 32 v (by decide) (by decide) hv]; exact j1, by omega, ⟨fun q => by omega, fun q => by omega⟩⟩
  · rw [ewv, m72]
    exact ⟨m3.2.2.2.1, m3.2.2.2.2.1, m3.2.2.2.2.2.1, m3.2.2.2.2.2.2.1, rfl⟩
  · rw [m3.1]
    exact pl_nn (j := 4) hr64 (by decide) rfl hr4
  · rw [m3.1]
    exact pl_nn (j := 1) hr64 (by decide) rfl hr1
