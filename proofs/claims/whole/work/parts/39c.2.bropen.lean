/-! THE LAYOUT: if and while are laid, their first BLOCK is opened -/
theorem pl_brOpen {rc : pr_St → Int32 → Int32 → Int32 → Int32 → Option pr_St} {T : pl_Tx} {m : Nat} {rep : Nat → Nat} {Ps : List pl_En} {W : pl_Wt} {A E : List (Nat × Bool)} {d p ii nb bb fi send b bF f k s q bs x kr t eb n1 n2 : Nat} {par x3 : Int32} {σ τ : pr_St} {C B : List pl_N} {Qc : List pl_O} {S' : List pl_S} {O : List pl_O} (hc : pl_cx T m rep Ps W A E d p ii nb bb fi send b bF f k s q bs x par σ τ ((kr, t, 0, 1 + (C ++ B).length) :: (C ++ B)) ((kr - 3, t, q, s + 1 + n1, s + 1 + n1 + n2, E, eb + 1) :: S') O) (hp : p < 249) (hkr : (kr = 8 ∧ pl_xK T t = 6) ∨ (kr = 9 ∧ pl_xK T t = 8 ∧ n2 = 0)) (k1 : pl_xK T (t + 1) = 12) (k2 : pl_xK T eb = 13) (k3 : pl_xK T (eb + 1) = 14) (hcm : pl_cm (pl_xK T) (t + 2) eb C) (hcd : pl_cd T 190 q C Qc) (hS' : S'.length = n1 + n2) :
    pl_Lb x σ τ (prf_X_statement5 rc τ (nI k) (nI b) x3 par (nI ii)) ∨ ∃ σB τB, (∀ g, prf_Y_layProgram_65 (g + 1) σ (nI x) = prf_Y_layProgram_65 g σB (nI (x + 1))) ∧ prf_X_statement5 rc τ (nI k) (nI b) x3 par (nI ii) = ((prf_X_second τB (nI k)).bind fun r217 => (rc τB r217 x3 (nI p) (nI (nb + 1))).bind fun r218 => pl_brK rc (nI k) (nI p) x3 p r218) ∧ pl_M T m rep Ps W A E d p k s (s + 1 + n1 + n2) (kr - 3, t, q, s + 1 + n1, s + 1 + n1 + n2, E, eb + 1) par (if k + (1 + (C ++ B).length) = b + bs then 1 else 0) (-1) σ τ (p + 1) (fun z => if z = p then (A, E) else W z) σB τB ∧ (σB.1 6 9 = nI (d + 2) ∧ σB.1 4 14 = nI (p + 1) ∧ σB.1 5 4 = nI (pl_cnt false (A ++ E)) ∧ σB.1 5 5 = nI (pl_cnt true (A ++ E)) ∧ σB.2.1 36 p = (if n1 = 0 then -1 else nI (p + 1)) ∧ σB.2.1 37 p = -1) ∧ (σB.2.1 42 (d + 1) = nI (s + 1) ∧ σB.2.1 43 (d + 1) = nI (s + 1 + n1) ∧ σB.2.1 44 (d + 1) = nI (s + 1 + n1 + n2) ∧ σB.2.1 45 (d + 1) = nI p ∧ σB.2.1 46 (d + 1) = nI fi) ∧ (τB.1 0 33 = nI (p + 1) ∧ τB.1 0 42 = nI (A ++ E).length ∧ τB.1 0 43 = nI A.length ∧ τB.1 0 45 = nI (pl_cnt false (A ++ E)) ∧ τB.1 0 46 = nI (pl_cnt true (A ++ E)) ∧ τB.1 0 47 = 0 ∧ τB.1 0 44 = nI (nb + 1) ∧ τB.1 0 48 = τ.1 0 48) := by
  obtain ⟨hZ, his, h42, hse, hx, hbs, hkb, hbl, hlast, hsv, hss⟩ := hc
  obtain ⟨z1, z2, ⟨z31, z32⟩, ⟨z41, z42, z43, z44, z45⟩, ⟨z51, z52, z53, z54, z55⟩, ⟨z61, z62, z63, z64, z65, z66⟩, z7⟩ := id hZ
  have htt := z1.1
  have hown := (pl_own z1 his).2
  have hown : eb + 1 ≤ pl_xc T := hown
  have hS7 := z1.2.2.2.2.2.2.1
  have hec : eb + 1 < pl_xc T := by
    by_cases q : eb + 1 < pl_xc T
    · exact q
    · have hw := htt.2.2.2.2.1.2.1
      rw [show pl_xc T - 1 = eb by omega, k2] at hw
      omega
  have hte : t + 2 < eb := hcm.1
  obtain ⟨i1, i2, i3, i4, i5, i6, ⟨i71, i72, i73, i74⟩, i8⟩ := id his
  rw [List.length_cons] at i72
  have hkt : ¬ pl_xK T t = 2 ∧ ¬ pl_xK T t = 11 ∧ ¬ pl_xK T t = 19 ∧ ¬ pl_xK T t = 14 ∧ 2 ≤ pl_xK T t := by omega
  have ecu : pl_cu (pl_xK T) t (eb + 1) = pl_cl false C := by
    rw [pl_cu_sk (a := t) (by omega) hkt.1 hkt.2.1, pl_cu_sk (a := t + 1) (by omega) (by omega) (by omega), pl_cu_se (by omega) (by omega) (by omega), hcm.2.2.1]
  have htc : pl_tc T t (eb + 1) := pl_tc_app (pl_tc_1 hkt.2.2.2.2 hkt.2.2.1 hkt.2.2.2.1 hkt.2.1 (fun q => absurd q hkt.1)) (pl_tc_app (pl_tc_1 (a := t + 1) (by omega) (by omega) (by omega) (by omega) (fun q => by omega)) (pl_tc_app (pl_tc_cm htt hcm (by omega) (by omega)) (pl_tc_1 (by omega) (by omega) (by omega) (by omega) (fun q => by omega))))
  obtain ⟨r, hr⟩ : ∃ r : pl_S, r = (kr - 3, t, q, s + 1 + n1, s + 1 + n1 + n2, E, eb + 1) := ⟨_, rfl⟩
  have hr1 : r.1 = kr - 3 := by rw [hr]
  have hrt : r.2.1 = t := by rw [hr]
  have hr4 : r.2.2.2.1 = s + 1 + n1 := by rw [hr]
  have hr5 : r.2.2.2.2.1 = s + 1 + n1 + n2 := by rw [hr]
  have hrE : r.2.2.2.2.2.1 = E := by rw [hr]
  have hr7 : r.2.2.2.2.2.2 = eb + 1 := by rw [hr]
  rw [← hr] at hss hlast his i1 i4 i6 ⊢
  rw [List.length_cons, hS'] at hss hlast
  have hk56 : r.1 = 5 ∨ r.1 = 6 := by omega
  have hls2 : pl_ls T m rep A E (pl_s2 σ d r.2.2.2.2.1 A) τ := pl_Z_ls hZ pl_fr.rf (fun _ _ _ => rfl) (fun _ _ => rfl)
  have hH := (pl_hold hZ (show s < pl_tS Ps by omega) i4 (show r.2.1 < pl_xc T by omega)).2 hp
  have n8 : ¬ nI r.1 = 8 := pl_nn (j := 8) (by omega) (by decide) rfl (by omega)
  have n1' : ¬ nI r.1 = 1 := pl_nn (j := 1) (by omega) (by decide) rfl (by omega)
  rw [if_neg n8] at hH
  have hH2 : prf_Y_holds (pl_s1 σ d r.2.2.2.2.1) (nI s) = prf_Y_holds_82 (pl_s2 σ d r.2.2.2.2.1 A) (nI s) (nI r.1) (nI r.2.1) := by
    rw [hH]
    unfold prf_Y_holds_67
    rw [if_neg n1']
  obtain ⟨t1, t2⟩ := pl_tokH hls2 (nI s) (show r.2.1 ≤ eb + 1 by omega) hec (Or.inr k3) (by rw [hrt]; exact htc)
  rw [hrt, ecu] at t1 t2
  -- the reference
  obtain ⟨f', τ1, eX, hpX⟩ := pl_ptX (rc := rc) z2 (p := p) (k := k) (par := par) (x2 := nI b) (x3 := x3) (x5 := nI ii) z31 z42 hp
  have fX := pl_pX_fr hpX
  have hls1 : pl_ls T m rep A E (pl_s2 σ d r.2.2.2.2.1 A) τ1 := pl_Z_ls hZ fX hpX.2.1 hpX.2.2.1
  have nn1 := pl_nd_fm i2 fX
  have w1 := pl_wh_fm i3 fX
  obtain ⟨nC, nB⟩ := pl_nd_l _ _ _ nn1.2
  have wC : pl_wh τ1 (k + 1) (nI k) C := pl_wh_c (A := []) (C := B) w1 rfl rfl trivial (pl_cd_ro hcd)
  have h13 : τ1.2.1 13 k = nI kr := nn1.1.1
  rw [List.length_append] at i72
  have h13n : ¬ τ1.2.1 13 k = 14 := by rw [h13]; exact pl_nn (j := 14) (by omega) (by decide) rfl (by omega)
  obtain ⟨l1, l2⟩ := pl_lkX hls1 nC wC (pl_cd_xf _ _ _ _ hcd) (pl_cd_vn _ _ _ _ hcd).2 (pl_cd_ro hcd) (by omega) (by omega) h13n
  have h42x : τ1.1 0 42 = nI (A ++ E).length := hls1.2.2.1.2.2.1
  have head : prf_X_statement5_96 rc (f' + 1) τ1 (nI k) (nI b) x3 (nI ii) (nI p) (nI (A ++ E).length) = (prf_X_lookAll τ1 (nI (k + 1))).bind fun r214 => if r214.1 = 0 then some (pl_e22 r214.2 p) else (prf_X_second (pr_sI r214.2 0 44 ((r214.2.1 0 44) + 1)) (nI k)).bind fun r217 => (rc (pr_sI r214.2 0 44 ((r214.2.1 0 44) + 1)) r217 x3 (nI p) ((r214.2.1 0 44) + 1)).bind fun r218 => pl_brK rc (nI k) (nI p) x3 p r218 := by
    unfold pl_brK
    rw [prf_X_statement5_96, h42x, if_pos (Int32.le_refl _), pl_ck (by omega) (by omega), nI_clamp (by omega), h13]
    rcases hkr with ⟨rfl, _⟩ | ⟨rfl, _⟩
    · rw [if_neg (by decide), if_neg (by decide), if_neg (by decide), if_neg (by decide), if_neg (by decide), if_pos (by rfl), nI_1]
      simp only [pl_e22_X (show p < 250 by omega)]
    · rw [if_neg (by decide), if_neg (by decide), if_neg (by decide), if_neg (by decide), if_neg (by decide), if_neg (by decide), if_pos (by rfl), nI_1]
      simp only [pl_e22_X (show p < 250 by omega)]
  rcases pl_allbad (T := T) (E := E) (pl_cl false C) with hall | ⟨w, pt, hbad⟩
  · refine Or.inr ?_
    obtain ⟨σ3, w1', w2'⟩ := t1 hall
    have w2 : pl_u24 T E (pl_cu (pl_xK T) t (eb + 1)) (pl_s2 σ d r.2.2.2.2.1 A) σ3 := by rw [ecu]; exact w2'
    have h3 : pl_h3 T r (pl_s2 σ d r.2.2.2.2.1 A) σ3 := pl_h3_mk w2 hrE (by omega) (by omega) (by omega) (fun t' g1 g2 g3 _ => ⟨by omega, by omega⟩)
    have hs3 : pl_scp T m rep σ3 τ (A ++ E) := by
      obtain ⟨⟨g, eg⟩, _⟩ := w2
      rw [eg]
      exact (pl_ls_24 hls2 g).2.2.1
    have h13' : σ3.1 6 13 = -1 := by
      obtain ⟨⟨g, eg⟩, _⟩ := w2
      rw [eg]
      show (pl_s2 σ d r.2.2.2.2.1 A).1 6 13 = _
      unfold pl_s2
      rw [pr_sI_ne (by omega), pr_sI_ne (by omega), pr_sI_same]
    have hhold : prf_Y_holds (pl_s1 σ d r.2.2.2.2.1) (nI s) = some (1, σ3) := by
      rw [hH2]
      exact pl_82 hs3 h13' r.1 r.2.1 (by omega) (by omega) (nI s) (by rw [hrt]; exact w1')
    have f23 := pl_h3_fr h3
    have f03 : pl_fr pl_FL pl_GL σ σ3 := pl_s2_fr.tr f23
    have b3 : pl_bs T m rep Ps σ3 τ := pl_bs_fr z1 f03 pl_fr.rf
    have fld : ∀ o y, ¬ o = 6 → σ3.1 o y = σ.1 o y := by
      intro o y ho
      rw [h3.1 o y (by omega)]
      unfold pl_s2 pl_s1
      rw [pr_sI_ne (by omega), pr_sI_ne (by omega), pr_sI_ne (by omega)]
      show (pr_sI σ 6 10 (nI d)).1 o y = _
      rw [pr_sI_ne (by omega)]
    have row : ∀ a, ¬ a = 24 → ¬ a = 42 → σ3.2.1 a = σ.2.1 a := by
      intro a h24 h42
      rw [h3.2.1 a h24]
      show (pl_s1 σ d r.2.2.2.2.1).2.1 a = _
      unfold pl_s1
      rw [pl_sA_ne h42]
      rfl
    have o3 : pl_opn d σ3 := by
      refine ⟨?_, ?_, by omega⟩
      · rw [h3.1 6 9 (by omega)]
        unfold pl_s2 pl_s1
        rw [pr_sI_ne (by omega), pr_sI_ne (by omega), pr_sI_ne (by omega)]
        show (pr_sI σ 6 10 (nI d)).1 6 9 = _
        rw [pr_sI_ne (by omega)]; exact z44
      · rw [h3.1 6 10 (by omega)]
        unfold pl_s2 pl_s1
        rw [pr_sI_ne (by omega), pr_sI_ne (by omega), pr_sI_ne (by omega)]
        show (pr_sI σ 6 10 (nI d)).1 6 10 = _
        rw [pr_sI_same]
    have st3 : pl_sts σ3 s (r :: S') := pl_sts_eq (σ := σ) (r :: S') s (fun q z h1 h2 _ _ => by rw [f03.2.1 q (pl_GL_lo (by omega))]) i4
    have e611 : σ3.1 6 11 = nI (pl_cnt false A) := by rw [h3.1 6 11 (by omega)]; unfold pl_s2; rw [pr_sI_ne (by omega), pr_sI_same]
    have e612 : σ3.1 6 12 = nI (pl_cnt true A) := by rw [h3.1 6 12 (by omega)]; unfold pl_s2; rw [pr_sI_same]
    obtain ⟨σA, eL, hpC⟩ := pl_lay b3 (d := d) (p := p) (send := send) (V := A ++ E) (A := A) (par := par) (show s < pl_tS Ps by omega) st3 (show r.2.1 < pl_xc T by omega) (by omega) (by rw [hr5]; omega) (by omega) o3 (by rw [fld 4 14 (by decide)]; exact z41) hp (by rw [row 45 (by decide) (by decide)]; exact z52) (by rw [row 43 (by decide) (by decide)]; exact z51) (by rw [fld 5 4 (by decide)]; exact z2.1) (by rw [fld 5 5 (by decide)]; exact z2.2.1) e611 e612
    have elast : (if r.2.2.2.2.1 = send then (1 : Int32) else 0) = if k + (1 + (C ++ B).length) = b + bs then 1 else 0 := by
      rw [hr5]
      have hl' : s + 1 + n1 + n2 = send ↔ k + (1 + (C ++ B).length) = b + bs := by
        rw [List.length_cons] at hlast
        constructor
        · intro q; have := hlast.mp (by omega); omega
        · intro q; have := hlast.mpr (by omega); omega
      by_cases q : s + 1 + n1 + n2 = send
      · rw [if_pos q, if_pos (hl'.mp q)]
      · rw [if_neg q, if_neg (fun w => q (hl'.mpr w))]
    rw [elast] at hpC
    obtain ⟨c1, c2, c3, c4, c5, c6, c7⟩ := id hpC
    have fA : pl_fr pl_FL pl_GL σ σA := f03.tr (pl_pC_fr hpC)
    have oA : pl_opn d σA := ⟨by rw [c2 6 9 (by omega)]; exact o3.1, by rw [c2 6 10 (by omega)]; exact o3.2.1, o3.2.2⟩
    have bA : pl_bs T m rep Ps σA τ := pl_bs_fr z1 fA pl_fr.rf
    have stA : pl_sts σA s (r :: S') := pl_sts_eq (σ := σ) (r :: S') s (fun q z h1 h2 _ _ => by rw [fA.2.1 q (pl_GL_lo (by omega))]) i4
    obtain ⟨_, _, g3, g4⟩ := pl_rec (σ := σA) bA.2.2.2.2.2.2.2.2.2.2.1 hS7 (show s < pl_tS Ps by omega) stA
    rw [hr4] at g3
    rw [hr5] at g4
    have gf : prf_Y_function σA = some (nI fi) := by rw [(pl_opC oA).2, c3 46 (by decide), row 46 (by decide) (by decide), z53]
    obtain ⟨σB, eB, q69, qf, qr, qz, q36, q4, q22⟩ := pl_openC (σ := σA) (d := d) (p := p) (a := s + 1) (be := s + 1 + n1) (ot := s + 1 + n1 + n2) (fi := fi) (by rw [c2 6 9 (by omega)]; exact o3.1) (by omega) c1 hp (by omega) (by omega)
    have eK : pl_layK σA (nI s) (nI p) (nI r.2.1) (nI r.1) = some σB := by
      unfold pl_layK
      rcases hkr with ⟨h8, _⟩ | ⟨h9, _, hn2⟩
      · have h5 : r.1 = 5 := by omega
        rw [h5, if_neg (by decide), if_neg (by decide), if_neg (by decide), if_neg (by decide), if_pos (by rfl), gf, pl_sb, g3, pl_sb, g4, pl_sb, nI_1, eB, pl_sb]
      · have h6 : r.1 = 6 := by omega
        rw [h6, if_neg (by decide), if_neg (by decide), if_neg (by decide), if_neg (by decide), if_neg (by decide), if_pos (by rfl), gf, pl_sb, g4, pl_sb, nI_1]
        rw [hn2] at eB ⊢
        rw [show s + 1 + n1 + 0 = s + 1 + n1 from rfl] at eB ⊢
        rw [pl_sb, eB, pl_sb]
    have fB : pl_fr pl_FL pl_GL σA σB := by
      refine ⟨fun o k hok => qf o k (fun q => ?_), fun a ha => qr a (fun q => ?_) (fun q => ?_), q22⟩
      · rw [q.1] at hok; cases hok
      · unfold pl_GL at ha
        rw [Nat.ble_eq_true_of_le (show 24 ≤ a by omega), Nat.ble_eq_true_of_le (show a ≤ 46 by omega)] at ha
        cases ha
      · rw [q] at ha; cases ha
    have x44 : τ1.1 0 44 = nI nb := by rw [hpX.2.1 0 44 (by omega)]; exact z61
    have hM := pl_M0 (σB := σB) (τB := pr_sI τ1 0 44 (nI (nb + 1))) (tg := -1) hZ his hsv h3 hpC hpX fB (pl_sI_fr (o := 0) (k := 44) rfl)
      (fun a z h1 h2 hz => by
        by_cases q : a = 36
        · subst q
          rw [q36]
          by_cases qq : s + 1 + n1 ≤ s + 1
          · rw [if_pos qq]
          · rw [if_neg qq, pk_un (by omega)]
        · rw [qr a (by omega) q])
      (fun a z h1 h2 _ => by rw [qr a (by omega) (by omega)])
      (fun a z h1 h2 hz => qz a z h1 (by omega)) (fun _ _ _ _ => rfl) (fun _ _ _ _ _ => rfl) (by rw [qr 34 (by decide) (by decide)]; exact c7.1)
    rw [hr5] at hM
    refine ⟨σB, pr_sI τ1 0 44 (nI (nb + 1)), fun g => ?_, ?_, hM, ⟨q69, by rw [qf 4 14 (by omega)]; exact c1, ?_, ?_, ?_, ?_⟩, q4, ⟨?_, ?_, ?_, ?_, ?_, ?_, pr_sI_same, by rw [pr_sI_ne (by omega), hpX.2.1 0 48 (by omega)]⟩⟩
    · have ht := pl_turn z1 z44 (by omega) h42 z51 hse z54 i4 hx g
      rw [hhold, pl_sb, if_neg (show ¬ ((1 : Int32), σ3).1 = 0 from pl_10), eL, eK, pl_sb] at ht
      exact ht
    · rw [eX, head, l1 hall, pl_sb, if_neg (show ¬ ((1 : Int32), τ1).1 = 0 from pl_10)]
      show ((prf_X_second (pr_sI τ1 0 44 ((τ1.1 0 44) + 1)) (nI k)).bind fun r217 => (rc (pr_sI τ1 0 44 ((τ1.1 0 44) + 1)) r217 x3 (nI p) ((τ1.1 0 44) + 1)).bind _) = _
      rw [x44, nI_1]
    · rw [qf 5 4 (by omega), c2 5 4 (by omega), fld 5 4 (by decide)]; exact z2.1
    · rw [qf 5 5 (by omega), c2 5 5 (by omega), fld 5 5 (by decide)]; exact z2.2.1
    · rw [q36]
      by_cases qq : n1 = 0
      · rw [if_pos (show s + 1 + n1 ≤ s + 1 by omega), if_pos qq]; exact c7.2.2.1
      · rw [if_neg (show ¬ s + 1 + n1 ≤ s + 1 by omega), if_neg qq, pk_us]
    · rw [qr 37 (by decide) (by decide)]; exact c7.2.2.2
    · rw [pr_sI_ne (by omega)]; exact hpX.1
    · rw [pr_sI_ne (by omega)]; exact h42x
    · rw [pr_sI_ne (by omega), hpX.2.1 0 43 (by omega)]; exact z31
    · rw [pr_sI_ne (by omega), hpX.2.1 0 45 (by omega)]; exact z2.2.2.2.1
    · rw [pr_sI_ne (by omega), hpX.2.1 0 46 (by omega)]; exact z2.2.2.2.2.1
    · rw [pr_sI_ne (by omega), hpX.2.1 0 47 (by omega)]; exact z32
  · refine Or.inl ?_
    obtain ⟨g, w1'⟩ := t2 w pt hbad
    refine pl_badG (σ3 := pr_sA (pl_s2 σ d r.2.2.2.2.1 A) 24 g) (τ' := pl_e22 (pl_wX T τ1 w pt) p) (w := w) (pt := pt) hZ i4 h42 hse hx ?_ (pl_s2_fr.tr (pl_sA_fr (o := 24) rfl)) ?_ (pl_wX_47 (T := T) (τ := τ1) (w := w) (t := pt)).1 (pl_wX_47 (T := T) (τ := τ1) (w := w) (t := pt)).2 ((fX.tr pl_wX_fr).tr pl_e22_fr) (pl_badpos hbad)
    · rw [hH2]
      exact pl_82w r.1 r.2.1 (by omega) (by omega) (nI s) (by rw [hrt]; exact w1')
    · rw [eX, head, l2 w pt hbad, pl_sb, if_pos rfl]
