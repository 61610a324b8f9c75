/-! THE LAYOUT: a statement without BLOCKs is laid -/
/-- how many BLOCKs were counted -/
def pl_ng (p p' : Nat) (τ τ' : pr_St) : Prop := τ'.1 0 48 = τ.1 0 48 ∧ ∀ nb, τ.1 0 44 = nI nb → nb ≤ 2 * p → ∃ nb', τ'.1 0 44 = nI nb' ∧ nb ≤ nb' ∧ nb' ≤ nb + 2 * (p' - p)
def pl_gl (T : pl_Tx) (m : Nat) (rep : Nat → Nat) (Ps : List pl_En) (W : pl_Wt) (A E E' : List (Nat × Bool)) (d p id bb fi send b bF s' : Nat) (par : Int32) (σ τ σ' τ' : pr_St) (W' : pl_Wt) (p' : Nat) : Prop :=
  (∃ nb, pl_Z T m rep Ps W' A E' d p' id nb bb fi send b bF par σ' τ') ∧ σ'.2.1 42 d = nI s' ∧ pl_fz p d (A ++ E).length σ τ σ' τ' ∧ (∀ z, z < p → W' z = W z) ∧ p ≤ p' ∧ pl_sv T Ps p' σ' ∧ (∀ z, p ≤ z → z < p' → pl_pt T m rep Ps W' p' σ' τ' z) ∧ pl_lev p p' b par τ' ∧ (∃ X, E' = E ++ X) ∧ pl_ng p p' τ τ'
/-- a statement was laid -/
def pl_Lg (T : pl_Tx) (m : Nat) (rep : Nat → Nat) (Ps : List pl_En) (W : pl_Wt) (A E E' : List (Nat × Bool)) (d p id bb fi send b bF s s' r1 x : Nat) (par last : Int32) (σ τ : pr_St) (rX : Option pr_St) : Prop :=
  ∃ (n p' : Nat) (W' : pl_Wt) (σ' τ' : pr_St), n ≤ 3 * (p' - p) ∧ (∀ g, prf_Y_layProgram_65 (g + n) σ (nI x) = prf_Y_layProgram_65 g σ' (nI (x + n))) ∧ rX = some τ' ∧ pl_gl T m rep Ps W A E E' d p id bb fi send b bF s' par σ τ σ' τ' W' p' ∧ p < p' ∧ W' p = (A, E) ∧ (∀ z, p < z → z < p' → pl_pg T W' p' σ' z) ∧ σ'.2.1 35 p = nI p' ∧ σ'.2.1 33 p = last ∧ σ'.2.1 25 p = nI r1 ∧ σ'.2.1 27 p = nI s
/-- something is wrong -/
def pl_Lb (x : Nat) (σ τ : pr_St) (rX : Option pr_St) : Prop :=
  ∃ (n : Nat) (σ' τ' : pr_St), (∀ g, prf_Y_layProgram_65 (g + n) σ (nI x) = some (0, σ')) ∧ rX = some τ' ∧ (0 : Int32) < τ'.1 0 47 ∧ σ'.1 6 14 = τ'.1 0 47 ∧ σ'.1 6 15 = τ'.1 0 48 ∧ pl_fr pl_FL pl_GL σ σ' ∧ pl_fr pl_FM pl_GM τ τ' ∧ x + n ≤ 1000
/-- the class' state when a statement has been found right -/
def pl_h3 (T : pl_Tx) (r : pl_S) (σ2 σ3 : pr_St) : Prop := (∀ o q, ¬ (o = 6 ∧ q = 13) → σ3.1 o q = σ2.1 o q) ∧ (∀ a, ¬ a = 24 → σ3.2.1 a = σ2.2.1 a) ∧ σ3.2.2 = σ2.2.2 ∧ (∀ t, ¬ (r.2.1 ≤ t ∧ t < r.2.2.2.2.2.2) → σ3.2.1 24 t = σ2.2.1 24 t) ∧ pl_ok T r σ3
theorem pl_h3_fr {T : pl_Tx} {r : pl_S} {σ2 σ3 : pr_St} (h : pl_h3 T r σ2 σ3) : pl_fr pl_FL pl_GL σ2 σ3 := by
  obtain ⟨h1, h2, h3, _⟩ := h
  refine ⟨fun o k hok => h1 o k (fun q => ?_), fun a ha => h2 a (fun q => ?_), h3⟩
  · rw [q.1] at hok; cases hok
  · rw [q] at ha; cases ha
/-- what a statement may bring into scope -/
def pl_scx (T : pl_Tx) (m : Nat) (rep : Nat → Nat) (A E E' : List (Nat × Bool)) (p id : Nat) (σA τ1 σ' τ' : pr_St) : Prop :=
  pl_scp T m rep σ' τ' (A ++ E') ∧ (∃ X, E' = E ++ X) ∧ (∀ o q, ¬ o = 5 → σ'.1 o q = σA.1 o q) ∧ (∀ r, ¬ (39 ≤ r ∧ r ≤ 41) → σ'.2.1 r = σA.2.1 r) ∧ (∀ r z, z < (A ++ E).length → σ'.2.1 r z = σA.2.1 r z) ∧ σ'.2.2 = σA.2.2 ∧
  (∀ o q, ¬ (o = 0 ∧ (q = 42 ∨ q = 45 ∨ q = 46)) → τ'.1 o q = τ1.1 o q) ∧ (∀ r, ¬ (29 ≤ r ∧ r ≤ 32) → ¬ r = 22 → τ'.2.1 r = τ1.2.1 r) ∧ (∀ r z, 29 ≤ r → r ≤ 32 → z < (A ++ E).length → τ'.2.1 r z = τ1.2.1 r z) ∧ τ'.2.1 22 = upd (τ1.2.1 22) p (nI (p + 1)) ∧ τ'.2.2 = τ1.2.2 ∧ ∀ v, (A ++ E).length ≤ v → v < (A ++ E').length → τ'.2.1 32 v = nI id
theorem pl_scx_fr {T : pl_Tx} {m : Nat} {rep : Nat → Nat} {A E E' : List (Nat × Bool)} {p id : Nat} {σA τ1 σ' τ' : pr_St} (h : pl_scx T m rep A E E' p id σA τ1 σ' τ') : pl_fr pl_FL pl_GL σA σ' ∧ pl_fr pl_FM pl_GM τ1 τ' := by
  obtain ⟨_, _, h3, h4, _, h6, h7, h8, _, _, h11, _⟩ := h
  refine ⟨⟨fun o k hok => h3 o k (fun q => ?_), fun a ha => h4 a (fun q => ?_), h6⟩, fun o k hok => h7 o k (fun q => ?_), fun a ha => h8 a (fun q => ?_) (fun q => ?_), h11⟩
  · rw [q] at hok; cases hok
  · unfold pl_GL at ha
    rw [Nat.ble_eq_true_of_le (show 24 ≤ a by omega), Nat.ble_eq_true_of_le (show a ≤ 46 by omega)] at ha
    cases ha
  · rw [q.1] at hok
    rcases q.2 with q | q | q
    · rw [q] at hok; cases hok
    · rw [q] at hok; cases hok
    · rw [q] at hok; cases hok
  · unfold pl_GM at ha
    rw [Nat.ble_eq_true_of_le (show 20 ≤ a by omega), Nat.ble_eq_true_of_le (show a ≤ 32 by omega)] at ha
    cases ha
  · rw [q] at ha; cases ha
theorem pl_leafG {rc : pr_St → Int32 → Int32 → Int32 → Int32 → Option pr_St} {T : pl_Tx} {m : Nat} {rep : Nat → Nat} {Ps : List pl_En} {W : pl_Wt} {A E E' : List (Nat × Bool)} {d p id nb bb fi send b bF f k s q bs x : Nat} {par x3 : Int32} {σ τ σ3 : pr_St} {F : List pl_N} {r : pl_S} {O : List pl_O} (hZ : pl_Z T m rep Ps W A E d p id nb bb fi send b bF par σ τ) (his : pl_is T m rep Ps σ τ f b k s q E F [r] O) (h42 : σ.2.1 42 d = nI s) (hse : s < send) (hp : p < 249) (hx : x < 1000) (hbs : τ.2.1 17 b = nI bs) (hkb : k + F.length ≤ b + bs) (hbl : b + bs ≤ 12870) (hlast : s + 1 = send ↔ k + F.length = b + bs) (hsv : pl_sv T Ps p σ) (hc : r.2.1 < pl_xc T) (hk5 : r.1 = 1 ∨ r.1 = 2 ∨ r.1 = 3 ∨ r.1 = 7 ∨ r.1 = 8)
    (hhold : prf_Y_holds (pl_s1 σ d (s + 1)) (nI s) = some (1, σ3)) (h3 : pl_h3 T r (pl_s2 σ d (s + 1) A) σ3)
    (hcomb : ∀ σA τ1 f', pl_fr pl_FL pl_GL σ σA → pl_fr pl_FM pl_GM τ τ1 → pl_pX p k (A ++ E) A E par τ τ1 → τ1.1 0 47 = 0 → pl_scp T m rep σA τ1 (A ++ E) → ∃ σ' τ', pl_layK σA (nI s) (nI p) (nI r.2.1) (nI r.1) = some σ' ∧ prf_X_statement5_96 rc (f' + 1) τ1 (nI k) (nI b) x3 (nI id) (nI p) (nI (A ++ E).length) = some τ' ∧ pl_scx T m rep A E E' p id σA τ1 σ' τ')
    (hv : r.1 = 1 → (pl_xK T (r.2.1 + 2) = 16 → pl_cnt true (A ++ E) < 6 ∧ 1 ≤ pl_vt T (r.2.1 + 3) ∧ pl_vt T (r.2.1 + 3) ≤ 64) ∧ (¬ pl_xK T (r.2.1 + 2) = 16 → pl_cnt false (A ++ E) < 12)) (h8 : r.1 = 8 → ∃ pp, par = nI pp ∧ pp < p ∧ σ.2.1 25 pp = 4) :
    pl_Lg T m rep Ps W A E E' d p id bb fi send b bF s (s + 1) r.1 x par (if k + F.length = b + bs then 1 else 0) σ τ (prf_X_statement5 rc τ (nI k) (nI b) x3 par (nI id)) := by
  obtain ⟨z1, z2, ⟨z31, z32⟩, ⟨z41, z42, z43, z44, z45⟩, ⟨z51, z52, z53, z54, z55⟩, ⟨z61, z62, z63, z64, z65, z66⟩, z7⟩ := hZ
  have his0 := his
  obtain ⟨i1, i2, i3, i4, i5, i6, ⟨i71, i72, i73, i74⟩, i8⟩ := his0
  have h7 := z1.2.2.2.2.2.2.1
  have hod := z1.2.2.2.2.2.2.2.2.2.2.2.2.2.1
  obtain ⟨r', S', er, _, er5, erE⟩ := pl_sT_hd i1
  have er' : r' = r := by have := List.cons.inj er; exact this.1.symm
  subst er'
  have er5 : r'.2.2.2.2.1 = s + 1 := er5
  have f23 := pl_h3_fr h3
  have f03 : pl_fr pl_FL pl_GL σ σ3 := pl_s2_fr.tr f23
  have b3 : pl_bs T m rep Ps σ3 τ := pl_bs_fr z1 f03 pl_fr.rf
  have fld : ∀ o y, ¬ o = 6 → σ3.1 o y = σ.1 o y := by
    intro o y ho
    rw [h3.1 o y (by omega)]
    unfold pl_s2 pl_s1
    rw [pr_sI_ne (by omega), pr_sI_ne (by omega), pr_sI_ne (by omega)]
    show (pr_sI σ 6 10 (nI d)).1 o y = _
    rw [pr_sI_ne (by omega)]
  have row : ∀ a, ¬ a = 24 → ¬ a = 42 → σ3.2.1 a = σ.2.1 a := by
    intro a h24 h42
    rw [h3.2.1 a h24]
    show (pl_s1 σ d (s + 1)).2.1 a = _
    unfold pl_s1
    rw [pl_sA_ne h42]
    rfl
  have o3 : pl_opn d σ3 := by
    refine ⟨?_, ?_, by omega⟩
    · rw [h3.1 6 9 (by omega)]
      unfold pl_s2 pl_s1
      rw [pr_sI_ne (by omega), pr_sI_ne (by omega), pr_sI_ne (by omega)]
      show (pr_sI σ 6 10 (nI d)).1 6 9 = _
      rw [pr_sI_ne (by omega)]; exact z44
    · rw [h3.1 6 10 (by omega)]
      unfold pl_s2 pl_s1
      rw [pr_sI_ne (by omega), pr_sI_ne (by omega), pr_sI_ne (by omega)]
      show (pr_sI σ 6 10 (nI d)).1 6 10 = _
      rw [pr_sI_same]
  have st3 : pl_sts σ3 s [r'] := pl_sts_eq (σ := σ) [r'] s (fun q z h1 h2 _ _ => by rw [f03.2.1 q (pl_GL_lo (by omega))]) i4
  have e611 : σ3.1 6 11 = nI (pl_cnt false A) := by rw [h3.1 6 11 (by omega)]; unfold pl_s2; rw [pr_sI_ne (by omega), pr_sI_same]
  have e612 : σ3.1 6 12 = nI (pl_cnt true A) := by rw [h3.1 6 12 (by omega)]; unfold pl_s2; rw [pr_sI_same]
  obtain ⟨σA, eL, hpC⟩ := pl_lay b3 (d := d) (p := p) (send := send) (V := A ++ E) (A := A) (par := par) (show s < pl_tS Ps by omega) st3 hc (by omega) (by rw [er5]; omega) (by omega) o3 (by rw [fld 4 14 (by decide)]; exact z41) hp (by rw [row 45 (by decide) (by decide)]; exact z52) (by rw [row 43 (by decide) (by decide)]; exact z51) (by rw [fld 5 4 (by decide)]; exact z2.1) (by rw [fld 5 5 (by decide)]; exact z2.2.1) e611 e612
  have elast : (if r'.2.2.2.2.1 = send then (1 : Int32) else 0) = if k + F.length = b + bs then 1 else 0 := by
    rw [er5]
    by_cases q : s + 1 = send
    · rw [if_pos q, if_pos (hlast.mp q)]
    · rw [if_neg q, if_neg (fun w => q (hlast.mpr w))]
  rw [elast] at hpC
  obtain ⟨f', τ1, eX, hpX⟩ := pl_ptX (rc := rc) z2 (p := p) (k := k) (par := par) (x2 := nI b) (x3 := x3) (x5 := nI id) z31 z42 hp
  have hpC0 := hpC
  obtain ⟨c1, c2, c3, c4, c5, c6, c7⟩ := hpC0
  have hpX0 := hpX
  obtain ⟨d1, d2, d3, d4, d5, d6, d7, d8⟩ := hpX0
  have fA : pl_fr pl_FL pl_GL σ σA := f03.tr (pl_pC_fr hpC)
  have fX := pl_pX_fr hpX
  have scA : pl_scp T m rep σA τ1 (A ++ E) := by
    refine pl_scp_eq z2 ?_ ?_ ?_ ?_ ?_ (fun r z h1 h2 _ => ?_) (fun r z h1 h2 _ => ?_)
    · rw [c2 5 4 (by omega), fld 5 4 (by decide)]; exact z2.1
    · rw [c2 5 5 (by omega), fld 5 5 (by decide)]; exact z2.2.1
    · rw [d2 0 42 (by omega)]; exact z2.2.2.1
    · rw [d2 0 45 (by omega)]; exact z2.2.2.2.1
    · rw [d2 0 46 (by omega)]; exact z2.2.2.2.2.1
    · rw [c3 r (by omega), row r (by omega) (by omega)]
    · rw [d3 r (by omega)]
  obtain ⟨σ', τ', eK, eX2, hsx⟩ := hcomb σA τ1 f' fA fX hpX (by rw [d2 0 47 (by omega)]; exact z32) scA
  obtain ⟨fs1, fs2⟩ := pl_scx_fr hsx
  obtain ⟨y1, ⟨X, y2⟩, y3, y4, y5, y6, y7, y8, y9, y10, y11, y12⟩ := hsx
  have fC : pl_fr pl_FL pl_GL σ σ' := fA.tr fs1
  have fT : pl_fr pl_FM pl_GM τ τ' := fX.tr fs2
  have b' := pl_bs_fr z1 fC fT
  obtain ⟨W', hW'⟩ : ∃ W' : pl_Wt, W' = fun z => if z = p then (A, E) else W z := ⟨_, rfl⟩
  have hWp : W' p = (A, E) := by rw [hW']; exact if_pos rfl
  have hWz : ∀ z, z < p → W' z = W z := by intro z hz; rw [hW']; exact if_neg (by omega)
  have rowz : ∀ a z, ¬ a = 24 → ¬ a = 42 → ¬ (39 ≤ a ∧ a ≤ 41) → ¬ z = p → σ'.2.1 a z = σ.2.1 a z := by
    intro a z h1 h2 h3 hz
    rw [y4 a h3, c4 a z hz, row a h1 h2]
  have roww : ∀ a z, a ≤ 25 → ¬ z = p → τ'.2.1 a z = τ.2.1 a z := by
    intro a z h1 hz
    by_cases q : a = 22
    · subst q
      rw [y10, pk_un hz, d4 22 z (by decide) hz]
    · rw [y8 a (by omega) q, d4 a z h1 hz]
  have hfz : pl_fz p d (A ++ E).length σ τ σ' τ' := by
    refine ⟨fC, fT, fun a z h1 h2 hz => ?_, fun a z h1 h2 hz => ?_, fun a z h1 h2 hz => ?_, fun a h1 h2 => ?_, fun a z h1 h2 hz => roww a z (by omega) (by omega), fun a z h1 h2 hz => ?_, fun a z h1 h2 hz => ?_⟩
    · by_cases q : a = 38
      · subst q
        rw [y4 38 (by decide), c3 38 (by decide), row 38 (by decide) (by decide)]
      · exact rowz a z (by omega) (by omega) (by omega) (by omega)
    · rw [y5 a z hz, c3 a (by omega), row a (by omega) (by omega)]
    · rw [y4 a (by omega), c3 a (by omega), h3.2.1 a (by omega)]
      show (pl_s1 σ d (s + 1)).2.1 a z = _
      unfold pl_s1
      by_cases q : a = 42
      · subst q; rw [pl_sA_same, pk_un (by omega)]
      · rw [pl_sA_ne q]; rfl
    · rw [y4 a (by omega), c3 a (by omega), row a (by omega) (by omega)]
    · rw [y8 a (by omega) (by omega), d5 a z h1 h2 hz]
    · rw [y9 a z h1 h2 hz, d3 a (by omega)]
  have hpf : pl_pf Ps.length W' A E' (p + 1) bb fi b bF par σ' := by
    rw [y2]
    exact pl_pf_eq z7 (fun a z h1 h2 hz => hfz.2.2.1 a z h1 (by omega) hz) hWz (by omega)
  have r27 : σ'.2.1 27 p = nI s := by rw [y4 27 (by decide)]; exact c6.2.2.1
  have hl' := pl_scp_len y1
  have eAE' : (A ++ E').length = (A ++ E).length + X.length := by rw [y2, ← List.append_assoc, List.length_append]
  refine ⟨1, p + 1, W', σ', τ', by omega, fun g => ?_, by rw [eX]; exact eX2, ⟨⟨nb, ⟨b', y1, ⟨?_, ?_⟩, ⟨?_, ?_, by omega, ?_, by omega⟩, ⟨?_, ?_, ?_, z54, z55⟩, ⟨?_, by omega, z63, z64, by omega, ?_⟩, hpf⟩⟩, ?_, hfz, hWz, by omega, ?_, ?_, ?_, ⟨X, y2⟩, by rw [y7 0 48 (by omega), d2 0 48 (by omega)], fun nb0 hn0 _ => ⟨nb0, by rw [y7 0 44 (by omega), d2 0 44 (by omega)]; exact hn0, Nat.le_refl _, by omega⟩⟩, by omega, hWp, fun z h1 h2 => by omega, ?_, ?_, ?_, r27⟩
  · have ht := pl_turn z1 z44 (by omega) h42 z51 hse z54 i4 hx g
    rw [er5, hhold, pl_sb, if_neg (show ¬ ((1 : Int32), σ3).1 = 0 from pl_10), eL, eK, pl_sb] at ht
    exact ht
  · rw [y7 0 43 (by omega), d2 0 43 (by omega)]; exact z31
  · rw [y7 0 47 (by omega), d2 0 47 (by omega)]; exact z32
  · rw [y3 4 14 (by decide)]; exact c1
  · rw [y7 0 33 (by omega)]; exact d1
  · rw [y3 6 9 (by decide), c2 6 9 (by omega)]; exact o3.1
  · rw [hfz.2.2.2.2.2.1 43 (by decide) (by decide)]; exact z51
  · rw [hfz.2.2.2.2.2.1 45 (by decide) (by decide)]; exact z52
  · rw [hfz.2.2.2.2.2.1 46 (by decide) (by decide)]; exact z53
  · rw [y7 0 44 (by omega), d2 0 44 (by omega)]; exact z61
  · intro v hv
    by_cases q : v < (A ++ E).length
    · rw [hfz.2.2.2.2.2.2.2.2 32 v (by decide) (by decide) q]
      exact z66 v q
    · exact ⟨id, y12 v (by omega) hv, z63, ⟨fun _ => by omega, fun _ => rfl⟩⟩
  · rw [y4 42 (by decide), c3 42 (by decide), h3.2.1 42 (by decide)]
    show (pl_s1 σ d (s + 1)).2.1 42 d = _
    unfold pl_s1
    rw [pl_sA_same, pk_us]
  · have ha := (pl_sl_cons i6).1
    have hs2 : s < 2000 := by have : s + 1 ≤ 2000 := i73; omega
    refine pl_sv_new hod hsv hs2 ha (fun z hz => hfz.2.2.1 27 z (by decide) (by decide) hz) r27 (fun t ht => ?_) ?_
    · rw [y4 24 (by decide), c3 24 (by decide), h3.2.2.2.1 t ht]
      show (pl_s1 σ d (s + 1)).2.1 24 t = _
      unfold pl_s1
      rw [pl_sA_ne (by decide)]; rfl
    · intro t t1 t2 t3 t4 t5
      rw [y4 24 (by decide), c3 24 (by decide)]
      exact h3.2.2.2.2 t t1 t2 t3 t4 t5
  · intro z hz1 hz2
    have ez : z = p := by omega
    subst ez
    have ewv : pl_wv W' z = A ++ E := by unfold pl_wv; rw [hWp]
    refine ⟨f, b, bs, k, s, q, z + 1, F, [r'], O, r', par, by rw [hWp]; exact pl_is_fr his fC fT, ⟨[], rfl⟩, ⟨by rw [fT.2.1 17 rfl]; exact hbs, hkb, hbl⟩, ?_, ?_, ⟨by omega, by omega, by omega, by rw [ewv]; exact z2.2.2.2.2.2.1, by rw [ewv]; exact z2.2.2.2.2.2.2.1⟩, ?_, ⟨?_, ?_⟩, ?_⟩
    · rw [ewv, hWp]
      obtain ⟨g1, g2, g3, g4, g5, g6, g7, g8, g9⟩ := c6
      exact ⟨by rw [y4 25 (by decide)]; exact g1, by rw [y4 26 (by decide)]; exact g2, by rw [y4 27 (by decide)]; exact g3, by rw [y4 28 (by decide)]; exact g4, by rw [y4 29 (by decide)]; exact g5, by rw [y4 30 (by decide)]; exact g6, by rw [y4 31 (by decide)]; exact g7, by rw [y4 32 (by decide)]; exact g8, by rw [y4 33 (by decide)]; exact g9, by rw [y4 35 (by decide)]; exact c7.2.1⟩
    · rw [ewv, hWp]
      obtain ⟨g1, g2, g3, g4, g5, g6⟩ := d7
      exact ⟨by rw [y8 20 (by decide) (by decide)]; exact g1, by rw [y8 21 (by decide) (by decide)]; exact g2, by rw [y10, pk_us], by rw [y8 23 (by decide) (by decide)]; exact g4, by rw [y8 24 (by decide) (by decide)]; exact g5, by rw [y8 25 (by decide) (by decide)]; exact g6⟩
    · rw [hWp]
      intro i e hie
      have hi : i < E.length := by
        by_cases q : i < E.length
        · exact q
        · rw [List.getElem?_eq_none (by show E.length ≤ i; omega)] at hie; cases hie
      have hd := d8 i hi
      have hv := z2.2.2.2.2.2.2.2 (A.length + i) e (by rw [List.getElem?_append_right (by omega), show A.length + i - A.length = i by omega]; exact hie)
      obtain ⟨_, _, _, v4, v5, v6, v7, v8, v9⟩ := hv
      have etk : (A ++ E).take (A.length + i) = A ++ E.take i := by rw [List.take_length_add_append]
      rw [etk] at v5
      rw [y8 26 (by decide) (by decide), y8 27 (by decide) (by decide), y8 28 (by decide) (by decide), hd.1, hd.2.1, hd.2.2]
      exact ⟨v4, v5, v6, v7, v8, v9⟩
    · rw [hWp]
      rcases z7 with ⟨q1, q2, _⟩ | ⟨pp, q1, q2, _, q3⟩
      · exact Or.inl ⟨q1, q2⟩
      · refine Or.inr ⟨pp, q1, q2, ?_⟩
        unfold pl_wv
        rw [hWz pp q2, hfz.2.2.1 25 pp (by decide) (by decide) q2]
        rcases q3 with ⟨w1, w2, _⟩ | ⟨w1, w2, w3, _, w4⟩
        · exact Or.inl ⟨w1, w2⟩
        · exact Or.inr ⟨w1, w2, w3, w4⟩
    · intro h
      obtain ⟨pp, q1, q2, q3⟩ := h8 h
      exact ⟨pp, q1, q2, by rw [hfz.2.2.1 25 pp (by decide) (by decide) q2]; exact q3⟩
    · refine Or.inl ⟨hk5, by rw [y4 34 (by decide)]; exact c7.1, by rw [y4 36 (by decide)]; exact c7.2.2.1, by rw [y4 37 (by decide)]; exact c7.2.2.2, rfl, ?_⟩
      rw [ewv]
      exact hv
  · intro y h1 h2
    have ey : y = p := by omega
    subst ey
    refine Or.inl ⟨k, by rw [y8 21 (by decide) (by decide)]; exact d7.2.1, by rw [y8 20 (by decide) (by decide)]; exact d7.1, by omega, ?_⟩
    rw [fT.2.1 16 rfl]
    obtain ⟨e0, l0, eF, _⟩ := pl_sT_ro i1
    rw [eF] at i3
    exact pl_wh_0 i3
  · rw [y4 35 (by decide)]; exact c7.2.1
  · rw [y4 33 (by decide)]; exact c6.2.2.2.2.2.2.2.2
  · rw [y4 25 (by decide)]; exact c6.1
