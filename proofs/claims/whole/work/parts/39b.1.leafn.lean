/-! THE LAYOUT: statements without BLOCKs, right or wrong -/
theorem pl_wC_fr {T : pl_Tx} {σ : pr_St} {w : Int32} {t : Nat} : pl_fr pl_FL pl_GL σ (pl_wC T σ w t) := (pl_sI_fr (o := 6) (k := 14) rfl).tr (pl_sI_fr (o := 6) (k := 15) rfl)
theorem pl_wX_fr {T : pl_Tx} {τ : pr_St} {w : Int32} {t : Nat} : pl_fr pl_FM pl_GM τ (pl_wX T τ w t) := (pl_sI_fr (o := 0) (k := 47) rfl).tr (pl_sI_fr (o := 0) (k := 48) rfl)
theorem pl_wX_47 {T : pl_Tx} {τ : pr_St} {w : Int32} {t : Nat} : (pl_wX T τ w t).1 0 47 = w ∧ (pl_wX T τ w t).1 0 48 = nI (pl_xP T t) := by
  unfold pl_wX
  exact ⟨by rw [pr_sI_ne (by omega), pr_sI_same], pr_sI_same⟩
theorem pl_wC_14 {T : pl_Tx} {σ : pr_St} {w : Int32} {t : Nat} : (pl_wC T σ w t).1 6 14 = w ∧ (pl_wC T σ w t).1 6 15 = nI (pl_xP T t) := by
  unfold pl_wC
  exact ⟨by rw [pr_sI_ne (by omega), pr_sI_same], pr_sI_same⟩
/-- both say what is wrong -/
theorem pl_badG {T : pl_Tx} {m : Nat} {rep : Nat → Nat} {Ps : List pl_En} {W : pl_Wt} {A E : List (Nat × Bool)} {d p ii nb bb fi send b bF s x pt : Nat} {par w : Int32} {σ τ σ3 τ' : pr_St} {r : pl_S} {S : List pl_S} {rX : Option pr_St} (hZ : pl_Z T m rep Ps W A E d p ii nb bb fi send b bF par σ τ) (i4 : pl_sts σ s (r :: S)) (h42 : σ.2.1 42 d = nI s) (hse : s < send) (hx : x < 1000) (hhold : prf_Y_holds (pl_s1 σ d r.2.2.2.2.1) (nI s) = some (0, pl_wC T σ3 w pt)) (f3 : pl_fr pl_FL pl_GL σ σ3) (hX : rX = some τ') (h47 : τ'.1 0 47 = w) (h48 : τ'.1 0 48 = nI (pl_xP T pt)) (fX : pl_fr pl_FM pl_GM τ τ') (hw : (0 : Int32) < w) : pl_Lb x σ τ rX := by
  obtain ⟨z1, z2, ⟨z31, z32⟩, ⟨z41, z42, z43, z44, z45⟩, ⟨z51, z52, z53, z54, z55⟩, _, _⟩ := hZ
  refine ⟨1, pl_wC T σ3 w pt, τ', fun g => ?_, hX, by rw [h47]; exact hw, by rw [h47]; exact pl_wC_14.1, by rw [h48]; exact pl_wC_14.2, f3.tr pl_wC_fr, fX, by omega⟩
  have ht := pl_turn z1 z44 (by omega) h42 z51 hse z54 i4 hx g
  rw [hhold, pl_sb, if_pos rfl] at ht
  exact ht
/-- no room for a point -/
theorem pl_full {rc : pr_St → Int32 → Int32 → Int32 → Int32 → Option pr_St} {T : pl_Tx} {m : Nat} {rep : Nat → Nat} {Ps : List pl_En} {W : pl_Wt} {A E : List (Nat × Bool)} {d p ii nb bb fi send b bF f k s q x : Nat} {par x2 x3 x5 : Int32} {σ τ : pr_St} {F : List pl_N} {r : pl_S} {S : List pl_S} {O : List pl_O} (hZ : pl_Z T m rep Ps W A E d p ii nb bb fi send b bF par σ τ) (his : pl_is T m rep Ps σ τ f b k s q E F (r :: S) O) (h42 : σ.2.1 42 d = nI s) (hse : s < send) (hp : p = 249) (hx : x < 1000) (hc : r.2.1 < pl_xc T) : pl_Lb x σ τ (prf_X_statement5 rc τ (nI k) x2 x3 par x5) := by
  obtain ⟨z1, z2, ⟨z31, z32⟩, ⟨z41, z42, z43, z44, z45⟩, ⟨z51, z52, z53, z54, z55⟩, _, _⟩ := id hZ
  obtain ⟨i1, i2, i3, i4, i5, i6, ⟨i71, i72, i73, i74⟩, i8⟩ := his
  obtain ⟨kr, t, v, zz, F', r', S', eF, eS, _, ert⟩ := pl_sT_kd i1
  have er : r = r' := (List.cons.inj eS).1
  subst er
  have h14 : τ.2.1 14 k = nI (pl_xP T r.2.1) := by rw [eF] at i2; rw [ert]; exact i2.1.2.1
  have hk : k < 13000 := by omega
  refine pl_badG (σ3 := pl_s1 σ d r.2.2.2.2.1) (τ' := pl_wX T τ 11 r.2.1) (w := 11) (pt := r.2.1) hZ i4 h42 hse hx ((pl_hold hZ (by omega) i4 hc).1 hp) pl_s1_fr ?_ pl_wX_47.1 pl_wX_47.2 pl_wX_fr (by decide)
  unfold prf_X_statement5
  rw [z42, hp, if_pos (by rfl), pl_wrX z32 hk h14, pl_sb]
/-- the end of a statement in the reference -/
def pl_e22 (τ : pr_St) (p : Nat) : pr_St := pr_sA τ 22 (upd (τ.2.1 22) p (τ.1 0 33))
theorem pl_e22_fr {τ : pr_St} {p : Nat} : pl_fr pl_FM pl_GM τ (pl_e22 τ p) := pl_sA_fr rfl
theorem pl_e22_X {p : Nat} {τ : pr_St} (hp : p < 250) : (pr_ck (nI p) 250 <| some (pr_sA τ 22 (upd (τ.2.1 22) (nI p).toNatClampNeg (τ.1 0 33)))) = some (pl_e22 τ p) := by
  rw [pl_ck hp (by omega), nI_clamp (by omega)]
  rfl
theorem pl_badpos {T : pl_Tx} {E : List (Nat × Bool)} {C : List (Nat × Bool)} {w : Int32} {pt : Nat} (h : pl_bad T E C w pt) : (0 : Int32) < w := by
  obtain ⟨_, c, _, _, _, hno⟩ := h
  unfold pl_no at hno
  by_cases q : pl_xK T c.1 = 2
  · rw [if_pos q] at hno
    rcases hno.2 with ⟨_, rfl⟩ | ⟨_, _, _, _, rfl⟩
    · decide
    · decide
  · rw [if_neg q] at hno
    rw [hno.2.1]
    decide
/-- a statement that is right or wrong by its own tokens alone -/
theorem pl_leafN {rc : pr_St → Int32 → Int32 → Int32 → Int32 → Option pr_St} {T : pl_Tx} {m : Nat} {rep : Nat → Nat} {Ps : List pl_En} {W : pl_Wt} {A E : List (Nat × Bool)} {d p ii nb bb fi send b bF f k s q bs x e : Nat} {par x3 : Int32} {σ τ : pr_St} {F : List pl_N} {r : pl_S} {O : List pl_O} (hZ : pl_Z T m rep Ps W A E d p ii nb bb fi send b bF par σ τ) (his : pl_is T m rep Ps σ τ f b k s q E F [r] O) (h42 : σ.2.1 42 d = nI s) (hse : s < send) (hp : p < 249) (hx : x < 1000) (hbs : τ.2.1 17 b = nI bs) (hkb : k + F.length ≤ b + bs) (hbl : b + bs ≤ 12870) (hlast : s + 1 = send ↔ k + F.length = b + bs) (hsv : pl_sv T Ps p σ) (hk5 : r.1 = 2 ∨ r.1 = 3 ∨ r.1 = 7 ∨ r.1 = 8) (hown : r.2.2.2.2.2.2 = e + 1) (hfe : r.2.1 ≤ e) (hec : e < pl_xc T) (hke : pl_xK T e = 19) (htc : pl_tc T r.2.1 e)
    (hret : r.1 = 8 → prf_Y_returnHolds (pl_s2 σ d (s + 1) A) (nI s) (nI r.2.1) = some (1, pl_s2 σ d (s + 1) A)) (h8 : r.1 = 8 → ∃ pp, par = nI pp ∧ pp < p ∧ σ.2.1 25 pp = 4)
    (hX : ∀ τ1 f', pl_pX p k (A ++ E) A E par τ τ1 → pl_fr pl_FM pl_GM τ τ1 → pl_ls T m rep A E (pl_s2 σ d (s + 1) A) τ1 → ((∀ c, c ∈ pl_cu (pl_xK T) r.2.1 e → pl_yes T E c) → prf_X_statement5_96 rc (f' + 1) τ1 (nI k) (nI b) x3 (nI ii) (nI p) (nI (A ++ E).length) = some (pl_e22 τ1 p)) ∧ (∀ w pt, pl_bad T E (pl_cu (pl_xK T) r.2.1 e) w pt → prf_X_statement5_96 rc (f' + 1) τ1 (nI k) (nI b) x3 (nI ii) (nI p) (nI (A ++ E).length) = some (pl_e22 (pl_wX T τ1 w pt) p))) :
    pl_Lg T m rep Ps W A E E d p ii bb fi send b bF s (s + 1) r.1 x par (if k + F.length = b + bs then 1 else 0) σ τ (prf_X_statement5 rc τ (nI k) (nI b) x3 par (nI ii)) ∨ pl_Lb x σ τ (prf_X_statement5 rc τ (nI k) (nI b) x3 par (nI ii)) := by
  have z2 := hZ.2.1
  have z31 := hZ.2.2.1.1
  have z42 := hZ.2.2.2.1.2.1
  have z54 := hZ.2.2.2.2.1.2.2.2.1
  have i1 := his.1
  have i4 := his.2.2.2.1
  obtain ⟨r', S', er, _, er5, erE⟩ := pl_sT_hd i1
  have er' : r' = r := by have := List.cons.inj er; exact this.1.symm
  subst er'
  have er5 : r'.2.2.2.2.1 = s + 1 := er5
  have hls2 : pl_ls T m rep A E (pl_s2 σ d (s + 1) A) τ := pl_Z_ls hZ pl_fr.rf (fun _ _ _ => rfl) (fun _ _ => rfl)
  have hH := (pl_hold hZ (show s < pl_tS Ps by omega) i4 (show r'.2.1 < pl_xc T by omega)).2 hp
  rw [er5] at hH
  have hH2 : ∀ v, prf_Y_holds_82 (pl_s2 σ d (s + 1) A) (nI s) (nI r'.1) (nI r'.2.1) = some v → prf_Y_holds (pl_s1 σ d (s + 1)) (nI s) = some v := by
    intro v hv
    have n1 : ¬ nI r'.1 = 1 := fun q => by have := (nI_eq (b := 1) (by omega) (by omega)).mp q; omega
    have h67 : prf_Y_holds_67 (pl_s2 σ d (s + 1) A) (nI s) (nI r'.1) (nI r'.2.1) = some v := by
      unfold prf_Y_holds_67
      rw [if_neg n1]
      exact hv
    rw [hH]
    by_cases q : r'.1 = 8
    · rw [if_pos (show nI r'.1 = 8 by rw [q]; rfl), hret q, pl_sb, if_neg (show ¬ ((1 : Int32), pl_s2 σ d (s + 1) A).1 = 0 from pl_10)]
      exact h67
    · rw [if_neg (show ¬ nI r'.1 = 8 from fun z => q ((nI_eq (b := 8) (by omega) (by omega)).mp z))]
      exact h67
  obtain ⟨t1, t2⟩ := pl_tokH hls2 (nI s) hfe hec (Or.inl hke) htc
  rcases pl_allbad (T := T) (E := E) (pl_cu (pl_xK T) r'.2.1 e) with hall | ⟨w, pt, hbad⟩
  · refine Or.inl ?_
    obtain ⟨σ3, w1, w2⟩ := t1 hall
    have h3 : pl_h3 T r' (pl_s2 σ d (s + 1) A) σ3 := by
      refine pl_h3_mk w2 erE (Nat.le_refl _) hfe (by omega) (fun t g1 g2 g3 _ => ⟨g1, ?_⟩)
      by_cases q : t = e
      · subst q; omega
      · omega
    have hs3 : pl_scp T m rep σ3 τ (A ++ E) := by
      obtain ⟨⟨g, eg⟩, _⟩ := w2
      rw [eg]
      exact (pl_ls_24 hls2 g).2.2.1
    have h13 : σ3.1 6 13 = -1 := by
      obtain ⟨⟨g, eg⟩, _⟩ := w2
      rw [eg]
      show (pl_s2 σ d (s + 1) A).1 6 13 = _
      unfold pl_s2
      rw [pr_sI_ne (by omega), pr_sI_ne (by omega), pr_sI_same]
    have hhold : prf_Y_holds (pl_s1 σ d (s + 1)) (nI s) = some (1, σ3) := hH2 _ (pl_82 hs3 h13 r'.1 r'.2.1 (by omega) (by omega) (nI s) w1)
    have hc : r'.2.1 < pl_xc T := by omega
    have h1n : ¬ r'.1 = 1 := by omega
    refine pl_leafG (rc := rc) (E' := E) (x3 := x3) hZ his h42 hse hp hx hbs hkb hbl hlast hsv hc (Or.inr hk5) hhold h3 ?_ (fun q => absurd q h1n) h8
    intro σA τ1 f' fA fX hpX h47 scA
    have hls1 : pl_ls T m rep A E (pl_s2 σ d (s + 1) A) τ1 := pl_Z_ls hZ fX hpX.2.1 hpX.2.2.1
    refine ⟨σA, pl_e22 τ1 p, ?_, (hX τ1 f' hpX fX hls1).1 hall, ?_⟩
    · unfold pl_layK
      have nn : ∀ (j : Nat) (v : Int32), j < 64 → nI j = v → ¬ r'.1 = j → ¬ nI r'.1 = v := fun j v hj hv hn q => hn ((nI_eq (by omega) (by omega)).mp (q.trans hv.symm))
      rw [if_neg (nn 1 1 (by decide) rfl (by omega))]
      rcases hk5 with k | k | k | k
      · rw [if_pos (by rw [k]; rfl)]
      · rw [if_neg (nn 2 2 (by decide) rfl (by omega)), if_pos (by rw [k]; rfl)]
      · rw [if_neg (nn 2 2 (by decide) rfl (by omega)), if_neg (nn 3 3 (by decide) rfl (by omega)), if_neg (nn 4 4 (by decide) rfl (by omega)), if_neg (nn 5 5 (by decide) rfl (by omega)), if_neg (nn 6 6 (by decide) rfl (by omega))]
      · rw [if_neg (nn 2 2 (by decide) rfl (by omega)), if_neg (nn 3 3 (by decide) rfl (by omega)), if_neg (nn 4 4 (by decide) rfl (by omega)), if_neg (nn 5 5 (by decide) rfl (by omega)), if_neg (nn 6 6 (by decide) rfl (by omega))]
    · refine ⟨pl_scp_eq scA scA.1 scA.2.1 scA.2.2.1 scA.2.2.2.1 scA.2.2.2.2.1 (fun _ _ _ _ _ => rfl) (fun a z h1 h2 _ => by unfold pl_e22; rw [pl_sA_ne (by omega)]), ⟨[], by rw [List.append_nil]⟩, fun _ _ _ => rfl, fun _ _ => rfl, fun _ _ _ => rfl, rfl, fun _ _ _ => rfl, fun a _ h22 => by unfold pl_e22; rw [pl_sA_ne h22], fun a z h1 h2 _ => by unfold pl_e22; rw [pl_sA_ne (by omega)], ?_, rfl, fun v h1 h2 => by omega⟩
      unfold pl_e22
      rw [pl_sA_same, hpX.1]
  · refine Or.inr ?_
    obtain ⟨g, w1⟩ := t2 w pt hbad
    obtain ⟨f', τ1, eX, hpX⟩ := pl_ptX (rc := rc) z2 (p := p) (k := k) (par := par) (x2 := nI b) (x3 := x3) (x5 := nI ii) z31 z42 hp
    have fX := pl_pX_fr hpX
    have hls1 : pl_ls T m rep A E (pl_s2 σ d (s + 1) A) τ1 := pl_Z_ls hZ fX hpX.2.1 hpX.2.2.1
    refine pl_badG (σ3 := pr_sA (pl_s2 σ d (s + 1) A) 24 g) (τ' := pl_e22 (pl_wX T τ1 w pt) p) (w := w) (pt := pt) hZ i4 h42 hse hx ?_ (pl_s2_fr.tr (pl_sA_fr (o := 24) rfl)) (by rw [eX]; exact (hX τ1 f' hpX fX hls1).2 w pt hbad) (pl_wX_47 (T := T) (τ := τ1) (w := w) (t := pt)).1 (pl_wX_47 (T := T) (τ := τ1) (w := w) (t := pt)).2 ((fX.tr pl_wX_fr).tr pl_e22_fr) (pl_badpos hbad)
    rw [er5]
    exact hH2 _ (pl_82w r'.1 r'.2.1 (by omega) (by omega) (nI s) w1)
