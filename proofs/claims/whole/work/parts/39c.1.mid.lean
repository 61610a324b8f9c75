/-! THE LAYOUT: a point with BLOCKs, just laid; the reference behind a BLOCK -/
theorem pl_M0 {T : pl_Tx} {m : Nat} {rep : Nat → Nat} {Ps : List pl_En} {W : pl_Wt} {A E : List (Nat × Bool)} {d p ii nb bb fi send b bF f k s q : Nat} {par last tg : Int32} {σ τ σ3 σA σB τ1 τB : pr_St} {F : List pl_N} {r : pl_S} {S' : List pl_S} {O : List pl_O} (hZ : pl_Z T m rep Ps W A E d p ii nb bb fi send b bF par σ τ) (his : pl_is T m rep Ps σ τ f b k s q E F (r :: S') O) (hsv : pl_sv T Ps p σ) (h3 : pl_h3 T r (pl_s2 σ d r.2.2.2.2.1 A) σ3) (hpC : pl_pC T p s r (A ++ E) A par last σ3 σA) (hpX : pl_pX p k (A ++ E) A E par τ τ1) (fAB : pl_fr pl_FL pl_GL σA σB) (fXB : pl_fr pl_FM pl_GM τ1 τB)
    (hr : ∀ a z, 24 ≤ a → a ≤ 38 → ¬ (34 ≤ a ∧ a ≤ 37 ∧ z = p) → σB.2.1 a z = σA.2.1 a z) (hs : ∀ a z, 39 ≤ a → a ≤ 41 → z < (A ++ E).length → σB.2.1 a z = σA.2.1 a z) (ho : ∀ a z, 42 ≤ a → a ≤ 46 → z ≤ d → σB.2.1 a z = σA.2.1 a z) (ht : ∀ a z, 20 ≤ a → a ≤ 28 → τB.2.1 a z = τ1.2.1 a z) (hu : ∀ a z, 29 ≤ a → a ≤ 32 → z < (A ++ E).length → τB.2.1 a z = τ1.2.1 a z) (h34 : σB.2.1 34 p = tg) :
    pl_M T m rep Ps W A E d p k s r.2.2.2.2.1 r par last tg σ τ (p + 1) (fun z => if z = p then (A, E) else W z) σB τB := by
  obtain ⟨z1, z2, ⟨z31, z32⟩, ⟨z41, z42, z43, z44, z45⟩, ⟨z51, z52, z53, z54, z55⟩, ⟨z61, z62, z63, z64, z65, z66⟩, z7⟩ := hZ
  have hod := z1.2.2.2.2.2.2.2.2.2.2.2.2.2.1
  obtain ⟨i1, i2, i3, i4, i5, i6, ⟨i71, i72, i73, i74⟩, i8⟩ := his
  have f23 := pl_h3_fr h3
  have f03 : pl_fr pl_FL pl_GL σ σ3 := pl_s2_fr.tr f23
  have row : ∀ a, ¬ a = 24 → ¬ a = 42 → σ3.2.1 a = σ.2.1 a := by
    intro a h24 h42
    rw [h3.2.1 a h24]
    show (pl_s1 σ d r.2.2.2.2.1).2.1 a = _
    unfold pl_s1
    rw [pl_sA_ne h42]
    rfl
  have fA : pl_fr pl_FL pl_GL σ σA := f03.tr (pl_pC_fr hpC)
  have fX := pl_pX_fr hpX
  obtain ⟨c1, c2, c3, c4, c5, c6, c7⟩ := hpC
  obtain ⟨d1, d2, d3, d4, d5, d6, d7, d8⟩ := hpX
  have hfz : pl_fz p d (A ++ E).length σ τ σB τB := by
    refine ⟨fA.tr fAB, fX.tr fXB, fun a z h1 h2 hz => ?_, fun a z h1 h2 hz => ?_, fun a z h1 h2 hz => ?_, fun a h1 h2 => ?_, fun a z h1 h2 hz => ?_, fun a z h1 h2 hz => ?_, fun a z h1 h2 hz => ?_⟩
    · rw [hr a z (by omega) h2 (by omega), c4 a z (by omega), row a (by omega) (by omega)]
    · rw [hs a z h1 h2 hz, c3 a (by omega), row a (by omega) (by omega)]
    · rw [ho a z h1 h2 (by omega), c3 a (by omega), h3.2.1 a (by omega)]
      show (pl_s1 σ d r.2.2.2.2.1).2.1 a z = _
      unfold pl_s1
      by_cases q : a = 42
      · subst q; rw [pl_sA_same, pk_un (by omega)]
      · rw [pl_sA_ne q]; rfl
    · rw [ho a d (by omega) h2 (Nat.le_refl _), c3 a (by omega), row a (by omega) (by omega)]
    · rw [ht a z h1 (by omega), d4 a z (by omega) (by omega)]
    · rw [ht a z (by omega) h2, d5 a z h1 h2 hz]
    · rw [hu a z h1 h2 hz, d3 a (by omega)]
  refine ⟨hfz, ?_, ?_, h34, ?_, ?_, ⟨fun z hz => if_neg (show ¬ z = p by omega), if_pos rfl⟩, ?_, by omega, fun z h1 h2 => by omega⟩
  · rw [ho 42 d (by decide) (by decide) (Nat.le_refl _), c3 42 (by decide), h3.2.1 42 (by decide)]
    show (pl_s1 σ d r.2.2.2.2.1).2.1 42 d = _
    unfold pl_s1
    rw [pl_sA_same, pk_us]
  · rw [hr 25 p (by decide) (by decide) (by omega), hr 26 p (by decide) (by decide) (by omega), hr 27 p (by decide) (by decide) (by omega), hr 28 p (by decide) (by decide) (by omega), hr 29 p (by decide) (by decide) (by omega), hr 30 p (by decide) (by decide) (by omega), hr 31 p (by decide) (by decide) (by omega), hr 32 p (by decide) (by decide) (by omega), hr 33 p (by decide) (by decide) (by omega)]
    exact c6
  · rw [ht 20 p (by decide) (by decide), ht 21 p (by decide) (by decide), ht 23 p (by decide) (by decide), ht 24 p (by decide) (by decide), ht 25 p (by decide) (by decide)]
    exact ⟨d7.1, d7.2.1, d7.2.2.2.1, d7.2.2.2.2.1, d7.2.2.2.2.2⟩
  · intro i hi
    rw [ht 26 _ (by decide) (by decide), ht 27 _ (by decide) (by decide), ht 28 _ (by decide) (by decide)]
    exact d8 i hi
  · have ha := (pl_sl_cons i6).1
    have hs2 : s < 2000 := by rw [List.length_cons] at i73; omega
    refine pl_sv_new hod hsv hs2 ha (fun z hz => hfz.2.2.1 27 z (by decide) (by decide) hz) (by rw [hr 27 p (by decide) (by decide) (by omega)]; exact c6.2.2.1) (fun t ht => ?_) ?_
    · rw [hr 24 t (by decide) (by decide) (by omega), c3 24 (by decide), h3.2.2.2.1 t ht]
      show (pl_s1 σ d r.2.2.2.2.1).2.1 24 t = _
      unfold pl_s1
      rw [pl_sA_ne (by decide)]; rfl
    · intro t t1 t2 t3 t4 t5
      rw [hr 24 t (by decide) (by decide) (by omega), c3 24 (by decide)]
      exact h3.2.2.2.2 t t1 t2 t3 t4 t5
/-- a BLOCK when something is wrong already, or an empty one -/
theorem pl_blk47 {h b bs : Nat} {τ : pr_St} {x2 x3 x4 : Int32} (hb : b < 13000) (h17 : τ.2.1 17 b = nI bs) (hw : ¬ τ.1 0 47 = 0 ∨ bs = 1) : prF_X_block4 (h + 1) τ (nI b) x2 x3 x4 = some (pl_rs τ (τ.1 0 42) (τ.1 0 45) (τ.1 0 46)) := by
  show prf_X_block4 (prF_X_block4 h) τ (nI b) x2 x3 x4 = _
  unfold prf_X_block4
  rw [show pr_FU = 99999 + 1 from rfl, prf_X_block4_23, pl_behX hb h17, pl_sb, nI_1]
  rcases hw with hw | hw
  · rw [if_neg hw]
    by_cases q : nI (b + bs) ≤ nI (b + 1)
    · rw [if_pos q]; rfl
    · rw [if_neg q]; rfl
  · rw [hw, if_pos (Int32.le_refl _)]; rfl
def pl_brK (rc : pr_St → Int32 → Int32 → Int32 → Int32 → Option pr_St) (nk np x3 : Int32) (p : Nat) (τ : pr_St) : Option pr_St := (prf_X_second τ nk).bind fun r219 => (prf_X_behind τ r219).bind fun r220 => (prf_X_behind τ nk).bind fun r221 => if r221 ≤ r220 then some (pl_e22 τ p) else (prf_X_second (pr_sI τ 0 44 (τ.1 0 44 + 1)) nk).bind fun r224 => (prf_X_behind (pr_sI τ 0 44 (τ.1 0 44 + 1)) r224).bind fun r225 => (rc (pr_sI τ 0 44 (τ.1 0 44 + 1)) r225 x3 np (τ.1 0 44 + 1)).bind fun r226 => some (pl_e22 r226 p)
theorem pl_brK_e {rc : pr_St → Int32 → Int32 → Int32 → Int32 → Option pr_St} {k c0 c1 lF p : Nat} {np x3 : Int32} {τ : pr_St} (hk : k + lF < 13000) (h1 : k + 1 + c0 + c1 ≤ k + lF) (e0 : τ.2.1 17 (k + 1) = nI c0) (e1 : τ.2.1 17 (k + 1 + c0) = nI c1) (eF : τ.2.1 17 k = nI lF) (hc : 1 ≤ c1) : prf_X_second τ (nI k) = some (nI (k + 1 + c0)) ∧ pl_brK rc (nI k) np x3 p τ = if k + lF = k + 1 + c0 + c1 then some (pl_e22 τ p) else (rc (pr_sI τ 0 44 (τ.1 0 44 + 1)) (nI (k + 1 + c0 + c1)) x3 np (τ.1 0 44 + 1)).bind fun r226 => some (pl_e22 r226 p) := by
  have hsec : ∀ τx : pr_St, τx.2.1 17 (k + 1) = nI c0 → prf_X_second τx (nI k) = some (nI (k + 1 + c0)) := by
    intro τx hx
    unfold prf_X_second
    rw [nI_1, pl_behX (by omega) hx, pl_sb]
  refine ⟨hsec τ e0, ?_⟩
  unfold pl_brK
  rw [hsec τ e0, pl_sb, pl_behX (by omega) e1, pl_sb, pl_behX (by omega) eF, pl_sb, hsec (pr_sI τ 0 44 (τ.1 0 44 + 1)) e0, pl_sb, pl_behX (τ := pr_sI τ 0 44 (τ.1 0 44 + 1)) (by omega) e1, pl_sb]
  by_cases q : k + lF = k + 1 + c0 + c1
  · rw [if_pos q, if_pos (by rw [q]; exact Int32.le_refl _)]
  · rw [if_neg q, if_neg (nI_ge (by omega) (by omega))]
theorem pl_il_ne {T : pl_Tx} {m : Nat} {rep : Nat → Nat} {Ps : List pl_En} {σ τ : pr_St} {f b k s q : Nat} {E : List (Nat × Bool)} {Ls : List (List pl_N × List pl_S × List pl_O)} (h : pl_il T m rep Ps σ τ f b k s q E Ls) (hne : ¬ Ls = []) : 1 ≤ (pl_b1 Ls).length ∧ 1 ≤ (pl_b2 Ls).length := by
  cases Ls with
  | nil => exact absurd rfl hne
  | cons e l =>
    have h1 := (pl_is_17 h.1).2
    obtain ⟨r, S', er, _⟩ := pl_sT_hd h.1.1
    have e1 : (pl_b1 (e :: l)).length = e.1.length + (pl_b1 l).length := by show (e.1 ++ pl_b1 l).length = _; rw [List.length_append]
    have e2 : (pl_b2 (e :: l)).length = e.2.1.length + (pl_b2 l).length := by show (e.2.1 ++ pl_b2 l).length = _; rw [List.length_append]
    rw [e1, e2, er, List.length_cons]
    omega
