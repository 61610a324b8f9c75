/-! THE LAYOUT: what is known of the points that are laid -/
def pl_fz (p d L : Nat) (σ τ σ' τ' : pr_St) : Prop :=
  pl_fr pl_FL pl_GL σ σ' ∧ pl_fr pl_FM pl_GM τ τ' ∧
  (∀ r z, 25 ≤ r → r ≤ 38 → z < p → σ'.2.1 r z = σ.2.1 r z) ∧
  (∀ r z, 39 ≤ r → r ≤ 41 → z < L → σ'.2.1 r z = σ.2.1 r z) ∧
  (∀ r z, 42 ≤ r → r ≤ 46 → z < d → σ'.2.1 r z = σ.2.1 r z) ∧
  (∀ r, 43 ≤ r → r ≤ 46 → σ'.2.1 r d = σ.2.1 r d) ∧
  (∀ r z, 20 ≤ r → r ≤ 25 → z < p → τ'.2.1 r z = τ.2.1 r z) ∧
  (∀ r z, 26 ≤ r → r ≤ 28 → z < 40 * p → τ'.2.1 r z = τ.2.1 r z) ∧
  (∀ r z, 29 ≤ r → r ≤ 32 → z < L → τ'.2.1 r z = τ.2.1 r z)
theorem pl_fz.rf {p d L : Nat} {σ τ : pr_St} : pl_fz p d L σ τ σ τ := ⟨pl_fr.rf, pl_fr.rf, fun _ _ _ _ _ => rfl, fun _ _ _ _ _ => rfl, fun _ _ _ _ _ => rfl, fun _ _ _ => rfl, fun _ _ _ _ _ => rfl, fun _ _ _ _ _ => rfl, fun _ _ _ _ _ => rfl⟩
theorem pl_fz.tr {p d L p' L' : Nat} {a x b y c z : pr_St} (h1 : pl_fz p d L a x b y) (h2 : pl_fz p' d L' b y c z) (hp : p ≤ p') (hL : L ≤ L') : pl_fz p d L a x c z := by
  obtain ⟨a1, a2, a3, a4, a5, a6, a7, a8, a9⟩ := h1
  obtain ⟨b1, b2, b3, b4, b5, b6, b7, b8, b9⟩ := h2
  exact ⟨a1.tr b1, a2.tr b2, fun r q h h' h'' => (b3 r q h h' (by omega)).trans (a3 r q h h' h''), fun r q h h' h'' => (b4 r q h h' (by omega)).trans (a4 r q h h' h''), fun r q h h' h'' => (b5 r q h h' h'').trans (a5 r q h h' h''), fun r h h' => (b6 r h h').trans (a6 r h h'), fun r q h h' h'' => (b7 r q h h' (by omega)).trans (a7 r q h h' h''), fun r q h h' h'' => (b8 r q h h' (by omega)).trans (a8 r q h h' h''), fun r q h h' h'' => (b9 r q h h' (by omega)).trans (a9 r q h h' h'')⟩
/-- the slots of a statement's names -/
def pl_ok (T : pl_Tx) (r : pl_S) (σ : pr_St) : Prop := ∀ t, r.2.1 ≤ t → t < r.2.2.2.2.2.2 → pl_xK T t = 2 → ¬ pl_xK T (t + 1) = 12 → ¬ (r.1 = 1 ∧ t = r.2.1 + 1) → pl_so T r.2.2.2.2.2.1 t (pl_xK T (t + 1) == 16) (σ.2.1 24 t)
def pl_sv (T : pl_Tx) (Ps : List pl_En) (p : Nat) (σ : pr_St) : Prop := ∀ z s r, z < p → σ.2.1 27 z = nI s → s < 2000 → (pl_aS Ps)[s]? = some r → pl_ok T r σ
theorem pl_sv_eq {T : pl_Tx} {Ps : List pl_En} {p : Nat} {σ σ' : pr_St} (h : pl_sv T Ps p σ) (h27 : ∀ z, z < p → σ'.2.1 27 z = σ.2.1 27 z) (h24 : σ'.2.1 24 = σ.2.1 24) : pl_sv T Ps p σ' := by
  intro z s r hz h1 h2 h3 t
  rw [h24]
  exact h z s r hz (by rw [← h27 z hz]; exact h1) h2 h3 t
theorem pl_sv_new {T : pl_Tx} {Ps : List pl_En} {p s : Nat} {σ σ' : pr_St} {r : pl_S} (hod : pl_od (pl_aS Ps) 0 (pl_xc T)) (h : pl_sv T Ps p σ) (hs : s < 2000) (hr : (pl_aS Ps)[s]? = some r) (h27 : ∀ z, z < p → σ'.2.1 27 z = σ.2.1 27 z) (h27p : σ'.2.1 27 p = nI s) (h24 : ∀ t, ¬ (r.2.1 ≤ t ∧ t < r.2.2.2.2.2.2) → σ'.2.1 24 t = σ.2.1 24 t) (hok : pl_ok T r σ') : pl_sv T Ps (p + 1) σ' := by
  intro z s' r' hz h1 h2 h3
  by_cases hzp : z = p
  · subst hzp
    rw [h27p] at h1
    have : s = s' := (nI_eq (by omega) (by omega)).mp h1
    subst this
    rw [hr] at h3
    rw [← Option.some.inj h3]
    exact hok
  · have h1' : σ.2.1 27 z = nI s' := by rw [← h27 z (by omega)]; exact h1
    by_cases hss : s' = s
    · subst hss
      rw [hr] at h3
      rw [← Option.some.inj h3]
      exact hok
    · intro t t1 t2 t3 t4 t5
      have hdis : ¬ (r.2.1 ≤ t ∧ t < r.2.2.2.2.2.2) := by
        intro q
        by_cases hlt : s' < s
        · have := pl_od_lt _ _ _ _ _ _ _ hod hlt h3 hr; omega
        · have := pl_od_lt _ _ _ _ _ _ _ hod (show s < s' by omega) hr h3; omega
      rw [h24 t hdis]
      exact h z s' r' (by omega) h1' h2 h3 t t1 t2 t3 t4 t5
/-- the point in which a point lies -/
def pl_pp (W : pl_Wt) (z : Nat) (r1 : Nat) (par : Int32) (σ : pr_St) : Prop :=
  ((par = -1 ∧ (W z).1 = []) ∨ ∃ pp, par = nI pp ∧ pp < z ∧ ((σ.2.1 25 pp = 4 ∧ (W z).1 = pl_wv W pp) ∨ (¬ σ.2.1 25 pp = 4 ∧ (W z).1 = (W pp).1 ∧ (∃ X, (W z).2 = (W pp).2 ++ X) ∧ ¬ σ.2.1 25 pp = 1))) ∧ (r1 = 8 → ∃ pp, par = nI pp ∧ pp < z ∧ σ.2.1 25 pp = 4)
/-- what a point has by its kind -/
def pl_pk (T : pl_Tx) (W : pl_Wt) (z k en lF : Nat) (r : pl_S) (σ τ : pr_St) : Prop :=
  ((r.1 = 1 ∨ r.1 = 2 ∨ r.1 = 3 ∨ r.1 = 7 ∨ r.1 = 8) ∧ σ.2.1 34 z = -1 ∧ σ.2.1 36 z = -1 ∧ σ.2.1 37 z = -1 ∧ en = z + 1 ∧ (r.1 = 1 → (pl_xK T (r.2.1 + 2) = 16 → pl_cnt true (pl_wv W z) < 6 ∧ 1 ≤ pl_vt T (r.2.1 + 3) ∧ pl_vt T (r.2.1 + 3) ≤ 64) ∧ (¬ pl_xK T (r.2.1 + 2) = 16 → pl_cnt false (pl_wv W z) < 12))) ∨
  (r.1 = 4 ∧ σ.2.1 37 z = -1 ∧ pl_cnt false (pl_wv W z) + r.2.2.2.1 ≤ 12 ∧ ((pl_xK T (r.2.1 + 1) = 20 ∧ ∃ x, pl_so T (W z).2 r.2.1 false (nI x) ∧ x < 12 ∧ σ.2.1 34 z = nI (pl_cnt false (W z).1 + x)) ∨ (¬ pl_xK T (r.2.1 + 1) = 20 ∧ σ.2.1 34 z = -1)) ∧
    ((σ.2.1 36 z = nI (z + 1) ∧ z + 1 < en ∧ (W (z + 1)).1 = pl_wv W z ∧ ∀ e, e ∈ (W (z + 1)).2 → e.2 = false) ∨ (σ.2.1 36 z = -1 ∧ en = z + 1))) ∨
  ((r.1 = 5 ∨ r.1 = 6) ∧ σ.2.1 34 z = -1 ∧ ∃ c1 c2, τ.2.1 17 (k + 1) = nI c1 ∧ τ.2.1 17 (k + 1 + c1) = nI c2 ∧ k + 1 + c1 + c2 ≤ k + lF ∧
    ((σ.2.1 36 z = nI (z + 1) ∧ 1 < c2 ∧ z + 1 < en ∧ W (z + 1) = W z) ∨ (σ.2.1 36 z = -1 ∧ c2 = 1)) ∧
    ((σ.2.1 37 z = -1 ∧ (k + 1 + c1 + c2 = k + lF ∨ (r.1 = 5 ∧ τ.2.1 17 (k + 1 + c1 + c2) = nI 1))) ∨
     (r.1 = 5 ∧ ∃ oth c3 ko, σ.2.1 37 z = nI oth ∧ z < oth ∧ oth < en ∧ k + 1 + c1 + c2 < k + lF ∧ τ.2.1 17 (k + 1 + c1 + c2) = nI c3 ∧ 1 < c3 ∧ c3 < 13000 ∧ W oth = W z ∧ τ.2.1 21 oth = nI z ∧ τ.2.1 20 oth = nI ko ∧ ko < 13000 ∧ τ.2.1 16 ko = nI (k + 1 + c1 + c2) ∧ ∀ y, z < y → y < oth → (∃ ky, τ.2.1 21 y = nI z ∧ τ.2.1 20 y = nI ky ∧ ky < 13000 ∧ τ.2.1 16 ky = nI (k + 1 + c1)) ∨ (∃ pp, τ.2.1 21 y = nI pp ∧ z < pp ∧ pp < 250))))
def pl_pt (T : pl_Tx) (m : Nat) (rep : Nat → Nat) (Ps : List pl_En) (W : pl_Wt) (P : Nat) (σ τ : pr_St) (z : Nat) : Prop := ∃ (f b bs k s q en : Nat) (F : List pl_N) (S : List pl_S) (O : List pl_O) (r : pl_S) (par : Int32),
  pl_is T m rep Ps σ τ f b k s q (W z).2 F S O ∧ (∃ S', S = r :: S') ∧ (τ.2.1 17 b = nI bs ∧ k + F.length ≤ b + bs ∧ b + bs ≤ 12870) ∧
  (σ.2.1 25 z = nI r.1 ∧ σ.2.1 26 z = nI (pl_xP T r.2.1) ∧ σ.2.1 27 z = nI s ∧ σ.2.1 28 z = nI (pl_cnt false (pl_wv W z)) ∧ σ.2.1 29 z = nI (pl_cnt true (pl_wv W z)) ∧ σ.2.1 30 z = nI (pl_cnt false (W z).1) ∧ σ.2.1 31 z = nI (pl_cnt true (W z).1) ∧ σ.2.1 32 z = par ∧ σ.2.1 33 z = (if k + F.length = b + bs then 1 else 0) ∧ σ.2.1 35 z = nI en) ∧
  (τ.2.1 20 z = nI k ∧ τ.2.1 21 z = par ∧ τ.2.1 22 z = nI en ∧ τ.2.1 23 z = nI (pl_cnt false (pl_wv W z)) ∧ τ.2.1 24 z = nI (pl_cnt true (pl_wv W z)) ∧ τ.2.1 25 z = nI (W z).2.length) ∧
  (z < en ∧ en ≤ P ∧ P ≤ 249 ∧ pl_cnt false (pl_wv W z) ≤ 12 ∧ pl_cnt true (pl_wv W z) ≤ 6) ∧
  (∀ i e, (W z).2[i]? = some e → (∃ id, τ.2.1 26 (40 * z + i) = nI id ∧ id < m ∧ pl_sn T (rep id) e.1) ∧ τ.2.1 27 (40 * z + i) = nI (pl_cnt e.2 ((W z).1 ++ (W z).2.take i)) ∧ τ.2.1 28 (40 * z + i) = pl_rm T e ∧ pl_xK T e.1 = 2 ∧ e.1 < pl_xc T ∧ (e.2 = true → 1 ≤ pl_vt T (e.1 + 2) ∧ pl_vt T (e.1 + 2) ≤ 64)) ∧
  pl_pp W z r.1 par σ ∧ pl_pk T W z k en F.length r σ τ
/-- where a point goes on in its BLOCK -/
def pl_pg (T : pl_Tx) (W : pl_Wt) (P : Nat) (σ : pr_St) (z : Nat) : Prop := σ.2.1 33 z = 0 → ∃ en, σ.2.1 35 z = nI en ∧ z < en ∧ en < P ∧ (W en).1 = (W z).1 ∧ ((¬ σ.2.1 25 z = 1 ∧ (W en).2 = (W z).2) ∨ (σ.2.1 25 z = 1 ∧ ∃ s t, σ.2.1 27 z = nI s ∧ s < 2001 ∧ σ.2.1 18 s = nI t ∧ t < 8001 ∧ (W en).2 = (W z).2 ++ [(t + 1, pl_xK T (t + 2) == 16)]))
/-- the points of a BLOCK, and those within them -/
def pl_lev (p p' b : Nat) (par : Int32) (τ : pr_St) : Prop := ∀ y, p ≤ y → y < p' → (∃ ky, τ.2.1 21 y = par ∧ τ.2.1 20 y = nI ky ∧ ky < 13000 ∧ τ.2.1 16 ky = nI b) ∨ (∃ pp, τ.2.1 21 y = nI pp ∧ p ≤ pp ∧ pp < 250)
theorem pl_pk_fz {T : pl_Tx} {W W' : pl_Wt} {z k en lF p d L : Nat} {r : pl_S} {σ τ σ' τ' : pr_St} (h : pl_pk T W z k en lF r σ τ) (hf : pl_fz p d L σ τ σ' τ') (hz : z < p) (he : en ≤ p) (hW : ∀ y, y < p → W' y = W y) : pl_pk T W' z k en lF r σ' τ' := by
  obtain ⟨_, a2, a3, _, _, _, a7, _, _⟩ := hf
  have e16 := a2.2.1 16 rfl
  have e17 := a2.2.1 17 rfl
  unfold pl_pk pl_wv at *
  rw [a3 34 z (by decide) (by decide) hz, a3 36 z (by decide) (by decide) hz, a3 37 z (by decide) (by decide) hz, hW z hz, e17]
  rcases h with h | ⟨g1, g2, g3, g4, g5⟩ | ⟨g1, g2, c1, c2, g3, g4, g5, g6, g7⟩
  · exact Or.inl h
  · refine Or.inr (Or.inl ⟨g1, g2, g3, g4, ?_⟩)
    rcases g5 with ⟨q1, q2, q3, q4⟩ | q
    · rw [hW (z + 1) (by omega)]
      exact Or.inl ⟨q1, q2, q3, q4⟩
    · exact Or.inr q
  · refine Or.inr (Or.inr ⟨g1, g2, c1, c2, g3, g4, g5, ?_, ?_⟩)
    · rcases g6 with ⟨q1, q2, q3, q4⟩ | q
      · rw [hW (z + 1) (by omega)]
        exact Or.inl ⟨q1, q2, q3, q4⟩
      · exact Or.inr q
    · rcases g7 with g7 | ⟨q0, oth, c3, ko, q1, q2, q3, q4, q5, q6, q6', q7, q8, q9, q10, q11, q12⟩
      · exact Or.inl g7
      · refine Or.inr ⟨q0, oth, c3, ko, q1, q2, q3, q4, q5, q6, q6', ?_, ?_, ?_, q10, ?_, fun y y1 y2 => ?_⟩
        · rw [hW oth (by omega)]; exact q7
        · rw [a7 21 oth (by decide) (by decide) (by omega)]; exact q8
        · rw [a7 20 oth (by decide) (by decide) (by omega)]; exact q9
        · rw [e16]; exact q11
        · rw [a7 21 y (by decide) (by decide) (by omega), a7 20 y (by decide) (by decide) (by omega), e16]
          exact q12 y y1 y2
theorem pl_pt_fz {T : pl_Tx} {m : Nat} {rep : Nat → Nat} {Ps : List pl_En} {W W' : pl_Wt} {P P' d L z : Nat} {σ τ σ' τ' : pr_St} (h : pl_pt T m rep Ps W P σ τ z) (hf : pl_fz P d L σ τ σ' τ') (hP : P ≤ P') (hP' : P' ≤ 249) (hW : ∀ y, y < P → W' y = W y) : pl_pt T m rep Ps W' P' σ' τ' z := by
  obtain ⟨f, b, bs, k, s, q, en, F, S, O, r, par, h1, h2, h3, h4, h5, ⟨h61, h62, h63, h64⟩, h7, h8, h9⟩ := h
  obtain ⟨a1, a2, a3, a4, a5, a6, a7, a8, a9⟩ := id hf
  have hz : z < P := by omega
  have e18 := a1.2.1 18 rfl
  refine ⟨f, b, bs, k, s, q, en, F, S, O, r, par, by rw [hW z hz]; exact pl_is_fr h1 a1 a2, h2, by rw [a2.2.1 17 rfl]; exact h3, ?_, ?_, ⟨h61, by omega, hP', by unfold pl_wv; rw [hW z hz]; exact h64⟩, ?_, ?_, pl_pk_fz h9 hf hz h62 hW⟩
  · unfold pl_wv
    rw [hW z hz, a3 25 z (by decide) (by decide) hz, a3 26 z (by decide) (by decide) hz, a3 27 z (by decide) (by decide) hz, a3 28 z (by decide) (by decide) hz, a3 29 z (by decide) (by decide) hz, a3 30 z (by decide) (by decide) hz, a3 31 z (by decide) (by decide) hz, a3 32 z (by decide) (by decide) hz, a3 33 z (by decide) (by decide) hz, a3 35 z (by decide) (by decide) hz]
    exact h4
  · unfold pl_wv
    rw [hW z hz, a7 20 z (by decide) (by decide) hz, a7 21 z (by decide) (by decide) hz, a7 22 z (by decide) (by decide) hz, a7 23 z (by decide) (by decide) hz, a7 24 z (by decide) (by decide) hz, a7 25 z (by decide) (by decide) hz]
    exact h5
  · intro i e hie
    rw [hW z hz] at hie ⊢
    have hil : (W z).2.length ≤ 18 := by
      have := pl_cnt_len (pl_wv W z)
      have e : (pl_wv W z).length = (W z).1.length + (W z).2.length := by unfold pl_wv; exact List.length_append
      omega
    have hi : i < (W z).2.length := by
      by_cases q : i < (W z).2.length
      · exact q
      · rw [List.getElem?_eq_none (by omega)] at hie; cases hie
    rw [a8 26 _ (by decide) (by decide) (by omega), a8 27 _ (by decide) (by decide) (by omega), a8 28 _ (by decide) (by decide) (by omega)]
    exact h7 i e hie
  · obtain ⟨g1, g2⟩ := h8
    constructor
    · rw [hW z hz]
      rcases g1 with g | ⟨pp, g3, g4, g5⟩
      · exact Or.inl g
      · refine Or.inr ⟨pp, g3, g4, ?_⟩
        unfold pl_wv at *
        rw [a3 25 pp (by decide) (by decide) (by omega), hW pp (by omega)]
        exact g5
    · intro h8
      obtain ⟨pp, g3, g4, g5⟩ := g2 h8
      exact ⟨pp, g3, g4, by rw [a3 25 pp (by decide) (by decide) (by omega)]; exact g5⟩
theorem pl_pg_fz {T : pl_Tx} {W W' : pl_Wt} {P P' d L z : Nat} {σ τ σ' τ' : pr_St} (h : pl_pg T W P σ z) (hf : pl_fz P d L σ τ σ' τ') (hz : z < P) (hP : P ≤ P') (hW : ∀ y, y < P → W' y = W y) : pl_pg T W' P' σ' z := by
  obtain ⟨a1, a2, a3, a4, a5, a6, a7, a8, a9⟩ := id hf
  intro h33
  rw [a3 33 z (by decide) (by decide) hz] at h33
  obtain ⟨en, g1, g2, g3, g4, g5⟩ := h h33
  refine ⟨en, by rw [a3 35 z (by decide) (by decide) hz]; exact g1, g2, by omega, ?_, ?_⟩
  · rw [hW en g3, hW z hz]; exact g4
  · rw [hW en g3, hW z hz, a3 25 z (by decide) (by decide) hz, a3 27 z (by decide) (by decide) hz, a1.2.1 18 rfl]
    exact g5
theorem pl_lev_fz {p p' d L b : Nat} {par : Int32} {σ τ σ' τ' : pr_St} (h : pl_lev p p' b par τ) (hf : pl_fz p' d L σ τ σ' τ') : pl_lev p p' b par τ' := by
  obtain ⟨a1, a2, a3, a4, a5, a6, a7, a8, a9⟩ := hf
  intro y h1 h2
  rw [a7 21 y (by decide) (by decide) h2, a7 20 y (by decide) (by decide) h2, a2.2.1 16 rfl]
  exact h y h1 h2
