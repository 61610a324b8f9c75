/-! THE LAYOUT: BLOCKs within a statement -/
def pl_rs (τ : pr_St) (v5 v6 v7 : Int32) : pr_St := pr_sI (pr_sI (pr_sI τ 0 42 v5) 0 45 v6) 0 46 v7
theorem pl_rs_fr {τ : pr_St} {v5 v6 v7 : Int32} : pl_fr pl_FM pl_GM τ (pl_rs τ v5 v6 v7) := ((pl_sI_fr (o := 0) (k := 42) rfl).tr (pl_sI_fr (o := 0) (k := 45) rfl)).tr (pl_sI_fr (o := 0) (k := 46) rfl)
def pl_fF (Ps : List pl_En) (fi nf lf bF b bs : Nat) (τ : pr_St) : Prop := nf = 1 + pl_tF (Ps.take fi) ∧ nf < 13000 ∧ nf + lf < 13000 ∧ bF < 13000 ∧ b < 13000 ∧ bF ≤ b ∧ nf ≤ b ∧ b + bs ≤ nf + lf ∧ (nf + lf = 1 + pl_tF Ps ↔ fi + 1 = Ps.length) ∧ ∀ τ1, pl_fr pl_FM pl_GM τ τ1 → prf_X_blockOf τ1 (nI nf) = some (nI bF) ∧ prf_X_behind τ1 (nI nf) = some (nI (nf + lf)) ∧ ∀ k, nf ≤ k → k < nf + lf → prf_X_whichFunction τ1 (nI k) = some (nI nf)
def pl_LBr (T : pl_Tx) (m : Nat) (rep : Nat → Nat) (Ps : List pl_En) (W : pl_Wt) (A E E' : List (Nat × Bool)) (d p ii bb fi send b bF x : Nat) (par : Int32) (σ τ : pr_St) (Ls : List (List pl_N × List pl_S × List pl_O)) (v5 v6 v7 : Int32) (rX : Option pr_St) : Prop :=
  (∃ (n p' : Nat) (W' : pl_Wt) (σ' τ' : pr_St), n ≤ 3 * (p' - p) ∧ (∀ g, prf_Y_layProgram_65 (g + n) σ (nI x) = prf_Y_layProgram_65 g σ' (nI (x + n))) ∧ rX = some (pl_rs τ' v5 v6 v7) ∧ pl_gl T m rep Ps W A E E' d p ii bb fi send b bF send par σ τ σ' τ' W' p' ∧ (∀ z, p ≤ z → z < p' → pl_pg T W' p' σ' z) ∧ (Ls = [] → p' = p) ∧ (¬ Ls = [] → p < p' ∧ W' p = (A, E) ∧ ∃ ky, τ'.2.1 21 p = par ∧ τ'.2.1 20 p = nI ky ∧ ky < 13000 ∧ τ'.2.1 16 ky = nI b)) ∨ pl_Lb x σ τ rX
def pl_LBh (T : pl_Tx) (m : Nat) (rep : Nat → Nat) (Ps : List pl_En) (h : Nat) : Prop := ∀ (Ls : List (List pl_N × List pl_S × List pl_O)) (f b k s q : Nat) (E A : List (Nat × Bool)) (W : pl_Wt) (d p ii nb bb fi send bF bs x nf lf gX : Nat) (par v5 v6 v7 : Int32) (σ τ : pr_St),
  pl_Z T m rep Ps W A E d p ii nb bb fi send b bF par σ τ → pl_il T m rep Ps σ τ f b k s q E Ls → σ.2.1 42 d = nI s → s + (pl_b2 Ls).length = send → k + (pl_b1 Ls).length = b + bs → b + bs ≤ 12860 → τ.2.1 17 b = nI bs → x ≤ 3 * p → pl_sv T Ps p σ → pl_fF Ps fi nf lf bF b bs τ → (¬ Ls = [] → ∀ τ1, pl_fr pl_FM pl_GM τ τ1 → prf_X_lastStatement τ1 (nI b) = some (pl_lk k (nI 0) Ls)) → 260 ≤ h + p → (pl_b1 Ls).length + 1 ≤ gX →
  pl_LBr T m rep Ps W A E (pl_exs (pl_xK T) E Ls) d p ii bb fi send b bF x par σ τ Ls v5 v6 v7 (prf_X_block4_23 (prF_X_block4 h) gX τ (nI b) (nI nf) par (nI ii) v5 v6 v7 (nI k))
theorem pl_fz.up {P d L p V : Nat} {a x b y : pr_St} (h : pl_fz P (d + 1) L a x b y) (hp : p ≤ P) (hV : V ≤ L) : pl_fz p d V a x b y := by
  obtain ⟨a1, a2, a3, a4, a5, a6, a7, a8, a9⟩ := h
  exact ⟨a1, a2, fun r z h1 h2 h3 => a3 r z h1 h2 (by omega), fun r z h1 h2 h3 => a4 r z h1 h2 (by omega), fun r z h1 h2 h3 => a5 r z h1 h2 (by omega), fun r h1 h2 => a5 r d (by omega) h2 (by omega), fun r z h1 h2 h3 => a7 r z h1 h2 (by omega), fun r z h1 h2 h3 => a8 r z h1 h2 (by omega), fun r z h1 h2 h3 => a9 r z h1 h2 (by omega)⟩
/-- the class opens a BLOCK -/
theorem pl_openC {d p a be ot fi : Nat} {σ : pr_St} (h9 : σ.1 6 9 = nI (d + 1)) (hd : d < 249) (h14 : σ.1 4 14 = nI (p + 1)) (hp : p < 249) (ha : a < 2 ^ 31) (hb : be < 2 ^ 31) : ∃ σ', prf_Y_openBlock σ (nI p) (nI fi) (nI a) (nI be) (nI ot) = some σ' ∧ σ'.1 6 9 = nI (d + 2) ∧ (∀ o q, ¬ (o = 6 ∧ q = 9) → σ'.1 o q = σ.1 o q) ∧ (∀ r, ¬ (42 ≤ r ∧ r ≤ 46) → ¬ r = 36 → σ'.2.1 r = σ.2.1 r) ∧ (∀ r z, 42 ≤ r → ¬ z = d + 1 → σ'.2.1 r z = σ.2.1 r z) ∧ σ'.2.1 36 = (if be ≤ a then σ.2.1 36 else upd (σ.2.1 36) p (nI (p + 1))) ∧ (σ'.2.1 42 (d + 1) = nI a ∧ σ'.2.1 43 (d + 1) = nI be ∧ σ'.2.1 44 (d + 1) = nI ot ∧ σ'.2.1 45 (d + 1) = nI p ∧ σ'.2.1 46 (d + 1) = nI fi) ∧ σ'.2.2 = σ.2.2 := by
  obtain ⟨σO, eO⟩ : ∃ σO, σO = pr_sI (pr_sA (pr_sA (pr_sA (pr_sA (pr_sA σ 45 (upd (σ.2.1 45) (d + 1) (nI p))) 46 (upd (σ.2.1 46) (d + 1) (nI fi))) 42 (upd (σ.2.1 42) (d + 1) (nI a))) 43 (upd (σ.2.1 43) (d + 1) (nI be))) 44 (upd (σ.2.1 44) (d + 1) (nI ot))) 6 9 (nI (d + 2)) := ⟨_, rfl⟩
  have hOz : ∀ r z, 42 ≤ r → ¬ z = d + 1 → σO.2.1 r z = σ.2.1 r z := by
    intro r z hr hz
    have key : ∀ (σx : pr_St) (c : Nat) (v : Int32) (g : Nat → Int32), g z = σx.2.1 c z → (pr_sA σx c (upd g (d + 1) v)).2.1 r z = σx.2.1 r z := by
      intro σx c v g hg
      by_cases hqa : r = c
      · subst hqa; rw [pl_sA_same, pk_un hz, hg]
      · rw [pl_sA_ne hqa]
    rw [eO]
    show (pr_sA (pr_sA (pr_sA (pr_sA (pr_sA σ 45 (upd (σ.2.1 45) (d + 1) (nI p))) 46 (upd (σ.2.1 46) (d + 1) (nI fi))) 42 (upd (σ.2.1 42) (d + 1) (nI a))) 43 (upd (σ.2.1 43) (d + 1) (nI be))) 44 (upd (σ.2.1 44) (d + 1) (nI ot))).2.1 r z = _
    exact (key (pr_sA (pr_sA (pr_sA (pr_sA σ 45 _) 46 _) 42 _) 43 _) 44 _ _ rfl).trans ((key (pr_sA (pr_sA (pr_sA σ 45 _) 46 _) 42 _) 43 _ _ rfl).trans ((key (pr_sA (pr_sA σ 45 _) 46 _) 42 _ _ rfl).trans ((key (pr_sA σ 45 _) 46 _ _ rfl).trans (key σ 45 _ _ rfl))))
  have hOr : ∀ r, ¬ (42 ≤ r ∧ r ≤ 46) → σO.2.1 r = σ.2.1 r := by
    intro r hr
    rw [eO]
    show (pr_sA (pr_sA (pr_sA (pr_sA (pr_sA σ 45 _) 46 _) 42 _) 43 _) 44 _).2.1 r = _
    rw [pl_sA_ne (by omega), pl_sA_ne (by omega), pl_sA_ne (by omega), pl_sA_ne (by omega), pl_sA_ne (by omega)]
  have hO14 : σO.1 4 14 = nI (p + 1) := by rw [eO]; exact h14
  have head : prf_Y_openBlock σ (nI p) (nI fi) (nI a) (nI be) (nI ot) = if nI be ≤ nI a then some σO else (prf_O_goInto σO (nI p)).bind fun r18 => some r18 := by
    unfold prf_Y_openBlock
    have e2 : nI (d + 1) + 1 = nI (d + 2) := nI_1 (d + 1)
    rw [h9, if_neg (nI_pos (by omega)), if_pos (show nI (d + 1) < 250 from nI_lt (b := 250) (by omega) (by omega)), pl_ck (by omega) (by omega), pl_ck (by omega) (by omega), pl_ck (by omega) (by omega), pl_ck (by omega) (by omega), pl_ck (by omega) (by omega), nI_clamp (by omega), e2, eO]
  rw [head]
  by_cases q : be ≤ a
  · rw [if_pos (nI_le q ha), if_pos q]
    refine ⟨σO, rfl, by rw [eO]; exact pr_sI_same, fun o c hc => by rw [eO, pr_sI_ne hc]; rfl, fun r h1 _ => hOr r h1, hOz, hOr 36 (by decide), ⟨?_, ?_, ?_, ?_, ?_⟩, by rw [eO]; rfl⟩
    · rw [eO]; exact pk_us
    · rw [eO]; exact pk_us
    · rw [eO]; exact pk_us
    · rw [eO]; exact pk_us
    · rw [eO]; exact pk_us
  · rw [if_neg (nI_ge (by omega) hb), if_neg q]
    unfold prf_O_goInto
    rw [(pl_pnt hO14 (by omega) (by omega)).1, pl_sb, if_neg pl_10, pl_ck (by omega) (by omega), nI_clamp (by omega), nI_1, pl_sb, hOr 36 (by decide)]
    refine ⟨_, rfl, by show σO.1 6 9 = _; rw [eO]; exact pr_sI_same, fun o c hc => by show σO.1 o c = _; rw [eO, pr_sI_ne hc]; rfl, fun r h1 h2 => by rw [pl_sA_ne h2]; exact hOr r h1, fun r z h1 hz => by rw [pl_sA_ne (by omega)]; exact hOz r z h1 hz, pl_sA_same, ⟨?_, ?_, ?_, ?_, ?_⟩, by rw [eO]; rfl⟩
    · rw [pl_sA_ne (by decide), eO]; exact pk_us
    · rw [pl_sA_ne (by decide), eO]; exact pk_us
    · rw [pl_sA_ne (by decide), eO]; exact pk_us
    · rw [pl_sA_ne (by decide), eO]; exact pk_us
    · rw [pl_sA_ne (by decide), eO]; exact pk_us
/-- in the middle of a statement with BLOCKs -/
def pl_M (T : pl_Tx) (m : Nat) (rep : Nat → Nat) (Ps : List pl_En) (W : pl_Wt) (A E : List (Nat × Bool)) (d p k s s' : Nat) (r : pl_S) (par last tg : Int32) (σ τ : pr_St) (P : Nat) (W1 : pl_Wt) (σ1 τ1 : pr_St) : Prop :=
  pl_fz p d (A ++ E).length σ τ σ1 τ1 ∧ σ1.2.1 42 d = nI s' ∧
  (σ1.2.1 25 p = nI r.1 ∧ σ1.2.1 26 p = nI (pl_xP T r.2.1) ∧ σ1.2.1 27 p = nI s ∧ σ1.2.1 28 p = nI (pl_cnt false (A ++ E)) ∧ σ1.2.1 29 p = nI (pl_cnt true (A ++ E)) ∧ σ1.2.1 30 p = nI (pl_cnt false A) ∧ σ1.2.1 31 p = nI (pl_cnt true A) ∧ σ1.2.1 32 p = par ∧ σ1.2.1 33 p = last) ∧ σ1.2.1 34 p = tg ∧
  (τ1.2.1 20 p = nI k ∧ τ1.2.1 21 p = par ∧ τ1.2.1 23 p = nI (pl_cnt false (A ++ E)) ∧ τ1.2.1 24 p = nI (pl_cnt true (A ++ E)) ∧ τ1.2.1 25 p = nI E.length) ∧
  (∀ i, i < E.length → τ1.2.1 26 (40 * p + i) = τ.2.1 29 (A.length + i) ∧ τ1.2.1 27 (40 * p + i) = τ.2.1 30 (A.length + i) ∧ τ1.2.1 28 (40 * p + i) = τ.2.1 31 (A.length + i)) ∧
  ((∀ z, z < p → W1 z = W z) ∧ W1 p = (A, E)) ∧ pl_sv T Ps P σ1 ∧ p < P ∧
  (∀ z, p < z → z < P → pl_pt T m rep Ps W1 P σ1 τ1 z ∧ pl_pg T W1 P σ1 z ∧ ∃ pp, τ1.2.1 21 z = nI pp ∧ p ≤ pp ∧ pp < 250)
/-- a BLOCK of it was laid -/
theorem pl_M_step {T : pl_Tx} {m : Nat} {rep : Nat → Nat} {Ps : List pl_En} {W WB W1 : pl_Wt} {A E A' E1 E2 : List (Nat × Bool)} {d p k s s' P P1 ii bb fi send b bF s'' : Nat} {r : pl_S} {par last tg : Int32} {σ τ σB τB σ1 τ1 : pr_St} (h : pl_M T m rep Ps W A E d p k s s' r par last tg σ τ P WB σB τB) (g : pl_gl T m rep Ps WB A' E1 E2 (d + 1) P ii bb fi send b bF s'' (nI p) σB τB σ1 τ1 W1 P1) (hpg : ∀ z, P ≤ z → z < P1 → pl_pg T W1 P1 σ1 z) (hL : (A ++ E).length ≤ (A' ++ E1).length) (hel : E.length ≤ 40) (hp : p < 249) : pl_M T m rep Ps W A E d p k s s' r par last tg σ τ P1 W1 σ1 τ1 := by
  obtain ⟨m1, m2, m3, m4, m5, m6, ⟨m71, m72⟩, m8, m9, m10⟩ := h
  obtain ⟨⟨nb, gZ⟩, g2, g3, g4, g5, g6, g7, g8, g9⟩ := g
  have hP1 : P1 ≤ 249 := gZ.2.2.2.1.2.2.1
  obtain ⟨a1, a2, a3, a4, a5, a6, a7, a8, a9⟩ := id g3
  refine ⟨m1.tr (g3.up (Nat.le_refl _) (Nat.le_refl _)) (by omega) hL, ?_, ?_, ?_, ?_, ?_, ⟨fun z hz => by rw [g4 z (by omega)]; exact m71 z hz, by rw [g4 p m9]; exact m72⟩, g6, by omega, fun z h1 h2 => ?_⟩
  · rw [a5 42 d (by decide) (by decide) (by omega)]; exact m2
  · rw [a3 25 p (by decide) (by decide) m9, a3 26 p (by decide) (by decide) m9, a3 27 p (by decide) (by decide) m9, a3 28 p (by decide) (by decide) m9, a3 29 p (by decide) (by decide) m9, a3 30 p (by decide) (by decide) m9, a3 31 p (by decide) (by decide) m9, a3 32 p (by decide) (by decide) m9, a3 33 p (by decide) (by decide) m9]
    exact m3
  · rw [a3 34 p (by decide) (by decide) m9]; exact m4
  · rw [a7 20 p (by decide) (by decide) m9, a7 21 p (by decide) (by decide) m9, a7 23 p (by decide) (by decide) m9, a7 24 p (by decide) (by decide) m9, a7 25 p (by decide) (by decide) m9]
    exact m5
  · intro i hi
    rw [a8 26 _ (by decide) (by decide) (by omega), a8 27 _ (by decide) (by decide) (by omega), a8 28 _ (by decide) (by decide) (by omega)]
    exact m6 i hi
  · by_cases hz : z < P
    · obtain ⟨q1, q2, q3⟩ := m10 z h1 hz
      refine ⟨pl_pt_fz q1 g3 g5 hP1 g4, pl_pg_fz q2 g3 hz g5 g4, ?_⟩
      rw [a7 21 z (by decide) (by decide) hz]
      exact q3
    · refine ⟨g7 z (by omega) h2, hpg z (by omega) h2, ?_⟩
      rcases g8 z (by omega) h2 with ⟨ky, q1, _⟩ | ⟨pp, q1, q2, q3⟩
      · exact ⟨p, q1, Nat.le_refl _, by omega⟩
      · exact ⟨pp, q1, by omega, q3⟩
/-- rows that it does not speak of -/
theorem pl_M_eq {T : pl_Tx} {m : Nat} {rep : Nat → Nat} {Ps : List pl_En} {W WB : pl_Wt} {A E : List (Nat × Bool)} {d p k s s' P : Nat} {r : pl_S} {par last tg : Int32} {σ τ σB τB σ1 τ1 : pr_St} (h : pl_M T m rep Ps W A E d p k s s' r par last tg σ τ P WB σB τB) (hP : P ≤ 249) (f1 : pl_fr pl_FL pl_GL σB σ1) (f2 : pl_fr pl_FM pl_GM τB τ1) (hr : ∀ a z, 24 ≤ a → a ≤ 38 → ¬ (35 ≤ a ∧ a ≤ 37 ∧ z = p) → σ1.2.1 a z = σB.2.1 a z) (hs : ∀ a z, 39 ≤ a → a ≤ 41 → σ1.2.1 a z = σB.2.1 a z) (ho : ∀ a z, 42 ≤ a → a ≤ 46 → z ≤ d → σ1.2.1 a z = σB.2.1 a z) (ht : ∀ a z, 20 ≤ a → a ≤ 32 → ¬ (a = 22 ∧ z = p) → τ1.2.1 a z = τB.2.1 a z) : pl_M T m rep Ps W A E d p k s s' r par last tg σ τ P WB σ1 τ1 := by
  obtain ⟨m1, m2, m3, m4, m5, m6, m7, m8, m9, m10⟩ := h
  have hfz : pl_fz p d (A ++ E).length σB τB σ1 τ1 := ⟨f1, f2, fun a z h1 h2 h3 => hr a z (by omega) h2 (by omega), fun a z h1 h2 _ => hs a z h1 h2, fun a z h1 h2 h3 => ho a z h1 h2 (by omega), fun a h1 h2 => ho a d (by omega) h2 (Nat.le_refl _), fun a z h1 h2 h3 => ht a z h1 (by omega) (by omega), fun a z h1 h2 h3 => ht a z (by omega) (by omega) (by omega), fun a z h1 h2 _ => ht a z (by omega) h2 (by omega)⟩
  refine ⟨m1.tr hfz (Nat.le_refl _) (Nat.le_refl _), ?_, ?_, ?_, ?_, ?_, m7, ?_, m9, fun z h1 h2 => ?_⟩
  · rw [ho 42 d (by decide) (by decide) (Nat.le_refl _)]; exact m2
  · rw [hr 25 p (by decide) (by decide) (by omega), hr 26 p (by decide) (by decide) (by omega), hr 27 p (by decide) (by decide) (by omega), hr 28 p (by decide) (by decide) (by omega), hr 29 p (by decide) (by decide) (by omega), hr 30 p (by decide) (by decide) (by omega), hr 31 p (by decide) (by decide) (by omega), hr 32 p (by decide) (by decide) (by omega), hr 33 p (by decide) (by decide) (by omega)]
    exact m3
  · rw [hr 34 p (by decide) (by decide) (by omega)]; exact m4
  · rw [ht 20 p (by decide) (by decide) (by omega), ht 21 p (by decide) (by decide) (by omega), ht 23 p (by decide) (by decide) (by omega), ht 24 p (by decide) (by decide) (by omega), ht 25 p (by decide) (by decide) (by omega)]
    exact m5
  · intro i hi
    rw [ht 26 _ (by decide) (by decide) (by omega), ht 27 _ (by decide) (by decide) (by omega), ht 28 _ (by decide) (by decide) (by omega)]
    exact m6 i hi
  · exact pl_sv_eq m8 (fun z hz => hr 27 z (by decide) (by decide) (by omega)) (funext fun t => hr 24 t (by decide) (by decide) (by omega))
  · obtain ⟨q1, q2, q3⟩ := m10 z h1 h2
    -- points behind p keep all their rows
    refine ⟨?_, ?_, ?_⟩
    · obtain ⟨f, b, bs, k', s0, q, en, F, S, O, r', par', w1, w2, w3, w4, w5, w6, w7, w8, w9⟩ := q1
      refine ⟨f, b, bs, k', s0, q, en, F, S, O, r', par', pl_is_fr w1 f1 f2, w2, by rw [f2.2.1 17 rfl]; exact w3, ?_, ?_, w6, ?_, ?_, ?_⟩
      · rw [hr 25 z (by decide) (by decide) (by omega), hr 26 z (by decide) (by decide) (by omega), hr 27 z (by decide) (by decide) (by omega), hr 28 z (by decide) (by decide) (by omega), hr 29 z (by decide) (by decide) (by omega), hr 30 z (by decide) (by decide) (by omega), hr 31 z (by decide) (by decide) (by omega), hr 32 z (by decide) (by decide) (by omega), hr 33 z (by decide) (by decide) (by omega), hr 35 z (by decide) (by decide) (by omega)]
        exact w4
      · rw [ht 20 z (by decide) (by decide) (by omega), ht 21 z (by decide) (by decide) (by omega), ht 22 z (by decide) (by decide) (by omega), ht 23 z (by decide) (by decide) (by omega), ht 24 z (by decide) (by decide) (by omega), ht 25 z (by decide) (by decide) (by omega)]
        exact w5
      · intro i e hie
        rw [ht 26 _ (by decide) (by decide) (by omega), ht 27 _ (by decide) (by decide) (by omega), ht 28 _ (by decide) (by decide) (by omega)]
        exact w7 i e hie
      · obtain ⟨v1, v2⟩ := w8
        refine ⟨?_, fun h8 => ?_⟩
        · rcases v1 with v | ⟨pp, u1, u2, u3⟩
          · exact Or.inl v
          · refine Or.inr ⟨pp, u1, u2, ?_⟩
            rw [hr 25 pp (by decide) (by decide) (by omega)]
            exact u3
        · obtain ⟨pp, u1, u2, u3⟩ := v2 h8
          exact ⟨pp, u1, u2, by rw [hr 25 pp (by decide) (by decide) (by omega)]; exact u3⟩
      · unfold pl_pk at *
        rw [hr 34 z (by decide) (by decide) (by omega), hr 36 z (by decide) (by decide) (by omega), hr 37 z (by decide) (by decide) (by omega), f2.2.1 17 rfl, f2.2.1 16 rfl]
        rcases w9 with v | v | ⟨v1, v2, c1, c2, v3, v4, v5, v6, v7⟩
        · exact Or.inl v
        · exact Or.inr (Or.inl v)
        · refine Or.inr (Or.inr ⟨v1, v2, c1, c2, v3, v4, v5, v6, ?_⟩)
          rcases v7 with v7 | ⟨u0, oth, c3, ko, u1, u2, u3, u4, u5, u6, u6', u7, u8, u9, u10, u11, u12⟩
          · exact Or.inl v7
          · refine Or.inr ⟨u0, oth, c3, ko, u1, u2, u3, u4, u5, u6, u6', u7, ?_, ?_, u10, u11, fun y y1 y2 => ?_⟩
            · rw [ht 21 oth (by decide) (by decide) (by omega)]; exact u8
            · rw [ht 20 oth (by decide) (by decide) (by omega)]; exact u9
            · rw [ht 21 y (by decide) (by decide) (by omega), ht 20 y (by decide) (by decide) (by omega)]
              exact u12 y y1 y2
    · intro h33
      rw [hr 33 z (by decide) (by decide) (by omega)] at h33
      obtain ⟨en, v1, v2, v3, v4, v5⟩ := q2 h33
      refine ⟨en, by rw [hr 35 z (by decide) (by decide) (by omega)]; exact v1, v2, v3, v4, ?_⟩
      rw [hr 25 z (by decide) (by decide) (by omega), hr 27 z (by decide) (by decide) (by omega), f1.2.1 18 rfl]
      exact v5
    · rw [ht 21 z (by decide) (by decide) (by omega)]
      exact q3
