/-! THE MACHINE: a point of the program -/
theorem pm_bl_q {T : pl_Tx} {Q : Nat → Nat → List (Nat × Bool) → List pl_N → List pl_S → List pl_O → Prop} (hQ : ∀ s q E F S O, Q s q E F S O → ∀ r, r ∈ S → r.2.2.1 ≤ q + O.length) : ∀ (Ls : List (List pl_N × List pl_S × List pl_O)) (s q : Nat) (E : List (Nat × Bool)), pl_bl (pl_xK T) Q s q E Ls → ∀ r, r ∈ pl_b2 Ls → r.2.2.1 ≤ q + (pl_b3 Ls).length := by
  intro Ls
  induction Ls with
  | nil => intro s q E _ r hr; cases hr
  | cons e l ih =>
    intro s q E h r hr
    have e3 : (pl_b3 (e :: l)).length = e.2.2.length + (pl_b3 l).length := by show (e.2.2 ++ pl_b3 l).length = _; rw [List.length_append]
    rw [e3]
    have hr' : r ∈ e.2.1 ++ pl_b2 l := hr
    rcases List.mem_append.mp hr' with w | w
    · have := hQ _ _ _ _ _ _ h.1 r w; omega
    · have := ih _ _ _ h.2 r w; omega
theorem pm_sT_q {T : pl_Tx} : ∀ (f s q : Nat) (E : List (Nat × Bool)) (F : List pl_N) (S : List pl_S) (O : List pl_O), pl_sT T f s q E F S O → ∀ r, r ∈ S → r.2.2.1 ≤ q + O.length := by
  intro f
  induction f with
  | zero => intro s q E F S O h; exact h.elim
  | succ f ih =>
    intro s q E F S O h r hr
    have one : ∀ x : pl_S, x.2.2.1 = q → S = [x] → r.2.2.1 ≤ q + O.length := by
      intro x hx hS
      rw [hS] at hr
      rw [List.mem_singleton.mp hr, hx]; omega
    rcases h with (⟨t, _, _, _, _, hS, _⟩ | ⟨t, b, G, _, _, _, _, _, _, _, hS⟩ | ⟨t, _, _, _, _, _, _, _, hS, _⟩ | ⟨t, _, G, _, _, _, _, _, _, _, hS⟩ | ⟨t, _, _, G, H, _, _, _, _, _, _, _, _, _, _, _, _, _, hS⟩ | ⟨t, _, _, _, Gs, _, _, _, _, _, _, _, hS, _⟩ | ⟨t, _, C, _, _, _, _, _, _, _, hS⟩ | ⟨t, _, G, _, _, _, _, _, hS⟩) | ⟨k, t, b, C, Qc, B1, S1, O1, B2, S2, O2, h1, h2, h3, h4, h5, h6, h7, h8, h9, hS, hO⟩
    · exact one _ rfl hS
    · exact one _ rfl hS
    · exact one _ rfl hS
    · exact one _ rfl hS
    · exact one _ rfl hS
    · exact one _ rfl hS
    · exact one _ rfl hS
    · exact one _ rfl hS
    · have lO : O.length = Qc.length + O1.length + O2.length := by rw [hO, List.length_append, List.length_append]
      rw [hS] at hr
      rcases List.mem_cons.mp hr with w | w
      · rw [w]
        show q ≤ _
        omega
      · rcases List.mem_append.mp w with w | w
        · obtain ⟨t', Ls, _, rfl, rfl, hbl⟩ := h7
          have := pm_bl_q ih Ls _ _ _ hbl r w
          omega
        · rcases h8 with ⟨_, rfl, _⟩ | ⟨t', Ls, _, rfl, rfl, hbl⟩
          · cases w
          · have := pm_bl_q ih Ls _ _ _ hbl r w
            omega
theorem pm_pgs_q {T : pl_Tx} {σ τ : pr_St} {m : Nat} {rep : Nat → Nat} : ∀ (l : List pl_En) (fn n s q : Nat), pl_pgs T σ τ m rep fn n s q l → (∀ r, r ∈ pl_aS l → r.2.2.1 ≤ q + pl_tO l) ∧ pl_sts σ s (pl_aS l) := by
  intro l
  induction l with
  | nil => intro fn n s q _; exact ⟨fun r hr => (by cases hr), trivial⟩
  | cons e l ih =>
    intro fn n s q h
    obtain ⟨i1, i2⟩ := ih _ _ _ _ h.2
    have et : pl_tO (e :: l) = (pl_b3 e.2.2.2).length + pl_tO l := rfl
    refine ⟨fun r hr => ?_, pl_sts_app _ _ _ h.1.2.1 i2⟩
    have hr' : r ∈ pl_b2 e.2.2.2 ++ pl_aS l := hr
    rcases List.mem_append.mp hr' with w | w
    · have := pm_bl_q (pm_sT_q 60) _ _ _ _ h.1.2.2.2.2.2.2.2.2 r w
      omega
    · have := i1 r w
      omega
theorem pm_sts_get {σ : pr_St} : ∀ (L : List pl_S) (s i : Nat) (r : pl_S), pl_sts σ s L → L[i]? = some r → σ.2.1 19 (s + i) = nI r.2.2.1 := by
  intro L
  induction L with
  | nil => intro s i r _ h; cases i <;> cases h
  | cons x l ih =>
    intro s i r h hi
    cases i with
    | zero =>
      have : x = r := by simpa using hi
      subst this
      exact h.1.2.2.1
    | succ i =>
      have := ih (s + 1) i r h.2 (by simpa using hi)
      rw [show s + (i + 1) = s + 1 + i by omega]
      exact this
/-- operations end within the operations -/
theorem pm_qO {T : pl_Tx} {m : Nat} {rep : Nat → Nat} {Ps : List pl_En} {σ τ : pr_St} (h : pl_bs T m rep Ps σ τ) {s q : Nat} (hs : s ≤ pl_tS Ps) (hq : q < 2 ^ 30) (hn : pl_nq σ s q) : q ≤ pl_tO Ps := by
  obtain ⟨_, _, _, _, _, _, h7, h8, _, _, h11, h12, _, _, h15⟩ := h
  obtain ⟨g1, g2⟩ := pm_pgs_q Ps 0 1 0 0 h15
  by_cases w : s = pl_tS Ps
  · have e1 := pl_nq_end h11 h7 h12
    rw [w] at hn
    have := (nI_eq (by omega) (by omega)).mp (Option.some.inj (hn.symm.trans e1))
    omega
  · have hl := pl_aS_len Ps
    obtain ⟨r, hr⟩ : ∃ r, (pl_aS Ps)[s]? = some r := ⟨(pl_aS Ps)[s], List.getElem?_eq_getElem (by omega)⟩
    have r19 := pm_sts_get _ 0 s r g2 hr
    rw [Nat.zero_add] at r19
    have hle := g1 r (List.mem_of_getElem? hr)
    have e1 := pl_nq_st h11 h7 (show s < pl_tS Ps by omega) r19
    have := (nI_eq (by omega) (by omega)).mp (Option.some.inj (hn.symm.trans e1))
    omega
/-! both sides as they stood when the program was laid -/
def pm_ag (σp σ : pr_St) : Prop := σ.1 1 6 = σp.1 1 6 ∧ (∀ k, σ.1 2 k = σp.1 2 k) ∧ σ.1 4 14 = σp.1 4 14 ∧ ∀ a, 9 ≤ a → a ≤ 38 → σ.2.1 a = σp.2.1 a
def pm_agx (τp τ : pr_St) : Prop := τ.1 0 33 = τp.1 0 33 ∧ ∀ a, 13 ≤ a → a ≤ 28 → τ.2.1 a = τp.2.1 a
theorem pm_after {τp τ : pr_St} (h : pm_agx τp τ) : ∀ (f : Nat) (x : Int32), prf_X_after_2 f τ x = prf_X_after_2 f τp x := by
  have e13 := h.2 13 (by decide) (by decide)
  have e16 := h.2 16 (by decide) (by decide)
  have e17 := h.2 17 (by decide) (by decide)
  have e20 := h.2 20 (by decide) (by decide)
  have e21 := h.2 21 (by decide) (by decide)
  have e22 := h.2 22 (by decide) (by decide)
  have eb : ∀ y, prf_X_behind τ y = prf_X_behind τp y := by intro y; unfold prf_X_behind; rw [e17]
  intro f
  induction f with
  | zero => intro x; rfl
  | succ f ih =>
    intro x
    rw [prf_X_after_2, prf_X_after_2, e13, e16, e20, e21, e22, h.1]
    simp only [eb, ih]
theorem pm_nq_ag {σp σ : pr_St} {s q : Nat} (h : pm_ag σp σ) (hn : pl_nq σp s q) : pl_nq σ s q := by
  unfold pl_nq prf_G_firstOperationOf prf_G_isStatement at *
  rw [h.2.1 11, h.2.1 14, h.2.2.2 19 (by decide) (by decide)]
  exact hn
theorem pm_sts_ag {σp σ : pr_St} (h : pm_ag σp σ) : ∀ (S : List pl_S) (s : Nat), pl_sts σp s S → pl_sts σ s S := by
  intro S
  induction S with
  | nil => intro s _; trivial
  | cons r l ih =>
    intro s hs
    refine ⟨?_, ih (s + 1) hs.2⟩
    rw [h.2.2.2 17 (by decide) (by decide), h.2.2.2 18 (by decide) (by decide), h.2.2.2 19 (by decide) (by decide), h.2.2.2 20 (by decide) (by decide), h.2.2.2 21 (by decide) (by decide)]
    exact hs.1
theorem pm_tv_mk {T : pl_Tx} {σ τ : pr_St} (h : pl_tt T σ τ) (h0 : ∀ t, pl_xc T ≤ t → pl_xK T t = 0) : pm_tv T σ := by
  have hw := h.2.2.2.2.1
  have hr : ∀ t, 2 ≤ pl_xK T t → t + 1 < pl_xc T := by
    intro t ht
    by_cases w : pl_xc T ≤ t
    · have := h0 t w; omega
    · by_cases u : t + 1 = pl_xc T
      · have h2 : pl_xK T (pl_xc T - 1) ≤ 1 := hw.2.1
        rw [show pl_xc T - 1 = t by omega] at h2
        omega
      · omega
  have hc : pl_xc T ≤ 8001 := by have h1 : pl_xn T ≤ 8000 := h.1; have h2 : pl_xc T ≤ pl_xn T + 1 := h.2.1; omega
  refine ⟨fun t ht => ?_, fun t ht => pl_limC h ht, hc, fun t ht => (h.2.2.2.1.2.2 t ht).1, hr⟩
  obtain ⟨k1, k2, k3, k4, _⟩ := h.2.2.2.1.2.2 t ht
  have hcnt : σ.1 1 6 = nI (pl_xc T) := h.2.2.2.1.1
  unfold prf_T_kindAt prf_T_valueAt
  rw [hcnt, if_neg (nI_pos (by omega)), if_neg (nI_ge ht (by omega)), pl_ck (by omega) (by omega), if_neg (nI_pos (by omega)), if_neg (nI_ge ht (by omega)), pl_ck (by omega) (by omega), nI_clamp (by omega), k2, k4]
  exact ⟨rfl, rfl⟩
theorem pm_pk_ag {T : pl_Tx} {W : pl_Wt} {z k en lF : Nat} {r : pl_S} {σ τp τ : pr_St} (hx : pm_agx τp τ) (h : pl_pk T W z k en lF r σ τp) : pl_pk T W z k en lF r σ τ := by
  unfold pl_pk at *
  rw [hx.2 17 (by decide) (by decide), hx.2 21 (by decide) (by decide), hx.2 20 (by decide) (by decide), hx.2 16 (by decide) (by decide)]
  exact h
/-- what stands fast of a point -/
def pm_Pt (T : pl_Tx) (m : Nat) (rep : Nat → Nat) (Ps : List pl_En) (W : pl_Wt) (P : Nat) (nx : Nat → Nat) (z : Nat) (σ0 σ τ τp : pr_St) (f k s q en : Nat) (F : List pl_N) (S' : List pl_S) (O : List pl_O) (r : pl_S) (par : Int32) : Prop :=
  (pl_sT T f s q (W z).2 F (r :: S') O ∧ pl_nd T τ m rep k F ∧ pl_ops σ q O ∧ pl_sts σ s (r :: S') ∧ pl_nq σ (s + (r :: S').length) (q + O.length)) ∧
  (k + F.length ≤ 12860 ∧ q + O.length ≤ pl_tO Ps ∧ s + (r :: S').length ≤ pl_tS Ps ∧ pl_tO Ps ≤ 8000 ∧ pl_tS Ps ≤ 2000 ∧ σ.1 2 11 = nI (pl_tS Ps)) ∧
  (pl_ok T r σ ∧ r.2.2.2.2.2.1 = (W z).2 ∧ r.2.1 < r.2.2.2.2.2.2 ∧ r.2.2.2.2.2.2 ≤ pl_xc T) ∧
  (σ.2.1 25 z = nI r.1 ∧ σ.2.1 27 z = nI s ∧ σ.2.1 28 z = nI (pl_cnt false (pl_wv W z)) ∧ σ.2.1 29 z = nI (pl_cnt true (pl_wv W z)) ∧ σ.2.1 30 z = nI (pl_cnt false (W z).1) ∧ σ.2.1 31 z = nI (pl_cnt true (W z).1) ∧ σ.2.1 32 z = par ∧ σ.2.1 26 z = nI (pl_xP T r.2.1)) ∧
  (σ.2.1 38 z = nI (nx z) ∧ σ.2.1 36 z = (if σ0.2.1 36 z = -1 then (if r.1 = 6 then nI z else nI (nx z)) else σ0.2.1 36 z) ∧ σ.2.1 37 z = (if σ0.2.1 37 z = -1 then nI (nx z) else σ0.2.1 37 z)) ∧
  (τ.2.1 20 z = nI k ∧ τ.2.1 21 z = par ∧ τ.2.1 22 z = nI en ∧ τ.2.1 23 z = nI (pl_cnt false (pl_wv W z)) ∧ τ.2.1 24 z = nI (pl_cnt true (pl_wv W z)) ∧ τ.2.1 25 z = nI (W z).2.length) ∧
  (z < en ∧ en ≤ P ∧ P ≤ 249 ∧ pl_cnt false (pl_wv W z) ≤ 12 ∧ pl_cnt true (pl_wv W z) ≤ 6 ∧ σ.1 4 14 = nI (P + 1) ∧ τ.1 0 33 = nI (P + 1)) ∧
  (∀ i e, (W z).2[i]? = some e → (∃ id, τ.2.1 26 (40 * z + i) = nI id ∧ id < m ∧ pl_sn T (rep id) e.1) ∧ τ.2.1 27 (40 * z + i) = nI (pl_cnt e.2 ((W z).1 ++ (W z).2.take i)) ∧ τ.2.1 28 (40 * z + i) = pl_rm T e ∧ (e.2 = true → 1 ≤ pl_vt T (e.1 + 2) ∧ pl_vt T (e.1 + 2) ≤ 64)) ∧
  (pl_pp W z r.1 par σ ∧ pl_pk T W z k en F.length r σ0 τ ∧ σ0.2.1 34 z = σ.2.1 34 z) ∧
  (nx z ≤ P ∧ (∀ τ', pm_agx τp τ' → prf_X_after τ' (nI z) = some (nI (nx z))) ∧ ∃ N Y, pl_nv T σ z N ∧ pl_wv W z ++ N = pl_wv W (nx z) ++ Y)
theorem pm_pt0 {T : pl_Tx} {m : Nat} {rep : Nat → Nat} {Ps : List pl_En} {W : pl_Wt} {P : Nat} {nx : Nat → Nat} {σp τp σ τ : pr_St} (hRP : pl_RP T m rep Ps W P nx σp τp) (hag : pm_ag σp σ) (hax : pm_agx τp τ) {z : Nat} (hz : z < P) : ∃ (σ0 : pr_St) (f k s q en : Nat) (F : List pl_N) (S' : List pl_S) (O : List pl_O) (r : pl_S) (par : Int32), pm_Pt T m rep Ps W P nx z σ0 σ τ τp f k s q en F S' O r par := by
  obtain ⟨hb, hP, ⟨h14, h33⟩, _, _, hsv, σ0, f0, h0, hpt, hnx⟩ := hRP
  obtain ⟨f, b, bs, k, s, q, en, F, S, O, r, par, p1, ⟨S', rfl⟩, p3, p4, p5, p6, p7, p8, p9⟩ := hpt z hz
  obtain ⟨n1, n2, n3, n4, n5, N, Y, n6, n7⟩ := hnx z hz
  have is : pl_is T m rep Ps σp τp f b k s q (W z).2 F (r :: S') O := pl_is_fr p1 f0 pl_fr.rf
  obtain ⟨i1, i2, i3, i4, i5, i6, i7, i8⟩ := id is
  have hown := pl_own hb is
  have htok := pl_tok1 i1
  have h2000 : pl_tS Ps ≤ 2000 := hb.2.2.2.2.2.2.1
  have hrE : r.2.2.2.2.2.1 = (W z).2 := by
    obtain ⟨rr, SS, e1, _, _, e4⟩ := pl_sT_hd i1
    have : r = rr := (List.cons.inj e1).1
    rw [this]; exact e4
  have hlen := pl_aS_len Ps
  have hsl : s + (r :: S').length ≤ pl_tS Ps := by
    have := i6 ((r :: S').length - 1) (by rw [List.length_cons]; omega)
    by_cases w : s + (r :: S').length ≤ pl_tS Ps
    · exact w
    · rw [List.getElem?_eq_none (by rw [List.length_cons] at *; omega)] at this
      rw [List.getElem?_eq_getElem (by rw [List.length_cons]; omega)] at this
      cases this
  have hqO := pm_qO hb hsl (by omega) i8
  have r0 : ∀ a y, 24 ≤ a → a ≤ 35 → y < P → σ0.2.1 a y = σ.2.1 a y := by
    intro a y w1 w2 w3
    rw [hag.2.2.2 a (by omega) (by omega), h0 a y w1 w2 (Or.inr w3)]
  have ra : ∀ a, 9 ≤ a → a ≤ 38 → σ.2.1 a = σp.2.1 a := hag.2.2.2
  have ra0 : ∀ a, 9 ≤ a → a < 24 → σ.2.1 a = σ0.2.1 a := by
    intro a w1 w2
    rw [ra a w1 (by omega), f0.2.1 a (pl_GL_lo w2)]
  have hr : (pl_aS Ps)[s]? = some r := (pl_sl_cons i6).1
  have hok : pl_ok T r σ := by
    have h27 : σp.2.1 27 z = nI s := by rw [← ra 27 (by decide) (by decide), ← r0 27 z (by decide) (by decide) hz]; exact p4.2.2.1
    have := hsv z s r hz h27 (by rw [List.length_cons] at hsl; omega) hr
    intro t
    rw [ra 24 (by decide) (by decide)]
    exact this t
  refine ⟨σ0, f, k, s, q, en, F, S', O, r, par, ⟨i1, ?_, ?_, pm_sts_ag hag _ _ i4, pm_nq_ag hag i8⟩, ⟨i7.2.1, hqO, hsl, hb.2.2.2.2.2.2.2.1, hb.2.2.2.2.2.2.1, ?_⟩, ⟨hok, hrE, htok, hown.2⟩, ?_, ?_, ?_, ⟨p6.1, p6.2.1, hP, p6.2.2.2.1, p6.2.2.2.2, ?_, ?_⟩, ?_, ⟨?_, pm_pk_ag hax p9, r0 34 z (by decide) (by decide) hz⟩, n1, fun τ' hτ' => ?_, N, Y, ?_, n7⟩
  · exact pl_nd_eq (Nat.le_refl _) (fun _ _ => rfl) F k (fun a y w1 w2 _ _ _ => by rw [hax.2 a (by omega) (by omega)]) i2
  · exact pl_ops_fr (ra 22 (by decide) (by decide)) (ra 23 (by decide) (by decide)) O q i5
  · rw [hag.2.1 11]; exact hb.2.2.2.2.2.2.2.2.2.2.1
  · obtain ⟨w1, w2, w3, w4, w5, w6, w7, w8, w9, w10⟩ := p4
    rw [← r0 25 z (by decide) (by decide) hz, ← r0 27 z (by decide) (by decide) hz, ← r0 28 z (by decide) (by decide) hz, ← r0 29 z (by decide) (by decide) hz, ← r0 30 z (by decide) (by decide) hz, ← r0 31 z (by decide) (by decide) hz, ← r0 32 z (by decide) (by decide) hz, ← r0 26 z (by decide) (by decide) hz]
    exact ⟨w1, w3, w4, w5, w6, w7, w8, w2⟩
  · rw [ra 38 (by decide) (by decide), ra 36 (by decide) (by decide), ra 37 (by decide) (by decide)]
    refine ⟨n3, ?_, n5⟩
    rw [n4, p4.1]
    by_cases w : σ0.2.1 36 z = -1
    · rw [if_pos w, if_pos w]
      by_cases u : r.1 = 6
      · rw [if_pos (show nI r.1 = 6 by rw [u]; rfl), if_pos u]
      · have hr64 : r.1 < 64 := by
          obtain ⟨_, _, r1, _, _, _, w4, w5⟩ := pl_pt_kd (hpt z hz)
          have : r1 < 64 := by rcases w5 with ⟨w6, _⟩ | w6 <;> omega
          have e1 := w4.symm.trans p4.1
          obtain ⟨kr, t, v, zz, F', r', S'', eF, eS, hrk, _⟩ := pl_sT_kd i1
          have : r = r' := (List.cons.inj eS).1
          rw [this]
          rcases hrk with ⟨w6, _⟩ | w6 <;> omega
        rw [if_neg (pl_nn (j := 6) (v := 6) hr64 (by decide) rfl u), if_neg u]
    · rw [if_neg w, if_neg w]
  · rw [hax.2 20 (by decide) (by decide), hax.2 21 (by decide) (by decide), hax.2 22 (by decide) (by decide), hax.2 23 (by decide) (by decide), hax.2 24 (by decide) (by decide), hax.2 25 (by decide) (by decide)]
    exact p5
  · rw [hag.2.2.1]; exact h14
  · rw [hax.1]; exact h33
  · intro i e he
    obtain ⟨w1, w2, w3, _, _, w4⟩ := p7 i e he
    rw [hax.2 26 (by decide) (by decide), hax.2 27 (by decide) (by decide), hax.2 28 (by decide) (by decide)]
    exact ⟨w1, w2, w3, w4⟩
  · obtain ⟨w1, w2⟩ := p8
    refine ⟨?_, fun w => ?_⟩
    · rcases w1 with w1 | ⟨pp, u1, u2, u3⟩
      · exact Or.inl w1
      · rw [r0 25 pp (by decide) (by decide) (by omega)] at u3
        exact Or.inr ⟨pp, u1, u2, u3⟩
    · obtain ⟨pp, u1, u2, u3⟩ := w2 w
      rw [r0 25 pp (by decide) (by decide) (by omega)] at u3
      exact ⟨pp, u1, u2, u3⟩
  · unfold prf_X_after
    rw [pm_after hτ']
    exact n2 pr_FU (by show z + 1 ≤ 100000; omega)
  · unfold pl_nv at *
    rw [← r0 25 z (by decide) (by decide) hz, ← r0 27 z (by decide) (by decide) hz, ra0 18 (by decide) (by decide)]
    exact n6
