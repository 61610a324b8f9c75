/-! THE PARSER: CONDs -/
def pl_catF : List (List pl_N × List pl_O) → List pl_N
  | [] => []
  | e :: l => e.1 ++ pl_catF l
/-- operations of the further parts, each behind its leap -/
def pl_catL (o : Nat) : Nat → List (List pl_N × List pl_O) → List pl_O
  | _, [] => []
  | b, e :: l => (o, nI (b + 1 + e.2.length)) :: (e.2 ++ pl_catL o (b + 1 + e.2.length) l)
def pl_cdl (C : Nat → List pl_N → List pl_O → Prop) : Nat → List (List pl_N × List pl_O) → Prop
  | _, [] => True
  | b, e :: l => C (b + 1) e.1 e.2 ∧ pl_cdl C (b + 1 + e.2.length) l
theorem pl_catF_app : ∀ a b : List (List pl_N × List pl_O), pl_catF (a ++ b) = pl_catF a ++ pl_catF b := by
  intro a
  induction a with
  | nil => intro b; rfl
  | cons e l ih => intro b; show e.1 ++ pl_catF (l ++ b) = e.1 ++ pl_catF l ++ pl_catF b; rw [ih, List.append_assoc]
theorem pl_catL_app {o : Nat} : ∀ (a l : List (List pl_N × List pl_O)) (b : Nat), pl_catL o b (a ++ l) = pl_catL o b a ++ pl_catL o (b + (pl_catL o b a).length) l := by
  intro a
  induction a with
  | nil => intro l b; rfl
  | cons e t ih =>
    intro l b
    have eL : (pl_catL o b (e :: t)).length = 1 + e.2.length + (pl_catL o (b + 1 + e.2.length) t).length := by
      show ((o, nI (b + 1 + e.2.length)) :: (e.2 ++ pl_catL o (b + 1 + e.2.length) t)).length = _
      rw [List.length_cons, List.length_append]; omega
    rw [eL]
    show (o, nI (b + 1 + e.2.length)) :: (e.2 ++ pl_catL o (b + 1 + e.2.length) (t ++ l)) = (o, nI (b + 1 + e.2.length)) :: (e.2 ++ pl_catL o (b + 1 + e.2.length) t) ++ _
    rw [ih, List.cons_append, List.append_assoc, show b + (1 + e.2.length + (pl_catL o (b + 1 + e.2.length) t).length) = b + 1 + e.2.length + (pl_catL o (b + 1 + e.2.length) t).length by omega]
theorem pl_cdl_app {C : Nat → List pl_N → List pl_O → Prop} {o : Nat} : ∀ (a l : List (List pl_N × List pl_O)) (b : Nat), pl_cdl C b a → pl_cdl C (b + (pl_catL o b a).length) l → pl_cdl C b (a ++ l) := by
  intro a
  induction a with
  | nil => intro l b _ h; exact h
  | cons e t ih =>
    intro l b h1 h2
    have eL : (pl_catL o b (e :: t)).length = 1 + e.2.length + (pl_catL o (b + 1 + e.2.length) t).length := by
      show ((o, nI (b + 1 + e.2.length)) :: (e.2 ++ pl_catL o (b + 1 + e.2.length) t)).length = _
      rw [List.length_cons, List.length_append]; omega
    rw [eL, show b + (1 + e.2.length + (pl_catL o (b + 1 + e.2.length) t).length) = b + 1 + e.2.length + (pl_catL o (b + 1 + e.2.length) t).length by omega] at h2
    exact ⟨h1.1, ih l _ h1.2 h2⟩
theorem pl_cdl_C {C C' : Nat → List pl_N → List pl_O → Prop} (h : ∀ b F O, C b F O → C' b F O) : ∀ (a : List (List pl_N × List pl_O)) (b : Nat), pl_cdl C b a → pl_cdl C' b a := by
  intro a
  induction a with
  | nil => intro b _; trivial
  | cons e t ih => intro b h1; exact ⟨h _ _ _ h1.1, ih _ h1.2⟩
/-- F are the nodes of a COND or TEST, O its operations from index q on -/
def pl_cd (T : pl_Tx) : Nat → Nat → List pl_N → List pl_O → Prop
  | 0 => fun _ _ _ => False
  | f + 1 => fun q F O =>
    (∃ (k t : Nat) (F1 F2 : List pl_N) (O1 O2 : List pl_O), (27 ≤ k ∧ k ≤ 32) ∧ F = (k, t, 0, 1 + (F1 ++ F2).length) :: (F1 ++ F2) ∧ O = (O1 ++ O2) ++ [(k - 1, -1)] ∧ pl_sm T f F1 O1 ∧ pl_sm T f F2 O2) ∨
    (∃ (t : Nat) (G : List pl_N) (Q : List pl_O), F = (26, t, 0, 1 + G.length) :: G ∧ O = Q ++ [(34, -1)] ∧ pl_cd T f q G Q) ∨
    (∃ (k t : Nat) (G : List pl_N) (Q : List pl_O) (Ls : List (List pl_N × List pl_O)), (k = 24 ∨ k = 25) ∧ F = (k, t, 0, 1 + (G ++ pl_catF Ls).length) :: (G ++ pl_catF Ls) ∧ O = Q ++ pl_catL (57 - k) (q + Q.length) Ls ∧ pl_cd T f q G Q ∧ pl_cdl (pl_cd T f) (q + Q.length) Ls)
theorem pl_cd_f {T : pl_Tx} : ∀ (f q : Nat) (F : List pl_N) (O : List pl_O), pl_cd T f q F O → pl_cd T (f + 1) q F O := by
  intro f
  induction f with
  | zero => intro q F O h; exact h.elim
  | succ f ih =>
    intro q F O h
    rcases h with h | h | h
    · obtain ⟨k, t, F1, F2, O1, O2, h0, h1, h2, h3, h4⟩ := h
      exact Or.inl ⟨k, t, F1, F2, O1, O2, h0, h1, h2, pl_sm_f _ _ _ h3, pl_sm_f _ _ _ h4⟩
    · obtain ⟨t, G, Q, h1, h2, h3⟩ := h
      exact Or.inr (Or.inl ⟨t, G, Q, h1, h2, ih _ _ _ h3⟩)
    · obtain ⟨k, t, G, Q, Ls, h0, h1, h2, h3, h4⟩ := h
      exact Or.inr (Or.inr ⟨k, t, G, Q, Ls, h0, h1, h2, ih _ _ _ h3, pl_cdl_C (fun b F O => ih b F O) _ _ h4⟩)
theorem pl_cd_ff {T : pl_Tx} {f q : Nat} {F : List pl_N} {O : List pl_O} (h : pl_cd T f q F O) {g : Nat} (hg : f ≤ g) : pl_cd T g q F O := by
  obtain ⟨m, rfl⟩ : ∃ m, g = f + m := ⟨g - f, by omega⟩
  clear hg
  induction m with
  | zero => exact h
  | succ m ih => exact pl_cd_f _ _ _ _ ih
theorem pl_ops_ne {σ σ' : pr_St} {j : Nat} (h : ∀ r z, z ≠ j → σ'.2.1 r z = σ.2.1 r z) : ∀ (a : List pl_O) (q : Nat), j < q → pl_ops σ q a → pl_ops σ' q a := by
  intro a
  induction a with
  | nil => intro q _ _; trivial
  | cons o l ih =>
    intro q hq h1
    exact ⟨by rw [h 22 q (by omega)]; exact h1.1, by rw [h 23 q (by omega)]; exact h1.2.1, ih (q + 1) (by omega) h1.2.2⟩
/-- a leap gets its end -/
theorem pl_leapG {T : pl_Tx} {a q d j : Nat} {σ τ : pr_St} (g : pl_gd T a q d σ τ) (hj : j < q) (hq : q ≤ 8001) : ∃ σ1, prf_G_leapToHere σ (nI j) = some σ1 ∧ pl_gd T a q d σ1 τ ∧ pl_fc j σ σ1 ∧ (∀ r z, z ≠ j → σ1.2.1 r z = σ.2.1 r z) ∧ σ1.2.1 22 j = σ.2.1 22 j ∧ σ1.2.1 23 j = nI q := by
  obtain ⟨g1, g2, g3, g4, g5, g6⟩ := g
  have hne : ∀ r z, z ≠ j → (pr_sA σ 23 (upd (σ.2.1 23) j (nI q))).2.1 r z = σ.2.1 r z := by
    intro r z hz
    by_cases h23 : r = 23
    · subst h23; rw [pl_sA_same, pk_un hz]
    · rw [pl_sA_ne h23]
  have hfx : pl_fc j σ (pr_sA σ 23 (upd (σ.2.1 23) j (nI q))) := ⟨pl_sA_fr rfl, fun r z hz => hne r z (by omega)⟩
  refine ⟨_, ?_, ⟨pl_tt_ff g1 hfx (pl_fx.rf (q := 0)), g2, g3, g4, g5, g6⟩, hfx, hne, rfl, ?_⟩
  · unfold prf_G_leapToHere prf_G_isOperation
    rw [if_neg (nI_pos (by omega)), g5, if_neg (nI_ge hj (by omega)), pl_sb, if_neg (show ¬ (1 : Int32) = 0 by decide), pl_ck (by omega) (by omega), nI_clamp (by omega)]
  · show upd (σ.2.1 23) j (nI q) j = _
    rw [pk_us]
/-- the loop of tests: a sign and one more part -/
theorem pl_lloop {T : pl_Tx} (fC fX : pr_St → Option (Int32 × pr_St)) (f : Nat) (Hp : pl_sp T (fun q F O => pl_cd T f q F O) fC fX) (ok : Nat) (hok : ok = 32 ∨ ok = 33)
    (LC LX : Nat → pr_St → Int32 → Option (Int32 × pr_St))
    (hC : ∀ m σ i, i < 8000 → LC (m + 1) σ (nI i) = (prf_R_take σ (nI ok)).bind fun r12 => if r12.1 = 0 then some (1, r12.2) else (prf_G_operationCount r12.2).bind fun r14 => (prf_G_addOperation r12.2 (nI ok) (-1)).bind fun r15 => (fC r15).bind fun r16 => if r16.1 = 0 then some (0, r16.2) else (prf_G_leapToHere r16.2 r14).bind fun r18 => LC m r18 (nI (i + 1)))
    (hX : ∀ m τ s, LX (m + 1) τ s = (prf_X_look τ).bind fun r38 => if r38 = nI (pl_km ok) then (prf_X_take τ (nI (pl_km ok))).bind fun r40 => if (r40.1 0 9) = 0 then (fX r40).bind fun r45 => (prf_X_join r45.2 s r45.1).bind fun r46 => LX m r46 s else (prf_X_join r40 s (-1)).bind fun r47 => LX m r47 s else some (s, τ))
    (q0 d0 a0 s k0 t0 : Nat) (G : List pl_N) (Q : List pl_O) :
    ∀ (M a i q d mC mX : Nat) (σ τ : pr_St) (cs : List (Nat × List pl_N)) (Ls : List (List pl_N × List pl_O)), pl_xc T ≤ a + M → M + 1 ≤ mC → M + 1 ≤ mX → i + 1 ≤ a → pl_gd T a q d σ τ → q ≤ a → d ≤ 2 * a + 1 → (¬ pl_xK T a = ok → d ≤ 2 * a) → d0 ≤ d → pl_dt τ (pl_xP T) d0 d s k0 t0 0 cs → pl_cat cs = G ++ pl_catF Ls → pl_cm (pl_xK T) a0 a (G ++ pl_catF Ls) → q = q0 + (Q ++ pl_catL ok (q0 + Q.length) Ls).length → (Q ++ pl_catL ok (q0 + Q.length) Ls).length + a0 ≤ a → pl_ops σ q0 (Q ++ pl_catL ok (q0 + Q.length) Ls) → pl_cdl (pl_cd T f) (q0 + Q.length) Ls →
    ∃ (a' : Nat) (σ' τ' : pr_St), a ≤ a' ∧ pl_fc q σ σ' ∧ pl_fx d0 τ τ' ∧
      ((∃ (d' : Nat) (Ls' : List (List pl_N × List pl_O)), LC mC σ (nI i) = some (1, σ') ∧ LX mX τ (nI s) = some (nI s, τ') ∧ pl_gd T a' (q0 + (Q ++ pl_catL ok (q0 + Q.length) Ls').length) d' σ' τ' ∧ (Q ++ pl_catL ok (q0 + Q.length) Ls').length + a0 ≤ a' ∧ 5 * d' + 8 * a ≤ 5 * d + 8 * a' ∧ (pl_xK T a = ok → 5 * d' + 8 * a + 6 ≤ 5 * d + 8 * a') ∧ pl_tr τ' (pl_xP T) d0 d' s ((k0, t0, 0, 1 + (G ++ pl_catF Ls').length) :: (G ++ pl_catF Ls')) ∧ pl_ops σ' q0 (Q ++ pl_catL ok (q0 + Q.length) Ls') ∧ pl_cm (pl_xK T) a0 a' (G ++ pl_catF Ls') ∧ pl_cdl (pl_cd T f) (q0 + Q.length) Ls') ∨
       (LC mC σ (nI i) = some (0, σ') ∧ LX mX τ (nI s) = some (nI s, τ') ∧ pl_bd T a' d0 3 σ' τ')) := by
  have hok35 : ok < 35 := by omega
  have pok : pl_pn ok := ⟨by omega, by omega, by omega, by omega⟩
  intro M
  induction M with
  | zero =>
    intro a i q d mC mX σ τ cs Ls hM _ _ _ g
    have := g.2.2.1
    omega
  | succ M ih =>
    intro a i q d mC mX σ τ cs Ls hM hmC hmX hi g hq hd hd2 hd0 ht hcat hcm hqq hqa hops hLs
    obtain ⟨mC, rfl⟩ : ∃ z, mC = z + 1 := ⟨mC - 1, by omega⟩
    obtain ⟨mX, rfl⟩ : ∃ z, mX = z + 1 := ⟨mX - 1, by omega⟩
    have h8 := pl_gd8 g
    have hK := pl_gdK g
    have eC0 := hC mC σ i (by omega)
    have eX0 := hX mX τ (nI s)
    rw [pl_lookG g, pl_sb] at eX0
    by_cases hop : pl_xK T a = ok
    · obtain ⟨σ2, τ2, c2, c2', x2, g2, fc2, fx2, s2, r2⟩ := pl_takeA g hop (by omega)
      obtain ⟨σ3, e3, g3, fc3, o3, at3⟩ := pl_addG g2 (by omega) (o := ok) (by omega) (-1)
      rw [c2, pl_sb, if_neg (show ¬ ((1 : Int32), σ2).1 = 0 from pl_10), show prf_G_operationCount σ2 = some (nI q) by unfold prf_G_operationCount; rw [g2.2.2.2.2.1], pl_sb, e3, pl_sb] at eC0
      rw [hop, if_pos rfl, x2, pl_sb, if_pos g2.2.2.2.1] at eX0
      have hs2 := ht.fx (fx2 d) (Nat.le_refl _)
      obtain ⟨a', σ', τ', hle, fc', fx', hr⟩ := Hp (a + 1) (q + 1) d σ3 τ2 g3 (by omega) (by omega)
      have fcA : pl_fc q σ σ' := ((fc2 q).tr fc3 (Nat.le_refl _)).tr fc' (by omega)
      have fxA : pl_fx d τ τ' := (fx2 d).tr fx' (Nat.le_refl _)
      have hs3 := hs2.fx fx' (Nat.le_refl _)
      rcases hr with ⟨y, d', G2, Q2, hC1, hX1, g6, hO, hD', tr6, ops6, cm6, sm6⟩ | ⟨hC1, v, hX1, b6, vi6⟩
      · have h86 := pl_gd8 g6
        have iv6 := tr6.iv
        obtain ⟨τ8, e8, g8, fx8, t8⟩ := pl_joinG (l := d0) (h := d') g6 hs3 tr6 (by omega) (Or.inl (Nat.le_refl _)) (by omega) (by omega) (by omega) (by omega)
        obtain ⟨σ9, e9, g9, fc9, ne9, o22, o23⟩ := pl_leapG (j := q) g8 (by omega) (by omega)
        rw [hC1, pl_sb, if_neg (show ¬ ((1 : Int32), σ').1 = 0 from pl_10), e9, pl_sb] at eC0
        rw [hX1, pl_sb, e8, pl_sb] at eX0
        have eN : pl_catF (Ls ++ [(G2, Q2)]) = pl_catF Ls ++ G2 := by
          rw [pl_catF_app]; simp [pl_catF]
        have eB : q0 + Q.length + (pl_catL ok (q0 + Q.length) Ls).length = q := by
          rw [hqq, List.length_append]; omega
        have eO : pl_catL ok (q0 + Q.length) (Ls ++ [(G2, Q2)]) = pl_catL ok (q0 + Q.length) Ls ++ ((ok, nI (q + 1 + Q2.length)) :: Q2) := by
          rw [pl_catL_app, eB]; simp [pl_catL]
        have eOl : (Q ++ pl_catL ok (q0 + Q.length) (Ls ++ [(G2, Q2)])).length = (Q ++ pl_catL ok (q0 + Q.length) Ls).length + Q2.length + 1 := by
          rw [eO]; simp <;> omega
        obtain ⟨a2, σ'', τ'', hle2, fcI, fxI, hrI⟩ := ih a' (i + 1) (q + 1 + Q2.length) d' mC mX σ9 τ8 _ (Ls ++ [(G2, Q2)]) (by omega) (by omega) (by omega) (by omega) g9 (by omega) (by omega) (fun _ => by omega) (by omega) t8 (by rw [pl_cat_app, hcat, eN]; simp [pl_cat]) (by rw [eN, ← List.append_assoc]; exact pl_cm_app (pl_cm_suf hcm (by rw [hop]; exact pok) (by omega)) cm6 (fun t ht2 hk2 => by
            have : t = a := by omega
            subst this
            omega)) (by rw [eOl]; omega) (by rw [eOl]; omega) (by
            rw [eO, ← List.append_assoc]
            refine pl_ops_app _ _ q0 (pl_ops_eq (fcA.tr fc9 (Nat.le_refl _)).2 _ _ (by omega) hops) ?_
            rw [← hqq]
            refine ⟨?_, o23, pl_ops_ne ne9 Q2 _ (by omega) ops6⟩
            rw [o22, fc'.2 22 q (by omega)]
            exact o3.1) (pl_cdl_app (o := ok) Ls _ _ hLs (by rw [eB]; exact ⟨sm6, trivial⟩))
        refine ⟨a2, σ'', τ'', by omega, (fcA.tr fc9 (Nat.le_refl _)).tr fcI (by omega), (fxA.le hd0).tr (fx8.tr fxI (Nat.le_refl _)) (Nat.le_refl _), ?_⟩
        rw [eC0, eX0]
        rcases hrI with ⟨d2, Ls2, w1, w2, w3, w4, w5, w6, w7⟩ | w
        · exact Or.inl ⟨d2, Ls2, w1, w2, w3, w4, by omega, fun _ => by omega, w7⟩
        · exact Or.inr w
      · obtain ⟨τ8, e8, b8, fx8, j8⟩ := pl_joinW (d0 := d0) b6 (hs3.jb (Nat.le_refl _) (by omega)) (vi6.le hd0)
        rw [hC1, pl_sb, if_pos rfl] at eC0
        obtain ⟨mX, rfl⟩ : ∃ z, mX = z + 1 := ⟨mX - 1, by omega⟩
        rw [hX1, pl_sb, e8, pl_sb, hX mX τ8 (nI s), pl_lookW b8, pl_sb, if_neg (pl_km1 ok hok35 (by omega))] at eX0
        exact ⟨a', σ', τ8, by omega, fcA, (fxA.le hd0).tr fx8 (Nat.le_refl _), Or.inr ⟨eC0, eX0, b8.le (by omega) (Nat.le_refl _)⟩⟩
    · rw [(pl_takeZ g hok35 hop).1, pl_sb, if_pos rfl] at eC0
      rw [if_neg (fun q => hop (pl_kminj _ hK ok hok35 q))] at eX0
      refine ⟨a, σ, τ, Nat.le_refl _, pl_fc.rf, pl_fx.rf, Or.inl ⟨d, Ls, eC0, eX0, by rw [← hqq]; exact g, hqa, Nat.le_refl _, fun q => absurd q hop, ?_, hops, hcm, hLs⟩⟩
      have t := ht.tr
      rw [hcat] at t
      exact t
theorem pl_sp_mono {T : pl_Tx} {Φ Φ' : Nat → List pl_N → List pl_O → Prop} {fC fX : pr_St → Option (Int32 × pr_St)} (h : pl_sp T Φ fC fX) (hm : ∀ q F O, Φ q F O → Φ' q F O) : pl_sp T Φ' fC fX := by
  intro a q d σ τ g hq hd
  obtain ⟨a', σ', τ', h1, h2, h3, hr⟩ := h a q d σ τ g hq hd
  refine ⟨a', σ', τ', h1, h2, h3, ?_⟩
  rcases hr with ⟨y, d', G, Q, w1, w2, w3, w4, w5, w6, w7, w8, w9⟩ | w
  · exact Or.inl ⟨y, d', G, Q, w1, w2, w3, w4, w5, w6, w7, w8, hm _ _ _ w9⟩
  · exact Or.inr w
/-- one level of tests: parts with && or || between them -/
theorem pl_level {T : pl_Tx} (fC fX : pr_St → Option (Int32 × pr_St)) (f : Nat) (Hp : pl_sp T (fun q F O => pl_cd T f q F O) fC fX) (ok nk : Nat) (hok : (ok = 32 ∧ nk = 25) ∨ (ok = 33 ∧ nk = 24))
    (LC LX : Nat → pr_St → Int32 → Option (Int32 × pr_St))
    (hC : ∀ m σ i, i < 8000 → LC (m + 1) σ (nI i) = (prf_R_take σ (nI ok)).bind fun r12 => if r12.1 = 0 then some (1, r12.2) else (prf_G_operationCount r12.2).bind fun r14 => (prf_G_addOperation r12.2 (nI ok) (-1)).bind fun r15 => (fC r15).bind fun r16 => if r16.1 = 0 then some (0, r16.2) else (prf_G_leapToHere r16.2 r14).bind fun r18 => LC m r18 (nI (i + 1)))
    (hX : ∀ m τ s, LX (m + 1) τ s = (prf_X_look τ).bind fun r38 => if r38 = nI (pl_km ok) then (prf_X_take τ (nI (pl_km ok))).bind fun r40 => if (r40.1 0 9) = 0 then (fX r40).bind fun r45 => (prf_X_join r45.2 s r45.1).bind fun r46 => LX m r46 s else (prf_X_join r40 s (-1)).bind fun r47 => LX m r47 s else some (s, τ))
    (BC BX : pr_St → Option (Int32 × pr_St))
    (hBC : ∀ σ, BC σ = (fC σ).bind fun r19 => if r19.1 = 0 then some (0, r19.2) else LC pr_FU r19.2 (nI 0))
    (hBX : ∀ τ, BX τ = (fX τ).bind fun r69 => (prf_X_look r69.2).bind fun r70 => if r70 = nI (pl_km ok) then pr_ck r69.1 26000 ((prf_X_draft r69.2 (nI nk) ((r69.2.2.1 7) r69.1.toNatClampNeg) 0).bind fun r73 => (prf_X_join r73.2 r73.1 r69.1).bind fun r74 => LX pr_FU r74 r73.1) else some (r69.1, r69.2)) :
    pl_sp T (fun q F O => pl_cd T (f + 1) q F O) BC BX := by
  intro a q d σ τ g hq hd
  have h8 := pl_gd8 g
  have hok35 : ok < 35 := by omega
  have hok' : ok = 32 ∨ ok = 33 := by omega
  have hnk : nk = 24 ∨ nk = 25 := by omega
  have hnk2 : 57 - nk = ok := by omega
  have hF : pr_FU = 99999 + 1 := rfl
  obtain ⟨a1, σ1, τ1, hle, fc1, fx1, hr⟩ := Hp a q d σ τ g hq hd
  rcases hr with ⟨y, d1, G, Q, hC1, hX1, g1, hO, hD1, tr1, ops1, cm1, sm1⟩ | ⟨hC1, v, hX1, b1, vi1⟩
  · have h81 := pl_gd8 g1
    have iv1 := tr1.iv
    have eC0 := hBC σ
    have eX0 := hBX τ
    rw [hC1, pl_sb, if_neg (show ¬ ((1 : Int32), σ1).1 = 0 from pl_10)] at eC0
    rw [hX1, pl_sb, pl_lookG g1, pl_sb] at eX0
    by_cases hop : pl_xK T a1 = ok
    · obtain ⟨t, htp⟩ := pl_tr_place tr1
      obtain ⟨τ2, e2, g2, fx2, t2⟩ := pl_draftG g1 (by omega) nk t 0
      obtain ⟨τ3, e3, g3, fx3, t3⟩ := pl_joinG (l := d) (h := d1 + 1) g2 t2 (tr1.fx fx2 (Nat.le_refl _)) (by omega) (Or.inr (Nat.le_refl _)) (by omega) (by omega) (by omega) (by omega)
      rw [hop, if_pos rfl, pl_ck (show y < 26000 by omega) (by omega), nI_clamp (by omega), htp, e2, pl_sb, e3, pl_sb] at eX0
      have c8 := pl_c8 g1.1
      obtain ⟨a', σ', τ', hle2, fc', fx', hr2⟩ := pl_lloop fC fX f Hp ok hok' LC LX hC hX q d a d1 nk t G Q 8001 a1 0 (q + Q.length) (d1 + 1) pr_FU pr_FU σ1 τ3 ([] ++ [(y, G)]) [] (by omega) (by rw [hF]; omega) (by rw [hF]; omega) (by have := cm1.1; omega) g3 (by omega) (by omega) (fun q => absurd hop q) (by omega) t3 (by simp [pl_cat, pl_catF]) (by simpa [pl_catF] using cm1) (by simp [pl_catL]) (by simpa [pl_catL] using hO) (by simpa [pl_catL] using ops1) trivial
      have fcA : pl_fc q σ σ' := fc1.tr fc' (by omega)
      have fxA : pl_fx d τ τ' := ((fx1.tr fx2 (by omega)).tr fx3 (by omega)).tr fx' (Nat.le_refl _)
      rw [← eC0, ← eX0] at hr2
      rcases hr2 with ⟨d', Ls, w1, w2, w3, w4, w5, w6, w7, w8, w9, w10⟩ | ⟨w1, w2, w3⟩
      · refine ⟨a', σ', τ', by omega, fcA, fxA, Or.inl ⟨d1, d', _, Q ++ pl_catL ok (q + Q.length) Ls, w1, w2, w3, w4, by have := w6 hop; omega, w7, w8, pl_cm_hd w9 (by show ¬ nk = 13; omega) (by show ¬ nk = 14; omega) (by show ¬ nk = 16; omega), Or.inr (Or.inr ⟨nk, t, G, Q, Ls, hnk, rfl, by rw [hnk2], sm1, w10⟩)⟩⟩
      · exact ⟨a', σ', τ', by omega, fcA, fxA, Or.inr ⟨w1, nI d1, w2, w3, pl_vi1 (by omega) (by omega)⟩⟩
    · rw [hF, hC 99999 σ1 0 (by decide), (pl_takeZ g1 hok35 hop).1, pl_sb, if_pos rfl] at eC0
      rw [if_neg (fun q => hop (pl_kminj _ (pl_gdK g1) ok hok35 q))] at eX0
      exact ⟨a1, σ1, τ1, hle, fc1, fx1, Or.inl ⟨y, d1, G, Q, eC0, eX0, g1, hO, hD1, tr1, ops1, cm1, pl_cd_f _ _ _ _ sm1⟩⟩
  · have eC0 := hBC σ
    have eX0 := hBX τ
    rw [hC1, pl_sb, if_pos rfl] at eC0
    rw [hX1, pl_sb, pl_lookW b1, pl_sb, if_neg (pl_km1 ok hok35 (by omega))] at eX0
    exact ⟨a1, σ1, τ1, hle, fc1, fx1, Or.inr ⟨eC0, v, eX0, b1, vi1⟩⟩
/-- tests with && between them -/
theorem pl_both {T : pl_Tx} (rcC : pr_St → Int32 → Option (Int32 × pr_St)) (rcX : Nat → pr_St → Int32 → Int32 → Option (Int32 × pr_St)) (D : Int32) (f : Nat) (H : pl_sp T (fun q F O => pl_cd T f q F O) (fun σ => rcC σ D) (fun τ => rcX 0 τ D 0)) : pl_sp T (fun q F O => pl_cd T (f + 1) q F O) (fun σ => prf_R_readBoth rcC σ D) (fun τ => prf_X_tests rcX τ D 25) := by
  refine pl_level (fun σ => rcC σ D) (fun τ => rcX 0 τ D 0) f H 32 25 (Or.inl ⟨rfl, rfl⟩) (fun m σ i => prf_R_readBoth_12 rcC m σ D i) (fun m τ s => prf_X_tests_73 rcX m τ D 25 260 s) ?_ ?_ _ _ ?_ ?_
  · intro m σ i hi
    show prf_R_readBoth_12 rcC (m + 1) σ D (nI i) = _
    rw [prf_R_readBoth_12, if_neg (show ¬ (8000 : Int32) ≤ nI i from nI_ge (b := 8000) hi (by omega)), nI_1]
    rfl
  · intro m τ s
    show prf_X_tests_73 rcX (m + 1) τ D 25 260 s = _
    rw [prf_X_tests_73]
    simp only [if_neg (show ¬ (25 : Int32) = 24 by decide)]
    rfl
  · intro σ
    rfl
  · intro τ
    show prf_X_tests rcX τ D 25 = _
    unfold prf_X_tests
    rw [if_neg (show ¬ (25 : Int32) = 24 by decide), if_neg (show ¬ (25 : Int32) = 24 by decide)]
    rfl
/-- a COND -/
theorem pl_cond {T : pl_Tx} (rcC : pr_St → Int32 → Option (Int32 × pr_St)) (rcX rcX1 rcX2 : Nat → pr_St → Int32 → Int32 → Option (Int32 × pr_St)) (D f : Nat) (hDb : D < 1000) (e1 : ∀ τ x y, rcX 1 τ x y = prf_X_tests rcX1 τ x y) (e2 : ∀ τ x y, rcX1 1 τ x y = prf_X_tests rcX2 τ x y) (H : D ≤ 60 → pl_sp T (fun q F O => pl_cd T f q F O) (fun σ => rcC σ (nI D)) (fun τ => rcX2 0 τ (nI D) 0)) : pl_sp T (fun q F O => pl_cd T (f + 2) q F O) (fun σ => prf_R_readCond rcC σ (nI D)) (fun τ => prf_X_cond rcX τ (nI D)) := by
  intro a q d σ τ g hq hd
  show pl_ph T _ a q d σ τ (prf_R_readCond rcC σ (nI D)) (prf_X_cond rcX τ (nI D))
  by_cases hD : D ≤ 60
  · have L := pl_level (T := T) (fun σ => prf_R_readBoth rcC σ (nI D)) (fun τ => prf_X_tests rcX2 τ (nI D) 25) (f + 1) (pl_both rcC rcX2 (nI D) f (H hD)) 33 24 (Or.inr ⟨rfl, rfl⟩) (fun m σ i => prf_R_readCond_18 rcC m σ (nI D) i) (fun m τ s => prf_X_tests_73 rcX1 m τ (nI D) 24 261 s) (by
      intro m σ i hi
      show prf_R_readCond_18 rcC (m + 1) σ (nI D) (nI i) = _
      rw [prf_R_readCond_18, if_neg (show ¬ (8000 : Int32) ≤ nI i from nI_ge (b := 8000) hi (by omega)), nI_1]
      rfl) (by
      intro m τ s
      show prf_X_tests_73 rcX1 (m + 1) τ (nI D) 24 261 s = _
      rw [prf_X_tests_73]
      simp only [if_pos (show (24 : Int32) = 24 from rfl), e2]
      rfl) (fun σ => (prf_R_readBoth rcC σ (nI D)).bind fun r21 => if r21.1 = 0 then some (0, r21.2) else prf_R_readCond_18 rcC pr_FU r21.2 (nI D) 0) (fun τ => prf_X_tests rcX1 τ (nI D) 24) (fun σ => rfl) (by
      intro τ
      show prf_X_tests rcX1 τ (nI D) 24 = _
      unfold prf_X_tests
      rw [if_pos (show (24 : Int32) = 24 from rfl), if_pos (show (24 : Int32) = 24 from rfl), e2]
      rfl)
    obtain ⟨a', σ', τ', h1, h2, h3, hr⟩ := L a q d σ τ g hq hd
    have eC : prf_R_readCond rcC σ (nI D) = (prf_R_readBoth rcC σ (nI D)).bind fun r21 => if r21.1 = 0 then some (0, r21.2) else prf_R_readCond_18 rcC pr_FU r21.2 (nI D) 0 := by
      unfold prf_R_readCond
      rw [if_neg (show ¬ (60 : Int32) < nI D from nI_nlt (a := 60) hD (by omega))]
    have eX : prf_X_cond rcX τ (nI D) = (prf_X_tests rcX1 τ (nI D) 24).bind fun r6 => some (r6.1, r6.2) := by
      unfold prf_X_cond
      rw [pl_deepY hD, pl_sb, if_pos g.2.2.2.1, e1]
    refine ⟨a', σ', τ', h1, h2, h3, ?_⟩
    rw [eC, eX]
    rcases hr with ⟨y, d', G, Q, w1, w2, w3⟩ | ⟨w1, v, w2, w3⟩
    · exact Or.inl ⟨y, d', G, Q, w1, by have w2' : prf_X_tests rcX1 τ (nI D) 24 = some (nI y, τ') := w2; rw [w2', pl_sb], w3⟩
    · exact Or.inr ⟨w1, v, by have w2' : prf_X_tests rcX1 τ (nI D) 24 = some (v, τ') := w2; rw [w2', pl_sb], w3⟩
  · obtain ⟨τ1, x1, b1, fx1⟩ := pl_deepN g (D := D) (by omega) (by omega)
    have b1' := b1 d 3 (Nat.le_refl _) (by omega)
    have eC : prf_R_readCond rcC σ (nI D) = some (0, σ) := by
      unfold prf_R_readCond
      rw [if_pos (show (60 : Int32) < nI D from nI_lt (a := 60) (by omega) (by omega))]
    have eX : prf_X_cond rcX τ (nI D) = some (-1, τ1) := by
      unfold prf_X_cond
      rw [x1, pl_sb, if_neg (pl_nbW b1')]
    exact ⟨a, σ, τ1, Nat.le_refl _, pl_fc.rf, fx1 d, Or.inr ⟨eC, -1, eX, b1', pl_vi0⟩⟩
