/-! THE LAYOUT: every BLOCK -/
theorem pl_tok1 {T : pl_Tx} {f s q : Nat} {E : List (Nat × Bool)} {F : List pl_N} {S' : List pl_S} {O : List pl_O} {r : pl_S} (i1 : pl_sT T f s q E F (r :: S') O) : r.2.1 < r.2.2.2.2.2.2 := by
  cases f with
  | zero => exact i1.elim
  | succ f =>
      rcases i1 with (⟨t, _, _, _, _, q, _⟩ | ⟨t, eb, _, _, _, _, _, hcm, _, _, q⟩ | ⟨t, _, _, _, _, _, _, _, q, _⟩ | ⟨t, eb, _, _, _, _, _, hcm, _, _, q⟩ | ⟨t, eb, e, _, _, _, _, _, _, _, _, _, hcm, hcm2, _, _, _, _, q⟩ | ⟨t, n0, e, _, _, _, hn0, hcm, _, _, _, _, q, _⟩ | ⟨t, eb, _, _, _, _, _, hcm, _, _, q⟩ | ⟨t, eb, _, _, _, hcm, _, _, q⟩) | ⟨kr, t, eb, C, Qc, B1, S1, O1, B2, S2, O2, hkr, k1, k2, k3, hcm, hcd, hB1, hB2, eF, q, eO⟩
      · rw [(List.cons.inj q).1]; show t < t + 3; omega
      · rw [(List.cons.inj q).1]; have := hcm.1; show t < eb + 1; omega
      · rw [(List.cons.inj q).1]; show t < t + 6; omega
      · rw [(List.cons.inj q).1]; have := hcm.1; show t < eb + 1; omega
      · rw [(List.cons.inj q).1]; have := hcm.1; have := hcm2.1; show t < e + 1; omega
      · rw [(List.cons.inj q).1]
        show t < e + 2
        rcases hcm with ⟨_, w⟩ | w
        · omega
        · have := w.1; omega
      · rw [(List.cons.inj q).1]; have := hcm.1; show t < eb + 2; omega
      · rw [(List.cons.inj q).1]; have := hcm.1; show t < eb + 1; omega
      · rw [(List.cons.inj q).1]; have := hcm.1; show t < eb + 1; omega
theorem pl_LSall {T : pl_Tx} {m : Nat} {rep : Nat → Nat} {Ps : List pl_En} {W : pl_Wt} {A E : List (Nat × Bool)} {h d p ii nb bb fi send b bF f k s q bs x nf lf l1 : Nat} {par : Int32} {σ τ : pr_St} {F : List pl_N} {S : List pl_S} {O : List pl_O} {r : pl_S} {S' : List pl_S} (hLB : pl_LBh T m rep Ps h) (hh : 260 ≤ h + (p + 1)) (hc : pl_cx T m rep Ps W A E d p ii nb bb fi send b bF f k s q bs x par σ τ F S O) (hx3 : x ≤ 3 * p) (hfF : pl_fF Ps fi nf lf bF b bs τ) (hb86 : b + bs ≤ 12860) (hff : pl_ff Ps fi nf lf bF b k l1 τ) (hl1 : l1 = 1 ↔ k + F.length = b + bs) (eS : S = r :: S') :
    pl_LS T m rep Ps W A E d p ii bb fi send b bF k s bs x par σ τ F S r.1 (prf_X_statement5 (prF_X_block4 (h + 1)) τ (nI k) (nI b) (nI nf) par (nI ii)) := by
  have hZ := hc.1
  have his := hc.2.1
  have h249 : p ≤ 249 := hZ.2.2.2.1.2.2.1
  by_cases hp : p < 249
  · have i1 := his.1
    cases f with
    | zero => exact i1.elim
    | succ f =>
      rcases i1 with (h1 | h1 | h1 | h1 | h1 | h1 | h1 | h1) | ⟨kr, t, eb, C, Qc, B1, S1, O1, B2, S2, O2, hkr, k1, k2, k3, hcm, hcd, hB1, hB2, eF, eS', eO⟩
      · have e1 : r.1 = 1 := by obtain ⟨_, _, _, _, _, q, _⟩ := h1; rw [eS] at q; rw [(List.cons.inj q).1]
        rw [e1]; exact pl_var1L hc hp h1
      · have e1 : r.1 = 1 := by obtain ⟨_, _, _, _, _, _, _, _, _, _, q⟩ := h1; rw [eS] at q; rw [(List.cons.inj q).1]
        rw [e1]; exact pl_var2L hc hp h1
      · have e1 : r.1 = 1 := by obtain ⟨_, _, _, _, _, _, _, _, q, _⟩ := h1; rw [eS] at q; rw [(List.cons.inj q).1]
        rw [e1]; exact pl_var3L hc hp h1
      · have e1 : r.1 = 2 := by obtain ⟨_, _, _, _, _, _, _, _, _, _, q⟩ := h1; rw [eS] at q; rw [(List.cons.inj q).1]
        rw [e1]; exact pl_stSetL hc hp h1
      · have e1 : r.1 = 3 := by obtain ⟨_, _, _, _, _, _, _, _, _, _, _, _, _, _, _, _, _, _, q⟩ := h1; rw [eS] at q; rw [(List.cons.inj q).1]
        rw [e1]; exact pl_stPlaceL hc hp h1
      · have e1 : r.1 = 4 := by obtain ⟨_, _, _, _, _, _, _, _, _, _, _, _, q, _⟩ := h1; rw [eS] at q; rw [(List.cons.inj q).1]
        rw [e1]; exact pl_stCallL hLB hh hc hp hx3 hfF h1
      · have e1 : r.1 = 7 := by obtain ⟨_, _, _, _, _, _, _, _, _, _, q⟩ := h1; rw [eS] at q; rw [(List.cons.inj q).1]
        rw [e1]; exact pl_stAssL hc hp h1
      · have e1 : r.1 = 8 := by obtain ⟨_, _, _, _, _, _, _, _, q⟩ := h1; rw [eS] at q; rw [(List.cons.inj q).1]
        rw [e1]; exact pl_stRetL hc hp hff hl1 h1
      · have e1 : r.1 = kr - 3 := by have q := eS'; rw [eS] at q; rw [(List.cons.inj q).1]
        rw [e1]
        exact pl_stBrL hLB hh hc hp hx3 hfF hb86 hkr k1 k2 k3 hcm hcd hB1 hB2 eF eS' eO
  · subst eS
    have hown := pl_own hZ.1 his
    obtain ⟨_, _, h42, hse, hx, _⟩ := hc
    have hlt : r.2.1 < pl_xc T := by
      have := pl_tok1 his.1
      omega
    exact Or.inr (pl_full hZ his h42 hse (by omega) hx hlt)
theorem pl_lk_x : ∀ (l : List (List pl_N × List pl_S × List pl_O)) (k : Nat) (x y : Int32), ¬ l = [] → pl_lk k x l = pl_lk k y l := by
  intro l k x y h
  cases l with
  | nil => exact absurd rfl h
  | cons e l => rfl
theorem pl_LBall {T : pl_Tx} {m : Nat} {rep : Nat → Nat} {Ps : List pl_En} : ∀ h, pl_LBh T m rep Ps h := by
  intro h
  induction h with
  | zero =>
    intro Ls f b k s q E A W d p ii nb bb fi send bF bs x nf lf gX par v5 v6 v7 σ τ hZ _ _ _ _ _ _ _ _ _ _ hh _
    have := hZ.2.2.2.1.2.2.1
    omega
  | succ h ihh =>
    intro Ls
    induction Ls with
    | nil =>
      intro f b k s q E A W d p ii nb bb fi send bF bs x nf lf gX par v5 v6 v7 σ τ hZ hil h42 hs hk hb h17 hx hsv hfF hlast hh hg
      have hk' : k + 0 = b + bs := hk
      have hs' : s + 0 = send := hs
      obtain ⟨gX, rfl⟩ : ∃ z, gX = z + 1 := ⟨gX - 1, by omega⟩
      refine Or.inl ⟨0, p, W, σ, τ, by omega, fun g => rfl, ?_, ⟨⟨nb, hZ⟩, by rw [h42, ← hs', Nat.add_zero], pl_fz.rf, fun _ _ => rfl, Nat.le_refl _, hsv, fun z h1 h2 => by omega, fun y h1 h2 => by omega, ⟨[], by rw [List.append_nil]; rfl⟩, rfl, fun nb0 h0 _ => ⟨nb0, h0, Nat.le_refl _, by omega⟩⟩, fun z h1 h2 => by omega, fun _ => rfl, fun q => absurd rfl q⟩
      rw [prf_X_block4_23, pl_behX (by omega) h17, pl_sb, if_pos (show nI (b + bs) ≤ nI k from nI_le (by omega) (by omega))]
      rfl
    | cons e l ih =>
      intro f b k s q E A W d p ii nb bb fi send bF bs x nf lf gX par v5 v6 v7 σ τ hZ hil h42 hs hk hb h17 hx hsv hfF hlast hh hg
      have h249 : p ≤ 249 := hZ.2.2.2.1.2.2.1
      obtain ⟨his, hil2⟩ := hil
      obtain ⟨h17k, hF1⟩ := pl_is_17 his
      obtain ⟨r, S', er, _, er5, erE⟩ := pl_sT_hd his.1
      have el1 : (pl_b1 (e :: l)).length = e.1.length + (pl_b1 l).length := by show (e.1 ++ pl_b1 l).length = _; rw [List.length_append]
      have el2 : (pl_b2 (e :: l)).length = e.2.1.length + (pl_b2 l).length := by show (e.2.1 ++ pl_b2 l).length = _; rw [List.length_append]
      have hS1 : 1 ≤ e.2.1.length := by rw [er, List.length_cons]; omega
      rw [el1] at hk hg
      rw [el2] at hs
      have hl0 : l = [] ∨ (¬ l = [] ∧ 1 ≤ (pl_b1 l).length ∧ 1 ≤ (pl_b2 l).length) := by
        by_cases ql : l = []
        · exact Or.inl ql
        · exact Or.inr ⟨ql, pl_il_ne hil2 ql⟩
      have hl00 : l = [] → (pl_b1 l).length = 0 ∧ (pl_b2 l).length = 0 := fun q => by rw [q]; exact ⟨rfl, rfl⟩
      have hiff : s + e.2.1.length = send ↔ k + e.1.length = b + bs := by
        rcases hl0 with ql | ⟨_, q1, q2⟩
        · obtain ⟨q1, q2⟩ := hl00 ql
          constructor
          · intro _; omega
          · intro _; omega
        · constructor
          · intro _; omega
          · intro _; omega
      have hcx : pl_cx T m rep Ps W A E d p ii nb bb fi send b bF f k s q bs x par σ τ e.1 e.2.1 e.2.2 := ⟨hZ, his, h42, by omega, by omega, h17, by omega, by omega, hiff, hsv, by omega⟩
      obtain ⟨y, ey, y1, y2, y3⟩ := pl_lk_ge l (k + e.1.length) k (by omega) (fun z hz => by
        have : ∀ (l : List (List pl_N × List pl_S × List pl_O)) (k s q : Nat) (E : List (Nat × Bool)), pl_il T m rep Ps σ τ f b k s q E l → ∀ z, z ∈ l → 1 ≤ z.1.length := by
          intro l
          induction l with
          | nil => intro k s q E _ z hz; cases hz
          | cons a l ih =>
            intro k s q E hl z hz
            rcases List.mem_cons.mp hz with rfl | hz
            · exact (pl_is_17 hl.1).2
            · exact ih _ _ _ _ hl.2 z hz
        exact this l _ _ _ _ hil2 z hz)
      have hff : pl_ff Ps fi nf lf bF b k (if l = [] then 1 else 0) τ := by
        obtain ⟨a1, a2, a3, a4, a5, a6, a7, a8, a9, a10⟩ := hfF
        refine ⟨a2, a3, a4, a5, a9, fun τ1 f1 => ⟨(a10 τ1 f1).1, (a10 τ1 f1).2.1, y, ?_, by omega, ?_⟩⟩
        · rw [hlast (List.cons_ne_nil _ _) τ1 f1]
          exact congrArg some ey
        · by_cases ql : l = []
          · rw [if_pos ql]; exact ⟨fun _ => rfl, fun _ => y1 ql⟩
          · rw [if_neg ql]
            have := y2 ql
            exact ⟨fun q => by omega, fun q => by omega⟩
      have hl1 : (if l = [] then 1 else 0) = 1 ↔ k + e.1.length = b + bs := by
        rcases hl0 with ql | ⟨ql, q1, q2⟩
        · obtain ⟨q1, q2⟩ := hl00 ql
          rw [if_pos ql]
          exact ⟨fun _ => by omega, fun _ => rfl⟩
        · rw [if_neg ql]
          exact ⟨fun q => by omega, fun q => by omega⟩
      have hLS := pl_LSall ihh (by omega) hcx hx hfF (by omega) hff hl1 er
      obtain ⟨gX, rfl⟩ : ∃ z, gX = z + 2 := ⟨gX - 2, by omega⟩
      have hstep : prf_X_block4_23 (prF_X_block4 (h + 1)) (gX + 2) τ (nI b) (nI nf) par (nI ii) v5 v6 v7 (nI k) = (prf_X_statement5 (prF_X_block4 (h + 1)) τ (nI k) (nI b) (nI nf) par (nI ii)).bind fun r9 => (prf_X_behind r9 (nI k)).bind fun r10 => prf_X_block4_23 (prF_X_block4 (h + 1)) (gX + 1) r9 (nI b) (nI nf) par (nI ii) v5 v6 v7 r10 := by
        rw [prf_X_block4_23, pl_behX (by omega) h17, pl_sb, if_neg (show ¬ nI (b + bs) ≤ nI k from nI_ge (by omega) (by omega)), if_pos hZ.2.2.1.2]
      unfold pl_LBr
      rw [hstep]
      rcases hLS with hg1 | hbad
      · obtain ⟨n1, p1, W1, σ1, τ1, a1, a2, a3, a4, a5, a6, a7, a8, a9, a10, a11⟩ := hg1
        obtain ⟨⟨nb1, hZ1⟩, b2, b3, b4, b5, b6, b7, b8, ⟨X1, b9⟩, b10⟩ := a4
        have fσ := b3.1
        have fτ := b3.2.1
        have hp1 : p1 ≤ 249 := hZ1.2.2.2.1.2.2.1
        have e17k1 : τ1.2.1 17 k = nI e.1.length := by rw [fτ.2.1 17 rfl]; exact h17k
        have hih := ih f b (k + e.1.length) (s + e.2.1.length) (q + e.2.2.length) (pl_ex (pl_xK T) E e.2.1) A W1 d p1 ii nb1 bb fi send bF bs (x + n1) nf lf (gX + 1) par v5 v6 v7 σ1 τ1 hZ1 (pl_il_fr fσ fτ _ _ _ _ _ hil2) b2 (by omega) (by omega) hb (by rw [fτ.2.1 17 rfl]; exact h17) (by omega) b6 (pl_fF_in hfF fτ (Nat.le_refl _) (Nat.le_refl _) (by omega)) (fun ql τ2 f2 => by
          rw [hlast (List.cons_ne_nil _ _) τ2 (fτ.tr f2)]
          exact congrArg some (pl_lk_x l _ _ _ ql)) (by omega) (by omega)
        rw [a3, pl_sb, pl_behX (by omega) e17k1, pl_sb]
        -- the point of the statement itself
        have hptp := b7 p (Nat.le_refl _) a5
        have h21 : ∃ ky, τ1.2.1 21 p = par ∧ τ1.2.1 20 p = nI ky ∧ ky < 13000 ∧ τ1.2.1 16 ky = nI b := by
          rcases b8 p (Nat.le_refl _) a5 with q | ⟨pp, q1, q2, q3⟩
          · exact q
          · obtain ⟨_, _, _, _, _, _, _, _, _, _, _, par', _, _, _, _, w5, _, _, ⟨w8, _⟩, _⟩ := hptp
            have w21 := w5.2.1
            rw [q1] at w21
            rcases w8 with ⟨w, _⟩ | ⟨pp', w, hw, _⟩
            · rw [w] at w21
              exact absurd w21 (pl_nIm1 (by omega))
            · rw [w] at w21
              have := (nI_eq (by omega) (by omega)).mp w21
              omega
        rcases hih with ⟨n2, p2, W2, σ2, τ2, c1, c2, c3, c4, c5, c6, c7⟩ | hbad
        · obtain ⟨⟨nb2, hZ2⟩, d2, d3, d4, d5, d6, d7, d8, ⟨X2, d9⟩, d10⟩ := c4
          have hp2 : p2 ≤ 249 := hZ2.2.2.2.1.2.2.1
          have hEl : (A ++ E).length ≤ (A ++ pl_ex (pl_xK T) E e.2.1).length := by rw [b9, List.length_append, List.length_append, List.length_append]; omega
          obtain ⟨f1, f2, f3, f4, f5, f6, f7, f8, f9⟩ := id d3
          refine Or.inl ⟨n1 + n2, p2, W2, σ2, τ2, by omega, fun g => ?_, c3, ⟨⟨nb2, hZ2⟩, d2, b3.tr d3 (by omega) hEl, fun z hz => by rw [d4 z (by omega)]; exact b4 z hz, by omega, d6, fun z h1 h2 => ?_, fun y h1 h2 => ?_, ⟨X1 ++ X2, ?_⟩, by rw [d10.1, b10.1], fun nb0 h0 hle => ?_⟩, fun z h1 h2 => ?_, fun q => absurd q (List.cons_ne_nil _ _), fun _ => ⟨by omega, by rw [d4 p a5]; exact a6, ?_⟩⟩
          · rw [show g + (n1 + n2) = (g + n2) + n1 by omega, a2 (g + n2), c2 g, show x + n1 + n2 = x + (n1 + n2) by omega]
          · by_cases hz : z < p1
            · exact pl_pt_fz (b7 z h1 hz) d3 d5 hp2 d4
            · exact d7 z (by omega) h2
          · by_cases hy : y < p1
            · exact pl_lev_fz b8 d3 y h1 hy
            · rcases d8 y (by omega) h2 with w | ⟨pp, w1, w2, w3⟩
              · exact Or.inl w
              · exact Or.inr ⟨pp, w1, by omega, w3⟩
          · show pl_exs (pl_xK T) (pl_ex (pl_xK T) E e.2.1) l = _
            rw [d9, b9, List.append_assoc]
          · obtain ⟨m1, o1, o2, o3⟩ := b10.2 nb0 h0 hle
            obtain ⟨m2, o4, o5, o6⟩ := d10.2 m1 o1 (by omega)
            exact ⟨m2, o4, by omega, by omega⟩
          · by_cases hz : z < p1
            · by_cases hzp : z = p
              · subst hzp
                intro h33
                rw [f3 33 z (by decide) (by decide) a5, a9] at h33
                have hnl : ¬ k + e.1.length = b + bs := fun w => by rw [if_pos w] at h33; exact absurd h33 (by decide)
                have hl' : ¬ l = [] := fun w => hnl (by obtain ⟨q1, q2⟩ := hl00 w; omega)
                obtain ⟨g1, g2, _⟩ := c7 hl'
                refine ⟨p1, by rw [f3 35 z (by decide) (by decide) a5]; exact a8, a5, g1, by rw [g2, d4 z a5, a6], ?_⟩
                rw [f3 25 z (by decide) (by decide) a5, f3 27 z (by decide) (by decide) a5, a10, a11, g2, d4 z a5, a6]
                by_cases q1 : r.1 = 1
                · refine Or.inr ⟨by rw [q1]; rfl, s, r.2.1, rfl, ?_, ?_, ?_, ?_⟩
                  · have := his.2.2.2.2.2.2.1.2.2.1; omega
                  · rw [f1.2.1 18 rfl, fσ.2.1 18 rfl]
                    have i4 := his.2.2.2.1
                    rw [er] at i4
                    exact i4.1.2.1
                  · have h2 : pl_is T m rep Ps σ τ f b k s q E e.1 (r :: S') e.2.2 := by rw [← er]; exact his
                    have := pl_own hZ.1 h2
                    have := pl_c8 hZ.1.1
                    have := pl_tok1 h2.1
                    omega
                  · show pl_ex (pl_xK T) E e.2.1 = _
                    rw [er]
                    exact if_pos q1
                · refine Or.inl ⟨pl_nn (j := 1) ?_ (by decide) rfl q1, ?_⟩
                  · obtain ⟨_, _, _, _, _, r', _, _, es, hrk, _⟩ := pl_sT_kd his.1
                    rw [er] at es
                    rw [(List.cons.inj es).1]
                    unfold pl_rk at hrk
                    omega
                  · show pl_ex (pl_xK T) E e.2.1 = _
                    rw [er]
                    exact if_neg q1
              · exact pl_pg_fz (a7 z (by omega) hz) d3 hz d5 d4
            · exact c5 z (by omega) h2
          · obtain ⟨ky, w1, w2, w3, w4⟩ := h21
            exact ⟨ky, by rw [f7 21 p (by decide) (by decide) a5]; exact w1, by rw [f7 20 p (by decide) (by decide) a5]; exact w2, w3, by rw [f2.2.1 16 rfl]; exact w4⟩
        · exact Or.inr (pl_brBad hbad rfl a2 fσ fτ (fun τ' e1 e2 e3 => ⟨τ', e1, rfl, rfl, pl_fr.rf⟩))
      · refine Or.inr ?_
        obtain ⟨n, σ', τ', g1, g2, g3, g4, g5, g6, g7, g8⟩ := hbad
        have e17k1 : τ'.2.1 17 k = nI e.1.length := by rw [g7.2.1 17 rfl]; exact h17k
        have e17b1 : τ'.2.1 17 b = nI bs := by rw [g7.2.1 17 rfl]; exact h17
        rw [g2, pl_sb, pl_behX (by omega) e17k1, pl_sb, prf_X_block4_23, pl_behX (by omega) e17b1, pl_sb, if_neg (pl_neg0 g3)]
        refine ⟨n, σ', pl_rs τ' v5 v6 v7, g1, ?_, g3, g4, g5, g6, g7.tr pl_rs_fr, g8⟩
        by_cases w : nI (b + bs) ≤ nI (k + e.1.length)
        · rw [if_pos w]; rfl
        · rw [if_neg w]; rfl
