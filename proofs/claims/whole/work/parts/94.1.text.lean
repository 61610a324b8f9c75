/-! END: the text is read, and the first name's letters begin at 0 -/
theorem pm_tloop {T : pl_Tx} : ∀ (M a fn n s q d m mC mX : Nat) (rep : Nat → Nat) (σ τ : pr_St) (Ps : List pl_En), pl_xc T ≤ a + M → M + 1 ≤ mC → M + 1 ≤ mX → pl_gs T a q d s σ τ → σ.1 2 5 = nI fn → 9 * fn ≤ pl_xP T a → 4 * s ≤ pl_xP T a → q ≤ a → τ.1 0 24 = nI n → 5 * n ≤ 8 * a + 5 → pl_NT T τ m rep a → τ.2.1 16 0 = -1 → fn = Ps.length → n = 1 + pl_tF Ps → s = pl_tS Ps → q = pl_tO Ps → pl_od (pl_aS Ps) 0 a → pl_pgs T σ τ m rep 0 1 0 0 Ps →
    ∃ (a' : Nat) (σ' τ' : pr_St), pl_fr pl_FV pl_GV σ σ' ∧ pl_fr pl_FW pl_GW τ τ' ∧ pl_tt T σ' τ' ∧ pl_at a' σ' τ' ∧ a' < pl_xc T ∧ τ'.2.1 19 0 = 0 ∧
      ((∃ (m' : Nat) (rep' : Nat → Nat) (Ps' : List pl_En), prf_R_readText_14 mC σ (nI fn) = some (1, σ') ∧ prf_X_end_57 mX τ = prf_X_end_93 τ' ∧ τ'.1 0 9 = 0 ∧ ¬ Ps' = [] ∧ Ps'.length ≤ 889 ∧ pl_tS Ps' ≤ 2000 ∧ pl_tO Ps' ≤ 8000 ∧ pl_tF Ps' ≤ 12850 ∧ σ'.1 2 5 = nI Ps'.length ∧ σ'.1 2 11 = nI (pl_tS Ps') ∧ σ'.1 2 14 = nI (pl_tO Ps') ∧ τ'.1 0 24 = nI (1 + pl_tF Ps') ∧ τ'.2.1 16 0 = -1 ∧ (∀ j k, j < k → k < m' → ¬ pl_sn T (rep' j) (rep' k)) ∧ m' ≤ 8000 ∧ pl_od (pl_aS Ps') 0 (pl_xc T) ∧ pl_pgs T σ' τ' m' rep' 0 1 0 0 Ps') ∨
       (prf_R_readText_14 mC σ (nI fn) = some (0, σ') ∧ prf_X_end_57 mX τ = prf_X_end_93 τ' ∧ τ'.1 0 9 = 1 ∧ τ'.1 0 10 = nI (pl_xP T a'))) := by
  intro M
  induction M with
  | zero =>
    intro a fn n s q d m mC mX rep σ τ Ps hM _ _ g
    have := g.1.2.2.1
    omega
  | succ M ih =>
    intro a fn n s q d m mC mX rep σ τ Ps hM hmC hmX g hf h9 h4 hq hn hn5 hNT h16 hfl hnl hsl hql hod hpg
    obtain ⟨mC, rfl⟩ : ∃ z, mC = z + 1 := ⟨mC - 1, by omega⟩
    obtain ⟨mX, rfl⟩ : ∃ z, mX = z + 1 := ⟨mX - 1, by omega⟩
    have h8 := pl_gd8 g.1
    have hP8 := pl_P8 g.1.1 g.1.2.2.1
    have n889 : ¬ (889 : Int32) ≤ nI fn := nI_ge (b := 889) (by omega) (by omega)
    -- a fresh start: no drafts, no latest statement
    have frC : pl_fr pl_FV pl_GV σ (pr_sI σ 3 3 0) := pl_sI_fr rfl
    have frX : pl_fr pl_FQ pl_GD τ (pr_sI τ 0 17 0) := pl_sI_fr rfl
    have g0 : pl_gs T a q 0 s (pr_sI σ 3 3 0) (pr_sI τ 0 17 0) := by
      obtain ⟨⟨g1, g2, g3, g4, g5, g6⟩, gs⟩ := g
      refine ⟨⟨pl_tt_fr g1 frC frX ⟨rfl, rfl, rfl, rfl, rfl, rfl⟩ ⟨rfl, rfl, rfl, rfl, rfl, rfl⟩, ⟨?_, ?_⟩, g3, ?_, ?_, pr_sI_same⟩, ?_⟩
      · rw [pr_sI_ne (by omega)]; exact g2.1
      · rw [pr_sI_ne (by omega)]; exact g2.2
      · rw [pr_sI_ne (by omega)]; exact g4
      · rw [pr_sI_ne (by omega)]; exact g5
      · rw [pr_sI_ne (by omega)]; exact gs
    obtain ⟨a1, σ1, τ1, hle1, fv1, fx1, hr1⟩ := pl_func g0 (by rw [pr_sI_ne (by omega)]; exact hf) pr_sI_same h9 hq h4
    have fvA : pl_fv fn s q σ σ1 := pl_fv.tr (b := pr_sI σ 3 3 0) ⟨frC, fun _ _ _ _ _ => rfl, fun _ _ _ _ _ => rfl, fun _ _ _ _ _ => rfl⟩ fv1 (Nat.le_refl _) (Nat.le_refl _) (Nat.le_refl _)
    have frA : pl_fr pl_FQ pl_GD τ τ1 := frX.tr fx1.1
    rcases hr1 with ⟨d1, σh, e, w1, w2, w3, g1, tr1, ops1, sts1, eK, ni1, w5, w12, w13, w14, w33, wP9, wP4, wO, wD⟩ | ⟨w1, v, w3, b1⟩
    · have h81 := pl_gd8 g1.1
      have hP81 := pl_P8 g1.1.1 g1.1.2.2.1
      have iv1 := tr1.iv
      have hlen := tr1.1
      -- the class closes the function
      obtain ⟨σ2, c1, g2, cf, c15, c16, cr, crz, cl⟩ := pl_closeFn g1 w5 (by omega) (if pl_lv 0 e.2.2.2 = 8 then 1 else 0) (by by_cases z : pl_lv 0 e.2.2.2 = 8; rw [if_pos z]; exact Or.inr rfl; rw [if_neg z]; exact Or.inl rfl)
      have eC0 : prf_R_readText_14 (mC + 1) σ (nI fn) = (prf_R_now σ2).bind fun r24 => if r24 = 0 then some (1, σ2) else prf_R_readText_14 mC σ2 (nI (fn + 1)) := by
        rw [prf_R_readText_14, if_neg n889, w1, pl_sb, if_neg (show ¬ ((1 : Int32), σh).1 = 0 from pl_10), w2, pl_sb, if_neg (show ¬ ((1 : Int32), σ1).1 = 0 from pl_10), nI_1]
        by_cases z : pl_lv 0 e.2.2.2 = 8
        · rw [if_pos z] at c1
          rw [if_pos (show (((1 : Int32), σ1).2).1 3 3 = 8 by show σ1.1 3 3 = 8; rw [w33]; exact z), c1, pl_sb]
        · rw [if_neg z] at c1
          rw [if_neg (show ¬ (((1 : Int32), σ1).2).1 3 3 = 8 by show ¬ σ1.1 3 3 = 8; rw [w33]; exact z), c1, pl_sb]
      -- the reference keeps it
      have n1 : τ1.1 0 24 = nI n := by rw [frA.1 0 24 rfl]; exact hn
      have nt1 : pl_NT T τ1 m rep a := pl_NT_eq hNT (frA.1 0 27 rfl) (frA.2.1 18 rfl) (frA.2.1 19 rfl)
      obtain ⟨τ2, m2, rep2, k1, k2, k3, k4, k5⟩ := pl_keep tr1 (by omega) g2.1.1 n1 (by omega) nt1 ni1.1 (by have := g1.1.2.2.1; omega) (pl_eF_vn eK).1 (by omega) (by rw [frA.2.1 16 rfl]; exact h16)
      obtain ⟨r1, r2, r3, r4, r5, r6, r7, r8, r9⟩ := k2
      have g3 : pl_gs T a1 (q + (pl_b3 e.2.2.2).length) d1 (s + (pl_b2 e.2.2.2).length) σ2 τ2 := by
        obtain ⟨⟨z1, z2, z3, z4, z5, z6⟩, zs⟩ := g2
        exact ⟨⟨r1, ⟨z2.1, by rw [r6.1 0 8 rfl]; exact z2.2⟩, z3, by rw [r6.1 0 9 rfl]; exact z4, z5, by rw [r6.1 0 17 rfl]; exact z6⟩, zs⟩
      have fvB : pl_fv fn s q σ σ2 := by
        refine fvA.tr (fn1 := fn) (s1 := s) (q1 := q) ⟨⟨fun o k _ => by rw [cf], fun r hr => cr r (fun z => by subst z; cases hr) (fun z => by subst z; cases hr), cl⟩, fun r z _ _ hz => crz r z (by omega), fun r z h1 h2 _ => by rw [cr r (by omega) (by omega)], fun r z h1 h2 _ => by rw [cr r (by omega) (by omega)]⟩ (Nat.le_refl _) (Nat.le_refl _) (Nat.le_refl _)
      have frB : pl_fr pl_FW pl_GW τ τ2 := (frA.wk pl_FQW pl_GDW).tr (r6.wk pl_FKW pl_GKW)
      have hpg2 : pl_pgs T σ2 τ2 m2 rep2 0 1 0 0 (Ps ++ [e]) := by
        refine pl_pgs_app Ps [e] 0 1 0 0 (pl_pgs_eq r4 r5 Ps 0 1 0 0 (fun r z h1 h2 h3 => fvB.2.1 r z h1 h2 (by omega)) (fun r z h1 h2 h3 => fvB.2.2.1 r z h1 h2 (by omega)) (fun r z h1 h2 h3 => fvB.2.2.2 r z h1 h2 (by omega)) (fun r z h1 h2 h3 h4 => ?_) hpg) ⟨⟨⟨?_, ?_, ?_, ?_, ?_⟩, ?_, ?_, ?_, ?_, ?_⟩, trivial⟩
        · have hz : τ1.2.1 r z = τ.2.1 r z := by
            rw [frA.2.1 r (by unfold pl_GD; simp only [Bool.or_eq_false_iff, beq_eq_false_iff_ne]; omega)]
          by_cases h17 : r = 17
          · subst h17
            rw [r9 z (by omega), if_neg (by simp; omega), hz]
          · rw [r8 r z h1 (by omega) (by omega), hz]
        · rw [Nat.zero_add, ← hfl, cr 12 (by decide) (by decide)]; exact w12
        · rw [Nat.zero_add, ← hfl, cr 13 (by decide) (by decide)]; exact w13
        · rw [Nat.zero_add, ← hfl, cr 14 (by decide) (by decide), Nat.zero_add, ← hsl]; exact w14
        · rw [Nat.zero_add, ← hfl, Nat.zero_add, ← hsl]; exact c15
        · rw [Nat.zero_add, ← hfl]; exact c16
        · rw [Nat.zero_add, ← hsl]
          exact pl_sts_eq _ _ (fun r z h1 h2 _ _ => by rw [cr r (by omega) (by omega)]) sts1
        · rw [Nat.zero_add, ← hql]
          have hops : ∀ (o : List pl_O) (p : Nat), pl_ops σ1 p o → pl_ops σ2 p o := by
            intro o
            induction o with
            | nil => intro p _; trivial
            | cons x l ihl => intro p hx; exact ⟨by rw [cr 22 (by decide) (by decide)]; exact hx.1, by rw [cr 23 (by decide) (by decide)]; exact hx.2.1, ihl (p + 1) hx.2.2⟩
          exact hops _ _ ops1
        · rw [← hnl]; exact k4
        · rw [← hnl]; exact k5
        · rw [Nat.zero_add, Nat.zero_add, ← hsl, ← hql]; exact eK
      have eF' : pl_tF (Ps ++ [e]) = pl_tF Ps + (pl_eF e).length := by rw [pl_tF_app]; show _ + ((pl_eF e).length + 0) = _; omega
      have eS' : pl_tS (Ps ++ [e]) = pl_tS Ps + (pl_b2 e.2.2.2).length := by rw [pl_tS_app]; show _ + ((pl_b2 e.2.2.2).length + 0) = _; omega
      have eO' : pl_tO (Ps ++ [e]) = pl_tO Ps + (pl_b3 e.2.2.2).length := by rw [pl_tO_app]; show _ + ((pl_b3 e.2.2.2).length + 0) = _; omega
      have eL' : (Ps ++ [e]).length = Ps.length + 1 := by rw [List.length_append]; rfl
      have h16' : τ2.2.1 16 0 = -1 := by rw [r8 16 0 (by decide) (by decide) (by omega), frA.2.1 16 rfl]; exact h16
      have od2 : pl_od (pl_aS (Ps ++ [e])) 0 a1 := by
        rw [pl_aS_app]
        refine pl_od_app _ _ _ a _ hod ?_
        show pl_od (pl_b2 e.2.2.2 ++ []) a a1
        rw [List.append_nil]
        exact ni1.2
      have eX0 : prf_X_end_57 (mX + 1) τ = prf_X_end_79 (prf_X_end_57 mX) τ2 := by
        rw [prf_X_end_57, w3, pl_sb, if_pos (show (((nI 0), τ1).2).1 0 9 = 0 from g1.1.2.2.2.1), k1, pl_sb]
      rw [pl_nowG g3.1, pl_sb] at eC0
      rw [prf_X_end_79, pl_lookG g3.1, pl_sb] at eX0
      by_cases k0 : pl_xK T a1 = 0
      · rw [k0, if_pos (show nI 0 = 0 from rfl)] at eC0
        rw [k0, if_pos (show nI (pl_km 0) = 0 from rfl)] at eX0
        refine ⟨a1, σ2, τ2, fvB.1, frB, g3.1.1, g3.1.2.1, g3.1.2.2.1, (by rw [k3.2.1 0 (Nat.zero_le _)]; rfl), Or.inl ⟨m2, rep2, Ps ++ [e], eC0, eX0, g3.1.2.2.2.1, by simp, by omega, by omega, by omega, by omega, by rw [eL', cf, w5, hfl], by rw [eS', ← hsl]; exact g3.2, by rw [eO', ← hql]; exact g3.1.2.2.2.2.1, ?_, h16', k3.2.2.2.1, ?_, pl_od_hi od2 (by have := g3.1.2.2.1; omega), hpg2⟩⟩
        · rw [eF', r2, hnl, show 1 + pl_tF Ps + (pl_eF e).length = 1 + (pl_tF Ps + (pl_eF e).length) by omega]
        · have := k3.2.2.2.2.1
          omega
      · rw [if_neg (pl_cn (pl_gdK g3.1) (j := 0) (v := 0) (by decide) rfl k0)] at eC0
        rw [if_neg (pl_kn (pl_gdK g3.1) (j := 0) (v := 0) (by decide) rfl k0), if_pos g3.1.2.2.2.1] at eX0
        obtain ⟨a', σ', τ', i1, i2, i3, i4, i5, i6, hr⟩ := ih a1 (fn + 1) (n + (pl_eF e).length) (s + (pl_b2 e.2.2.2).length) (q + (pl_b3 e.2.2.2).length) d1 m2 mC mX rep2 σ2 τ2 (Ps ++ [e]) (by
          have : a < a1 := by
            by_cases z : a = a1
            · subst z; omega
            · omega
          omega) (by omega) (by omega) g3 (by rw [cf]; exact w5) (by omega) (by omega) (by omega) r2 (by omega) k3 h16' (by rw [eL']; omega) (by rw [eF']; omega) (by rw [eS']; omega) (by rw [eO']; omega) od2 hpg2
        refine ⟨a', σ', τ', fvB.1.tr i1, frB.tr i2, i3, i4, i5, i6, ?_⟩
        rw [eC0, eX0]
        exact hr
    · have eX : prf_X_end_57 (mX + 1) τ = prf_X_end_93 τ1 := by
        rw [prf_X_end_57, w3, pl_sb, if_neg (show ¬ ((v, τ1).2).1 0 9 = 0 from pl_nbW b1), prf_X_end_79]
        show (prf_X_look τ1).bind _ = _
        rw [pl_lookW b1, pl_sb, if_neg (show ¬ (1 : Int32) = 0 by decide), if_neg (show ¬ ((v, τ1).2).1 0 9 = 0 from pl_nbW b1)]
      have eC : prf_R_readText_14 (mC + 1) σ (nI fn) = some (0, σ1) := by
        rcases w1 with w1 | ⟨σh, w1, w2⟩
        · rw [prf_R_readText_14, if_neg n889, w1, pl_sb, if_pos rfl]
        · rw [prf_R_readText_14, if_neg n889, w1, pl_sb, if_neg (show ¬ ((1 : Int32), σh).1 = 0 from pl_10), w2, pl_sb, if_pos rfl]
      exact ⟨a1, σ1, τ1, fvA.1, frA.wk pl_FQW pl_GDW, b1.1, b1.2.1, b1.2.2.1, (by rw [frA.2.1 19 rfl, hNT.2.1 0 (Nat.zero_le _)]; rfl), Or.inr ⟨eC, eX, b1.2.2.2.1, b1.2.2.2.2.1⟩⟩
