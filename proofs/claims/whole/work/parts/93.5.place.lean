/-! THE MACHINE: NAME [ SUM ] = SUM ; -/
theorem pm_st5 {T : pl_Tx} {m : Nat} {rep : Nat → Nat} {Ps : List pl_En} {W : pl_Wt} {P : Nat} {nx : Nat → Nat} {σp τp σ0 σ τ : pr_St} {z ic rd f k s q en : Nat} {F : List pl_N} {S' : List pl_S} {O : List pl_O} {r : pl_S} {par : Int32} (hE : pm_En T m rep Ps W P nx z ic rd σp τp σ τ) (hPt : pm_Pt T m rep Ps W P nx z σ0 σ τ τp f k s q en F S' O r par) (h : pl_st5 T s q (W z).2 F (r :: S') O) : pm_SR T W P z ic rd σ τ := by
  obtain ⟨t, b, e, G, H, Q, R, k1, k2, k3, k4, k5, hcm1, hcm2, hs1, hs2, rfl, rfl, hS⟩ := h
  obtain ⟨hr, hS'⟩ := List.cons.inj hS
  subst hS'
  have hr1 : r.1 = 3 := by rw [hr]
  have hrt : r.2.1 = t := by rw [hr]
  have hre : r.2.2.2.2.2.2 = e + 1 := by rw [hr]
  obtain ⟨hRP, hT0, hag, hax, hz, h55, hcl, har, hi, hrd, h11, h59⟩ := id hE
  have hv := pm_vc1 hRP hT0 hag hz hPt h55 hcl har
  have htv := hv.1
  have hb1 : b + 1 + 1 < pl_xc T := htv.2.2.2.2 (b + 1) (by omega)
  have he1 : e + 1 < pl_xc T := htv.2.2.2.2 e (by omega)
  have n1 := pm_nq1 hPt
  obtain ⟨⟨a1, a2, a3, a4, a5⟩, b2, c3, b4, b5, b6, b7, _, ⟨_, pk, _⟩, d1, d2, _⟩ := id hPt
  have hab := hcm1.1
  have hbe := hcm2.1
  have lO : (((36, nI t) :: (Q ++ [(37, (-1 : Int32))])) ++ R).length = Q.length + R.length + 2 := by
    rw [List.length_append, List.length_cons, List.length_append]; show Q.length + 1 + 1 + R.length = _; omega
  have hqO := b2.2.1
  have hk := b2.1
  rw [List.length_cons, List.length_cons, List.length_append] at hk
  rw [lO] at a5 hqO
  have h8 := b2.2.2.2.1
  have hlk1 := pm_lkc hRP.1.1 hcm1 (by omega) (by omega) c3.1 c3.2.1 (by omega) (by omega) (fun w => by omega)
  have hlk2 := pm_lkc hRP.1.1 hcm2 (by omega) (by omega) c3.1 c3.2.1 (by omega) (by omega) (fun w => by omega)
  have hso : pl_so T (W z).2 t true (σ.2.1 24 t) := by
    have := c3.1 t (by omega) (by omega) k1 (by omega) (fun w => by omega)
    rw [c3.2.1, show (pl_xK T (t + 1) == 16) = true by simp [k2]] at this
    exact this
  have r13 : τ.2.1 13 k = nI 6 := a2.1.1
  have r17a : τ.2.1 17 (k + 1) = nI 1 := a2.2.1.2.2.2.2
  obtain ⟨id', i1, i2, i3⟩ := a2.2.1.2.2.1 rfl
  obtain ⟨nd1, nd2⟩ := pl_nd_l G H (k + 2) a2.2.2
  have rG : τ.2.1 17 (k + 2) = nI G.length := pm_sz (pl_sm_ro hs1) nd1
  have head : prf_X_step τ = (prf_X_placeOf (prF_X_reckon 200) τ (nI (k + 1)) (nI (k + 2))).bind fun r146 => (prf_X_second r146.2 (nI k)).bind fun r147 => (prf_X_behind r146.2 r147).bind fun r148 => (prf_X_reckon (prF_X_reckon 200) r146.2 r148).bind fun r149 => if (r149.2.1 0 59) = 0 then (pr_ck r146.1 384 <| (prf_X_after (pr_sA r149.2 35 (upd (r149.2.2.1 35) r146.1.toNatClampNeg r149.1.toInt32)) (nI z)).bind fun r153 => some (r153, (pr_sA r149.2 35 (upd (r149.2.2.1 35) r146.1.toNatClampNeg r149.1.toInt32)))) else ((prf_X_after r149.2 (nI z)).bind fun r151 => some (r151, r149.2)) := by
    unfold prf_X_step
    rw [h55, pl_ck (show z < 250 by omega) (by omega), nI_clamp (show z < 2 ^ 31 by omega), b6.1, pl_ck (show k < 13000 by omega) (by omega), nI_clamp (show k < 2 ^ 31 by omega), r13, if_neg (show ¬ nI 6 = 3 by decide), if_neg (show ¬ nI 6 = 4 by decide), if_neg (show ¬ nI 6 = 5 by decide), if_pos (show nI 6 = 6 from rfl), pm_secX (by omega) r17a, pl_sb, nI_1]
  -- there was a trap before the second SUM
  have hXt : ∀ τx : pr_St, prf_X_placeOf (prF_X_reckon 200) τ (nI (k + 1)) (nI (k + 2)) = some (0, τx) → pl_fr pm_FT pm_GT τ τx → (0 : Int32) < τx.1 0 59 → prf_X_step τ = some (nI (nx z), τx) := by
    intro τx h1 h2 h3
    have q1 : τx.2.1 17 (k + 1) = nI 1 := by rw [h2.2.1 17 rfl]; exact r17a
    have q2 : τx.2.1 17 (k + 2) = nI G.length := by rw [h2.2.1 17 rfl]; exact rG
    rw [head, h1, pl_sb]
    dsimp only
    rw [pm_secX (by omega) q1, pl_sb, pl_behX (by omega) q2, pl_sb, pm_rkB h3, pl_sb]
    dsimp only
    rw [if_neg (pl_neg0 h3), pm_aft hPt hax (pm_fxE h2), pl_sb]
  -- the class
  have f01 : pl_fr pm_FE pm_GE σ (pr_sI σ 7 13 (nI 0)) := pl_sI_fr (o := 7) (k := 13) rfl
  have erk := pm_rk b7.2.2.2.2.2.1 b7.2.2.1 hz b4.2.1 n1 a5
  obtain ⟨σ1, hσ1⟩ : ∃ σ1, σ1 = pr_sI σ 7 13 (nI 0) := ⟨_, rfl⟩
  have s13 : σ1.1 7 13 = nI 0 := by rw [hσ1]; exact pr_sI_same
  have s11 : σ1.1 7 11 = 0 := by rw [hσ1, pr_sI_ne (by omega)]; exact h11
  have si : pm_iv ic rd σ1 τ := by rw [hσ1]; exact pm_iv_eq hi f01 pl_fr.rf (by rw [pr_sI_ne (by omega)]) rfl
  rw [← hσ1] at f01 erk
  have hv1 := pm_vc_fr hv f01 (pl_fr.rf (σ := τ))
  obtain ⟨o1, o2⟩ := pm_vcO hv1
  have ops1 := pm_ops f01 a3
  obtain ⟨pa, pR⟩ := pm_opl _ _ _ ops1
  have pa' : σ1.2.1 22 q = nI 36 ∧ σ1.2.1 23 q = nI t ∧ pl_ops σ1 (q + 1) (Q ++ [(37, -1)]) := pa
  obtain ⟨pQ, p37⟩ := pm_opl _ _ _ pa'.2.2
  have pR' : pl_ops σ1 (q + Q.length + 2) R := by
    rw [show q + Q.length + 2 = q + ((36, nI t) :: (Q ++ [(37, (-1 : Int32))])).length by rw [List.length_cons, List.length_append]; show q + Q.length + 2 = q + (Q.length + 1 + 1); omega]
    exact pR
  obtain ⟨sl, Rm, hsl, hR1, hR, e1, e2, e3, e4, e5⟩ := pm_arr hv1 (show t < pl_xc T by omega) (by rw [f01.2.1 24 rfl]; exact hso)
  have er : prf_M_reckonOne σ1 (nI z) (nI 36) (nI t) = some (pm_ph σ1 0 (nI sl)) := by
    unfold prf_M_reckonOne
    rw [if_neg (by decide), if_neg (by decide), if_neg (by decide), if_neg (by decide), if_pos (by decide), e1, pl_sb, e2, pl_sb, nI_add, show pl_cnt true (W z).1 + (sl - pl_cnt true (W z).1) = sl by omega, pm_push s13 (by omega), pl_sb]
  have go1 := pm_op1 (z := z) (qe := q + (Q.length + R.length + 2)) o1 o2 (by omega) hqO s11 pa'.1 pa'.2.1 (Or.inr (Or.inr (Or.inr (by omega)))) er
  have eg1 : pm_EG 0 ic rd (nI sl) σ1 τ (pm_ph σ1 0 (nI sl)) τ := pm_EGq pl_fr.rf pl_fr.rf (fun _ _ => rfl) s11 h59 si
  obtain ⟨σ2, hσ2⟩ : ∃ σ2, σ2 = pm_ph σ1 0 (nI sl) := ⟨_, rfl⟩
  rw [← hσ2] at go1 eg1
  obtain ⟨f1, _, g13, g51, gj, g11, _, giv⟩ := eg1
  have hv2 := pm_vc_fr hv1 f1 (pl_fr.rf (σ := τ))
  have hQsum := pm_sum (qe := q + (Q.length + R.length + 2)) (ic := ic) 190 G Q (k + 2) (q + 1) 1 rd σ2 τ hs1 ⟨hv2, giv, nd1, pm_ops f1 pQ, pm_lk_fr hlk1 ((f01.tr f1).2.1 24 rfl), ⟨by omega, by omega, hqO, by omega⟩, g13, g11, h59⟩ (by omega)
  rcases hQsum with ⟨n, v, rd1, σ3, τ3, x1, x2, x3, x4, x5⟩ | ⟨n, w, rd1, σ3, τ3, x1, x2, x3, x4, x5⟩
  · obtain ⟨y1, y2, y13, y51, yj, y11, y59, yiv⟩ := x5
    dsimp only at x4
    have hv3 := pm_vc_fr hv2 y1 y2
    obtain ⟨o1', o2'⟩ := pm_vcO hv3
    have fa := (f01.tr f1).tr y1
    have h49 : σ3.2.1 49 sl = nI Rm := by rw [(f1.tr y1).2.1 49 rfl]; exact e4
    have e0 : σ3.2.1 51 0 = nI sl := by rw [yj 0 (by omega)]; exact g51
    have hlook := pm_look (c := 0) y13 (by omega) hsl hR h49 e0 y51
    have p37' := pm_ops (f1.tr y1) p37
    have hso3 : pl_so T (W z).2 t true (σ3.2.1 24 t) := by rw [fa.2.1 24 rfl]; exact hso
    obtain ⟨s', R', _, _, _, _, m2, m3, m4, m5⟩ := pm_arr hv3 (show t < pl_xc T by omega) hso3
    have es : s' = sl := by
      have := e2.symm.trans (show prf_G_slotOf σ1 (nI t) = some (nI (s' - pl_cnt true (W z).1)) by rw [← m2]; unfold prf_G_slotOf; rw [(f1.tr y1).2.1 24 rfl])
      have := (nI_eq (by omega) (by omega)).mp (Option.some.inj this)
      omega
    subst es
    have eR : R' = Rm := (nI_eq (by omega) (by omega)).mp (m4.symm.trans h49)
    subst eR
    obtain ⟨x, u1, u2, u3, u4⟩ := m5 id' i2 i3
    have i1' : τ3.2.1 15 (k + 1) = nI id' := by rw [y2.2.1 15 rfl]; exact i1
    have hplG := pm_plG (kn := k + 1) (x4 200 (by omega)) (by omega) i1' u1 u2 u3 u4 y59
    have e37 : ∀ σx, prf_M_lookAtPlace σ3 = some σx → prf_M_reckonOne σ3 (nI z) (nI 37) (-1) = some σx := by
      intro σx hx
      unfold prf_M_reckonOne
      rw [if_neg (by decide), if_neg (by decide), if_neg (by decide), if_neg (by decide), if_neg (by decide), if_pos (by decide), hx, pl_sb]
    by_cases qv : v < 0 ∨ nI R' ≤ v
    · rw [if_pos qv] at hlook
      have go3 := pm_op1 (z := z) o1' o2' (show q + 1 + Q.length < q + (Q.length + R.length + 2) by omega) hqO y11 p37'.1 p37'.2.1 (Or.inr (Or.inr (Or.inr (by omega)))) (e37 _ hlook)
      have ft : pl_fr pm_FE pm_GE σ3 (pr_sI σ3 7 11 4) := pl_sI_fr (o := 7) (k := 11) rfl
      have ft2 : pl_fr pm_FT pm_GT τ3 (pr_sI τ3 0 59 4) := pl_sI_fr (o := 0) (k := 59) rfl
      have hht := pm_go.ht (pm_go.tr (pm_go.tr go1 x3) go3) (pm_tp (by rw [pr_sI_same]; decide))
      exact pm_bad hcl har (erk.trans (pm_rkT hht (by omega))) (hXt _ (hplG.1 qv) (y2.tr ft2) (by rw [pr_sI_same]; decide)) (show rd1 ≤ rd + 8000 by omega) (fa.tr ft) (y2.tr ft2) (w := 4) (by decide) pr_sI_same pr_sI_same (pm_iv_eq yiv ft ft2 (by rw [pr_sI_ne (by omega)]) (by rw [pr_sI_ne (by omega)]))
    · rw [if_neg qv] at hlook
      have qv1 : ¬ v < 0 := fun w => qv (Or.inl w)
      have qv2 : ¬ nI R' ≤ v := fun w => qv (Or.inr w)
      have go3 := pm_op1 (z := z) o1' o2' (show q + 1 + Q.length < q + (Q.length + R.length + 2) by omega) hqO y11 p37'.1 p37'.2.1 (Or.inr (Or.inr (Or.inr (by omega)))) (e37 _ hlook)
      have hgo := pm_go.tr (pm_go.tr go1 x3) go3
      rw [show q + 1 + Q.length + 1 = q + Q.length + 2 by omega] at hgo
      obtain ⟨hvn, hvn2⟩ := pm_nn qv1
      have hvR : v.toNatClampNeg < R' := by
        by_cases w : v.toNatClampNeg < R'
        · exact w
        · rw [hvn] at qv2
          exact absurd (nI_le (by omega) hvn2) qv2
      have em : 64 * nI s' + v = nI (64 * s' + v.toNatClampNeg) := by
        conv => lhs; rw [hvn]
        rw [show (64 : Int32) = nI 64 from rfl, pk_mul, nI_add]
      have hpl := hplG.2 qv1 qv2
      rw [em] at hpl
      have q1 : τ3.2.1 17 (k + 1) = nI 1 := by rw [y2.2.1 17 rfl]; exact r17a
      have q2 : τ3.2.1 17 (k + 2) = nI G.length := by rw [y2.2.1 17 rfl]; exact rG
      have hRsum := pm_sum (qe := q + (Q.length + R.length + 2)) (ic := ic) 190 H R (k + 2 + G.length) (q + Q.length + 2) 2 rd1 σ3 τ3 hs2 ⟨hv3, yiv, pm_nd y2 nd2, pm_ops (f1.tr y1) pR', pm_lk_fr hlk2 (fa.2.1 24 rfl), ⟨by omega, by omega, hqO, by omega⟩, y13, y11, y59⟩ (by omega)
      rcases hRsum with ⟨n', u, rd2, σ5, τ5, c1, c2, c3', c4, c5⟩ | ⟨n', w, rd2, σ5, τ5, c1, c2, c3', c4, c5⟩
      · obtain ⟨j1, j2, j13, j51, jj, j11, j59, jiv⟩ := c5
        dsimp only at c4
        have hgo' := pm_go.tr hgo c3'
        rw [show q + Q.length + 2 + R.length = q + (Q.length + R.length + 2) by omega] at hgo'
        have ereck := erk.trans (pm_rkG hgo' (by omega))
        have fb := fa.tr j1
        have f2b := y2.tr j2
        have hPt1 := pm_Pt_fr hPt (pm_fcE fb) (pm_fxE f2b)
        have w0 : prf_M_waitingAt σ5 0 = some (nI s') := by
          rw [pm_w0 (c := 2) j13 (by decide), jj 0 (by omega), e0]
        have w1 : prf_M_waitingAt σ5 1 = some v := by
          have := pm_wat (j := 1) j13 (by omega) (by decide)
          rw [show nI 1 = 1 from rfl, jj 1 (by omega), y51] at this
          exact this
        have w2 : prf_M_waitingAt σ5 2 = some u := by
          have := pm_wat (j := 2) j13 (by omega) (by decide)
          rw [show nI 2 = 2 from rfl, j51] at this
          exact this
        have h49' : σ5.2.1 49 s' = nI R' := by rw [j1.2.1 49 rfl]; exact h49
        have esp : prf_M_setPlace σ5 (nI s') v u = some (pr_sA σ5 50 (upd (σ5.2.1 50) (64 * s' + v.toNatClampNeg) u)) := by
          have em' : nI s' * 64 + v = nI (64 * s' + v.toNatClampNeg) := by
            conv => lhs; rw [hvn]
            rw [show (64 : Int32) = nI 64 from rfl, pk_mul, nI_add, Nat.mul_comm]
          unfold prf_M_setPlace
          rw [pm_has hsl hR h49' v, pl_sb, if_neg qv1, if_neg qv2, if_neg pl_10, em', pl_ck (by omega) (by omega), nI_clamp (by omega)]
        have hPt2 := pm_Pt_fr hPt1 (pm_fc48 (σ := σ5) (a := 50) (g := upd (σ5.2.1 50) (64 * s' + v.toNatClampNeg) u) (by decide)) (pm_fxE (pl_fr.rf (σ := τ5)))
        have hC : prf_M_step σ (nI z) = some (nI (nx z), pr_sA σ5 50 (upd (σ5.2.1 50) (64 * s' + v.toNatClampNeg) u)) := by
          rw [(pm_stC ereck j11 (pm_acc hPt1).1 (by omega)).2.2.1 hr1, w0, pl_sb, w1, pl_sb, w2, pl_sb, esp, pl_sb, (pm_acc hPt2).2.1, pl_sb]
        have hX : prf_X_step τ = some (nI (nx z), pr_sA τ5 35 (upd (τ5.2.1 35) (64 * s' + v.toNatClampNeg) u)) := by
          have eaf := pm_aft hPt hax ((pm_fxE f2b).tr (pm_fx34 (τ := τ5) (a := 35) (g := upd (τ5.2.1 35) (64 * s' + v.toNatClampNeg) u) (Or.inr rfl)))
          have c4' : prf_X_reckon (prF_X_reckon 200) τ3 (nI (k + 2 + G.length)) = some (u.toInt64, τ5) := c4 201 (by omega)
          rw [head, hpl, pl_sb]
          dsimp only
          rw [pm_secX (by omega) q1, pl_sb, pl_behX (by omega) q2, pl_sb, c4', pl_sb]
          dsimp only
          rw [if_pos j59, pl_ck (by omega) (by omega), nI_clamp (by omega), pl_6432, eaf, pl_sb]
        have hcl' := pm_cl_fr hcl fb f2b
        have har' : pm_ar T (pl_wv W (nx z)) σ5 := pm_ar_fr (pm_nxar hPt htv.2.2.1 har (by omega) (fun w => by omega)) fb
        refine Or.inl ⟨nx z, rd2, _, _, hC, hX, d1, j11, j59, (pm_fcE fb).tr (pm_fc48 (by decide)), (pm_fxE f2b).tr (pm_fx34 (Or.inr rfl)), pm_iv_48 jiv _ _ (by decide) (by decide), by omega, ⟨fun j hj => ?_, fun j hj => ?_⟩, pm_ar_set har' h49' hvR hR⟩
        · rw [pl_sA_ne (by decide), pl_sA_ne (by decide)]; exact hcl'.1 j hj
        · rw [pl_sA_same, pl_sA_same]
          by_cases w : j = 64 * s' + v.toNatClampNeg
          · rw [w, pk_us, pk_us]
          · rw [pk_un w, pk_un w]; exact hcl'.2 j hj
      · obtain ⟨j1, j2, w0, w1, w2, jiv⟩ := c5
        dsimp only at c4
        have fb := fa.tr j1
        have f2b := y2.tr j2
        obtain ⟨v64, ev⟩ := c4 201 (by omega)
        have c4' : prf_X_reckon (prF_X_reckon 200) τ3 (nI (k + 2 + G.length)) = some (v64, τ5) := ev
        have hX : prf_X_step τ = some (nI (nx z), τ5) := by
          rw [head, hpl, pl_sb]
          dsimp only
          rw [pm_secX (by omega) q1, pl_sb, pl_behX (by omega) q2, pl_sb, c4', pl_sb]
          dsimp only
          rw [if_neg (by rw [w2]; exact pl_neg0 w0), pm_aft hPt hax (pm_fxE f2b), pl_sb]
        exact pm_bad hcl har (erk.trans (pm_rkT (pm_go.ht hgo c3') (by omega))) hX (show rd2 ≤ rd + 8000 by omega) fb f2b w0 w1 w2 jiv
  · obtain ⟨y1, y2, w0, w1, w2, yiv⟩ := x5
    dsimp only at x4
    have hv3 := pm_vc_fr hv2 y1 y2
    have fa := (f01.tr f1).tr y1
    have hso3 : pl_so T (W z).2 t true (σ3.2.1 24 t) := by rw [fa.2.1 24 rfl]; exact hso
    obtain ⟨s', R', _, _, _, _, m2, m3, m4, m5⟩ := pm_arr hv3 (show t < pl_xc T by omega) hso3
    obtain ⟨x, u1, u2, u3, u4⟩ := m5 id' i2 i3
    have i1' : τ3.2.1 15 (k + 1) = nI id' := by rw [y2.2.1 15 rfl]; exact i1
    obtain ⟨v64, ev⟩ := x4 200 (by omega)
    have w59 : (0 : Int32) < τ3.1 0 59 := by rw [w2]; exact w0
    exact pm_bad hcl har (erk.trans (pm_rkT (pm_go.ht go1 x3) (by omega))) (hXt _ (pm_plB ev (by omega) i1' u1 w59) y2 w59) (show rd1 ≤ rd + 8000 by omega) fa y2 w0 w1 w2 yiv
