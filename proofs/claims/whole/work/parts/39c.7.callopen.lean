/-! THE LAYOUT: a call is laid, its function is opened -/
theorem pl_fF_fn {T : pl_Tx} {m : Nat} {rep : Nat → Nat} {Ps : List pl_En} {σ τ : pr_St} (h : pl_bs T m rep Ps σ τ) {j nf sf qf : Nat} {e : pl_En} (g : pl_fn T m rep Ps σ τ j nf sf qf e) : pl_fF Ps j nf (pl_eF e).length (nf + 2 + e.2.1) (nf + 2 + e.2.1) (1 + (pl_b1 e.2.2.2).length) τ ∧ τ.2.1 17 (nf + 2 + e.2.1) = nI (1 + (pl_b1 e.2.2.2).length) := by
  obtain ⟨z1, z2, z3, z4, z5, z6⟩ := pl_bd_fn h g
  have elen := pl_eF_len e
  have hnd : pl_nd T τ m rep nf (pl_eF e) := g.2.2.1.2.2.2.1
  have hwh : pl_wh τ nf (nI 0) (pl_eF e) := g.2.2.1.2.2.2.2.1
  have e17 : τ.2.1 17 nf = nI (pl_eF e).length := by
    have : τ.2.1 17 nf = nI (2 + e.2.1 + (pl_eB e).length) := hnd.1.2.2.2.2
    rw [this, elen]
    unfold pl_eB
    rw [List.length_cons, show 2 + e.2.1 + ((pl_b1 e.2.2.2).length + 1) = 3 + e.2.1 + (pl_b1 e.2.2.2).length by omega]
  have hB : τ.2.1 17 (nf + 2 + e.2.1) = nI (1 + (pl_b1 e.2.2.2).length) := by
    have h1 := (pl_nd_l ((1, e.1, 0, 2 + e.2.1 + (pl_eB e).length) :: (13, e.1 + 1, nI (e.1 + 1), 1) :: pl_par (e.1 + 3) e.2.1) (pl_eB e) nf hnd).2
    rw [List.length_cons, List.length_cons, pl_par_len, show nf + (e.2.1 + 1 + 1) = nf + 2 + e.2.1 by omega] at h1
    exact h1.1.2.2.2.2
  refine ⟨⟨g.2.1, by omega, by omega, by omega, by omega, Nat.le_refl _, by omega, by omega, g.2.2.2.2.2.2.2, fun τ1 f1 => ⟨pl_blkX (pl_nd_fm hnd f1) (by omega), pl_behX (by omega) (by rw [f1.2.1 17 rfl]; exact e17), fun k h1 h2 => ?_⟩⟩, hB⟩
  unfold prf_X_whichFunction
  have hF : pr_FU = 100000 := rfl
  have := pl_whF (pl_wh_fm hwh f1) (by omega) (by omega) (k - nf) (k - nf) pr_FU (Nat.le_refl _) (by omega) (by rw [hF]; omega)
  rw [show nf + (k - nf) = k by omega] at this
  exact this
theorem pl_fn_fr {T : pl_Tx} {m : Nat} {rep : Nat → Nat} {Ps : List pl_En} {σ τ σ' τ' : pr_St} {j nf sf qf : Nat} {e : pl_En} (g : pl_fn T m rep Ps σ τ j nf sf qf e) (fa : pl_fr pl_FL pl_GL σ σ') (fx : pl_fr pl_FM pl_GM τ τ') : pl_fn T m rep Ps σ' τ' j nf sf qf e := by
  obtain ⟨g1, g2, g3, g4, g5, g6, g7⟩ := g
  refine ⟨g1, g2, ?_, g4, g5, pl_il_fr fa fx _ _ _ _ _ g6, g7⟩
  obtain ⟨⟨q1, q2, q3, q4, q5⟩, w2, w3, w4, w5, w6⟩ := g3
  exact ⟨⟨by rw [fa.2.1 12 rfl]; exact q1, by rw [fa.2.1 13 rfl]; exact q2, by rw [fa.2.1 14 rfl]; exact q3, by rw [fa.2.1 15 rfl]; exact q4, by rw [fa.2.1 16 rfl]; exact q5⟩, pl_sts_eq _ _ (fun r z _ hr _ _ => by rw [fa.2.1 r (pl_GL_lo (by omega))]) w2, pl_ops_fr (fa.2.1 22 rfl) (fa.2.1 23 rfl) _ _ w3, pl_nd_fm w4 fx, pl_wh_fm w5 fx, w6⟩
theorem pl_pe_cnt : ∀ n t : Nat, pl_cnt true (pl_pe t n) = 0 ∧ pl_cnt false (pl_pe t n) = n ∧ (pl_pe t n).length = n ∧ ∀ e, e ∈ pl_pe t n → e.2 = false := by
  intro n
  induction n with
  | zero => intro t; exact ⟨rfl, rfl, rfl, fun e he => by cases he⟩
  | succ n ih =>
    intro t
    obtain ⟨i1, i2, i3, i4⟩ := ih (t + 2)
    have e1 : pl_pe t (n + 1) = [(t, false)] ++ pl_pe (t + 2) n := rfl
    refine ⟨by rw [e1, pl_cnt_app, i1]; rfl, by rw [e1, pl_cnt_app, i2]; show 1 + n = n + 1; omega, by rw [e1, List.length_append, i3]; show 1 + n = n + 1; omega, fun e he => ?_⟩
    rcases List.mem_cons.mp he with rfl | he
    · rfl
    · exact i4 e he
/-- the class is done with the rules for a call -/
theorem pl_82c {T : pl_Tx} {m : Nat} {rep : Nat → Nat} {V : List (Nat × Bool)} {σ τ : pr_St} (hs : pl_scp T m rep σ τ V) (htt : pl_tt T σ τ) {j np t : Nat} (h13 : σ.1 6 13 = nI j) (hp : prf_G_parametersOf σ (nI j) = some (nI np)) (hnp : np < 8000) (ht : t < pl_xc T) (s : Int32) {σ0 : pr_St} (hk : prf_Y_tokensHold σ0 s (nI t) = some (1, σ)) : (∀ w pt, prf_Y_parametersHold σ = some (0, pl_wC T σ w pt) → prf_Y_holds_82 σ0 s (nI 4) (nI t) = some (0, pl_wC T σ w pt)) ∧ (prf_Y_parametersHold σ = some (1, σ) → prf_Y_holds_82 σ0 s (nI 4) (nI t) = if pl_cnt false V + np ≤ 12 then some (1, σ) else some (0, pl_wC T σ 10 t)) := by
  have n1 : ¬ nI 4 = 1 := by decide
  have h12 := hs.2.2.2.2.2.1
  unfold prf_Y_holds_82
  rw [if_neg n1, hk, pl_sb, if_neg (show ¬ ((1 : Int32), σ).1 = 0 from pl_10)]
  refine ⟨fun w pt h => ?_, fun h => ?_⟩
  · rw [h, pl_sb, if_pos rfl]
  · have er : prf_Y_thereIsRoom σ (nI 4) (nI t) = if pl_cnt false V + np ≤ 12 then some (1, σ) else some (0, pl_wC T σ 10 t) := by
      unfold prf_Y_thereIsRoom prf_Y_thereIsRoom_48 prf_S_numbers
      rw [if_neg n1, if_neg n1, h13, hp, pl_sb, hs.1, pl_sb, nI_add]
      by_cases q : pl_cnt false V + np ≤ 12
      · rw [if_pos q, if_pos (show nI (pl_cnt false V + np) ≤ 12 from nI_le (b := 12) q (by omega))]
      · rw [if_neg q, if_neg (show ¬ nI (pl_cnt false V + np) ≤ 12 from nI_ge (a := 12) (by omega) (by omega)), pl_isW htt ht, pl_sb, if_pos rfl]
    rw [h, pl_sb, if_neg (show ¬ ((1 : Int32), σ).1 = 0 from pl_10)]
    show (prf_Y_thereIsRoom σ (nI 4) (nI t)).bind _ = _
    rw [er]
    by_cases q : pl_cnt false V + np ≤ 12
    · rw [if_pos q, pl_sb, if_neg (show ¬ ((1 : Int32), σ).1 = 0 from pl_10)]
    · rw [if_neg q, pl_sb, if_pos rfl]
theorem pl_callOpen {rc : pr_St → Int32 → Int32 → Int32 → Int32 → Option pr_St} {T : pl_Tx} {m : Nat} {rep : Nat → Nat} {Ps : List pl_En} {W : pl_Wt} {A E : List (Nat × Bool)} {d p ii nb bb fi send b bF f k s q bs x nf lf : Nat} {par x3 : Int32} {σ τ : pr_St} {F : List pl_N} {S : List pl_S} {O : List pl_O} (hc : pl_cx T m rep Ps W A E d p ii nb bb fi send b bF f k s q bs x par σ τ F S O) (hp : p < 249) (hfF : pl_fF Ps fi nf lf bF b bs τ) {t n0 e : Nat} {h0 : pl_N} {Gs : List (List pl_N × List pl_O)} (k1 : pl_xK T t = 2) (hn0 : (n0 = t ∧ pl_xK T (t + 1) = 12 ∧ h0 = (33, t, 0, 1)) ∨ (n0 = t + 2 ∧ pl_xK T (t + 1) = 20 ∧ pl_xK T (t + 2) = 2 ∧ pl_xK T (t + 3) = 12 ∧ h0 = (13, t, nI t, 1))) (hcm : (Gs = [] ∧ e = n0 + 2) ∨ pl_cm (pl_xK T) (n0 + 2) e (pl_catF Gs)) (k13 : pl_xK T e = 13) (k19 : pl_xK T (e + 1) = 19) (eF : F = (7, t, 0, 3 + (pl_catF Gs).length) :: h0 :: (13, n0, nI n0, 1) :: pl_catF Gs) (eS : S = [(4, t, q, Gs.length, s + 1, E, e + 2)]) (hsm : ∀ x, x ∈ Gs → pl_sm T 190 x.1 x.2) :
    pl_Lb x σ τ (prf_X_statement5 rc τ (nI k) (nI b) x3 par (nI ii)) ∨ ∃ σB τB j nf' sf qf e' tg, (∀ g, prf_Y_layProgram_65 (g + 1) σ (nI x) = prf_Y_layProgram_65 g σB (nI (x + 1))) ∧ prf_X_statement5 rc τ (nI k) (nI b) x3 par (nI ii) = ((rc τB (nI (nf' + 2 + e'.2.1)) (nI nf') (nI p) (nI (nb + 1))).bind fun r47 => some (pl_e22 (pr_sI (pr_sI (pr_sI r47 0 42 (nI (A ++ E).length)) 0 43 (nI A.length)) 0 45 (nI (pl_cnt false (A ++ E)))) p)) ∧ pl_M T m rep Ps W A E d p k s (s + 1) (4, t, q, Gs.length, s + 1, E, e + 2) par (if k + F.length = b + bs then 1 else 0) tg σ τ (p + 1) (fun z => if z = p then (A, E) else W z) σB τB ∧ (pl_fn T m rep Ps σB τB j nf' sf qf e' ∧ j < fi ∧ e'.2.1 = Gs.length ∧ pl_cnt false (A ++ E) + Gs.length ≤ 12) ∧ (σB.1 6 9 = nI (d + 2) ∧ σB.1 4 14 = nI (p + 1) ∧ σB.2.1 36 p = (if (pl_b2 e'.2.2.2).length = 0 then -1 else nI (p + 1)) ∧ σB.2.1 37 p = -1) ∧ (σB.2.1 42 (d + 1) = nI sf ∧ σB.2.1 43 (d + 1) = nI (sf + (pl_b2 e'.2.2.2).length) ∧ σB.2.1 44 (d + 1) = nI (sf + (pl_b2 e'.2.2.2).length) ∧ σB.2.1 45 (d + 1) = nI p ∧ σB.2.1 46 (d + 1) = nI j) ∧ (τB.1 0 33 = nI (p + 1) ∧ τB.1 0 43 = nI (A ++ E).length ∧ τB.1 0 47 = 0 ∧ τB.1 0 44 = nI (nb + 1) ∧ τB.1 0 48 = τ.1 0 48) ∧ pl_scp T m rep σB τB ((A ++ E) ++ pl_pe (e'.1 + 3) e'.2.1) ∧ (∀ v, (A ++ E).length ≤ v → v < (A ++ E).length + e'.2.1 → τB.2.1 32 v = nI (nb + 1)) ∧ ((pl_xK T (t + 1) = 20 ∧ ∃ y, pl_so T E t false (nI y) ∧ y < 12 ∧ tg = nI (pl_cnt false A + y)) ∨ (¬ pl_xK T (t + 1) = 20 ∧ tg = -1)) := by
  subst eF eS
  obtain ⟨hZ, his, h42, hse, hx, hbs, hkb, hbl, hlast, hsv, hss⟩ := hc
  obtain ⟨z1, z2, ⟨z31, z32⟩, ⟨z41, z42, z43, z44, z45⟩, ⟨z51, z52, z53, z54, z55⟩, ⟨z61, z62, z63, z64, z65, z66⟩, z7⟩ := id hZ
  have htt := z1.1
  have hown := (pl_own z1 his).2
  have hown : e + 2 ≤ pl_xc T := hown
  have hS7 := z1.2.2.2.2.2.2.1
  have hF9 := z1.2.2.2.2.2.2.2.2.1
  have h889 := z1.2.2.2.2.2.1
  have c8 := pl_c8 htt
  obtain ⟨i1, i2, i3, i4, i5, i6, ⟨i71, i72, i73, i74⟩, i8⟩ := id his
  have hlF : ((7, t, 0, 3 + (pl_catF Gs).length) :: h0 :: (13, n0, nI n0, 1) :: pl_catF Gs : List pl_N).length = 3 + (pl_catF Gs).length := by rw [List.length_cons, List.length_cons, List.length_cons]; omega
  rw [hlF] at i72
  have hne : n0 + 2 ≤ e := by
    rcases hcm with ⟨_, q⟩ | q
    · omega
    · have := q.1; omega
  have kn : pl_xK T n0 = 2 ∧ pl_xK T (n0 + 1) = 12 ∧ t ≤ n0 := by
    rcases hn0 with ⟨rfl, q, _⟩ | ⟨rfl, _, q2, q3, _⟩
    · exact ⟨k1, q, Nat.le_refl _⟩
    · exact ⟨q2, q3, by omega⟩
  have tc1 : pl_tc T t n0 := by
    rcases hn0 with ⟨rfl, _⟩ | ⟨rfl, q1, _⟩
    · intro u h1 h2; omega
    · exact pl_tc_app (pl_tc_1 (by omega) (by omega) (by omega) (by omega) (fun _ => by omega)) (pl_tc_1 (a := t + 1) (by omega) (by omega) (by omega) (by omega) (fun z => by omega))
  have tc2 : pl_tc T (n0 + 1) (e + 1) := by
    refine pl_tc_app (pl_tc_1 (a := n0 + 1) (by omega) (by omega) (by omega) (by omega) (fun z => by omega)) (pl_tc_app (b := e) ?_ (pl_tc_1 (by omega) (by omega) (by omega) (by omega) (fun z => by omega)))
    rcases hcm with ⟨_, rfl⟩ | q
    · intro u h1 h2; omega
    · exact pl_tc_cm htt q (by omega) (by omega)
  have ecu : pl_cu (pl_xK T) (n0 + 1) (e + 1) = pl_cl false (pl_catF Gs) := by
    rw [pl_cu_sk (a := n0 + 1) (by omega) (by omega) (by omega), pl_cu_se (by omega) (by omega) (by omega)]
    rcases hcm with ⟨rfl, rfl⟩ | q
    · rw [pl_cu_0]; rfl
    · exact q.2.2.1.symm
  obtain ⟨r, hr⟩ : ∃ r : pl_S, r = (4, t, q, Gs.length, s + 1, E, e + 2) := ⟨_, rfl⟩
  have hr1 : r.1 = 4 := by rw [hr]
  have hrt : r.2.1 = t := by rw [hr]
  have hr4 : r.2.2.2.1 = Gs.length := by rw [hr]
  have hr5 : r.2.2.2.2.1 = s + 1 := by rw [hr]
  have hrE : r.2.2.2.2.2.1 = E := by rw [hr]
  have hr7 : r.2.2.2.2.2.2 = e + 2 := by rw [hr]
  rw [← hr] at hss hlast his i1 i4 i6 ⊢
  have hls2 : pl_ls T m rep A E (pl_s2 σ d r.2.2.2.2.1 A) τ := pl_Z_ls hZ pl_fr.rf (fun _ _ _ => rfl) (fun _ _ => rfl)
  have hH := (pl_hold hZ (show s < pl_tS Ps by omega) i4 (show r.2.1 < pl_xc T by omega)).2 hp
  have n8 : ¬ nI r.1 = 8 := by rw [hr1]; decide
  have n1' : ¬ nI r.1 = 1 := by rw [hr1]; decide
  rw [if_neg n8] at hH
  obtain ⟨σ2, hσ2⟩ : ∃ σ2, σ2 = pl_s2 σ d r.2.2.2.2.1 A := ⟨_, rfl⟩
  have hH2 : prf_Y_holds (pl_s1 σ d r.2.2.2.2.1) (nI s) = prf_Y_holds_82 σ2 (nI s) (nI 4) (nI t) := by
    rw [hH, hσ2]
    unfold prf_Y_holds_67
    rw [if_neg n1', hr1, hrt]
  have f2 : pl_fr pl_FL pl_GL σ σ2 := by rw [hσ2]; exact pl_s2_fr
  have b2 : pl_bs T m rep Ps σ2 τ := pl_bs_fr z1 f2 pl_fr.rf
  have o2 : pl_opn d σ2 := by
    rw [hσ2]
    refine ⟨?_, ?_, by omega⟩
    · unfold pl_s2 pl_s1
      rw [pr_sI_ne (by omega), pr_sI_ne (by omega), pr_sI_ne (by omega)]
      show (pr_sI σ 6 10 (nI d)).1 6 9 = _
      rw [pr_sI_ne (by omega)]; exact z44
    · unfold pl_s2 pl_s1
      rw [pr_sI_ne (by omega), pr_sI_ne (by omega), pr_sI_ne (by omega)]
      show (pr_sI σ 6 10 (nI d)).1 6 10 = _
      rw [pr_sI_same]
  have r2 : ∀ a, ¬ a = 42 → σ2.2.1 a = σ.2.1 a := by
    intro a ha
    rw [hσ2]
    show (pl_s1 σ d r.2.2.2.2.1).2.1 a = _
    unfold pl_s1
    rw [pl_sA_ne ha]; rfl
  have st2 : pl_sts σ2 s [r] := pl_sts_eq (σ := σ) _ s (fun q z h1 h2 _ _ => by rw [f2.2.1 q (pl_GL_lo (by omega))]) i4
  rw [← hσ2] at hls2
  -- the class' answers on the call itself
  have hcallC : ∀ g, (pl_mn T Ps fi n0 ∧ prf_Y_callHolds (pr_sA σ2 24 g) (nI s) (nI n0) = some (0, pl_wC T (pr_sA σ2 24 g) 4 n0)) ∨ ∃ j e', pl_mf T Ps fi n0 j ∧ Ps[j]? = some e' ∧ prf_Y_callHolds (pr_sA σ2 24 g) (nI s) (nI n0) = if Gs.length = e'.2.1 then (if n0 = t then some (1, pr_sI (pr_sA σ2 24 g) 6 13 (nI j)) else if pl_eR e' = 0 then some (0, pl_wC T (pr_sA σ2 24 g) 6 n0) else some (1, pr_sI (pr_sA σ2 24 g) 6 13 (nI j))) else some (0, pl_wC T (pr_sA σ2 24 g) 5 n0) := by
    intro g
    have fg : pl_fr pl_FL pl_GL σ2 (pr_sA σ2 24 g) := pl_sA_fr rfl
    have hGl : Gs.length ≤ (pl_catF Gs).length := by
      have : ∀ l : List (List pl_N × List pl_O), (∀ x, x ∈ l → pl_sm T 190 x.1 x.2) → l.length ≤ (pl_catF l).length := by
        intro l
        induction l with
        | nil => intro _; exact Nat.le_refl _
        | cons a l ih =>
          intro hl
          obtain ⟨e0, l0, ea, _⟩ := pl_sm_ro (hl a (List.mem_cons_self ..))
          have := ih (fun x hx => hl x (List.mem_cons_of_mem _ hx))
          show l.length + 1 ≤ (a.1 ++ pl_catF l).length
          rw [List.length_append, ea, List.length_cons]
          omega
      exact this Gs hsm
    refine pl_callC (r := r) (S := []) (pl_bs_fr b2 fg pl_fr.rf) (d := d) (fi := fi) ⟨o2.1, o2.2.1, o2.2.2⟩ ?_ z55 (by omega) (pl_sts_eq (σ := σ2) _ s (fun q z h1 h2 _ _ => by rw [fg.2.1 q (pl_GL_lo (by omega))]) st2) hrt hr4 (by omega) (by omega) kn.1 kn.2.2
    show (pr_sA σ2 24 g).2.1 46 d = _
    rw [pl_sA_ne (by decide), r2 46 (by decide)]
    exact z53
  -- the reference
  obtain ⟨f', τ1, eX, hpX⟩ := pl_ptX (rc := rc) z2 (p := p) (k := k) (par := par) (x2 := nI b) (x3 := x3) (x5 := nI ii) z31 z42 hp
  have fX := pl_pX_fr hpX
  have hls1 : pl_ls T m rep A E σ2 τ1 := by rw [hσ2]; exact pl_Z_ls hZ fX hpX.2.1 hpX.2.2.1
  have nn1 := pl_nd_fm i2 fX
  have w1 := pl_wh_fm i3 fX
  have h13 : τ1.2.1 13 k = nI 7 := nn1.1.1
  have h17 : τ1.2.1 17 k = nI (3 + (pl_catF Gs).length) := nn1.1.2.2.2.2
  have h14k : τ1.2.1 14 k = nI (pl_xP T t) := nn1.1.2.1
  obtain ⟨idn, e15, hidm, hsn⟩ : ∃ id, τ1.2.1 15 (k + 2) = nI id ∧ id < m ∧ pl_sn T (rep id) n0 := nn1.2.2.1.2.2.1 rfl
  have e14 : τ1.2.1 14 (k + 2) = nI (pl_xP T n0) := nn1.2.2.1.2.1
  have nC : pl_nd T τ1 m rep (k + 3) (pl_catF Gs) := nn1.2.2.2
  have h47 : τ1.1 0 47 = 0 := by rw [hpX.2.1 0 47 (by omega)]; exact z32
  have h42x : τ1.1 0 42 = nI (A ++ E).length := hls1.2.2.1.2.2.1
  have b1 : pl_bs T m rep Ps σ2 τ1 := pl_bs_fr z1 f2 fX
  have hF : pr_FU = 100000 := rfl
  have head : prf_X_statement5 rc τ (nI k) (nI b) x3 par (nI ii) = (prf_X_call rc τ1 (nI k) (nI p)).bind fun r211 => some (pl_e22 r211 p) := by
    rw [eX, prf_X_statement5_96, h42x, if_pos (Int32.le_refl _), pl_ck (by omega) (by omega), nI_clamp (by omega), h13, if_neg (by decide), if_neg (by decide), if_neg (by decide), if_neg (by decide), if_pos (by rfl)]
    simp only [pl_e22_X (show p < 250 by omega)]
  have hXcall : ((∀ c, c ∈ pl_cu (pl_xK T) t n0 → pl_yes T E c) → prf_X_call rc τ1 (nI k) (nI p) = prf_X_call_31 rc τ1 (nI k) (nI p) (nI (k + 2))) ∧ (∀ w pt, pl_bad T E (pl_cu (pl_xK T) t n0) w pt → prf_X_call rc τ1 (nI k) (nI p) = some (pl_wX T τ1 w pt)) := by
    unfold prf_X_call
    rw [nI_1, pl_n2, pl_ck (by omega) (by omega), nI_clamp (by omega)]
    rcases hn0 with ⟨rfl, _, rfl⟩ | ⟨rfl, kq, _, _, rfl⟩
    · have e13 : τ1.2.1 13 (k + 1) = nI 33 := nn1.2.1.1
      rw [e13, if_pos (by rfl)]
      refine ⟨fun _ => rfl, fun w pt hb => ?_⟩
      rw [pl_cu_0] at hb
      obtain ⟨C1, c, C2, eC, _⟩ := hb
      cases C1 <;> cases eC
    · have e13 : τ1.2.1 13 (k + 1) = nI 13 := nn1.2.1.1
      obtain ⟨idt, t15, htm, tsn⟩ : ∃ id, τ1.2.1 15 (k + 1) = nI id ∧ id < m ∧ pl_sn T (rep id) t := nn1.2.1.2.2.1 rfl
      have t14 : τ1.2.1 14 (k + 1) = nI (pl_xP T t) := nn1.2.1.2.1
      obtain ⟨m1, m2⟩ := pl_nmX hls1 (x := k + 1) k1 (by omega) t14 t15 htm tsn false
      have ecu1 : pl_cu (pl_xK T) t (t + 2) = [(t, false)] := by
        rw [pl_cu_nm (by omega) k1, pl_cu_sk (a := t + 1) (by omega) (by omega) (by omega), show t + 1 + 1 = t + 2 from rfl, pl_cu_0, kq]
        rfl
      rw [e13, if_neg (by decide), ecu1]
      refine ⟨fun hall => ?_, fun w pt hb => ?_⟩
      · obtain ⟨i, e0, g1, g2⟩ := pl_bad_1 k1 (hall (t, false) (List.mem_cons_self ..))
        have hnm : prf_X_lookName τ1 (nI (k + 1)) 0 = some (1, τ1) := m1 i e0 g1 g2
        rw [hnm, pl_sb, if_neg (show ¬ ((1 : Int32), τ1).1 = 0 from pl_10)]
      · rcases pl_bad_cons hb with hno | ⟨_, hb2⟩
        · have hnm : prf_X_lookName τ1 (nI (k + 1)) 0 = some (0, pl_wX T τ1 w pt) := m2 w pt hno
          rw [hnm, pl_sb, if_pos rfl]
          unfold prf_X_call_48
          have hw : (pl_wX T τ1 w pt).1 0 47 = w := pl_wX_47.1
          have hpos := pl_badpos hb
          rw [if_neg (show ¬ ((0 : Int32), pl_wX T τ1 w pt).2.1 0 47 ≤ 0 from by show ¬ (pl_wX T τ1 w pt).1 0 47 ≤ 0; rw [hw]; exact Int32.not_le.mpr hpos)]
        · obtain ⟨C1, c, C2, eC, _⟩ := hb2
          cases C1 <;> cases eC
  have hwhich : prf_X_whichFunction τ1 (nI k) = some (nI (1 + pl_tF (Ps.take fi))) := by
    obtain ⟨a1, a2, a3, a4, a5, a6, a7, a8, a9, a10⟩ := hfF
    rw [hlF] at hkb
    rw [← a1]
    exact (a10 τ1 fX).2.2 k (by omega) (by omega)
  obtain ⟨x31n, x31m⟩ := pl_call31 (rc := rc) (x2 := nI p) b1 z55 (show k < 12990 by omega) hwhich e14 e15 hidm hsn h47
  -- something is wrong
  have bad : ∀ (w : Int32) (pt : Nat) (τ' : pr_St), (0 : Int32) < w → (∃ σ3, prf_Y_holds_82 σ2 (nI s) (nI 4) (nI t) = some (0, pl_wC T σ3 w pt) ∧ pl_fr pl_FL pl_GL σ2 σ3) → prf_X_call rc τ1 (nI k) (nI p) = some τ' → τ'.1 0 47 = w → τ'.1 0 48 = nI (pl_xP T pt) → pl_fr pl_FM pl_GM τ1 τ' → pl_Lb x σ τ (prf_X_statement5 rc τ (nI k) (nI b) x3 par (nI ii)) := by
    intro w pt τ' hw ⟨σ3, e1, f3⟩ e2 e3 e4 f4
    exact pl_badG (σ3 := σ3) (τ' := pl_e22 τ' p) (w := w) (pt := pt) hZ i4 h42 hse hx (by rw [hH2]; exact e1) (f2.tr f3) (by rw [head, e2, pl_sb]) e3 e4 ((fX.tr f4).tr pl_e22_fr) hw
  have bad82 : ∀ (w : Int32) (pt : Nat), (∃ σ3, prf_Y_tokensHold σ2 (nI s) (nI t) = some (0, pl_wC T σ3 w pt) ∧ pl_fr pl_FL pl_GL σ2 σ3) → ∃ σ3, prf_Y_holds_82 σ2 (nI s) (nI 4) (nI t) = some (0, pl_wC T σ3 w pt) ∧ pl_fr pl_FL pl_GL σ2 σ3 := by
    intro w pt ⟨σ3, e1, f3⟩
    exact ⟨σ3, pl_82w 4 t (by decide) (by decide) (nI s) e1, f3⟩
  obtain ⟨tk1, tk2⟩ := pl_tokCall hls2 (nI s) kn.2.2 hne (by omega) kn.1 kn.2.1 k19 tc1 tc2
  rcases pl_allbad (T := T) (E := E) (pl_cu (pl_xK T) t n0) with hall1 | ⟨w, pt, hbad⟩
  rotate_left
  · exact Or.inl (bad w pt _ (pl_badpos hbad) (bad82 w pt (tk1 w pt hbad)) (hXcall.2 w pt hbad) pl_wX_47.1 pl_wX_47.2 pl_wX_fr)
  obtain ⟨tk3, tk4⟩ := tk2 hall1
  have eXc := hXcall.1 hall1
  rcases hcallC (σ2.2.1 24) with ⟨hmn, _⟩ | ⟨j, e', hmf, he', _⟩
  · -- no such function
    refine Or.inl (bad 4 n0 _ (by decide) (bad82 4 n0 (tk3 4 (fun g => ?_))) (by rw [eXc]; exact x31n hmn) pl_wX_47.1 pl_wX_47.2 pl_wX_fr)
    rcases hcallC g with ⟨_, q⟩ | ⟨j, e', hmf, _⟩
    · exact q
    · exact (pl_mf_n hmf hmn).elim
  have hCg : ∀ g, prf_Y_callHolds (pr_sA σ2 24 g) (nI s) (nI n0) = if Gs.length = e'.2.1 then (if n0 = t then some (1, pr_sI (pr_sA σ2 24 g) 6 13 (nI j)) else if pl_eR e' = 0 then some (0, pl_wC T (pr_sA σ2 24 g) 6 n0) else some (1, pr_sI (pr_sA σ2 24 g) 6 13 (nI j))) else some (0, pl_wC T (pr_sA σ2 24 g) 5 n0) := by
    intro g
    rcases hcallC g with ⟨hmn, _⟩ | ⟨j2, e2, hmf2, he2, q⟩
    · exact (pl_mf_n hmf hmn).elim
    · have := pl_mf_u hmf2 hmf
      subst this
      rw [he'] at he2
      rw [← Option.some.inj he2] at q
      exact q
  obtain ⟨sf, qf, gf⟩ := pl_fn_get b1 he'
  obtain ⟨nf', hnf'⟩ : ∃ nf', nf' = 1 + pl_tF (Ps.take j) := ⟨_, rfl⟩
  rw [← hnf'] at gf
  obtain ⟨y1, y2, y3, y4, y5, y6⟩ := pl_bd_fn b1 gf
  have elen := pl_eF_len e'
  have hGF : Gs.length + 1 ≤ pr_FU := by
    have : ∀ l : List (List pl_N × List pl_O), (∀ x, x ∈ l → pl_sm T 190 x.1 x.2) → l.length ≤ (pl_catF l).length := by
      intro l
      induction l with
      | nil => intro _; exact Nat.le_refl _
      | cons a l ih =>
        intro hl
        obtain ⟨e0, l0, ea, _⟩ := pl_sm_ro (hl a (List.mem_cons_self ..))
        have := ih (fun x hx => hl x (List.mem_cons_of_mem _ hx))
        show l.length + 1 ≤ (a.1 ++ pl_catF l).length
        rw [List.length_append, ea, List.length_cons]
        omega
    have := this Gs hsm
    rw [hF]
    omega
  have e91 : prf_X_call rc τ1 (nI k) (nI p) = pl_91e rc τ1 (nI k) (nI p) (nI (k + 2)) (nI nf') (nI e'.2.1) (nI Gs.length) := by
    rw [eXc, x31m j e' hmf he', ← hnf', pl_c91 (m := m) (rep := rep) (T := T) (lF := 3 + (pl_catF Gs).length) (by omega) h17 Gs (k + 3) 0 pr_FU (by omega) nC hsm hGF, Nat.zero_add]
  by_cases qc : Gs.length = e'.2.1
  rotate_left
  · -- not as many
    refine Or.inl (bad 5 n0 (pl_wX T τ1 5 n0) (by decide) (bad82 5 n0 (tk3 5 (fun g => by rw [hCg g, if_neg qc]))) ?_ pl_wX_47.1 pl_wX_47.2 pl_wX_fr)
    rw [e91]
    unfold pl_91e
    rw [if_neg (show ¬ nI Gs.length = nI e'.2.1 from fun w => qc ((nI_eq (by rw [hF] at hGF; omega) (by omega)).mp w)), pl_wrX h47 (by omega) e14, pl_sb]
  have eret := pl_retX b1 gf
  have e166 : (¬ n0 = t ∧ pl_eR e' = 0 ∧ prf_X_call rc τ1 (nI k) (nI p) = some (pl_wX T τ1 6 n0)) ∨ ((n0 = t ∨ ¬ pl_eR e' = 0) ∧ prf_X_call rc τ1 (nI k) (nI p) = prf_X_call_166 rc pr_FU τ1 (nI k) (nI p) (nI nf') (nI e'.2.1) (nI (k + 3))) := by
    rw [e91]
    unfold pl_91e
    rw [if_pos (show nI Gs.length = nI e'.2.1 by rw [qc]), nI_1, nI_1, pl_ck (by omega) (by omega), nI_clamp (by omega)]
    rcases hn0 with ⟨q0, _, rfl⟩ | ⟨q0, _, _, _, rfl⟩
    · have e13 : τ1.2.1 13 (k + 1) = nI 33 := nn1.2.1.1
      rw [e13, if_neg (by decide)]
      exact Or.inr ⟨Or.inl q0, rfl⟩
    · have e13 : τ1.2.1 13 (k + 1) = nI 13 := nn1.2.1.1
      rw [e13, if_pos (by rfl), eret, pl_sb]
      by_cases qr : pl_eR e' = 0
      · rw [if_pos qr, pl_wrX h47 (by omega) e14, pl_sb]
        exact Or.inl ⟨by omega, qr, rfl⟩
      · rw [if_neg qr]
        exact Or.inr ⟨Or.inr qr, rfl⟩
  rcases e166 with ⟨q0, qr, eX6⟩ | ⟨qok, eX6⟩
  · exact Or.inl (bad 6 n0 _ (by decide) (bad82 6 n0 (tk3 6 (fun g => by rw [hCg g, if_pos qc, if_neg q0, if_pos qr]))) eX6 pl_wX_47.1 pl_wX_47.2 pl_wX_fr)
  obtain ⟨tk5, tk6⟩ := tk4 j (fun g => by
    rw [hCg g, if_pos qc]
    by_cases q0 : n0 = t
    · rw [if_pos q0]
    · rw [if_neg q0, if_neg (qok.resolve_left q0)])
  rw [ecu] at tk5 tk6
  obtain ⟨a1, a2⟩ := pl_c166 (rc := rc) (x2 := nI p) (x4 := nI nf') (x5 := nI e'.2.1) (o := nI b) (e := (7, t, 0, 3 + (pl_catF Gs).length)) hls1 (show k + (3 + (pl_catF Gs).length) < 12900 by omega) h17 (by rw [h13]; decide) Gs [h0, (13, n0, nI n0, 1)] (k + 3) pr_FU rfl (by omega) nC w1 (by show 3 + (pl_catF Gs).length = 1 + (h0 :: (13, n0, nI n0, 1) :: pl_catF Gs).length; rw [List.length_cons, List.length_cons]; omega) (by
    rcases hn0 with ⟨_, _, rfl⟩ | ⟨_, _, _, _, rfl⟩
    · exact ⟨⟨Nat.le_refl _, by show 1 ≤ 1 + 1; omega⟩, ⟨Nat.le_refl _, Nat.le_refl _⟩, trivial⟩
    · exact ⟨⟨Nat.le_refl _, by show 1 ≤ 1 + 1; omega⟩, ⟨Nat.le_refl _, Nat.le_refl _⟩, trivial⟩) hsm hGF
  rcases pl_allbad (T := T) (E := E) (pl_cl false (pl_catF Gs)) with hall2 | ⟨w, pt, hbad⟩
  rotate_left
  · exact Or.inl (bad w pt _ (pl_badpos hbad) (bad82 w pt (tk5 w pt hbad)) (by rw [eX6]; exact a2 w pt hbad) pl_wX_47.1 pl_wX_47.2 pl_wX_fr)
  obtain ⟨σ3, eT, u3⟩ := tk6 hall2
  -- the reference's state in which the function is opened
  obtain ⟨τD, hτD⟩ : ∃ τD, τD = pr_sI (pr_sI τ1 0 43 (nI (A ++ E).length)) 0 44 (nI (nb + 1)) := ⟨_, rfl⟩
  have x44 : τ1.1 0 44 = nI nb := by rw [hpX.2.1 0 44 (by omega)]; exact z61
  have x43 : τ1.1 0 43 = nI A.length := by rw [hpX.2.1 0 43 (by omega)]; exact z31
  have x45 : τ1.1 0 45 = nI (pl_cnt false (A ++ E)) := hls1.2.2.1.2.2.2.1
  have x46 : τ1.1 0 46 = nI (pl_cnt true (A ++ E)) := hls1.2.2.1.2.2.2.2.1
  have eX7 : prf_X_call rc τ1 (nI k) (nI p) = prf_X_call_242 rc pr_FU τD (nI k) (nI p) (nI nf') (nI e'.2.1) (nI (A ++ E).length) (nI A.length) (nI (pl_cnt false (A ++ E))) (nI (nb + 1)) 0 := by
    rw [eX6, a1 hall2]
    unfold pl_166e
    rw [h42x, x43, x44, x45, nI_1, hτD]
  have fD : pl_fr pl_FM pl_GM τ1 τD := by rw [hτD]; exact (pl_sI_fr (o := 0) (k := 43) rfl).tr (pl_sI_fr (o := 0) (k := 44) rfl)
  have vD : ∀ y, ¬ y = 43 → ¬ y = 44 → τD.1 0 y = τ1.1 0 y := by intro y h1 h2; rw [hτD, pr_sI_ne (by omega), pr_sI_ne (by omega)]
  have wD : ∀ a, τD.2.1 a = τ1.2.1 a := by intro a; rw [hτD]; rfl
  obtain ⟨⟨g3, eg3⟩, u32, u33⟩ := id u3
  have f3 : pl_fr pl_FL pl_GL σ2 σ3 := by rw [eg3]; exact (pl_sI_fr (o := 6) (k := 13) rfl).tr (pl_sA_fr (o := 24) rfl)
  have fld3 : ∀ o y, ¬ (o = 6 ∧ y = 13) → σ3.1 o y = σ2.1 o y := by intro o y ho; rw [eg3]; exact pr_sI_ne ho
  have row3 : ∀ a, ¬ a = 24 → σ3.2.1 a = σ2.2.1 a := by intro a ha; rw [eg3, pl_sA_ne ha]; rfl
  have h613 : σ3.1 6 13 = nI j := by rw [eg3]; show (pr_sI σ2 6 13 (nI j)).1 6 13 = _; exact pr_sI_same
  have b3 : pl_bs T m rep Ps σ3 τD := pl_bs_fr b1 f3 fD
  have gf3 : pl_fn T m rep Ps σ3 τD j nf' sf qf e' := pl_fn_fr gf f3 fD
  have hs3 : pl_scp T m rep σ3 τ1 (A ++ E) := by
    refine pl_scp_eq hls1.2.2.1 ?_ ?_ h42x x45 x46 (fun a z h1 h2 _ => by rw [row3 a (by omega)]) (fun _ _ _ _ _ => rfl)
    · rw [fld3 5 4 (by omega)]; exact hls1.2.2.1.1
    · rw [fld3 5 5 (by omega)]; exact hls1.2.2.1.2.1
  obtain ⟨q82w, q82⟩ := pl_82c hs3 (b3.1 |> fun hh => pl_tt_fr htt (f2.tr f3) fX ⟨rfl, rfl, rfl, rfl, rfl, rfl⟩ ⟨rfl, rfl, rfl, rfl, rfl, rfl⟩) h613 (pl_fpC b3 gf3).1 (by omega) (show t < pl_xc T by omega) (nI s) eT
  have h47D : τD.1 0 47 = 0 := by rw [vD 47 (by decide) (by decide)]; exact h47
  rcases pl_dup (rc := rc) b3 gf3 h613 h47D (nI k) (nI p) (nI (A ++ E).length) (nI A.length) (nI (pl_cnt false (A ++ E))) (nI (nb + 1)) with ⟨pt, d1, d2⟩ | ⟨d1, d2⟩
  · exact Or.inl (bad 2 pt _ (by decide) ⟨σ3, q82w 2 pt d1, f3⟩ (by rw [eX7]; exact d2) pl_wX_47.1 pl_wX_47.2 (fD.tr pl_wX_fr))
  have q82' := q82 d1
  rw [d2] at eX7
  unfold pl_242e at eX7
  rw [vD 45 (by decide) (by decide), x45, nI_add] at eX7
  by_cases qroom : pl_cnt false (A ++ E) + e'.2.1 ≤ 12
  rotate_left
  · rw [if_neg qroom] at q82'
    rw [if_neg (show ¬ nI (pl_cnt false (A ++ E) + e'.2.1) ≤ 12 from nI_ge (a := 12) (by omega) (by have := hs3.2.2.2.2.2.1; omega)), pl_wrX h47D (by omega) (by rw [wD 14]; exact h14k), pl_sb] at eX7
    exact Or.inl (bad 10 t _ (by decide) ⟨σ3, q82', f3⟩ eX7 pl_wX_47.1 pl_wX_47.2 (fD.tr pl_wX_fr))
  rw [if_pos qroom] at q82'
  rw [if_pos (show nI (pl_cnt false (A ++ E) + e'.2.1) ≤ 12 from nI_le (b := 12) qroom (by omega))] at eX7
  refine Or.inr ?_
  have hhold : prf_Y_holds (pl_s1 σ d r.2.2.2.2.1) (nI s) = some (1, σ3) := by rw [hH2]; exact q82'
  have h3 : pl_h3 T r (pl_s2 σ d r.2.2.2.2.1 A) σ3 := by
    rw [← hσ2]
    refine ⟨fld3, row3, by rw [eg3]; rfl, fun u hu => ?_, fun u t1 t2 t3 t4 t5 => ?_⟩
    · refine u32 u (fun c hc _ hcu => hu ?_)
      rcases List.mem_append.mp hc with hc | hc
      · have := pl_cu_mem _ _ c hc
        omega
      · rw [← ecu] at hc
        have := pl_cu_mem _ _ c hc
        omega
    · rw [hrE]
      refine u33 (u, pl_xK T (u + 1) == 16) ?_ t3
      have hun : ¬ u = n0 := fun z => t4 (by rw [z]; exact kn.2.1)
      have hue : ¬ u = e + 1 := fun z => by rw [z, k19] at t3; cases t3
      by_cases hlt : u < n0
      · exact List.mem_append_left _ (pl_cu_in t3 _ _ (by omega) (by omega))
      · refine List.mem_append_right _ ?_
        rw [← ecu]
        exact pl_cu_in t3 _ _ (by omega) (by omega)
  have o3 : pl_opn d σ3 := ⟨by rw [fld3 6 9 (by omega)]; exact o2.1, by rw [fld3 6 10 (by omega)]; exact o2.2.1, o2.2.2⟩
  have st3 : pl_sts σ3 s [r] := pl_sts_eq (σ := σ2) [r] s (fun q z h1 h2 _ _ => by rw [f3.2.1 q (pl_GL_lo (by omega))]) st2
  have fld : ∀ o y, ¬ o = 6 → σ3.1 o y = σ.1 o y := by
    intro o y ho
    rw [fld3 o y (by omega), hσ2]
    unfold pl_s2 pl_s1
    rw [pr_sI_ne (by omega), pr_sI_ne (by omega), pr_sI_ne (by omega)]
    show (pr_sI σ 6 10 (nI d)).1 o y = _
    rw [pr_sI_ne (by omega)]
  have row : ∀ a, ¬ a = 24 → ¬ a = 42 → σ3.2.1 a = σ.2.1 a := by intro a h24 h42; rw [row3 a h24, r2 a h42]
  have e611 : σ3.1 6 11 = nI (pl_cnt false A) := by rw [fld3 6 11 (by omega)]; exact hls2.2.2.2.2.2.1
  have e612 : σ3.1 6 12 = nI (pl_cnt true A) := by rw [fld3 6 12 (by omega)]; exact hls2.2.2.2.2.2.2.1
  obtain ⟨σA, eL, hpC⟩ := pl_lay b3 (d := d) (p := p) (send := send) (V := A ++ E) (A := A) (par := par) (show s < pl_tS Ps by omega) st3 (show r.2.1 < pl_xc T by omega) (by omega) (by rw [hr5]; omega) (by omega) o3 (by rw [fld 4 14 (by decide)]; exact z41) hp (by rw [row 45 (by decide) (by decide)]; exact z52) (by rw [row 43 (by decide) (by decide)]; exact z51) (by rw [fld 5 4 (by decide)]; exact z2.1) (by rw [fld 5 5 (by decide)]; exact z2.2.1) e611 e612
  have elast : (if r.2.2.2.2.1 = send then (1 : Int32) else 0) = if k + ((7, t, 0, 3 + (pl_catF Gs).length) :: h0 :: (13, n0, nI n0, 1) :: pl_catF Gs : List pl_N).length = b + bs then 1 else 0 := by
    rw [hr5]
    by_cases q : s + 1 = send
    · rw [if_pos q, if_pos (hlast.mp q)]
    · rw [if_neg q, if_neg (fun w => q (hlast.mpr w))]
  rw [elast] at hpC
  obtain ⟨c1, c2, c3, c4, c5, c6, c7⟩ := id hpC
  have fA3 := pl_pC_fr hpC
  -- where the result goes
  have httA : pl_tt T σA τ1 := pl_tt_fr b1.1 (f3.tr fA3) (pl_fr.rf (F := pl_FM) (G := pl_GM)) ⟨rfl, rfl, rfl, rfl, rfl, rfl⟩ ⟨rfl, rfl, rfl, rfl, rfl, rfl⟩
  have htg : ∃ σT tg, prf_Y_layCall σA (nI p) (nI t) = prf_Y_layCall_38 pr_FU σT (nI p) 0 ∧ σT.2.1 34 p = tg ∧ (∀ o y, σT.1 o y = σA.1 o y) ∧ (∀ a z, ¬ (a = 34 ∧ z = p) → σT.2.1 a z = σA.2.1 a z) ∧ pl_fr pl_FL pl_GL σA σT ∧ ((pl_xK T (t + 1) = 20 ∧ ∃ y, pl_so T E t false (nI y) ∧ y < 12 ∧ tg = nI (pl_cnt false A + y)) ∨ (¬ pl_xK T (t + 1) = 20 ∧ tg = -1)) := by
    unfold prf_Y_layCall
    rw [nI_1, pl_kindG httA (by omega), pl_sb]
    rcases hn0 with ⟨rfl, kq, _⟩ | ⟨rfl, kq, _⟩
    · rw [if_neg (show ¬ nI (pl_xK T (n0 + 1)) = 20 by rw [kq]; decide)]
      exact ⟨σA, -1, rfl, c7.1, fun _ _ => rfl, fun _ _ _ => rfl, pl_fr.rf, Or.inr ⟨by omega, rfl⟩⟩
    · rw [if_pos (show nI (pl_xK T (t + 1)) = 20 by rw [kq]; rfl)]
      have hso : pl_so T E t false (σ3.2.1 24 t) := by
        have := u33 (t, false) (List.mem_append_left _ (by
          have := pl_cu_in k1 (t + 2 - t) t (Nat.le_refl _) (by omega)
          rw [kq] at this
          exact this)) k1
        exact this
      obtain ⟨i, e0, so1, so2, so3⟩ := id hso
      have hi : i < E.length := by
        by_cases q : i < E.length
        · exact q
        · have := so1.2.1
          rw [List.getElem?_eq_none (by omega)] at this; cases this
      have hcl : pl_cnt false (E.take i) < 12 := by
        have hsp : E = E.take i ++ e0 :: E.drop (i + 1) := by
          have h1 := List.take_append_drop i E
          rw [← List.getElem_cons_drop hi] at h1
          have h2 := so1.2.1
          rw [List.getElem?_eq_getElem hi] at h2
          rw [Option.some.inj h2] at h1
          exact h1.symm
        have h12 := z2.2.2.2.2.2.1
        rw [pl_cnt_app, hsp, pl_cnt_app] at h12
        have e0c : pl_cnt false (e0 :: E.drop (i + 1)) = 1 + pl_cnt false (E.drop (i + 1)) := by
          have : pl_cnt false ([e0] ++ E.drop (i + 1)) = pl_cnt false [e0] + pl_cnt false (E.drop (i + 1)) := pl_cnt_app _ _
          have h1 : pl_cnt false [e0] = 1 := by
            obtain ⟨a, bo⟩ := e0
            have : bo = false := so2
            subst this
            rfl
          rw [h1] at this
          exact this
        omega
      have r24 : σA.2.1 24 t = nI (pl_cnt false (E.take i)) := by rw [c3 24 (by decide)]; exact so3
      have eslot : prf_G_slotOf σA (nI t) = some (nI (pl_cnt false (E.take i))) := by
        unfold prf_G_slotOf
        rw [if_neg (nI_pos (by omega)), if_neg (show ¬ (8001 : Int32) ≤ nI t from nI_ge (b := 8001) (by omega) (by omega)), pl_ck (by omega) (by omega), nI_clamp (by omega), r24]
      have e11A : σA.1 6 11 = nI (pl_cnt false A) := by rw [c2 6 11 (by omega)]; exact e611
      rw [eslot, pl_sb, e11A, nI_add]
      unfold prf_O_setTarget
      rw [(pl_pnt c1 (by omega) (show p < p + 1 by omega)).1, pl_sb, if_neg pl_10, pl_ck (by omega) (by omega), nI_clamp (by omega), pl_sb]
      refine ⟨_, nI (pl_cnt false A + pl_cnt false (E.take i)), rfl, by rw [pl_sA_same, pk_us], fun _ _ => rfl, fun a z haz => ?_, pl_sA_fr rfl, Or.inl ⟨kq, _, ⟨i, e0, so1, so2, rfl⟩, hcl, rfl⟩⟩
      by_cases ha : a = 34
      · subst ha
        rw [pl_sA_same, pk_un (by omega)]
      · rw [pl_sA_ne ha]
  obtain ⟨σT, tg, eLC, t34, tfl, trw, fT, htgt⟩ := htg
  have bT : pl_bs T m rep Ps σT τD := pl_bs_fr b3 (fA3.tr fT) pl_fr.rf
  have gfT : pl_fn T m rep Ps σT τD j nf' sf qf e' := pl_fn_fr gf3 (fA3.tr fT) pl_fr.rf
  have sT : pl_scp T m rep σT τD (A ++ E) := by
    refine pl_scp_eq hs3 ?_ ?_ ?_ ?_ ?_ (fun a z h1 h2 _ => by rw [trw a z (by omega), c3 a (by omega)]) (fun a z h1 h2 _ => by rw [wD a])
    · rw [tfl, c2 5 4 (by omega)]; exact hs3.1
    · rw [tfl, c2 5 5 (by omega)]; exact hs3.2.1
    · rw [vD 42 (by decide) (by decide)]; exact h42x
    · rw [vD 45 (by decide) (by decide)]; exact x45
    · rw [vD 46 (by decide) (by decide)]; exact x46
  obtain ⟨fu, hfu⟩ : ∃ fu, fu + 1 + e'.2.1 = pr_FU := ⟨pr_FU - 1 - e'.2.1, by rw [hF]; omega⟩
  obtain ⟨σG, τG, eG1, eG2, sG, ⟨gc1, gc2, gc3, gc4⟩, gd1, gd2, gd3, gd4, gd5⟩ := pl_give (rc := rc) (nb1 := nb + 1) (xp := nI p) (x2 := nI p) (x7 := nI (A ++ E).length) (x8 := nI A.length) (x9 := nI (pl_cnt false (A ++ E))) e'.2.1 0 fu fu (A ++ E) σT τD bT gfT (by rw [tfl, c2 6 13 (by omega)]; exact h613) (by omega) sT (by omega)
  rw [hfu] at eG1 eG2
  have fG : pl_fr pl_FL pl_GL σT σG := by
    refine ⟨fun o k hok => gc1 o k (fun q => ?_), fun a ha => gc2 a (fun q => ?_), gc4⟩
    · rw [q] at hok; cases hok
    · unfold pl_GL at ha
      rw [Nat.ble_eq_true_of_le (show 24 ≤ a by omega), Nat.ble_eq_true_of_le (show a ≤ 46 by omega)] at ha
      cases ha
  have fGX : pl_fr pl_FM pl_GM τD τG := by
    refine ⟨fun o k hok => gd1 o k (fun q => ?_), fun a ha => gd2 a (fun q => ?_), gd4⟩
    · rw [q.1] at hok
      rcases q.2 with q | q
      · rw [q] at hok; cases hok
      · rw [q] at hok; cases hok
    · unfold pl_GM at ha
      rw [Nat.ble_eq_true_of_le (show 20 ≤ a by omega), Nat.ble_eq_true_of_le (show a ≤ 32 by omega)] at ha
      cases ha
  have bG := pl_bs_fr bT fG fGX
  have gfG := pl_fn_fr gfT fG fGX
  obtain ⟨_, _, ebg, een⟩ := pl_fpC bG gfG
  have hsfe := gf.2.2.2.2.2.2.1
  obtain ⟨σB, eB, q69, qf', qr, qz, q36, q4, q22⟩ := pl_openC (σ := σG) (d := d) (p := p) (a := sf) (be := sf + (pl_b2 e'.2.2.2).length) (ot := sf + (pl_b2 e'.2.2.2).length) (fi := j) (by rw [gc1 6 9 (by decide), tfl, c2 6 9 (by omega)]; exact o3.1) (by omega) (by rw [gc1 4 14 (by decide), tfl]; exact c1) hp (by omega) (by omega)
  have eK : pl_layK σA (nI s) (nI p) (nI r.2.1) (nI r.1) = some σB := by
    unfold pl_layK
    rw [hr1, if_neg (by decide), if_neg (by decide), if_neg (by decide), if_pos (by rfl), hrt, eLC]
    have e00 : prf_Y_layCall_38 pr_FU σT (nI p) 0 = some σB := by
      rw [show (0 : Int32) = nI 0 from rfl, eG1]
      unfold prf_Y_openFunction
      rw [ebg, pl_sb, een, pl_sb, pl_sb, eB, pl_sb, pl_sb]
    rw [e00, pl_sb]
  have fB : pl_fr pl_FL pl_GL σG σB := by
    refine ⟨fun o k hok => qf' o k (fun q => ?_), fun a ha => qr a (fun q => ?_) (fun q => ?_), q22⟩
    · rw [q.1] at hok; cases hok
    · unfold pl_GL at ha
      rw [Nat.ble_eq_true_of_le (show 24 ≤ a by omega), Nat.ble_eq_true_of_le (show a ≤ 46 by omega)] at ha
      cases ha
    · rw [q] at ha; cases ha
  have row36 : ∀ z, ¬ z = p → σB.2.1 36 z = σA.2.1 36 z := by
    intro z hz
    rw [q36]
    by_cases qq : sf + (pl_b2 e'.2.2.2).length ≤ sf
    · rw [if_pos qq, gc2 36 (by decide), trw 36 z (by omega)]
    · rw [if_neg qq, pk_un hz, gc2 36 (by decide), trw 36 z (by omega)]
  have hM := pl_M0 (σB := σB) (τB := τG) (tg := tg) hZ his hsv h3 hpC hpX ((fT.tr fG).tr fB) (fD.tr fGX)
    (fun a z h1 h2 hz => by
      by_cases qa : a = 36
      · subst qa
        exact row36 z (by omega)
      · rw [qr a (by omega) qa, gc2 a (by omega), trw a z (by omega)])
    (fun a z h1 h2 hz => by rw [qr a (by omega) (by omega), gc3 a z hz, trw a z (by omega)])
    (fun a z h1 h2 hz => by rw [qz a z h1 (by omega), gc2 a (by omega), trw a z (by omega)])
    (fun a z h1 h2 => by rw [gd2 a (by omega), wD a]) (fun a z h1 h2 hz => by rw [gd3 a z hz, wD a]) (by rw [qr 34 (by decide) (by decide), gc2 34 (by decide)]; exact t34)
  rw [hr5] at hM
  refine ⟨σB, τG, j, nf', sf, qf, e', tg, fun g => ?_, ?_, hM, ⟨pl_fn_fr gfG fB pl_fr.rf, hmf.1, qc.symm, by rw [qc]; exact qroom⟩, ⟨q69, by rw [qf' 4 14 (by omega), gc1 4 14 (by decide), tfl]; exact c1, ?_, ?_⟩, q4, ⟨?_, ?_, ?_, ?_, by rw [gd1 0 48 (by omega), vD 48 (by decide) (by decide), hpX.2.1 0 48 (by omega)]⟩, ?_, gd5, htgt⟩
  · have ht := pl_turn z1 z44 (by omega) h42 z51 hse z54 i4 hx g
    rw [hhold, pl_sb, if_neg (show ¬ ((1 : Int32), σ3).1 = 0 from pl_10), eL, eK, pl_sb] at ht
    exact ht
  · rw [head, eX7, show (0 : Int32) = nI 0 from rfl, eG2]
    obtain ⟨hff, _⟩ := pl_fF_fn bG gfG
    rw [(hff.2.2.2.2.2.2.2.2.2 τG pl_fr.rf).1, pl_sb]
    cases rc τG (nI (nf' + 2 + e'.2.1)) (nI nf') (nI p) (nI (nb + 1)) with
    | none => rfl
    | some v => rfl
  · rw [q36]
    by_cases qq : (pl_b2 e'.2.2.2).length = 0
    · rw [if_pos (show sf + (pl_b2 e'.2.2.2).length ≤ sf by omega), if_pos qq, gc2 36 (by decide), trw 36 p (by omega)]; exact c7.2.2.1
    · rw [if_neg (show ¬ sf + (pl_b2 e'.2.2.2).length ≤ sf by omega), if_neg qq, pk_us]
  · rw [qr 37 (by decide) (by decide), gc2 37 (by decide), trw 37 p (by omega)]; exact c7.2.2.2
  · rw [gd1 0 33 (by omega), vD 33 (by decide) (by decide)]; exact hpX.1
  · rw [gd1 0 43 (by omega), hτD, pr_sI_ne (by omega)]; exact pr_sI_same
  · rw [gd1 0 47 (by omega)]; exact h47D
  · rw [gd1 0 44 (by omega), hτD]; exact pr_sI_same
  · refine pl_scp_eq sG ?_ ?_ sG.2.2.1 sG.2.2.2.1 sG.2.2.2.2.1 (fun a z h1 h2 _ => by rw [qr a (by omega) (by omega)]) (fun _ _ _ _ _ => rfl)
    · rw [qf' 5 4 (by omega)]; exact sG.1
    · rw [qf' 5 5 (by omega)]; exact sG.2.1
