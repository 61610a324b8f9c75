/-! THE MACHINE: return; every statement -/
theorem pm_is6 {T : pl_Tx} {f s q : Nat} {E : List (Nat × Bool)} {F : List pl_N} {r : pl_S} {S' : List pl_S} {O : List pl_O} (h : pl_sT T f s q E F (r :: S') O) (hr : r.1 = 4) : pl_st6 T s q E F (r :: S') O := by
  cases f with
  | zero => exact h.elim
  | succ f =>
    have no : ∀ (x : pl_S) (l : List pl_S), (r :: S') = x :: l → ¬ x.1 = 4 → False := by
      intro x l hx hn
      have := (List.cons.inj hx).1
      rw [← this] at hn
      exact hn hr
    rcases h with (⟨t, _, _, _, _, hS, _⟩ | ⟨t, b, G, _, _, _, _, _, _, _, hS⟩ | ⟨t, _, _, _, _, _, _, _, hS, _⟩ | ⟨t, _, G, _, _, _, _, _, _, _, hS⟩ | ⟨t, _, _, G, H, _, _, _, _, _, _, _, _, _, _, _, _, _, hS⟩ | h6 | ⟨t, _, C, _, _, _, _, _, _, _, hS⟩ | ⟨t, _, G, _, _, _, _, _, hS⟩) | ⟨k, t, b, C, Qc, B1, S1, O1, B2, S2, O2, h1, h2, h3, h4, h5, h6, h7, h8, h9, hS, hO⟩
    · exact (no _ _ hS (show ¬ (1 : Nat) = 4 by decide)).elim
    · exact (no _ _ hS (show ¬ (1 : Nat) = 4 by decide)).elim
    · exact (no _ _ hS (show ¬ (1 : Nat) = 4 by decide)).elim
    · exact (no _ _ hS (show ¬ (2 : Nat) = 4 by decide)).elim
    · exact (no _ _ hS (show ¬ (3 : Nat) = 4 by decide)).elim
    · exact h6
    · exact (no _ _ hS (show ¬ (7 : Nat) = 4 by decide)).elim
    · exact (no _ _ hS (show ¬ (8 : Nat) = 4 by decide)).elim
    · exact (no _ _ hS (by show ¬ k - 3 = 4; rcases h1 with ⟨w, _⟩ | ⟨w, _⟩ <;> omega)).elim
/-- where the reference puts the value of a call -/
theorem pm_goal {T : pl_Tx} {m : Nat} {rep : Nat → Nat} {E : List (Nat × Bool)} {τ : pr_St} {z pp k' id t i : Nat} {e : Nat × Bool} (h2 : ∀ j k, j < k → k < m → ¬ pl_sn T (rep j) (rep k)) (hm : m ≤ 8000) (hz : z < 250) (h21 : τ.2.1 21 z = nI pp) (hpp : pp < 250) (h20 : τ.2.1 20 pp = nI k') (hk : k' + 1 < 13000) (h13 : τ.2.1 13 (k' + 1) = nI 13) (h15 : τ.2.1 15 (k' + 1) = nI id) (hid : id < m) (hsn : pl_sn T (rep id) t) (h25 : τ.2.1 25 pp = nI E.length) (hE : E.length ≤ 18) (h7 : ∀ i e, E[i]? = some e → ∃ id, τ.2.1 26 (40 * pp + i) = nI id ∧ id < m ∧ pl_sn T (rep id) e.1) (hl : pl_lst T E 0 t i e) : prf_X_goal τ (nI z) = some (τ.2.1 27 (40 * pp + i)) := by
  have hF : pr_FU = 100000 := rfl
  have hi : i < E.length := pm_ilt hl.2.1
  have em : (40 : Int32) * nI pp = nI (40 * pp) := pk_mul (a := 40) (b := pp)
  have loop : ∀ (r n f : Nat), i + r = n → n < E.length → r + 1 ≤ f → prf_X_goal_39 f τ (nI pp) (nI k') (nI n) = some (τ.2.1 27 (40 * pp + i)) := by
    intro r
    induction r with
    | zero =>
      intro n f hn hnl hf
      obtain ⟨f, rfl⟩ : ∃ y, f = y + 1 := ⟨f - 1, by omega⟩
      have : n = i := by omega
      subst this
      obtain ⟨jd, j1, j2, j3⟩ := h7 n e hl.2.1
      rw [prf_X_goal_39, if_neg (nI_pos (by omega)), em, nI_add, nI_1, pl_ck (show 40 * pp + n < 10040 by omega) (by omega), pl_ck (show k' + 1 < 13000 by omega) (by omega), nI_clamp (show 40 * pp + n < 2 ^ 31 by omega), nI_clamp (show k' + 1 < 2 ^ 31 by omega), j1, h15, if_pos (by rw [(pl_ids h2 j2 hid j3 hsn).mpr hl.2.2.1]), pl_ck (show 40 * pp + n < 10040 by omega) (by omega)]
    | succ r ih =>
      intro n f hn hnl hf
      obtain ⟨f, rfl⟩ : ∃ y, f = y + 1 := ⟨f - 1, by omega⟩
      obtain ⟨e', he'⟩ : ∃ e', E[n]? = some e' := ⟨E[n], List.getElem?_eq_getElem hnl⟩
      obtain ⟨jd, j1, j2, j3⟩ := h7 n e' he'
      have hns := hl.2.2.2 n e' (by omega) he'
      obtain ⟨n', hn'⟩ : ∃ n', n = n' + 1 := ⟨n - 1, by omega⟩
      rw [prf_X_goal_39, if_neg (nI_pos (by omega)), em, nI_add, nI_1, pl_ck (show 40 * pp + n < 10040 by omega) (by omega), pl_ck (show k' + 1 < 13000 by omega) (by omega), nI_clamp (show 40 * pp + n < 2 ^ 31 by omega), nI_clamp (show k' + 1 < 2 ^ 31 by omega), j1, h15, if_neg (fun w => hns ((pl_ids h2 j2 hid j3 hsn).mp ((nI_eq (by omega) (by omega)).mp w))), hn', pl_dn]
      exact ih n' f (by omega) (by omega) (by omega)
  obtain ⟨n', hn'⟩ : ∃ n', E.length = n' + 1 := ⟨E.length - 1, by omega⟩
  unfold prf_X_goal
  rw [pl_ck hz (by omega), nI_clamp (show z < 2 ^ 31 by omega), h21, pl_ck hpp (by omega), nI_clamp (show pp < 2 ^ 31 by omega), h20, nI_1, pl_ck hk (by omega), nI_clamp (show k' + 1 < 2 ^ 31 by omega), h13, if_neg (show ¬ nI 13 = 33 by decide), pl_ck (show pp < 251 by omega) (by omega), h25, hn', pl_sub1]
  exact loop (n' - i) n' pr_FU (by omega) (by omega) (by rw [hF]; omega)
theorem pm_goalN {τ : pr_St} {z pp k' : Nat} (hz : z < 250) (h21 : τ.2.1 21 z = nI pp) (hpp : pp < 250) (h20 : τ.2.1 20 pp = nI k') (hk : k' + 1 < 13000) (h13 : τ.2.1 13 (k' + 1) = nI 33) : prf_X_goal τ (nI z) = some (-1) := by
  unfold prf_X_goal
  rw [pl_ck hz (by omega), nI_clamp (show z < 2 ^ 31 by omega), h21, pl_ck hpp (by omega), nI_clamp (show pp < 2 ^ 31 by omega), h20, nI_1, pl_ck hk (by omega), nI_clamp (show k' + 1 < 2 ^ 31 by omega), h13, if_pos (by decide)]
/-- return SUM ; -/
theorem pm_st0 {T : pl_Tx} {m : Nat} {rep : Nat → Nat} {Ps : List pl_En} {W : pl_Wt} {P : Nat} {nx : Nat → Nat} {σp τp σ0 σ τ : pr_St} {z ic rd f k s q en : Nat} {F : List pl_N} {S' : List pl_S} {O : List pl_O} {r : pl_S} {par : Int32} (hE : pm_En T m rep Ps W P nx z ic rd σp τp σ τ) (hPt : pm_Pt T m rep Ps W P nx z σ0 σ τ τp f k s q en F S' O r par) (h : pl_st0 T s q (W z).2 F (r :: S') O) : pm_SR T W P z ic rd σ τ := by
  obtain ⟨t, b, G, k1, kb, hcm, hsm, rfl, hS⟩ := h
  obtain ⟨hr, hS'⟩ := List.cons.inj hS
  subst hS'
  have hr1 : r.1 = 8 := by rw [hr]
  have hrt : r.2.1 = t := by rw [hr]
  have hre : r.2.2.2.2.2.2 = b + 1 := by rw [hr]
  obtain ⟨hRP, hT0, hag, hax, hz, h55, hcl, har, hi, hrd, h11, h59⟩ := id hE
  have hv := pm_vc1 hRP hT0 hag hz hPt h55 hcl har
  have htv := hv.1
  have hb1 : b + 1 < pl_xc T := htv.2.2.2.2 b (by omega)
  obtain ⟨⟨a1, a2, a3, a4, a5⟩, b2, c3, b4, b5, b6, b7, _, ⟨pp8, pk, _⟩, d1, _⟩ := id hPt
  obtain ⟨pp, hpar, hpp, h25p⟩ := pp8.2 hr1
  have hk := b2.1
  rw [List.length_cons] at hk
  have hab := hcm.1
  have hlk := pm_lkc hRP.1.1 hcm (by omega) (by omega) c3.1 c3.2.1 (by omega) (by omega) (fun w => by omega)
  have r13 : τ.2.1 13 k = nI 11 := a2.1.1
  -- the call
  obtain ⟨σ0', f', k', s', q', en', F', S2, O', r', par', hPp⟩ := pm_pt0 hRP hag hax (z := pp) (by omega)
  have e4 : r'.1 = 4 := by
    have h64 : r'.1 < 64 := by
      obtain ⟨kr, t', v, zz, F2, r2, S3, eF, eS, hrk, _⟩ := pl_sT_kd hPp.1.1
      have : r' = r2 := (List.cons.inj eS).1
      rw [this]
      rcases hrk with ⟨w6, _⟩ | w6 <;> omega
    by_cases u : r'.1 = 4
    · exact u
    · exact absurd (hPp.2.2.2.1.1.symm.trans h25p) (pl_nn (j := 4) (v := 4) h64 (by decide) rfl u)
  have h6 := pm_is6 hPp.1.1 e4
  obtain ⟨t', n0', e', h0', Gs', j1, j2, j3, j4, j5, rfl, rfl, hS3, hG'⟩ := h6
  have hrt' : r'.2.1 = t' := by rw [(List.cons.inj hS3).1]
  have hPpC := id hPp
  obtain ⟨⟨p1, p2, p3, p4, p5⟩, pb2, pc3, pb4, pb5, pb6, pb7, pb8, ⟨_, ppk, p34⟩, _⟩ := hPpC
  have hkp := pb2.1
  rw [List.length_cons, List.length_cons, List.length_cons] at hkp
  have head : prf_X_step τ = (prf_X_reckon (prF_X_reckon 200) τ (nI (k + 1))).bind fun r186 => if (r186.2.1 0 59) = 0 then ((prf_X_goal r186.2 (nI z)).bind fun r189 => if r189 = (-1) then ((prf_X_after r186.2 (nI z)).bind fun r191 => some (r191, r186.2)) else ((prf_X_goal r186.2 (nI z)).bind fun r192 => pr_ck r192 12 <| (prf_X_after (pr_sA r186.2 34 (upd (r186.2.2.1 34) r192.toNatClampNeg r186.1.toInt32)) (nI z)).bind fun r194 => some (r194, (pr_sA r186.2 34 (upd (r186.2.2.1 34) r192.toNatClampNeg r186.1.toInt32))))) else ((prf_X_after r186.2 (nI z)).bind fun r188 => some (r188, r186.2)) := by
    unfold prf_X_step
    rw [h55, pl_ck (show z < 250 by omega) (by omega), nI_clamp (show z < 2 ^ 31 by omega), b6.1, pl_ck (show k < 13000 by omega) (by omega), nI_clamp (show k < 2 ^ 31 by omega), r13, if_neg (show ¬ nI 11 = 3 by decide), if_neg (show ¬ nI 11 = 4 by decide), if_neg (show ¬ nI 11 = 5 by decide), if_neg (show ¬ nI 11 = 6 by decide), if_neg (show ¬ nI 11 = 7 by decide), if_neg (show ¬ nI 11 = 8 by decide), if_neg (show ¬ nI 11 = 9 by decide), if_neg (show ¬ nI 11 = 10 by decide), nI_1]
  rcases pm_one hE hPt hsm a2.2 (by omega) hlk with ⟨v, rd', σ', τ', e1, e2, e3, f1, f2, g13, g51, g11, g59, giv⟩ | ⟨v64, w, rd', σ', τ', e1, e2, e3, f1, f2, w0, w1, w2, giv⟩
  · have hPt1 := pm_Pt_fr hPt (pm_fcE f1) (pm_fxE f2)
    have b7' := hPt1.2.2.2.2.2.2.1
    have htg := (pm_pnt2 b7'.2.2.2.2.2.1 (show P + 1 ≤ 250 by omega) (show pp < P + 1 by omega)).2.2.2.2.2.1
    have hCs := (pm_stC e1 g11 (pm_acc hPt1).1 (by omega)).2.2.2.2.2.2.2 hr1
    rw [(pm_acc hPt1).2.2.2.2.2.2, pl_sb, hpar, htg, pl_sb, pm_w0 (c := 0) g13 (by decide), pl_sb, g51, f1.2.1 34 rfl, ← p34] at hCs
    have h21' : τ'.2.1 21 z = nI pp := by rw [f2.2.1 21 rfl, b6.2.1]; exact hpar
    have h20' : τ'.2.1 20 pp = nI k' := by rw [f2.2.1 20 rfl]; exact pb6.1
    rcases ppk with ⟨w, -⟩ | ⟨_, _, _, x3, _⟩ | ⟨w, -⟩
    · omega
    · rcases j2 with ⟨_, j12, rfl⟩ | ⟨_, j20, _, _, rfl⟩
      · -- the value goes nowhere
        rcases x3 with ⟨w, -⟩ | ⟨_, x34⟩
        · rw [hrt'] at w; omega
        have eset : prf_M_setNumber σ' (-1) v = some σ' := by unfold prf_M_setNumber; rw [if_pos (by decide)]
        rw [x34, eset, pl_sb, (pm_acc hPt1).2.1, pl_sb] at hCs
        have hX : prf_X_step τ = some (nI (nx z), τ') := by
          have hg : prf_X_goal τ' (nI z) = some (-1) := pm_goalN (by omega) h21' (by omega) h20' (by omega) (by rw [f2.2.1 13 rfl]; exact p2.2.1.1)
          rw [head, e2, pl_sb]
          dsimp only
          rw [if_pos g59, hg, pl_sb, if_pos rfl, pm_aft hPt hax (pm_fxE f2), pl_sb]
        exact Or.inl ⟨nx z, rd', σ', τ', hCs, hX, d1, g11, g59, pm_fcE f1, pm_fxE f2, giv, e3, pm_cl_fr hcl f1 f2, pm_ar_fr (pm_nxar hPt htv.2.2.1 har (by omega) (fun w => by omega)) f1⟩
      · rcases x3 with ⟨_, x, x31, x32, x33⟩ | ⟨w, -⟩
        · obtain ⟨i, ee, hl, hee, hx⟩ := x31
          rw [hrt'] at hl
          obtain ⟨id', i1, i2, i3⟩ := p2.2.1.2.2.1 rfl
          have hlt := pm_take_lt hl.2.1 hee
          have hcE : pl_cnt false (pl_wv W pp) = pl_cnt false (W pp).1 + pl_cnt false (W pp).2 := pl_cnt_app _ _
          have ex : x = pl_cnt false ((W pp).2.take i) := (nI_eq (by omega) (by omega)).mp hx
          have hcnt : pl_cnt false (W pp).1 + x < 12 := by
            have := pb7.2.2.2.1
            omega
          have hlen : (W pp).2.length ≤ 18 := by
            have h1 := pl_cnt_len (W pp).2
            have h2 : pl_cnt true (pl_wv W pp) = pl_cnt true (W pp).1 + pl_cnt true (W pp).2 := pl_cnt_app _ _
            have h3 := pb7.2.2.2.1
            have h4 := pb7.2.2.2.2.1
            omega
          have hg : prf_X_goal τ' (nI z) = some (nI (pl_cnt false (W pp).1 + x)) := by
            rw [pm_goal (id := id') hv.2.1 hv.2.2.1 (by omega) h21' (by omega) h20' (by omega) (by rw [f2.2.1 13 rfl]; exact p2.2.1.1) (by rw [f2.2.1 15 rfl]; exact i1) i2 i3 (by rw [f2.2.1 25 rfl]; exact pb6.2.2.2.2.2) hlen (fun j ej hj => by rw [f2.2.1 26 rfl]; exact (pb8 j ej hj).1) hl, f2.2.1 27 rfl, (pb8 i ee hl.2.1).2.1, hee, pl_cnt_app, ex]
          rw [x33, pm_setN hcnt, pl_sb] at hCs
          have hPt2 := pm_Pt_fr hPt1 (pm_fc48 (σ := σ') (a := 48) (g := upd (σ'.2.1 48) (pl_cnt false (W pp).1 + x) v) (by decide)) (pm_fxE (pl_fr.rf (σ := τ')))
          rw [(pm_acc hPt2).2.1, pl_sb] at hCs
          have hne : ¬ nI (pl_cnt false (W pp).1 + x) = -1 := by
            intro w
            exact nI_pos (show pl_cnt false (W pp).1 + x < 2 ^ 31 by omega) (by rw [w]; decide)
          have hX : prf_X_step τ = some (nI (nx z), pr_sA τ' 34 (upd (τ'.2.1 34) (pl_cnt false (W pp).1 + x) v)) := by
            have eaf := pm_aft hPt hax ((pm_fxE f2).tr (pm_fx34 (τ := τ') (a := 34) (g := upd (τ'.2.1 34) (pl_cnt false (W pp).1 + x) v) (Or.inl rfl)))
            rw [head, e2, pl_sb]
            dsimp only
            rw [if_pos g59, hg, pl_sb, if_neg hne, pl_sb, pl_ck hcnt (by omega), nI_clamp (by omega), pl_6432, eaf, pl_sb]
          exact pm_set hcl (pm_nxar hPt htv.2.2.1 har (by omega) (fun w => by omega)) hCs hX d1 e3 f1 f2 g11 g59 giv
        · rw [hrt'] at w; omega
    · omega
  · have hX : prf_X_step τ = some (nI (nx z), τ') := by
      rw [head, e2, pl_sb]
      dsimp only
      rw [if_neg (by rw [w2]; exact pl_neg0 w0), pm_aft hPt hax (pm_fxE f2), pl_sb]
    exact pm_bad hcl har e1 hX e3 f1 f2 w0 w1 w2 giv
/-- every step -/
theorem pm_step {T : pl_Tx} {m : Nat} {rep : Nat → Nat} {Ps : List pl_En} {W : pl_Wt} {P : Nat} {nx : Nat → Nat} {σp τp σ τ : pr_St} {z ic rd : Nat} (hE : pm_En T m rep Ps W P nx z ic rd σp τp σ τ) : pm_SR T W P z ic rd σ τ := by
  obtain ⟨σ0, f, k, s, q, en, F, S', O, r, par, hPt⟩ := pm_pt0 hE.1 hE.2.2.1 hE.2.2.2.1 hE.2.2.2.2.1
  have hsT := hPt.1.1
  cases f with
  | zero => exact hsT.elim
  | succ f =>
    rcases hsT with (h | h | h | h | h | h | h | h) | ⟨kd, t, b, C, Qc, B1, S1, O1, B2, S2, O2, h1, h2, h3, h4, h5, h6, h7, h8, rfl, hS, rfl⟩
    · exact pm_st1 hE hPt h
    · exact pm_st2 hE hPt h
    · exact pm_st3 hE hPt h
    · exact pm_st4 hE hPt h
    · exact pm_st5 hE hPt h
    · exact pm_st6 hE hPt h
    · exact pm_st9 hE hPt h
    · exact pm_st0 hE hPt h
    · obtain ⟨hr, rfl⟩ := List.cons.inj hS
      exact pm_stB hE hPt (h1.elim (fun w => Or.inl w.1) (fun w => Or.inr w.1)) (by rw [hr]) (by rw [hr]) (by rw [hr]) h3 h5 h6 h7 h8
