/-! THE MACHINE: var, NAME =, return -/
theorem pm_w0 {σ : pr_St} {c : Nat} (h : σ.1 7 13 = nI (c + 1)) (hc : c + 1 ≤ 256) : prf_M_waitingAt σ 0 = some (σ.2.1 51 0) := by
  have := pm_wat (j := 0) h (by omega) hc
  rw [nI_0] at this
  exact this
theorem pm_acc {T : pl_Tx} {m : Nat} {rep : Nat → Nat} {Ps : List pl_En} {W : pl_Wt} {P : Nat} {nx : Nat → Nat} {σ0 σ τ τp : pr_St} {z f k s q en : Nat} {F : List pl_N} {S' : List pl_S} {O : List pl_O} {r : pl_S} {par : Int32} (h : pm_Pt T m rep Ps W P nx z σ0 σ τ τp f k s q en F S' O r par) : prf_O_kindOf σ (nI z) = some (nI r.1) ∧ prf_O_nextOf σ (nI z) = some (nI (nx z)) ∧ prf_O_numbersAt σ (nI z) = some (nI (pl_cnt false (pl_wv W z))) ∧ prf_O_arraysAt σ (nI z) = some (nI (pl_cnt true (pl_wv W z))) ∧ prf_O_intoOf σ (nI z) = some (σ.2.1 36 z) ∧ prf_O_otherOf σ (nI z) = some (σ.2.1 37 z) ∧ prf_O_parentOf σ (nI z) = some par := by
  obtain ⟨_, b2, _, b4, b5, _, b7, _⟩ := h
  have e1 := pl_pnt b7.2.2.2.2.2.1 (show P + 1 ≤ 250 by omega) (show z < P + 1 by omega)
  have e2 := pm_pnt2 b7.2.2.2.2.2.1 (show P + 1 ≤ 250 by omega) (show z < P + 1 by omega)
  exact ⟨by rw [e1.2.1, b4.1], by rw [e2.2.1, b5.1], by rw [e1.2.2.1, b4.2.2.1], by rw [e1.2.2.2.1, b4.2.2.2.1], e2.2.2.1, e2.2.2.2.1, by rw [e2.2.2.2.2.1, b4.2.2.2.2.2.2.1]⟩
theorem pm_aft {T : pl_Tx} {m : Nat} {rep : Nat → Nat} {Ps : List pl_En} {W : pl_Wt} {P : Nat} {nx : Nat → Nat} {σ0 σ τ τp τ' : pr_St} {z f k s q en : Nat} {F : List pl_N} {S' : List pl_S} {O : List pl_O} {r : pl_S} {par : Int32} (h : pm_Pt T m rep Ps W P nx z σ0 σ τ τp f k s q en F S' O r par) (hax : pm_agx τp τ) (f2 : pm_fx τ τ') : prf_X_after τ' (nI z) = some (nI (nx z)) := h.2.2.2.2.2.2.2.2.2.2.1 τ' (pm_agx_fx hax f2)
theorem pm_fc48 {σ : pr_St} {a : Nat} {g : Nat → Int32} (h : 48 ≤ a ∧ a ≤ 51) : pm_fc σ (pr_sA σ a g) := ⟨fun _ _ _ => rfl, fun b hb => pl_sA_ne (by omega)⟩
theorem pm_fx34 {τ : pr_St} {a : Nat} {g : Nat → Int32} (h : a = 34 ∨ a = 35) : pm_fx τ (pr_sA τ a g) := ⟨fun _ _ _ => rfl, fun b hb => pl_sA_ne (by omega)⟩
/-- the class begins a number -/
theorem pm_bv {T : pl_Tx} {m : Nat} {rep : Nat → Nat} {Ps : List pl_En} {W : pl_Wt} {P : Nat} {nx : Nat → Nat} {σ0 σ τ τp : pr_St} {z f k s q en : Nat} {F : List pl_N} {S' : List pl_S} {O : List pl_O} {r : pl_S} {par v : Int32} (h : pm_Pt T m rep Ps W P nx z σ0 σ τ τp f k s q en F S' O r par) (htv : pm_tv T σ) (hK : ¬ pl_xK T (r.2.1 + 2) = 16) (hx : r.2.1 + 2 < pl_xc T) (hw : (σ.1 7 13 = nI 0 ∧ v = 0) ∨ (σ.1 7 13 = nI 1 ∧ σ.2.1 51 0 = v)) (hc : pl_cnt false (pl_wv W z) < 12) : prf_M_beginVariable σ (nI z) = some (pr_sA σ 48 (upd (σ.2.1 48) (pl_cnt false (pl_wv W z)) v)) := by
  have hK35 := htv.2.2.2.1 _ hx
  unfold prf_M_beginVariable
  rw [pm_ft h, pl_sb, pl_n2, (htv.1 _ hx).1, pl_sb, if_neg (pl_nn (j := 16) (v := 16) (by omega) (by decide) rfl hK), (pm_acc h).2.2.1, pl_sb]
  rcases hw with ⟨w1, w2⟩ | ⟨w1, w2⟩
  · rw [w1, if_pos (by decide), pm_setN hc, pl_sb, w2]
  · rw [if_neg (by rw [w1]; decide), pm_w0 (c := 0) w1 (by decide), pl_sb, w2, pm_setN hc, pl_sb]
/-- a step of the class when its operations are reckoned -/
theorem pm_stC {σ σ' : pr_St} {z r1 : Nat} (hr : prf_M_reckon σ (nI z) = some σ') (h11 : σ'.1 7 11 = 0) (hk : prf_O_kindOf σ' (nI z) = some (nI r1)) (h64 : r1 < 64) :
    (r1 = 1 → prf_M_step σ (nI z) = (prf_M_beginVariable σ' (nI z)).bind fun r56 => (prf_O_nextOf r56 (nI z)).bind fun r57 => some (r57, r56)) ∧
    (r1 = 2 → prf_M_step σ (nI z) = (prf_M_firstToken σ' (nI z)).bind fun r59 => (prf_M_slotOfName σ' (nI z) r59).bind fun r60 => (prf_M_waitingAt σ' 0).bind fun r61 => (prf_M_setNumber σ' r60 r61).bind fun r62 => (prf_O_nextOf r62 (nI z)).bind fun r63 => some (r63, r62)) ∧
    (r1 = 3 → prf_M_step σ (nI z) = (prf_M_waitingAt σ' 0).bind fun r65 => (prf_M_waitingAt σ' 1).bind fun r66 => (prf_M_waitingAt σ' 2).bind fun r67 => (prf_M_setPlace σ' r65 r66 r67).bind fun r68 => (prf_O_nextOf r68 (nI z)).bind fun r69 => some (r69, r68)) ∧
    (r1 = 4 → prf_M_step σ (nI z) = prf_M_step_136 pr_FU σ' (nI z) 0) ∧
    (r1 = 5 → prf_M_step σ (nI z) = (prf_M_waitingAt σ' 0).bind fun r72 => if r72 = 0 then ((prf_O_otherOf σ' (nI z)).bind fun r74 => some (r74, σ')) else ((prf_O_intoOf σ' (nI z)).bind fun r75 => some (r75, σ'))) ∧
    (r1 = 6 → prf_M_step σ (nI z) = (prf_M_waitingAt σ' 0).bind fun r77 => if r77 = 0 then ((prf_O_nextOf σ' (nI z)).bind fun r79 => some (r79, σ')) else ((prf_O_intoOf σ' (nI z)).bind fun r80 => some (r80, σ'))) ∧
    (r1 = 7 → prf_M_step σ (nI z) = (prf_M_waitingAt σ' 0).bind fun r82 => if r82 = 0 then some (nI z, (pr_sI σ' 7 11 8)) else ((prf_O_nextOf (pr_sI σ' 7 11 0) (nI z)).bind fun r87 => some (r87, (pr_sI σ' 7 11 0)))) ∧
    (r1 = 8 → prf_M_step σ (nI z) = (prf_O_parentOf σ' (nI z)).bind fun r88 => (prf_O_targetOf σ' r88).bind fun r89 => (prf_M_waitingAt σ' 0).bind fun r90 => (prf_M_setNumber σ' r89 r90).bind fun r91 => (prf_O_nextOf r91 (nI z)).bind fun r92 => some (r92, r91)) := by
  have e : ∀ (j : Nat) (v : Int32), nI j = v → (nI r1 = v ↔ nI r1 = nI j) := fun j v hv => by rw [hv]
  have nn : ∀ (j : Nat) (v : Int32), j < 64 → nI j = v → ¬ r1 = j → ¬ nI r1 = v := fun j v hj hv hn => pl_nn h64 hj hv hn
  unfold prf_M_step
  rw [hr, pl_sb, if_pos h11, hk, pl_sb]
  refine ⟨fun h => ?_, fun h => ?_, fun h => ?_, fun h => ?_, fun h => ?_, fun h => ?_, fun h => ?_, fun h => ?_⟩
  · subst h; rw [if_pos (show nI 1 = 1 from rfl)]
  · subst h; rw [if_neg (show ¬ nI 2 = 1 by decide), if_pos (show nI 2 = 2 from rfl)]
  · subst h; rw [if_neg (show ¬ nI 3 = 1 by decide), if_neg (show ¬ nI 3 = 2 by decide), if_pos (show nI 3 = 3 from rfl)]
  · subst h; rw [if_neg (show ¬ nI 4 = 1 by decide), if_neg (show ¬ nI 4 = 2 by decide), if_neg (show ¬ nI 4 = 3 by decide), if_pos (show nI 4 = 4 from rfl)]
  · subst h; rw [if_neg (show ¬ nI 5 = 1 by decide), if_neg (show ¬ nI 5 = 2 by decide), if_neg (show ¬ nI 5 = 3 by decide), if_neg (show ¬ nI 5 = 4 by decide), if_pos (show nI 5 = 5 from rfl)]
  · subst h; rw [if_neg (show ¬ nI 6 = 1 by decide), if_neg (show ¬ nI 6 = 2 by decide), if_neg (show ¬ nI 6 = 3 by decide), if_neg (show ¬ nI 6 = 4 by decide), if_neg (show ¬ nI 6 = 5 by decide), if_pos (show nI 6 = 6 from rfl)]
  · subst h; rw [if_neg (show ¬ nI 7 = 1 by decide), if_neg (show ¬ nI 7 = 2 by decide), if_neg (show ¬ nI 7 = 3 by decide), if_neg (show ¬ nI 7 = 4 by decide), if_neg (show ¬ nI 7 = 5 by decide), if_neg (show ¬ nI 7 = 6 by decide), if_pos (show nI 7 = 7 from rfl)]
    rfl
  · subst h; rw [if_neg (show ¬ nI 8 = 1 by decide), if_neg (show ¬ nI 8 = 2 by decide), if_neg (show ¬ nI 8 = 3 by decide), if_neg (show ¬ nI 8 = 4 by decide), if_neg (show ¬ nI 8 = 5 by decide), if_neg (show ¬ nI 8 = 6 by decide), if_neg (show ¬ nI 8 = 7 by decide)]
/-- var NAME ; -/
theorem pm_st1 {T : pl_Tx} {m : Nat} {rep : Nat → Nat} {Ps : List pl_En} {W : pl_Wt} {P : Nat} {nx : Nat → Nat} {σp τp σ0 σ τ : pr_St} {z ic rd f k s q en : Nat} {F : List pl_N} {S' : List pl_S} {O : List pl_O} {r : pl_S} {par : Int32} (hE : pm_En T m rep Ps W P nx z ic rd σp τp σ τ) (hPt : pm_Pt T m rep Ps W P nx z σ0 σ τ τp f k s q en F S' O r par) (h : pl_st1 T s q (W z).2 F (r :: S') O) : pm_SR T W P z ic rd σ τ := by
  obtain ⟨t, k1, k2, k3, rfl, hS, rfl⟩ := h
  obtain ⟨hr, hS'⟩ := List.cons.inj hS
  subst hS'
  have hr1 : r.1 = 1 := by rw [hr]
  have hrt : r.2.1 = t := by rw [hr]
  obtain ⟨hRP, hT0, hag, hax, hz, h55, hcl, har, hi, hrd, h11, h59⟩ := id hE
  have hv := pm_vc1 hRP hT0 hag hz hPt h55 hcl har
  have htv := hv.1
  have ht2 : t + 2 + 1 < pl_xc T := htv.2.2.2.2 (t + 2) (by omega)
  have n1 := pm_nq1 hPt
  obtain ⟨⟨a1, a2, a3, a4, a5⟩, b2, _, b4, b5, b6, b7, _, ⟨_, pk, _⟩, _⟩ := id hPt
  have hcnt : pl_cnt false (pl_wv W z) < 12 := by
    rcases pk with ⟨_, _, _, _, _, w⟩ | ⟨w, _⟩ | ⟨w, _⟩
    · exact (w hr1).2 (by rw [hrt]; omega)
    · omega
    · omega
  have f01 : pl_fr pm_FE pm_GE σ (pr_sI σ 7 13 (nI 0)) := pl_sI_fr (o := 7) (k := 13) rfl
  have erk := pm_rk b7.2.2.2.2.2.1 b7.2.2.1 hz b4.2.1 n1 a5
  have erk2 : prf_M_reckon σ (nI z) = some (pr_sI σ 7 13 (nI 0)) := erk.trans (pm_rkG (n := 0) (fun g => rfl) (by omega))
  obtain ⟨σ1, hσ1⟩ : ∃ σ1, σ1 = pr_sI σ 7 13 (nI 0) := ⟨_, rfl⟩
  have s13 : σ1.1 7 13 = nI 0 := by rw [hσ1]; exact pr_sI_same
  have s11 : σ1.1 7 11 = 0 := by rw [hσ1, pr_sI_ne (by omega)]; exact h11
  have si : pm_iv ic rd σ1 τ := by rw [hσ1]; exact pm_iv_eq hi f01 pl_fr.rf (by rw [pr_sI_ne (by omega)]) rfl
  rw [← hσ1] at f01 erk2
  have hPt1 := pm_Pt_fr hPt (pm_fcE f01) (pm_fxE (pl_fr.rf (σ := τ)))
  have htv1 := (pm_vc_fr hv f01 (pl_fr.rf (σ := τ))).1
  have ebv := pm_bv (v := 0) hPt1 htv1 (by rw [hrt]; omega) (by rw [hrt]; omega) (Or.inl ⟨s13, rfl⟩) hcnt
  have hPt2 := pm_Pt_fr hPt1 (pm_fc48 (σ := σ1) (a := 48) (g := upd (σ1.2.1 48) (pl_cnt false (pl_wv W z)) 0) (by decide)) (pm_fxE (pl_fr.rf (σ := τ)))
  have hC : prf_M_step σ (nI z) = some (nI (nx z), pr_sA σ1 48 (upd (σ1.2.1 48) (pl_cnt false (pl_wv W z)) 0)) := by
    rw [(pm_stC erk2 s11 (pm_acc hPt1).1 (by omega)).1 hr1, ebv, pl_sb, (pm_acc hPt2).2.1, pl_sb]
  have hX : prf_X_step τ = some (nI (nx z), pr_sA τ 34 (upd (τ.2.1 34) (pl_cnt false (pl_wv W z)) 0)) := by
    have r13 : τ.2.1 13 k = nI 3 := a2.1.1
    have r17 : τ.2.1 17 k = nI 2 := a2.1.2.2.2.2
    have hk := b2.1
    have eaf := pm_aft hPt hax (pm_fx34 (τ := τ) (a := 34) (g := upd (τ.2.1 34) (pl_cnt false (pl_wv W z)) 0) (Or.inl rfl))
    unfold prf_X_step
    rw [h55, pl_ck (by omega) (by omega), nI_clamp (show z < 2 ^ 31 by omega), b6.1, pl_ck (by omega) (by omega), nI_clamp (show k < 2 ^ 31 by omega), r13, if_pos (by decide), pl_ck (by omega) (by omega), r17, if_pos (by decide), if_pos h59, pl_ck (by omega) (by omega), b6.2.2.2.1, pl_ck hcnt (by omega), nI_clamp (by omega), show Int64.toInt32 0 = 0 from rfl, eaf, pl_sb]
  exact pm_set hcl (pm_nxar hPt htv.2.2.1 har (by omega) (fun _ => by rw [hrt]; omega)) hC hX hPt.2.2.2.2.2.2.2.2.2.1 (Nat.le_add_right _ _) f01 pl_fr.rf s11 h59 si
/-- var NAME = SUM ; -/
theorem pm_st2 {T : pl_Tx} {m : Nat} {rep : Nat → Nat} {Ps : List pl_En} {W : pl_Wt} {P : Nat} {nx : Nat → Nat} {σp τp σ0 σ τ : pr_St} {z ic rd f k s q en : Nat} {F : List pl_N} {S' : List pl_S} {O : List pl_O} {r : pl_S} {par : Int32} (hE : pm_En T m rep Ps W P nx z ic rd σp τp σ τ) (hPt : pm_Pt T m rep Ps W P nx z σ0 σ τ τp f k s q en F S' O r par) (h : pl_st2 T s q (W z).2 F (r :: S') O) : pm_SR T W P z ic rd σ τ := by
  obtain ⟨t, b, G, k1, k2, k3, kb, hcm, hsm, rfl, hS⟩ := h
  obtain ⟨hr, hS'⟩ := List.cons.inj hS
  subst hS'
  have hr1 : r.1 = 1 := by rw [hr]
  have hrt : r.2.1 = t := by rw [hr]
  have hre : r.2.2.2.2.2.2 = b + 1 := by rw [hr]
  obtain ⟨hRP, hT0, hag, hax, hz, h55, hcl, har, hi, hrd, h11, h59⟩ := id hE
  have hv := pm_vc1 hRP hT0 hag hz hPt h55 hcl har
  have htv := hv.1
  have ht2 : t + 2 + 1 < pl_xc T := htv.2.2.2.2 (t + 2) (by omega)
  have hb1 : b + 1 < pl_xc T := htv.2.2.2.2 b (by omega)
  obtain ⟨⟨a1, a2, a3, a4, a5⟩, b2, c3, b4, b5, b6, b7, _, ⟨_, pk, _⟩, _⟩ := id hPt
  have hk := b2.1
  rw [List.length_cons, List.length_cons] at hk
  have hcnt : pl_cnt false (pl_wv W z) < 12 := by
    rcases pk with ⟨_, _, _, _, _, w⟩ | ⟨w, _⟩ | ⟨w, _⟩
    · exact (w hr1).2 (by rw [hrt]; omega)
    · omega
    · omega
  have hlk := pm_lkc hRP.1.1 hcm (by omega) (by omega) c3.1 c3.2.1 (by omega) (by omega) (fun _ => by omega)
  have r13 : τ.2.1 13 k = nI 3 := a2.1.1
  have r17 : τ.2.1 17 k = nI (2 + G.length) := a2.1.2.2.2.2
  have r17a : τ.2.1 17 (k + 1) = nI 1 := a2.2.1.2.2.2.2
  have hG1 : 1 ≤ G.length := by
    obtain ⟨x, y, w, _⟩ := pl_sm_ro hsm
    rw [w, List.length_cons]; omega
  have head : prf_X_step τ = (prf_X_reckon (prF_X_reckon 200) τ (nI (k + 2))).bind fun r122 => if (r122.2.1 0 59) = 0 then (pr_ck (nI z) 250 <| pr_ck ((r122.2.2.1 23) (nI z).toNatClampNeg) 12 <| (prf_X_after (pr_sA r122.2 34 (upd (r122.2.2.1 34) ((r122.2.2.1 23) (nI z).toNatClampNeg).toNatClampNeg r122.1.toInt32)) (nI z)).bind fun r127 => some (r127, (pr_sA r122.2 34 (upd (r122.2.2.1 34) ((r122.2.2.1 23) (nI z).toNatClampNeg).toNatClampNeg r122.1.toInt32)))) else ((prf_X_after r122.2 (nI z)).bind fun r124 => some (r124, r122.2)) := by
    unfold prf_X_step
    rw [h55, pl_ck (show z < 250 by omega) (by omega), nI_clamp (show z < 2 ^ 31 by omega), b6.1, pl_ck (show k < 13000 by omega) (by omega), nI_clamp (show k < 2 ^ 31 by omega), r13, if_pos (by decide), pl_ck (show k < 13000 by omega) (by omega), r17, if_neg (show ¬ nI (2 + G.length) = 2 from fun w => by have := (nI_eq (b := 2) (by omega) (by omega)).mp w; omega), pm_secX (by omega) r17a, pl_sb]
  rcases pm_one hE hPt hsm a2.2.2 (by omega) hlk with ⟨v, rd', σ', τ', e1, e2, e3, f1, f2, g13, g51, g11, g59, giv⟩ | ⟨v64, w, rd', σ', τ', e1, e2, e3, f1, f2, w0, w1, w2, giv⟩
  · have hPt1 := pm_Pt_fr hPt (pm_fcE f1) (pm_fxE f2)
    have htv1 := (pm_vc_fr hv f1 f2).1
    have ebv := pm_bv (v := v) hPt1 htv1 (by rw [hrt]; omega) (by rw [hrt]; omega) (Or.inr ⟨g13, g51⟩) hcnt
    have hPt2 := pm_Pt_fr hPt1 (pm_fc48 (σ := σ') (a := 48) (g := upd (σ'.2.1 48) (pl_cnt false (pl_wv W z)) v) (by decide)) (pm_fxE (pl_fr.rf (σ := τ')))
    have hC : prf_M_step σ (nI z) = some (nI (nx z), pr_sA σ' 48 (upd (σ'.2.1 48) (pl_cnt false (pl_wv W z)) v)) := by
      rw [(pm_stC e1 g11 (pm_acc hPt1).1 (by omega)).1 hr1, ebv, pl_sb, (pm_acc hPt2).2.1, pl_sb]
    have hX : prf_X_step τ = some (nI (nx z), pr_sA τ' 34 (upd (τ'.2.1 34) (pl_cnt false (pl_wv W z)) v)) := by
      have eaf := pm_aft hPt hax ((pm_fxE f2).tr (pm_fx34 (τ := τ') (a := 34) (g := upd (τ'.2.1 34) (pl_cnt false (pl_wv W z)) v) (Or.inl rfl)))
      have r23 : τ'.2.1 23 z = nI (pl_cnt false (pl_wv W z)) := by rw [f2.2.1 23 rfl]; exact b6.2.2.2.1
      rw [head, e2, pl_sb]
      dsimp only
      rw [if_pos g59, pl_ck (by omega) (by omega), nI_clamp (show z < 2 ^ 31 by omega), r23, pl_ck hcnt (by omega), nI_clamp (by omega), pl_6432, eaf, pl_sb]
    exact pm_set hcl (pm_nxar hPt htv.2.2.1 har (by omega) (fun _ => by rw [hrt]; omega)) hC hX hPt.2.2.2.2.2.2.2.2.2.1 e3 f1 f2 g11 g59 giv
  · have hX : prf_X_step τ = some (nI (nx z), τ') := by
      rw [head, e2, pl_sb]
      dsimp only
      rw [if_neg (by rw [w2]; exact pl_neg0 w0), pm_aft hPt hax (pm_fxE f2), pl_sb]
    exact pm_bad hcl har e1 hX e3 f1 f2 w0 w1 w2 giv
/-- NAME = SUM ; -/
theorem pm_st4 {T : pl_Tx} {m : Nat} {rep : Nat → Nat} {Ps : List pl_En} {W : pl_Wt} {P : Nat} {nx : Nat → Nat} {σp τp σ0 σ τ : pr_St} {z ic rd f k s q en : Nat} {F : List pl_N} {S' : List pl_S} {O : List pl_O} {r : pl_S} {par : Int32} (hE : pm_En T m rep Ps W P nx z ic rd σp τp σ τ) (hPt : pm_Pt T m rep Ps W P nx z σ0 σ τ τp f k s q en F S' O r par) (h : pl_st4 T s q (W z).2 F (r :: S') O) : pm_SR T W P z ic rd σ τ := by
  obtain ⟨t, b, G, k1, k2, k3, kb, hcm, hsm, rfl, hS⟩ := h
  obtain ⟨hr, hS'⟩ := List.cons.inj hS
  subst hS'
  have hr1 : r.1 = 2 := by rw [hr]
  have hrt : r.2.1 = t := by rw [hr]
  have hre : r.2.2.2.2.2.2 = b + 1 := by rw [hr]
  obtain ⟨hRP, hT0, hag, hax, hz, h55, hcl, har, hi, hrd, h11, h59⟩ := id hE
  have hv := pm_vc1 hRP hT0 hag hz hPt h55 hcl har
  have htv := hv.1
  have ht2 : t + 1 + 1 < pl_xc T := htv.2.2.2.2 (t + 1) (by omega)
  have hb1 : b + 1 < pl_xc T := htv.2.2.2.2 b (by omega)
  obtain ⟨⟨a1, a2, a3, a4, a5⟩, b2, c3, b4, b5, b6, b7, _, ⟨_, pk, _⟩, _⟩ := id hPt
  have hk := b2.1
  rw [List.length_cons, List.length_cons] at hk
  have hab := hcm.1
  have hlk := pm_lkc hRP.1.1 hcm (by omega) (by omega) c3.1 c3.2.1 (by omega) (by omega) (fun w => by omega)
  have hso : pl_so T (W z).2 t false (σ.2.1 24 t) := by
    have := c3.1 t (by omega) (by omega) k1 (by omega) (fun w => by omega)
    rw [c3.2.1, show (pl_xK T (t + 1) == 16) = false by simp [k2]] at this
    exact this
  have r13 : τ.2.1 13 k = nI 5 := a2.1.1
  have r17a : τ.2.1 17 (k + 1) = nI 1 := a2.2.1.2.2.2.2
  obtain ⟨id', i1, i2, i3⟩ := a2.2.1.2.2.1 rfl
  have head : prf_X_step τ = (prf_X_reckon (prF_X_reckon 200) τ (nI (k + 2))).bind fun r136 => if (r136.2.1 0 59) = 0 then (pr_ck (nI (k + 1)) 13000 <| (prf_X_meantAt r136.2 ((r136.2.2.1 15) (nI (k + 1)).toNatClampNeg)).bind fun r140 => pr_ck r140 10040 <| pr_ck ((r136.2.2.1 27) r140.toNatClampNeg) 12 <| (prf_X_after (pr_sA r136.2 34 (upd (r136.2.2.1 34) ((r136.2.2.1 27) r140.toNatClampNeg).toNatClampNeg r136.1.toInt32)) (nI z)).bind fun r143 => some (r143, (pr_sA r136.2 34 (upd (r136.2.2.1 34) ((r136.2.2.1 27) r140.toNatClampNeg).toNatClampNeg r136.1.toInt32)))) else ((prf_X_after r136.2 (nI z)).bind fun r138 => some (r138, r136.2)) := by
    unfold prf_X_step
    rw [h55, pl_ck (show z < 250 by omega) (by omega), nI_clamp (show z < 2 ^ 31 by omega), b6.1, pl_ck (show k < 13000 by omega) (by omega), nI_clamp (show k < 2 ^ 31 by omega), r13, if_neg (show ¬ nI 5 = 3 by decide), if_neg (show ¬ nI 5 = 4 by decide), if_pos (show nI 5 = 5 from rfl), pm_secX (by omega) r17a, pl_sb, nI_1]
  rcases pm_one hE hPt hsm a2.2.2 (by omega) hlk with ⟨v, rd', σ', τ', e1, e2, e3, f1, f2, g13, g51, g11, g59, giv⟩ | ⟨v64, w, rd', σ', τ', e1, e2, e3, f1, f2, w0, w1, w2, giv⟩
  · have hPt1 := pm_Pt_fr hPt (pm_fcE f1) (pm_fxE f2)
    have hv1 := pm_vc_fr hv f1 f2
    obtain ⟨x, hx, x1, _, x3⟩ := pm_name hv1 (show t < pl_xc T by omega) (by rw [f1.2.1 24 rfl]; exact hso)
    obtain ⟨y, y1, y2, y3⟩ := x3 id' i2 i3
    have hPt2 := pm_Pt_fr hPt1 (pm_fc48 (σ := σ') (a := 48) (g := upd (σ'.2.1 48) x v) (by decide)) (pm_fxE (pl_fr.rf (σ := τ')))
    have hC : prf_M_step σ (nI z) = some (nI (nx z), pr_sA σ' 48 (upd (σ'.2.1 48) x v)) := by
      rw [(pm_stC e1 g11 (pm_acc hPt1).1 (by omega)).2.1 hr1, pm_ft hPt1, pl_sb, hrt, x1, pl_sb, pm_w0 (c := 0) g13 (by decide), pl_sb, g51, pm_setN hx, pl_sb, (pm_acc hPt2).2.1, pl_sb]
    have hX : prf_X_step τ = some (nI (nx z), pr_sA τ' 34 (upd (τ'.2.1 34) x v)) := by
      have eaf := pm_aft hPt hax ((pm_fxE f2).tr (pm_fx34 (τ := τ') (a := 34) (g := upd (τ'.2.1 34) x v) (Or.inl rfl)))
      have i1' : τ'.2.1 15 (k + 1) = nI id' := by rw [f2.2.1 15 rfl]; exact i1
      rw [head, e2, pl_sb]
      dsimp only
      rw [if_pos g59, pl_ck (by omega) (by omega), nI_clamp (show k + 1 < 2 ^ 31 by omega), i1', y1, pl_sb, pl_ck y2 (by omega), nI_clamp (show y < 2 ^ 31 by omega), y3, pl_ck hx (by omega), nI_clamp (by omega), pl_6432, eaf, pl_sb]
    exact pm_set hcl (pm_nxar hPt htv.2.2.1 har (by omega) (fun w => by omega)) hC hX hPt.2.2.2.2.2.2.2.2.2.1 e3 f1 f2 g11 g59 giv
  · have hX : prf_X_step τ = some (nI (nx z), τ') := by
      rw [head, e2, pl_sb]
      dsimp only
      rw [if_neg (by rw [w2]; exact pl_neg0 w0), pm_aft hPt hax (pm_fxE f2), pl_sb]
    exact pm_bad hcl har e1 hX e3 f1 f2 w0 w1 w2 giv
