/-! THE MACHINE: assert, if, while -/
theorem pm_oneC {T : pl_Tx} {m : Nat} {rep : Nat → Nat} {Ps : List pl_En} {W : pl_Wt} {P : Nat} {nx : Nat → Nat} {σp τp σ0 σ τ : pr_St} {z ic rd f k s q en ke : Nat} {F C : List pl_N} {S' : List pl_S} {O Qc : List pl_O} {r : pl_S} {par : Int32} (hE : pm_En T m rep Ps W P nx z ic rd σp τp σ τ) (hPt : pm_Pt T m rep Ps W P nx z σ0 σ τ τp f k s q en F S' O r par) (hcd : pl_cd T 190 q C Qc) (hn2 : pl_nq σ (s + 1) (q + Qc.length)) (hops : pl_ops σ q Qc) (hqO : q + Qc.length ≤ pl_tO Ps) (hnd : pl_nd T τ m rep ke C) (hke : ke + C.length ≤ 12870) (hlk : pm_lk T (W z).2 σ (pl_cl false C)) :
    (∃ (v : Int32) (rd' : Nat) (σ' τ' : pr_St), (v = 0 ∨ v = 1) ∧ prf_M_reckon σ (nI z) = some σ' ∧ prf_X_holds (prF_X_holds 200) τ (nI ke) = some (v, τ') ∧ rd' ≤ rd + 8000 ∧ pl_fr pm_FE pm_GE σ σ' ∧ pl_fr pm_FT pm_GT τ τ' ∧ σ'.1 7 13 = nI 1 ∧ σ'.2.1 51 0 = v ∧ σ'.1 7 11 = 0 ∧ τ'.1 0 59 = 0 ∧ pm_iv ic rd' σ' τ') ∨
    (∃ (b w : Int32) (rd' : Nat) (σ' τ' : pr_St), prf_M_reckon σ (nI z) = some σ' ∧ prf_X_holds (prF_X_holds 200) τ (nI ke) = some (b, τ') ∧ rd' ≤ rd + 8000 ∧ pl_fr pm_FE pm_GE σ σ' ∧ pl_fr pm_FT pm_GT τ τ' ∧ (0 : Int32) < w ∧ σ'.1 7 11 = w ∧ τ'.1 0 59 = w ∧ pm_iv ic rd' σ' τ') := by
  obtain ⟨hRP, hT0, hag, hax, hz, h55, hcl, har, hi, hrd, h11, h59⟩ := hE
  have hv := pm_vc1 hRP hT0 hag hz hPt h55 hcl har
  have n1 := pm_nq1 hPt
  obtain ⟨⟨a1, a2, a3, a4, a5⟩, b2, _, b4, _, _, b7, _⟩ := hPt
  have f01 : pl_fr pm_FE pm_GE σ (pr_sI σ 7 13 (nI 0)) := pl_sI_fr (o := 7) (k := 13) rfl
  have hO : Qc.length ≤ 8000 := by omega
  have erk := pm_rk b7.2.2.2.2.2.1 b7.2.2.1 hz b4.2.1 n1 hn2
  have hC : pm_C T m rep (W z).1 (W z).2 z P (pl_tO Ps) ic (q + Qc.length) ke q 0 rd C Qc (pr_sI σ 7 13 (nI 0)) τ := ⟨pm_vc_fr hv f01 pl_fr.rf, pm_iv_eq hi f01 pl_fr.rf (by rw [pr_sI_ne (by omega)]) rfl, hnd, pm_ops f01 hops, pm_lk_fr hlk rfl, ⟨hke, Nat.le_refl _, hqO, by omega⟩, pr_sI_same, by rw [pr_sI_ne (by omega)]; exact h11, h59⟩
  rcases pm_ev2 (pm_cond 190 (by omega) C Qc ke q 0 rd _ τ hcd hC (by omega)) hO (by omega) with ⟨v, rd', σ', τ', e0, e1, e2, e3, e4⟩ | ⟨b, w, rd', σ', τ', e1, e2, e3, e4⟩
  · obtain ⟨f1, f2, g13, g51, gj, g11, g59, giv⟩ := e4
    exact Or.inl ⟨v, rd', σ', τ', e0, erk.trans e1, e2, by omega, f01.tr f1, f2, g13, g51, g11, g59, giv⟩
  · obtain ⟨f1, f2, w0, w1, w2, giv⟩ := e4
    exact Or.inr ⟨b, w, rd', σ', τ', erk.trans e1, e2, by omega, f01.tr f1, f2, w0, w1, w2, giv⟩
/-- assert ( COND ) ; -/
theorem pm_st9 {T : pl_Tx} {m : Nat} {rep : Nat → Nat} {Ps : List pl_En} {W : pl_Wt} {P : Nat} {nx : Nat → Nat} {σp τp σ0 σ τ : pr_St} {z ic rd f k s q en : Nat} {F : List pl_N} {S' : List pl_S} {O : List pl_O} {r : pl_S} {par : Int32} (hE : pm_En T m rep Ps W P nx z ic rd σp τp σ τ) (hPt : pm_Pt T m rep Ps W P nx z σ0 σ τ τp f k s q en F S' O r par) (h : pl_st9 T s q (W z).2 F (r :: S') O) : pm_SR T W P z ic rd σ τ := by
  obtain ⟨t, b, C, k1, k2, k3, k4, hcm, hcd, rfl, hS⟩ := h
  obtain ⟨hr, hS'⟩ := List.cons.inj hS
  subst hS'
  have hr1 : r.1 = 7 := by rw [hr]
  have hrt : r.2.1 = t := by rw [hr]
  have hre : r.2.2.2.2.2.2 = b + 2 := by rw [hr]
  obtain ⟨hRP, hT0, hag, hax, hz, h55, hcl, har, hi, hrd, h11, h59⟩ := id hE
  have hv := pm_vc1 hRP hT0 hag hz hPt h55 hcl har
  have htv := hv.1
  have hb1 : b + 1 < pl_xc T := htv.2.2.2.2 b (by omega)
  obtain ⟨⟨a1, a2, a3, a4, a5⟩, b2, c3, b4, b5, b6, b7, _, ⟨_, pk, _⟩, d1, _⟩ := id hPt
  have hk := b2.1
  rw [List.length_cons] at hk
  have hab := hcm.1
  have hlk := pm_lkc hRP.1.1 hcm (by omega) (by omega) c3.1 c3.2.1 (by omega) (by omega) (fun w => by omega)
  have r13 : τ.2.1 13 k = nI 10 := a2.1.1
  have head : prf_X_step τ = (prf_X_holds (prF_X_holds 200) τ (nI (k + 1))).bind fun r181 => if r181.1 = 0 then ((prf_X_trapped r181.2 8).bind fun r184 => (prf_X_after r184.2 (nI z)).bind fun r185 => some (r185, r184.2)) else ((prf_X_after r181.2 (nI z)).bind fun r183 => some (r183, r181.2)) := by
    unfold prf_X_step
    rw [h55, pl_ck (show z < 250 by omega) (by omega), nI_clamp (show z < 2 ^ 31 by omega), b6.1, pl_ck (show k < 13000 by omega) (by omega), nI_clamp (show k < 2 ^ 31 by omega), r13, if_neg (show ¬ nI 10 = 3 by decide), if_neg (show ¬ nI 10 = 4 by decide), if_neg (show ¬ nI 10 = 5 by decide), if_neg (show ¬ nI 10 = 6 by decide), if_neg (show ¬ nI 10 = 7 by decide), if_neg (show ¬ nI 10 = 8 by decide), if_neg (show ¬ nI 10 = 9 by decide), if_pos (show nI 10 = 10 from rfl), nI_1]
  rcases pm_oneC hE hPt hcd a5 a3 b2.2.1 a2.2 (by omega) hlk with ⟨v, rd', σ', τ', e0, e1, e2, e3, f1, f2, g13, g51, g11, g59, giv⟩ | ⟨bb, w, rd', σ', τ', e1, e2, e3, f1, f2, w0, w1, w2, giv⟩
  · have hPt1 := pm_Pt_fr hPt (pm_fcE f1) (pm_fxE f2)
    have hCs := (pm_stC e1 g11 (pm_acc hPt1).1 (by omega)).2.2.2.2.2.2.1 hr1
    rw [pm_w0 (c := 0) g13 (by decide), pl_sb, g51] at hCs
    by_cases q0 : v = 0
    · rw [if_pos q0] at hCs
      have ft : pl_fr pm_FE pm_GE σ' (pr_sI σ' 7 11 8) := pl_sI_fr (o := 7) (k := 11) rfl
      have ft2 : pl_fr pm_FT pm_GT τ' (pr_sI τ' 0 59 8) := pl_sI_fr (o := 0) (k := 59) rfl
      have hX : prf_X_step τ = some (nI (nx z), pr_sI τ' 0 59 8) := by
        have et : prf_X_trapped τ' 8 = some (0, pr_sI τ' 0 59 8) := by unfold prf_X_trapped; rw [if_pos g59]
        rw [head, e2, pl_sb]
        dsimp only
        rw [if_pos q0, et, pl_sb]
        dsimp only
        rw [pm_aft hPt hax (pm_fxE (f2.tr ft2)), pl_sb]
      exact Or.inr ⟨_, 8, rd', _, _, hCs, hX, by decide, pr_sI_same, pr_sI_same, pm_fcE (f1.tr ft), pm_fxE (f2.tr ft2), pm_iv_eq giv ft ft2 (by rw [pr_sI_ne (by omega)]) (by rw [pr_sI_ne (by omega)]), e3, pm_cl_fr hcl (f1.tr ft) (f2.tr ft2), pm_ar_fr har (f1.tr ft)⟩
    · rw [if_neg q0] at hCs
      have ft : pl_fr pm_FE pm_GE σ' (pr_sI σ' 7 11 0) := pl_sI_fr (o := 7) (k := 11) rfl
      have hPt2 := pm_Pt_fr hPt1 (pm_fcE ft) (pm_fxE (pl_fr.rf (σ := τ')))
      rw [(pm_acc hPt2).2.1, pl_sb] at hCs
      have hX : prf_X_step τ = some (nI (nx z), τ') := by
        rw [head, e2, pl_sb]
        dsimp only
        rw [if_neg q0, pm_aft hPt hax (pm_fxE f2), pl_sb]
      exact Or.inl ⟨nx z, rd', _, τ', hCs, hX, d1, pr_sI_same, g59, pm_fcE (f1.tr ft), pm_fxE f2, pm_iv_eq giv ft pl_fr.rf (by rw [pr_sI_ne (by omega)]) rfl, e3, pm_cl_fr hcl (f1.tr ft) f2, pm_ar_fr (pm_nxar hPt htv.2.2.1 har (by omega) (fun w => by omega)) (f1.tr ft)⟩
  · have hX : prf_X_step τ = some (nI (nx z), τ') := by
      have et : prf_X_trapped τ' 8 = some (0, τ') := by unfold prf_X_trapped; rw [if_neg (by rw [w2]; exact pl_neg0 w0), pm_sI_id]
      rw [head, e2, pl_sb]
      dsimp only
      by_cases q0 : bb = 0
      · rw [if_pos q0, et, pl_sb]
        dsimp only
        rw [pm_aft hPt hax (pm_fxE f2), pl_sb]
      · rw [if_neg q0, pm_aft hPt hax (pm_fxE f2), pl_sb]
    exact pm_bad hcl har e1 hX e3 f1 f2 w0 w1 w2 giv
/-! the operations of a COND end where the next statement's begin -/
theorem pm_bl1 {T : pl_Tx} {f s q : Nat} {E : List (Nat × Bool)} {σ : pr_St} {e : List pl_N × List pl_S × List pl_O} {l : List (List pl_N × List pl_S × List pl_O)} {X : List pl_S} (h : pl_bl (pl_xK T) (pl_sT T f) s q E (e :: l)) (hs : pl_sts σ s (pl_b2 (e :: l) ++ X)) : σ.2.1 19 s = nI q ∧ 1 ≤ (pl_b2 (e :: l) ++ X).length := by
  obtain ⟨r, SS, e1, e2, _, _⟩ := pl_sT_hd h.1
  have : pl_b2 (e :: l) ++ X = r :: (SS ++ pl_b2 l ++ X) := by
    show (e.2.1 ++ pl_b2 l) ++ X = _
    rw [e1]; rfl
  rw [this] at hs ⊢
  refine ⟨?_, by rw [List.length_cons]; omega⟩
  rw [hs.1.2.2.1, e2]
theorem pm_nqB {T : pl_Tx} {m : Nat} {rep : Nat → Nat} {Ps : List pl_En} {W : pl_Wt} {P : Nat} {nx : Nat → Nat} {σ0 σ τ τp : pr_St} {z f k s q en : Nat} {F B1 B2 : List pl_N} {S1 S2 : List pl_S} {Qc O1 O2 : List pl_O} {r : pl_S} {par : Int32} {f' : Nat} (h : pm_Pt T m rep Ps W P nx z σ0 σ τ τp f k s q en F (S1 ++ S2) (Qc ++ O1 ++ O2) r par) (h7 : pl_bk (pl_xK T) (pl_sT T f') (s + 1) (q + Qc.length) (W z).2 B1 S1 O1) (h8 : (B2 = [] ∧ S2 = [] ∧ O2 = []) ∨ pl_bk (pl_xK T) (pl_sT T f') (s + 1 + S1.length) (q + Qc.length + O1.length) (W z).2 B2 S2 O2) : pl_nq σ (s + 1) (q + Qc.length) := by
  obtain ⟨⟨a1, a2, a3, a4, a5⟩, b2, _⟩ := h
  have h11 := b2.2.2.2.2.2
  have h20 := b2.2.2.2.2.1
  have hsl := b2.2.2.1
  have hs' : pl_sts σ (s + 1) (S1 ++ S2) := a4.2
  obtain ⟨t1, L1, _, rfl, rfl, hb1⟩ := h7
  cases L1 with
  | cons e l =>
    obtain ⟨w1, w2⟩ := pm_bl1 hb1 hs'
    exact pl_nq_st h11 h20 (by rw [List.length_cons] at hsl; omega) w1
  | nil =>
    have hs2 : pl_sts σ (s + 1) S2 := hs'
    rcases h8 with ⟨_, rfl, rfl⟩ | ⟨t2, L2, _, rfl, rfl, hb2⟩
    · have e1 : (Qc ++ pl_b3 [] ++ []).length = Qc.length := by rw [List.append_nil]; show (Qc ++ []).length = _; rw [List.append_nil]
      rw [e1] at a5
      exact a5
    · cases L2 with
      | cons e l =>
        have hb2' : pl_bl (pl_xK T) (pl_sT T f') (s + 1) (q + Qc.length) (W z).2 (e :: l) := hb2
        obtain ⟨w1, w2⟩ := pm_bl1 (X := []) hb2' (by rw [List.append_nil]; exact hs2)
        rw [List.append_nil] at w2
        exact pl_nq_st h11 h20 (by rw [List.length_cons] at hsl; have : (pl_b2 ([] : List (List pl_N × List pl_S × List pl_O)) ++ pl_b2 (e :: l)).length = (pl_b2 (e :: l)).length := rfl; omega) w1
      | nil =>
        have e1 : (Qc ++ pl_b3 [] ++ pl_b3 []).length = Qc.length := by show ((Qc ++ []) ++ []).length = _; rw [List.append_nil, List.append_nil]
        rw [e1] at a5
        exact a5
/-- the reference looks for the other BLOCK -/
theorem pm_oth {τ : pr_St} {z oth b1 b2 ko : Nat} (hz : z < oth) (ho : oth < 250) (hb : ¬ b1 = b2) (hb1 : b1 < 13000) (hb2 : b2 < 13000) (h21 : τ.2.1 21 oth = nI z) (h20 : τ.2.1 20 oth = nI ko) (hko : ko < 13000) (h16 : τ.2.1 16 ko = nI b2) (hy : ∀ y, z < y → y < oth → (∃ ky, τ.2.1 21 y = nI z ∧ τ.2.1 20 y = nI ky ∧ ky < 13000 ∧ τ.2.1 16 ky = nI b1) ∨ (∃ pp, τ.2.1 21 y = nI pp ∧ z < pp ∧ pp < 250)) : ∀ (r y f : Nat), y + r = oth → z < y → r + 1 ≤ f → prf_X_otherBlock_19 f τ (nI z) (nI b2) (nI y) = some (nI oth) := by
  intro r
  induction r with
  | zero =>
    intro y f h1 h2 hf
    obtain ⟨f, rfl⟩ : ∃ x, f = x + 1 := ⟨f - 1, by omega⟩
    have : y = oth := by omega
    subst this
    rw [prf_X_otherBlock_19, pl_ck ho (by omega), nI_clamp (by omega), h21, if_pos rfl, pl_ck ho (by omega), h20, pl_ck hko (by omega), nI_clamp (by omega), h16, if_pos rfl]
  | succ r ih =>
    intro y f h1 h2 hf
    obtain ⟨f, rfl⟩ : ∃ x, f = x + 1 := ⟨f - 1, by omega⟩
    have hi := ih (y + 1) f (by omega) (by omega) (by omega)
    rcases hy y h2 (by omega) with ⟨ky, w1, w2, w3, w4⟩ | ⟨pp, w1, w2, w3⟩
    · rw [prf_X_otherBlock_19, pl_ck (by omega) (by omega), nI_clamp (by omega), w1, if_pos rfl, pl_ck (by omega) (by omega), w2, pl_ck w3 (by omega), nI_clamp (by omega), w4, if_neg (fun u => hb ((nI_eq (by omega) (by omega)).mp u)), nI_1]
      exact hi
    · rw [prf_X_otherBlock_19, pl_ck (by omega) (by omega), nI_clamp (by omega), w1, if_neg (fun u => by have := (nI_eq (by omega) (by omega)).mp u; omega), nI_1]
      exact hi
/-- if and while -/
theorem pm_stB {T : pl_Tx} {m : Nat} {rep : Nat → Nat} {Ps : List pl_En} {W : pl_Wt} {P : Nat} {nx : Nat → Nat} {σp τp σ0 σ τ : pr_St} {z ic rd f k s q en kd t b f' : Nat} {C B1 B2 : List pl_N} {S1 S2 : List pl_S} {Qc O1 O2 : List pl_O} {r : pl_S} {par : Int32} (hE : pm_En T m rep Ps W P nx z ic rd σp τp σ τ) (hPt : pm_Pt T m rep Ps W P nx z σ0 σ τ τp f k s q en ((kd, t, 0, 1 + (C ++ B1 ++ B2).length) :: (C ++ B1 ++ B2)) (S1 ++ S2) (Qc ++ O1 ++ O2) r par) (h1 : kd = 8 ∨ kd = 9) (hr1 : r.1 = kd - 3) (hrt : r.2.1 = t) (hre : r.2.2.2.2.2.2 = b + 1) (h3 : pl_xK T b = 13) (h5 : pl_cm (pl_xK T) (t + 2) b C) (h6 : pl_cd T 190 q C Qc) (h7 : pl_bk (pl_xK T) (pl_sT T f') (s + 1) (q + Qc.length) (W z).2 B1 S1 O1) (h8 : (B2 = [] ∧ S2 = [] ∧ O2 = []) ∨ pl_bk (pl_xK T) (pl_sT T f') (s + 1 + S1.length) (q + Qc.length + O1.length) (W z).2 B2 S2 O2) : pm_SR T W P z ic rd σ τ := by
  obtain ⟨hRP, hT0, hag, hax, hz, h55, hcl, har, hi, hrd, h11, h59⟩ := id hE
  have hv := pm_vc1 hRP hT0 hag hz hPt h55 hcl har
  have htv := hv.1
  have hb1 : b + 1 < pl_xc T := htv.2.2.2.2 b (by omega)
  have hnq := pm_nqB hPt h7 h8
  obtain ⟨⟨a1, a2, a3, a4, a5⟩, b2, c3, b4, b5, b6, b7, _, ⟨_, pk, _⟩, d1, _⟩ := id hPt
  have lF : ((kd, t, (0 : Int32), 1 + (C ++ B1 ++ B2).length) :: (C ++ B1 ++ B2)).length = 1 + C.length + B1.length + B2.length := by
    rw [List.length_cons, List.length_append, List.length_append]; omega
  obtain ⟨LF, hLF⟩ : ∃ LF, LF = ((kd, t, (0 : Int32), 1 + (C ++ B1 ++ B2).length) :: (C ++ B1 ++ B2)).length := ⟨_, rfl⟩
  have hk := b2.1
  rw [← hLF] at hk pk
  rw [lF] at hLF
  have hab := h5.1
  have hlk := pm_lkc hRP.1.1 h5 (by omega) (by omega) c3.1 c3.2.1 (by omega) (by omega) (fun w => by omega)
  have r13 : τ.2.1 13 k = nI kd := a2.1.1
  have r17 : τ.2.1 17 k = nI LF := by
    have : τ.2.1 17 k = nI (1 + (C ++ B1 ++ B2).length) := a2.1.2.2.2.2
    rw [this, hLF, List.length_append, List.length_append]
    congr 1; omega
  have hnd : pl_nd T τ m rep (k + 1) C := (pl_nd_l C _ (k + 1) (by have := a2.2; rw [List.append_assoc] at this; exact this)).1
  have hops : pl_ops σ q Qc := (pm_opl Qc _ q (by have := a3; rw [List.append_assoc] at this; exact this)).1
  have lO : (Qc ++ O1 ++ O2).length = Qc.length + O1.length + O2.length := by rw [List.length_append, List.length_append]
  have hqO := b2.2.1
  rw [lO] at hqO
  rcases pk with ⟨w, -⟩ | ⟨w, -⟩ | ⟨_, _, c1, c2, x1, x2, x3, x4, x5⟩
  · omega
  · omega
  have hnxar := pm_nxar hPt htv.2.2.1 har (by omega) (fun w => by omega)
  have c2pos : 1 ≤ c2 := by rcases x4 with w | w <;> omega
  rcases pm_oneC hE hPt h6 hnq hops (by omega) hnd (by omega) hlk with ⟨v, rd', σ', τ', e0, e1, e2, e3, f1, f2, g13, g51, g11, g59, giv⟩ | ⟨bb, w, rd', σ', τ', e1, e2, e3, f1, f2, w0, w1, w2, giv⟩
  · have hPt1 := pm_Pt_fr hPt (pm_fcE f1) (pm_fxE f2)
    have hacc := pm_acc hPt1
    have b5' := hPt1.2.2.2.2.1
    have y1 : τ'.2.1 17 (k + 1) = nI c1 := by rw [f2.2.1 17 rfl]; exact x1
    have y2 : τ'.2.1 17 (k + 1 + c1) = nI c2 := by rw [f2.2.1 17 rfl]; exact x2
    have y0 : τ'.2.1 17 k = nI LF := by rw [f2.2.1 17 rfl]; exact r17
    have hcl' := pm_cl_fr hcl f1 f2
    -- what is to be shown of the next point
    have fin : ∀ nz, prf_M_step σ (nI z) = some (nI nz, σ') → prf_X_step τ = some (nI nz, τ') → nz ≤ P → pm_ar T (pl_wv W nz) σ → pm_SR T W P z ic rd σ τ := fun nz u1 u2 u3 u4 => Or.inl ⟨nz, rd', σ', τ', u1, u2, u3, g11, g59, pm_fcE f1, pm_fxE f2, giv, e3, hcl', pm_ar_fr u4 f1⟩
    have har1 : ∀ y, W y = W z → pm_ar T (pl_wv W y) σ := by
      intro y hy
      unfold pl_wv at *
      rw [hy]; exact har
    rcases h1 with rfl | rfl
    · have hr5 : r.1 = 5 := hr1
      have hCs := (pm_stC e1 g11 hacc.1 (by omega)).2.2.2.2.1 hr5
      rw [pm_w0 (c := 0) g13 (by decide), pl_sb, g51, hacc.2.2.2.2.2.1, pl_sb, hacc.2.2.2.2.1, pl_sb, b5'.2.1, b5'.2.2, if_neg (show ¬ r.1 = 6 by omega)] at hCs
      have head : prf_X_step τ = if v = 0 then (if nI (k + LF) ≤ nI (k + 1 + c1 + c2) then some (nI (nx z), τ') else (pr_ck (nI (k + 1 + c1 + c2)) 13000 <| if ((τ'.2.1 17) (nI (k + 1 + c1 + c2)).toNatClampNeg) ≤ 1 then some (nI (nx z), τ') else ((prf_X_otherBlock τ' (nI z)).bind fun r168 => some (r168, τ')))) else (if nI c2 ≤ 1 then some (nI (nx z), τ') else some (nI (z + 1), τ')) := by
        unfold prf_X_step
        rw [h55, pl_ck (show z < 250 by omega) (by omega), nI_clamp (show z < 2 ^ 31 by omega), b6.1, pl_ck (show k < 13000 by omega) (by omega), nI_clamp (show k < 2 ^ 31 by omega), r13, if_neg (show ¬ nI 8 = 3 by decide), if_neg (show ¬ nI 8 = 4 by decide), if_neg (show ¬ nI 8 = 5 by decide), if_neg (show ¬ nI 8 = 6 by decide), if_neg (show ¬ nI 8 = 7 by decide), if_pos (show nI 8 = 8 from rfl), nI_1, e2, pl_sb]
        dsimp only
        rw [pm_secX (by omega) y1, pl_sb, g59, if_pos (by decide), pl_behX (show k + 1 + c1 < 13000 by omega) y2, pl_sb, pl_behX (show k < 13000 by omega) y0, pl_sb, pl_sb, pl_ck (show k + 1 + c1 < 13000 by omega) (by omega), nI_clamp (show k + 1 + c1 < 2 ^ 31 by omega), y2, pm_aft hPt hax (pm_fxE f2), pl_sb, nI_1]
      by_cases q0 : v = 0
      · rw [if_pos q0] at hCs head
        rcases x5 with ⟨u1, u2⟩ | ⟨_, oth, c3', ko, u1, u2, u3, u4, u5, u6, u7, u8, u9, u10, u11, u12, u13⟩
        · rw [if_pos u1] at hCs
          have hX : prf_X_step τ = some (nI (nx z), τ') := by
            rcases u2 with u2 | ⟨_, u2⟩
            · rw [head, if_pos (nI_le (by omega) (by omega))]
            · rw [head]
              by_cases w : nI (k + LF) ≤ nI (k + 1 + c1 + c2)
              · rw [if_pos w]
              · have : k + 1 + c1 + c2 < k + LF := by
                  by_cases u : k + 1 + c1 + c2 < k + LF
                  · exact u
                  · exact absurd (nI_le (by omega) (by omega)) w
                rw [if_neg w, pl_ck (by omega) (by omega), nI_clamp (by omega), f2.2.1 17 rfl, u2, if_pos (by decide)]
          exact fin _ hCs hX d1 hnxar
        · have hne : ¬ σ0.2.1 37 z = -1 := by
            rw [u1]
            intro w
            exact nI_pos (show oth < 2 ^ 31 by omega) (by rw [w]; decide)
          rw [if_neg hne, u1] at hCs
          have hob : prf_X_otherBlock τ' (nI z) = some (nI oth) := by
            have t20 : τ'.2.1 20 z = nI k := by rw [f2.2.1 20 rfl]; exact b6.1
            unfold prf_X_otherBlock
            rw [pl_ck (show z < 250 by omega) (by omega), nI_clamp (show z < 2 ^ 31 by omega), t20, pm_secX (by omega) y1, pl_sb, pl_behX (show k + 1 + c1 < 13000 by omega) y2, pl_sb, nI_1]
            refine pm_oth (b1 := k + 1 + c1) (ko := ko) u2 (by omega) (by omega) (by omega) (by omega) (by rw [f2.2.1 21 rfl]; exact u9) (by rw [f2.2.1 20 rfl]; exact u10) u11 (by rw [f2.2.1 16 rfl]; exact u12) ?_ (oth - (z + 1)) (z + 1) pr_FU (by omega) (by omega) (by show _ ≤ 100000; omega)
            rw [f2.2.1 21 rfl, f2.2.1 20 rfl, f2.2.1 16 rfl]
            exact u13
          have hX : prf_X_step τ = some (nI oth, τ') := by
            rw [head, if_neg (nI_ge (by omega) (by omega)), pl_ck (by omega) (by omega), nI_clamp (by omega), f2.2.1 17 rfl, u5, if_neg (show ¬ nI c3' ≤ 1 from nI_ge (a := 1) u6 (by omega)), hob, pl_sb]
          exact fin _ hCs hX (by omega) (har1 oth u8)
      · rw [if_neg q0] at hCs head
        rcases x4 with ⟨u1, u2, u3, u4⟩ | ⟨u1, u2⟩
        · have hne : ¬ σ0.2.1 36 z = -1 := by
            rw [u1]
            intro w
            exact nI_pos (show z + 1 < 2 ^ 31 by omega) (by rw [w]; decide)
          rw [if_neg hne, u1] at hCs
          rw [if_neg (show ¬ nI c2 ≤ 1 from nI_ge (a := 1) u2 (by omega))] at head
          exact fin _ hCs head (by omega) (har1 _ u4)
        · rw [if_pos u1] at hCs
          rw [if_pos (show nI c2 ≤ 1 by rw [u2]; decide)] at head
          exact fin _ hCs head d1 hnxar
    · have hr6 : r.1 = 6 := hr1
      have hCs := (pm_stC e1 g11 hacc.1 (by omega)).2.2.2.2.2.1 hr6
      rw [pm_w0 (c := 0) g13 (by decide), pl_sb, g51, hacc.2.1, pl_sb, hacc.2.2.2.2.1, pl_sb, b5'.2.1, if_pos hr6] at hCs
      have head : prf_X_step τ = if v = 0 then some (nI (nx z), τ') else (if nI c2 ≤ 1 then some (nI z, τ') else some (nI (z + 1), τ')) := by
        unfold prf_X_step
        rw [h55, pl_ck (show z < 250 by omega) (by omega), nI_clamp (show z < 2 ^ 31 by omega), b6.1, pl_ck (show k < 13000 by omega) (by omega), nI_clamp (show k < 2 ^ 31 by omega), r13, if_neg (show ¬ nI 9 = 3 by decide), if_neg (show ¬ nI 9 = 4 by decide), if_neg (show ¬ nI 9 = 5 by decide), if_neg (show ¬ nI 9 = 6 by decide), if_neg (show ¬ nI 9 = 7 by decide), if_neg (show ¬ nI 9 = 8 by decide), if_pos (show nI 9 = 9 from rfl), nI_1, e2, pl_sb]
        dsimp only
        rw [g59, if_pos (by decide), pm_secX (by omega) y1, pl_sb, pl_ck (show k + 1 + c1 < 13000 by omega) (by omega), nI_clamp (show k + 1 + c1 < 2 ^ 31 by omega), y2, pm_aft hPt hax (pm_fxE f2), pl_sb, nI_1]
      by_cases q0 : v = 0
      · rw [if_pos q0] at hCs head
        exact fin _ hCs head d1 hnxar
      · rw [if_neg q0] at hCs head
        rcases x4 with ⟨u1, u2, u3, u4⟩ | ⟨u1, u2⟩
        · have hne : ¬ σ0.2.1 36 z = -1 := by
            rw [u1]
            intro w
            exact nI_pos (show z + 1 < 2 ^ 31 by omega) (by rw [w]; decide)
          rw [if_neg hne, u1] at hCs
          rw [if_neg (show ¬ nI c2 ≤ 1 from nI_ge (a := 1) u2 (by omega))] at head
          exact fin _ hCs head (by omega) (har1 _ u4)
        · rw [if_pos u1] at hCs
          rw [if_pos (show nI c2 ≤ 1 by rw [u2]; decide)] at head
          exact fin _ hCs head (by omega) har
  · have w59 : (0 : Int32) < τ'.1 0 59 := by rw [w2]; exact w0
    have y1 : τ'.2.1 17 (k + 1) = nI c1 := by rw [f2.2.1 17 rfl]; exact x1
    rcases h1 with rfl | rfl
    · have hX : prf_X_step τ = some (nI z, τ') := by
        unfold prf_X_step
        rw [h55, pl_ck (show z < 250 by omega) (by omega), nI_clamp (show z < 2 ^ 31 by omega), b6.1, pl_ck (show k < 13000 by omega) (by omega), nI_clamp (show k < 2 ^ 31 by omega), r13, if_neg (show ¬ nI 8 = 3 by decide), if_neg (show ¬ nI 8 = 4 by decide), if_neg (show ¬ nI 8 = 5 by decide), if_neg (show ¬ nI 8 = 6 by decide), if_neg (show ¬ nI 8 = 7 by decide), if_pos (show nI 8 = 8 from rfl), nI_1, e2, pl_sb]
        dsimp only
        rw [pm_secX (by omega) y1, pl_sb, if_neg (Int32.not_le.mpr w59)]
      exact pm_bad hcl har e1 hX e3 f1 f2 w0 w1 w2 giv
    · have hX : prf_X_step τ = some (nI z, τ') := by
        unfold prf_X_step
        rw [h55, pl_ck (show z < 250 by omega) (by omega), nI_clamp (show z < 2 ^ 31 by omega), b6.1, pl_ck (show k < 13000 by omega) (by omega), nI_clamp (show k < 2 ^ 31 by omega), r13, if_neg (show ¬ nI 9 = 3 by decide), if_neg (show ¬ nI 9 = 4 by decide), if_neg (show ¬ nI 9 = 5 by decide), if_neg (show ¬ nI 9 = 6 by decide), if_neg (show ¬ nI 9 = 7 by decide), if_neg (show ¬ nI 9 = 8 by decide), if_pos (show nI 9 = 9 from rfl), nI_1, e2, pl_sb]
        dsimp only
        rw [if_neg (Int32.not_le.mpr w59)]
      exact pm_bad hcl har e1 hX e3 f1 f2 w0 w1 w2 giv
