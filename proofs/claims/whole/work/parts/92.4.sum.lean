/-! THE MACHINE: SUMs -/
def pm_C (T : pl_Tx) (m : Nat) (rep : Nat → Nat) (A E : List (Nat × Bool)) (z P nO ic qe : Nat) (k q c rd : Nat) (F : List pl_N) (O : List pl_O) (σ τ : pr_St) : Prop :=
  pm_vc T m rep A E z P nO σ τ ∧ pm_iv ic rd σ τ ∧ pl_nd T τ m rep k F ∧ pl_ops σ q O ∧ pm_lk T E σ (pl_cl false F) ∧ (k + F.length ≤ 12870 ∧ q + O.length ≤ qe ∧ qe ≤ nO ∧ rd + O.length < 2 ^ 30) ∧ σ.1 7 13 = nI c ∧ σ.1 7 11 = 0 ∧ τ.1 0 59 = 0
def pm_SM (T : pl_Tx) (m : Nat) (rep : Nat → Nat) (A E : List (Nat × Bool)) (z P nO ic qe : Nat) (f : Nat) : Prop := ∀ (F : List pl_N) (O : List pl_O) (k q c rd : Nat) (σ τ : pr_St), pl_sm T f F O → pm_C T m rep A E z P nO ic qe k q c rd F O σ τ → c + f ≤ 256 → pm_Ev z qe q O.length c ic rd f σ τ (fun h => prF_X_reckon h τ (nI k))
theorem pm_k1 {T : pl_Tx} {m : Nat} {rep : Nat → Nat} {A E : List (Nat × Bool)} {z P nO ic qe k q c rd t f : Nat} {σ τ : pr_St} (hK : pl_xK T t = 3) (h : pm_C T m rep A E z P nO ic qe k q c rd [(12, t, nI (pl_vt T t), 1)] [(3, nI t)] σ τ) (hc : c + (f + 1) ≤ 256) : pm_Ev z qe q 1 c ic rd (f + 1) σ τ (fun h => prF_X_reckon h τ (nI k)) := by
  obtain ⟨hv, hi, hnd, hop, hlk, ⟨b1, b2, b3, b4⟩, h13, h11, h59⟩ := h
  obtain ⟨o1, o2⟩ := pm_vcO hv
  have htv := hv.1
  have ht : t + 1 < pl_xc T := htv.2.2.2.2 t (by omega)
  have b1' : k + 1 ≤ 12870 := b1
  have b2' : q + 1 ≤ qe := b2
  have er : prf_M_reckonOne σ (nI z) (nI 3) (nI t) = some (pm_ph σ c (nI (pl_vt T t))) := by
    unfold prf_M_reckonOne
    rw [if_neg (by decide), if_pos (by decide), (htv.1 t (by omega)).2, pl_sb, pm_push h13 (by omega), pl_sb]
  refine Or.inl ⟨1, nI (pl_vt T t), rd, pm_ph σ c (nI (pl_vt T t)), τ, Nat.le_refl _, by omega, pm_op1 o1 o2 (by omega) b3 h11 hop.1 hop.2.1 (Or.inr (Or.inl rfl)) er, fun h hh => ?_, pm_EGq pl_fr.rf pl_fr.rf (fun _ _ => rfl) h11 h59 hi⟩
  obtain ⟨h', rfl⟩ : ∃ y, h = y + 1 := ⟨h - 1, by omega⟩
  show prf_X_reckon (prF_X_reckon h') τ (nI k) = _
  have r13 : τ.2.1 13 k = nI 12 := hnd.1.1
  have r15 : τ.2.1 15 k = nI (pl_vt T t) := hnd.1.2.2.2.1 (show ¬ (12 : Nat) = 13 by decide)
  unfold prf_X_reckon
  rw [h59, if_pos (by decide), pl_ck (by omega) (by omega), nI_clamp (by omega), r13, if_pos (by decide), pl_ck (by omega) (by omega), r15]
theorem pm_k2 {T : pl_Tx} {m : Nat} {rep : Nat → Nat} {A E : List (Nat × Bool)} {z P nO ic qe k q c rd t f : Nat} {σ τ : pr_St} (hK : pl_xK T t = 2) (h : pm_C T m rep A E z P nO ic qe k q c rd [(13, t, nI t, 1)] [(2, nI t)] σ τ) (hc : c + (f + 1) ≤ 256) : pm_Ev z qe q 1 c ic rd (f + 1) σ τ (fun h => prF_X_reckon h τ (nI k)) := by
  obtain ⟨hv, hi, hnd, hop, hlk, ⟨b1, b2, b3, b4⟩, h13, h11, h59⟩ := h
  obtain ⟨o1, o2⟩ := pm_vcO hv
  have htv := hv.1
  have ht : t + 1 < pl_xc T := htv.2.2.2.2 t (by omega)
  have b1' : k + 1 ≤ 12870 := b1
  have b2' : q + 1 ≤ qe := b2
  have hso := (hlk (t, false) (by simp [pl_cl])).1 hK
  obtain ⟨s, hs, e1, _, e3⟩ := pm_name hv (show t < pl_xc T by omega) hso
  obtain ⟨id, i1, i2, i3⟩ := hnd.1.2.2.1 rfl
  obtain ⟨x, x1, x2, x3⟩ := e3 id i2 i3
  have h48 := hv.2.2.2.2.2.2.2.1 s hs
  have egn : prf_M_getNumber σ (nI s) = some (σ.2.1 48 s) := by
    unfold prf_M_getNumber
    rw [if_neg (nI_pos (by omega)), if_neg (show ¬ (12 : Int32) ≤ nI s from nI_ge (b := 12) hs (by omega)), pl_ck hs (by omega), nI_clamp (by omega)]
  have er : prf_M_reckonOne σ (nI z) (nI 2) (nI t) = some (pm_ph σ c (σ.2.1 48 s)) := by
    unfold prf_M_reckonOne
    rw [if_pos (by decide), e1, pl_sb, egn, pl_sb, pm_push h13 (by omega), pl_sb]
  refine Or.inl ⟨1, σ.2.1 48 s, rd, pm_ph σ c (σ.2.1 48 s), τ, Nat.le_refl _, by omega, pm_op1 o1 o2 (by omega) b3 h11 hop.1 hop.2.1 (Or.inl rfl) er, fun h hh => ?_, pm_EGq pl_fr.rf pl_fr.rf (fun _ _ => rfl) h11 h59 hi⟩
  obtain ⟨h', rfl⟩ : ∃ y, h = y + 1 := ⟨h - 1, by omega⟩
  show prf_X_reckon (prF_X_reckon h') τ (nI k) = _
  have r13 : τ.2.1 13 k = nI 13 := hnd.1.1
  unfold prf_X_reckon
  rw [h59, if_pos (by decide), pl_ck (by omega) (by omega), nI_clamp (by omega), r13, if_neg (by decide), if_pos (by decide), pl_ck (by omega) (by omega), i1, x1, pl_sb, pl_ck x2 (by omega), nI_clamp (by omega), x3, pl_ck hs (by omega), nI_clamp (by omega), h48]
theorem pm_k4 {T : pl_Tx} {m : Nat} {rep : Nat → Nat} {A E : List (Nat × Bool)} {z P nO ic qe k q c rd t f : Nat} {σ τ : pr_St} {G : List pl_N} {Q : List pl_O} (ih : pm_SM T m rep A E z P nO ic qe f) (hsm : pl_sm T f G Q) (h : pm_C T m rep A E z P nO ic qe k q c rd ((15, t, 0, 1 + G.length) :: G) (Q ++ [(35, -1)]) σ τ) (hc : c + (f + 1) ≤ 256) : pm_Ev z qe q (Q ++ [(35, (-1 : Int32))]).length c ic rd (f + 1) σ τ (fun h => prF_X_reckon h τ (nI k)) := by
  obtain ⟨hv, hi, hnd, hop, hlk, ⟨b1, b2, b3, b4⟩, h13, h11, h59⟩ := h
  have eL : (Q ++ [(35, (-1 : Int32))]).length = Q.length + 1 := by rw [List.length_append]; rfl
  rw [eL] at b2 b4 ⊢
  rw [List.length_cons] at b1
  obtain ⟨p1, p2⟩ := pm_opl Q _ q hop
  have r13 : τ.2.1 13 k = nI 15 := hnd.1.1
  have hlk' : pm_lk T E σ (pl_cl false G) := hlk
  have head : ∀ (rc : pr_St → Int32 → Option (Int64 × pr_St)), prf_X_reckon rc τ (nI k) = (rc τ (nI (k + 1))).bind fun r63 => (prf_X_whole r63.2 (-r63.1)).bind fun r64 => some (r64.1, r64.2) := by
    intro rc
    unfold prf_X_reckon
    rw [h59, if_pos (by decide), pl_ck (by omega) (by omega), nI_clamp (by omega), r13, if_neg (by decide), if_neg (by decide), if_neg (by decide), if_pos (by decide), nI_1]
  rcases ih G Q (k + 1) q c rd σ τ hsm ⟨hv, hi, hnd.2, p1, hlk', ⟨by omega, by omega, b3, by omega⟩, h13, h11, h59⟩ (by omega) with ⟨n, v, rd1, σ1, τ1, a1, a2, a3, a4, a5⟩ | ⟨n, w, rd1, σ1, τ1, a1, a2, a3, a4, a5⟩
  · obtain ⟨f1, f2, g13, g51, gj, g11, g59, giv⟩ := a5
    dsimp only at a4
    have hv1 := pm_vc_fr hv f1 f2
    obtain ⟨o1, o2⟩ := pm_vcO hv1
    have p2' := pm_ops f1 p2
    have hpop := pm_pop (σ := σ1) (c := c) g13 (by omega)
    rw [g51] at hpop
    have eR : prf_M_reckonOne σ1 (nI z) (nI 35) (-1) = (prf_M_pushIfInt (pr_sI σ1 7 13 (nI c)) (-v.toInt64)).bind fun r40 => some r40 := by
      unfold prf_M_reckonOne
      rw [if_neg (by decide), if_neg (by decide), if_neg (by decide), if_pos (by decide), hpop, pl_sb]
    have fb : pl_fr pm_FE pm_GE σ1 (pr_sI σ1 7 13 (nI c)) := pl_sI_fr (o := 7) (k := 13) rfl
    have hib : pm_iv ic rd1 (pr_sI σ1 7 13 (nI c)) τ1 := pm_iv_eq giv fb pl_fr.rf (by rw [pr_sI_ne (by omega)]) rfl
    rcases pl_whole (σ := pr_sI σ1 7 13 (nI c)) (τ := τ1) g59 (-v.toInt64) with ⟨u, u1, u2, u3⟩ | ⟨u2, u3⟩
    · rw [u2, pm_push pr_sI_same (by omega), pl_sb] at eR
      refine Or.inl ⟨n + 1, u, rd1, _, τ1, by omega, by omega, pm_go.tr a3 (pm_op1 o1 o2 (by omega) b3 g11 p2'.1 p2'.2.1 (Or.inr (Or.inr (Or.inr (by omega)))) eR), fun h hh => ?_, pm_EGq (f1.tr fb) f2 (fun j hj => gj j hj) (by rw [pr_sI_ne (by omega)]; exact g11) g59 hib⟩
      obtain ⟨h', rfl⟩ : ∃ y, h = y + 1 := ⟨h - 1, by omega⟩
      show prf_X_reckon (prF_X_reckon h') τ (nI k) = _
      rw [head, a4 h' (by omega), pl_sb]
      dsimp only
      rw [u3, pl_sb]
    · rw [u2, pl_sb] at eR
      have ft : pl_fr pm_FE pm_GE (pr_sI σ1 7 13 (nI c)) (pr_sI (pr_sI σ1 7 13 (nI c)) 7 11 1) := pl_sI_fr (o := 7) (k := 11) rfl
      have ft2 : pl_fr pm_FT pm_GT τ1 (pr_sI τ1 0 59 1) := pl_sI_fr (o := 0) (k := 59) rfl
      refine Or.inr ⟨n + 1 + 1, 1, rd1, _, pr_sI τ1 0 59 1, by omega, by omega, pm_go.ht (pm_go.tr a3 (pm_op1 o1 o2 (by omega) b3 g11 p2'.1 p2'.2.1 (Or.inr (Or.inr (Or.inr (by omega)))) eR)) (pm_tp (by rw [pr_sI_same]; decide)), fun h hh => ?_, (f1.tr fb).tr ft, f2.tr ft2, by decide, pr_sI_same, pr_sI_same, pm_iv_eq hib ft ft2 (by rw [pr_sI_ne (by omega)]) (by rw [pr_sI_ne (by omega)])⟩
      obtain ⟨h', rfl⟩ : ∃ y, h = y + 1 := ⟨h - 1, by omega⟩
      refine ⟨0, ?_⟩
      show prf_X_reckon (prF_X_reckon h') τ (nI k) = _
      rw [head, a4 h' (by omega), pl_sb]
      dsimp only
      rw [u3, pl_sb]
  · obtain ⟨f1, f2, w0, w1, w2, giv⟩ := a5
    dsimp only at a4
    refine Or.inr ⟨n, w, rd1, σ1, τ1, by omega, by omega, a3, fun h hh => ?_, f1, f2, w0, w1, w2, giv⟩
    obtain ⟨h', rfl⟩ : ∃ y, h = y + 1 := ⟨h - 1, by omega⟩
    obtain ⟨v64, ev⟩ := a4 h' (by omega)
    obtain ⟨y, ey⟩ := pm_wholeB (τ := τ1) (by rw [w2]; exact pl_neg0 w0) (-v64)
    refine ⟨y, ?_⟩
    show prf_X_reckon (prF_X_reckon h') τ (nI k) = _
    rw [head, ev, pl_sb]
    dsimp only
    rw [ey, pl_sb]
/-- an input, in a SUM -/
theorem pm_k56 {T : pl_Tx} {m : Nat} {rep : Nat → Nat} {A E : List (Nat × Bool)} {z P nO ic qe k q c rd t f : Nat} {σ τ : pr_St} {F : List pl_N} (hK : pl_xK T t = 11) (hF : (¬ pl_xK T (t + 1) = 12 ∧ F = [(16, t, 0, 1)]) ∨ (pl_xK T (t + 1) = 12 ∧ F = [(16, t, 0, 3), (12, t + 2, pl_lim T (t + 2), 1), (12, pl_sec T (t + 2), pl_lim T (pl_sec T (t + 2)), 1)])) (h : pm_C T m rep A E z P nO ic qe k q c rd F [(11, nI t)] σ τ) (hc : c + (f + 1) ≤ 256) : pm_Ev z qe q 1 c ic rd (f + 1) σ τ (fun h => prF_X_reckon h τ (nI k)) := by
  obtain ⟨hv, hi, hnd, hop, hlk, ⟨b1, b2, b3, b4⟩, h13, h11, h59⟩ := h
  obtain ⟨o1, o2⟩ := pm_vcO hv
  have htv := hv.1
  have ht : t + 1 < pl_xc T := htv.2.2.2.2 t (by omega)
  have b2' : q + 1 ≤ qe := b2
  have b4' : rd + 1 < 2 ^ 30 := b4
  have hlim : pl_xK T (t + 1) = 12 → pl_sec T (t + 2) + 1 < pl_xc T := by
    intro q12
    rcases hF with ⟨w, _⟩ | ⟨_, rfl⟩
    · exact absurd q12 w
    · exact (hlk (t, false) (by simp [pl_cl])).2 hK q12
  obtain ⟨u, σ1, τ1, u1, u2, u3, u4, u5, u6, u7⟩ := pm_any htv hi (by omega) ht hlim
  obtain ⟨y, hy⟩ : ∃ y, y = (if pl_xK T (t + 1) = 12 then (if u < pl_lim T (t + 2) then pl_lim T (t + 2) else if pl_lim T (pl_sec T (t + 2)) < u then pl_lim T (t + 2) else u) else u) := ⟨_, rfl⟩
  rw [← hy] at u2
  have e13 : σ1.1 7 13 = nI c := by rw [u3 7 13 (by omega)]; exact h13
  have er : prf_M_reckonOne σ (nI z) (nI 11) (nI t) = some (pm_ph σ1 c y) := by
    unfold prf_M_reckonOne
    rw [if_neg (by decide), if_neg (by decide), if_neg (by decide), if_neg (by decide), if_neg (by decide), if_neg (by decide), if_neg (by decide), u2, pl_sb]
    dsimp only
    rw [pm_push e13 (by omega), pl_sb]
  have f1 : pl_fr pm_FE pm_GE σ σ1 := by
    refine ⟨fun o x hx => u3 o x (fun w => ?_), fun a _ => by rw [u4], by rw [u4]⟩
    rw [w.1, w.2] at hx; cases hx
  have f2 : pl_fr pm_FT pm_GT τ τ1 := by
    refine ⟨fun o x hx => u5 o x (fun w => ?_), fun a _ => by rw [u6], by rw [u6]⟩
    rw [w.1, w.2] at hx; cases hx
  refine Or.inl ⟨1, y, rd + 1, pm_ph σ1 c y, τ1, Nat.le_refl _, Nat.le_refl _, pm_op1 o1 o2 (by omega) b3 h11 hop.1 hop.2.1 (Or.inr (Or.inr (Or.inl rfl))) er, fun h hh => ?_, pm_EGq f1 f2 (fun _ _ => by rw [u4]) (by rw [u3 7 11 (by omega)]; exact h11) (by rw [u5 0 59 (by omega)]; exact h59) u7⟩
  obtain ⟨h', rfl⟩ : ∃ y, h = y + 1 := ⟨h - 1, by omega⟩
  show prf_X_reckon (prF_X_reckon h') τ (nI k) = _
  rcases hF with ⟨w12, rfl⟩ | ⟨w12, rfl⟩
  · have r13 : τ.2.1 13 k = nI 16 := hnd.1.1
    have r17 : τ1.2.1 17 k = nI 1 := by rw [u6]; exact hnd.1.2.2.2.2
    have b1' : k + 1 ≤ 12870 := b1
    unfold prf_X_reckon
    rw [h59, if_pos (by decide), pl_ck (by omega) (by omega), nI_clamp (by omega), r13, if_neg (by decide), if_neg (by decide), if_neg (by decide), if_neg (by decide), if_pos (by decide), u1, pl_sb]
    dsimp only
    rw [pl_ck (by omega) (by omega), r17, if_pos (by decide), hy, if_neg w12]
  · have r13 : τ.2.1 13 k = nI 16 := hnd.1.1
    have r17 : τ1.2.1 17 k = nI 3 := by rw [u6]; exact hnd.1.2.2.2.2
    have r15 : τ1.2.1 15 (k + 1) = pl_lim T (t + 2) := by rw [u6]; exact hnd.2.1.2.2.2.1 (show ¬ (12 : Nat) = 13 by decide)
    have r25 : τ1.2.1 15 (k + 2) = pl_lim T (pl_sec T (t + 2)) := by rw [u6]; exact hnd.2.2.1.2.2.2.1 (show ¬ (12 : Nat) = 13 by decide)
    have b1' : k + 3 ≤ 12870 := b1
    unfold prf_X_reckon
    rw [h59, if_pos (by decide), pl_ck (by omega) (by omega), nI_clamp (by omega), r13, if_neg (by decide), if_neg (by decide), if_neg (by decide), if_neg (by decide), if_pos (by decide), u1, pl_sb]
    dsimp only
    rw [pl_ck (by omega) (by omega), r17, if_neg (by decide), nI_1, pl_n2, pl_ck (by omega) (by omega), pl_ck (by omega) (by omega), pl_ck (by omega) (by omega), nI_clamp (by omega), nI_clamp (by omega), r15, r25, hy, if_pos w12]
    by_cases c1 : u < pl_lim T (t + 2)
    · rw [if_pos c1, if_pos c1]
    · rw [if_neg c1, if_neg c1]
      by_cases c2 : pl_lim T (pl_sec T (t + 2)) < u
      · rw [if_pos c2, if_pos c2]
      · rw [if_neg c2, if_neg c2]
/-- a place of an array, in a SUM -/
theorem pm_k3 {T : pl_Tx} {m : Nat} {rep : Nat → Nat} {A E : List (Nat × Bool)} {z P nO ic qe k q c rd t f : Nat} {σ τ : pr_St} {G : List pl_N} {Q : List pl_O} (ih : pm_SM T m rep A E z P nO ic qe f) (hK : pl_xK T t = 2) (hsm : pl_sm T f G Q) (h : pm_C T m rep A E z P nO ic qe k q c rd ((14, t, 0, 2 + G.length) :: (13, t, nI t, 1) :: G) ((36, nI t) :: (Q ++ [(38, -1)])) σ τ) (hc : c + (f + 1) ≤ 256) (hf : 1 ≤ f) : pm_Ev z qe q ((36, nI t) :: (Q ++ [(38, (-1 : Int32))])).length c ic rd (f + 1) σ τ (fun h => prF_X_reckon h τ (nI k)) := by
  obtain ⟨hv, hi, hnd, hop, hlk, ⟨b1, b2, b3, b4⟩, h13, h11, h59⟩ := h
  have eL : ((36, nI t) :: (Q ++ [(38, (-1 : Int32))])).length = Q.length + 2 := by rw [List.length_cons, List.length_append]; rfl
  rw [eL] at b2 b4 ⊢
  rw [List.length_cons, List.length_cons] at b1
  obtain ⟨o1, o2⟩ := pm_vcO hv
  have htv := hv.1
  have ht : t + 1 < pl_xc T := htv.2.2.2.2 t (by omega)
  obtain ⟨p1, p2⟩ := pm_opl Q _ (q + 1) hop.2.2
  have hlk' : pm_lk T E σ ((t, true) :: pl_cl false G) := hlk
  have hso := (hlk' (t, true) (List.mem_cons_self)).1 hK
  have hlk2 : pm_lk T E σ (pl_cl false G) := fun x hx => hlk' x (List.mem_cons_of_mem _ hx)
  obtain ⟨id, i1, i2, i3⟩ := hnd.2.1.2.2.1 rfl
  obtain ⟨s, R, hs, hR1, hR, e1, e2, e3, e4, e5⟩ := pm_arr hv (show t < pl_xc T by omega) hso
  -- the array's slot
  have er : prf_M_reckonOne σ (nI z) (nI 36) (nI t) = some (pm_ph σ c (nI s)) := by
    unfold prf_M_reckonOne
    rw [if_neg (by decide), if_neg (by decide), if_neg (by decide), if_neg (by decide), if_pos (by decide), e1, pl_sb, e2, pl_sb, nI_add, show pl_cnt true A + (s - pl_cnt true A) = s by omega, pm_push h13 (by omega), pl_sb]
  have go1 := pm_op1 (z := z) o1 o2 (show q < qe by omega) b3 h11 hop.1 hop.2.1 (Or.inr (Or.inr (Or.inr (by omega)))) er
  have eg1 : pm_EG c ic rd (nI s) σ τ (pm_ph σ c (nI s)) τ := pm_EGq pl_fr.rf pl_fr.rf (fun _ _ => rfl) h11 h59 hi
  obtain ⟨σ1, hσ1⟩ : ∃ σ1, σ1 = pm_ph σ c (nI s) := ⟨_, rfl⟩
  rw [← hσ1] at go1 eg1
  obtain ⟨f1, _, g13, g51, gj, g11, _, giv⟩ := eg1
  have hv1 := pm_vc_fr hv f1 (pl_fr.rf (σ := τ))
  have r13 : τ.2.1 13 k = nI 14 := hnd.1.1
  have r17 : τ.2.1 17 (k + 1) = nI 1 := hnd.2.1.2.2.2.2
  have head : ∀ (rc : pr_St → Int32 → Option (Int64 × pr_St)), prf_X_reckon rc τ (nI k) = (prf_X_placeOf rc τ (nI (k + 1)) (nI (k + 2))).bind fun r59 => if (r59.2.1 0 59) ≤ 0 then (pr_ck r59.1 384 <| some (((r59.2.2.1 35) r59.1.toNatClampNeg).toInt64, r59.2)) else some (0, r59.2) := by
    intro rc
    unfold prf_X_reckon
    rw [h59, if_pos (by decide), pl_ck (by omega) (by omega), nI_clamp (by omega), r13, if_neg (by decide), if_neg (by decide), if_pos (by decide), pm_secX (by omega) r17, pl_sb, nI_1]
  rcases ih G Q (k + 2) (q + 1) (c + 1) rd σ1 τ hsm ⟨hv1, giv, hnd.2.2, pm_ops f1 p1, pm_lk_fr hlk2 (f1.2.1 24 rfl), ⟨by omega, by omega, b3, by omega⟩, g13, g11, h59⟩ (by omega) with ⟨n, v, rd1, σ2, τ2, a1, a2, a3, a4, a5⟩ | ⟨n, w, rd1, σ2, τ2, a1, a2, a3, a4, a5⟩
  · obtain ⟨k1, k2, k13, k51, kj, k11, k59, kiv⟩ := a5
    dsimp only at a4
    have hv2 := pm_vc_fr hv1 k1 k2
    obtain ⟨o1', o2'⟩ := pm_vcO hv2
    have hp := pm_ops (f1.tr k1) p2
    have h49 : σ2.2.1 49 s = nI R := by rw [(f1.tr k1).2.1 49 rfl]; exact e4
    have e0 : σ2.2.1 51 c = nI s := by rw [kj c (by omega)]; exact g51
    have hso2 : pl_so T E t true (σ2.2.1 24 t) := by rw [(f1.tr k1).2.1 24 rfl]; exact hso
    obtain ⟨s', R', _, _, _, _, m2, m3, m4, m5⟩ := pm_arr hv2 (show t < pl_xc T by omega) hso2
    have es : s' = s := by
      have := e2.symm.trans (show prf_G_slotOf σ (nI t) = some (nI (s' - pl_cnt true A)) by rw [← m2]; unfold prf_G_slotOf; rw [(f1.tr k1).2.1 24 rfl])
      have := (nI_eq (by omega) (by omega)).mp (Option.some.inj this)
      omega
    subst es
    have eR : R' = R := (nI_eq (by omega) (by omega)).mp (m4.symm.trans h49)
    subst eR
    obtain ⟨x, x1, x2, x3, x4⟩ := m5 id i2 i3
    have i1' : τ2.2.1 15 (k + 1) = nI id := by rw [k2.2.1 15 rfl]; exact i1
    obtain ⟨t1, t2⟩ := pm_take k13 (by omega) hs hR h49 e0 k51 k11
    have eq38 : ∀ σx, prf_M_takePlace σ2 = some σx → prf_M_reckonOne σ2 (nI z) (nI 38) (-1) = some σx := by
      intro σx hx
      unfold prf_M_reckonOne
      rw [if_neg (by decide), if_neg (by decide), if_neg (by decide), if_neg (by decide), if_neg (by decide), if_neg (by decide), if_pos (by decide), hx, pl_sb]
    by_cases qv : v < 0 ∨ nI R' ≤ v
    · obtain ⟨σ3, y1, y2, y3, y4⟩ := t1 qv
      have go3 := pm_op1 (z := z) o1' o2' (show q + 1 + Q.length < qe by omega) b3 k11 hp.1 hp.2.1 (Or.inr (Or.inr (Or.inr (by omega)))) (eq38 σ3 y1)
      have ft2 : pl_fr pm_FT pm_GT τ2 (pr_sI τ2 0 59 4) := pl_sI_fr (o := 0) (k := 59) rfl
      refine Or.inr ⟨1 + n + 1 + 1, 4, rd1, σ3, pr_sI τ2 0 59 4, by omega, by omega, pm_go.ht (pm_go.tr (pm_go.tr go1 a3) go3) (pm_tp (by rw [y3]; decide)), fun h hh => ?_, (f1.tr k1).tr y2, k2.tr ft2, by decide, y3, pr_sI_same, pm_iv_eq kiv y2 ft2 y4 (by rw [pr_sI_ne (by omega)])⟩
      obtain ⟨h', rfl⟩ : ∃ y, h = y + 1 := ⟨h - 1, by omega⟩
      refine ⟨0, ?_⟩
      show prf_X_reckon (prF_X_reckon h') τ (nI k) = _
      rw [head, (pm_plG (a4 h' (by omega)) (by omega) i1' x1 x2 x3 x4 k59).1 qv, pl_sb]
      dsimp only
      rw [pr_sI_same, if_neg (by decide)]
    · have qv1 : ¬ v < 0 := fun w => qv (Or.inl w)
      have qv2 : ¬ nI R' ≤ v := fun w => qv (Or.inr w)
      obtain ⟨σ3, y1, y2, y3, y4, y5, y6, y7⟩ := t2 qv1 qv2
      have go3 := pm_op1 (z := z) o1' o2' (show q + 1 + Q.length < qe by omega) b3 k11 hp.1 hp.2.1 (Or.inr (Or.inr (Or.inr (by omega)))) (eq38 _ y1)
      have h50 := hv2.2.2.2.2.2.2.2.2.1 (64 * s' + v.toNatClampNeg) (by omega)
      have hgo := pm_go.tr (pm_go.tr go1 a3) go3
      rw [show q + 1 + Q.length + 1 = q + (Q.length + 2) by omega] at hgo
      refine Or.inl ⟨1 + n + 1, σ2.2.1 50 (64 * s' + v.toNatClampNeg), rd1, _, τ2, by omega, by omega, hgo, fun h hh => ?_, pm_EGq ((f1.tr k1).tr y2) k2 (fun j hj => by rw [y3, kj j (by omega)]; exact gj j hj) y4 k59 (pm_iv_eq kiv y2 pl_fr.rf y5 rfl)⟩
      obtain ⟨h', rfl⟩ : ∃ y, h = y + 1 := ⟨h - 1, by omega⟩
      show prf_X_reckon (prF_X_reckon h') τ (nI k) = _
      have em : 64 * nI s' + v = nI (64 * s' + v.toNatClampNeg) := by
        conv => lhs; rw [y6]
        rw [show (64 : Int32) = nI 64 from rfl, pk_mul, nI_add]
      rw [head, (pm_plG (a4 h' (by omega)) (by omega) i1' x1 x2 x3 x4 k59).2 qv1 qv2, pl_sb]
      dsimp only
      rw [k59, if_pos (by decide), em, pl_ck (by omega) (by omega), nI_clamp (by omega), h50]
  · obtain ⟨k1, k2, w0, w1, w2, kiv⟩ := a5
    dsimp only at a4
    have hv2 := pm_vc_fr hv1 k1 k2
    have hso2 : pl_so T E t true (σ2.2.1 24 t) := by rw [(f1.tr k1).2.1 24 rfl]; exact hso
    obtain ⟨s', R', _, _, _, _, m2, m3, m4, m5⟩ := pm_arr hv2 (show t < pl_xc T by omega) hso2
    obtain ⟨x, x1, x2, x3, x4⟩ := m5 id i2 i3
    have i1' : τ2.2.1 15 (k + 1) = nI id := by rw [k2.2.1 15 rfl]; exact i1
    refine Or.inr ⟨1 + n, w, rd1, σ2, τ2, by omega, by omega, pm_go.ht go1 a3, fun h hh => ?_, f1.tr k1, k2, w0, w1, w2, kiv⟩
    obtain ⟨h', rfl⟩ : ∃ y, h = y + 1 := ⟨h - 1, by omega⟩
    obtain ⟨v64, ev⟩ := a4 h' (by omega)
    refine ⟨0, ?_⟩
    show prf_X_reckon (prF_X_reckon h') τ (nI k) = _
    have w59 : (0 : Int32) < τ2.1 0 59 := by rw [w2]; exact w0
    rw [head, pm_plB ev (by omega) i1' x1 w59, pl_sb]
    dsimp only
    rw [if_neg (Int32.not_le.mpr w59)]
