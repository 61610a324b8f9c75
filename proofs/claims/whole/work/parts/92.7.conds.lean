/-! THE MACHINE: CONDs of several parts -/
theorem pm_leap {σ : pr_St} {nO q z qe len c o : Nat} {v : Int32} (h14 : σ.1 2 14 = nI nO) (hn : nO ≤ 8000) (hq : q < qe) (hqe : qe ≤ nO) (ht : σ.1 7 11 = 0) (h22 : σ.2.1 22 q = nI o) (h23 : σ.2.1 23 q = nI (q + 1 + len)) (h13 : σ.1 7 13 = nI (c + 1)) (hc : c < 256) (h51 : σ.2.1 51 c = v) (hb : q + 1 + len < 2 ^ 30) (ho : (o = 33 ∧ ¬ v = 0) ∨ (o = 32 ∧ v = 0)) : pm_go z qe 1 q (q + 1 + len) σ σ := by
  intro g
  have ej : (if nI q < nI (q + 1 + len) - 1 then nI (q + 1 + len) - 1 else nI q) + 1 = nI (q + 1 + len) := by
    rw [show q + 1 + len = (q + len) + 1 by omega, pl_sub1]
    by_cases w : len = 0
    · rw [if_neg (nI_nlt (by omega) (by omega)), w, nI_1]
    · rw [if_pos (nI_lt (by omega) (by omega)), nI_1]
  rw [pm_opS h14 hn (by omega) hq hqe ht h22 h23 (by omega), if_pos (by omega)]
  unfold prf_M_reckon_84
  rw [h13, pl_sub1, pm_wat h13 (by omega) (by omega), pl_sb, h51]
  rcases ho with ⟨rfl, hv⟩ | ⟨rfl, hv⟩
  · rw [if_neg hv, if_pos (show nI 33 = 33 by decide), if_pos (show (1 : Int32) = 1 from rfl), ej]
  · rw [if_pos hv, if_neg (show ¬ nI 32 = 33 by decide), if_pos (show (0 : Int32) = 0 from rfl), ej]
theorem pm_drop {σ : pr_St} {nO q z qe c o : Nat} {v x : Int32} (h14 : σ.1 2 14 = nI nO) (hn : nO ≤ 8000) (hq : q < qe) (hqe : qe ≤ nO) (ht : σ.1 7 11 = 0) (h22 : σ.2.1 22 q = nI o) (h23 : σ.2.1 23 q = x) (h13 : σ.1 7 13 = nI (c + 1)) (hc : c < 256) (h51 : σ.2.1 51 c = v) (ho : (o = 33 ∧ v = 0) ∨ (o = 32 ∧ ¬ v = 0)) : pm_go z qe 1 q (q + 1) σ (pr_sI σ 7 13 (nI c)) := by
  intro g
  rw [pm_opS h14 hn (by omega) hq hqe ht h22 h23 (by omega), if_pos (by omega)]
  unfold prf_M_reckon_84
  rw [h13, pl_sub1, pm_wat h13 (by omega) (by omega), pl_sb, h51]
  rcases ho with ⟨rfl, hv⟩ | ⟨rfl, hv⟩
  · rw [if_pos hv, if_pos (show nI 33 = 33 by decide), if_neg (show ¬ (0 : Int32) = 1 by decide), pm_pop h13 hc, pl_sb, nI_1]
  · rw [if_neg hv, if_neg (show ¬ nI 32 = 33 by decide), if_neg (show ¬ (1 : Int32) = 0 by decide), pm_pop h13 hc, pl_sb, nI_1]
theorem pm_catL_len (o q : Nat) (e : List pl_N × List pl_O) (l : List (List pl_N × List pl_O)) : (pl_catL o q (e :: l)).length = 1 + e.2.length + (pl_catL o (q + 1 + e.2.length) l).length := by
  show ((o, nI (q + 1 + e.2.length)) :: (e.2 ++ pl_catL o (q + 1 + e.2.length) l)).length = _
  rw [List.length_cons, List.length_append]; omega
theorem pm_leaps {σ : pr_St} {nO z qe c o : Nat} {v : Int32} (h14 : σ.1 2 14 = nI nO) (hn : nO ≤ 8000) (hqe : qe ≤ nO) (ht : σ.1 7 11 = 0) (h13 : σ.1 7 13 = nI (c + 1)) (hc : c < 256) (h51 : σ.2.1 51 c = v) (ho : (o = 33 ∧ ¬ v = 0) ∨ (o = 32 ∧ v = 0)) : ∀ (Ls : List (List pl_N × List pl_O)) (q : Nat), pl_ops σ q (pl_catL o q Ls) → q + (pl_catL o q Ls).length ≤ qe → pm_go z qe Ls.length q (q + (pl_catL o q Ls).length) σ σ ∧ Ls.length ≤ (pl_catL o q Ls).length := by
  intro Ls
  induction Ls with
  | nil => intro q _ _; exact ⟨fun g => rfl, Nat.le_refl _⟩
  | cons e l il =>
    intro q hop hq
    have hop' : σ.2.1 22 q = nI o ∧ σ.2.1 23 q = nI (q + 1 + e.2.length) ∧ pl_ops σ (q + 1) (e.2 ++ pl_catL o (q + 1 + e.2.length) l) := hop
    rw [pm_catL_len] at hq ⊢
    obtain ⟨_, p2⟩ := pm_opl _ _ _ hop'.2.2
    obtain ⟨i1, i2⟩ := il (q + 1 + e.2.length) p2 (by omega)
    have g1 := pm_leap (z := z) h14 hn (show q < qe by omega) hqe ht hop'.1 hop'.2.1 h13 hc h51 (by omega) ho
    have g2 := pm_go.tr g1 i1
    rw [List.length_cons]
    refine ⟨?_, by omega⟩
    rw [show l.length + 1 = 1 + l.length by omega, show q + (1 + e.2.length + (pl_catL o (q + 1 + e.2.length) l).length) = q + 1 + e.2.length + (pl_catL o (q + 1 + e.2.length) l).length by omega]
    exact g2
theorem pm_79T {rc : pr_St → Int32 → Option (Int32 × pr_St)} {τ : pr_St} {k sz fu : Nat} {v p : Int32} (hk : k < 13000) (h17 : τ.2.1 17 k = nI sz) (h59 : ¬ τ.1 0 59 = 0) (hv : v = 0 ∨ v = 1) : prf_X_holds_79 rc (fu + 1) τ (nI k) v p = some (v, τ) := by
  have hz : pr_z v (some (v, τ)) = some (v, τ) := by unfold pr_z; rw [if_pos hv]
  rw [prf_X_holds_79, pl_behX hk h17, pl_sb, if_neg h59, hz]
  by_cases q : nI (k + sz) ≤ p
  · rw [if_pos q]
  · rw [if_neg q]
/-- one turn of the reference's loop -/
theorem pm_79 {rc : pr_St → Int32 → Option (Int32 × pr_St)} {τ τ1 : pr_St} {k sz fu p lp : Nat} {iv v : Int32} (hk : k + sz ≤ 12870) (h17 : τ.2.1 17 k = nI sz) (h59 : τ.1 0 59 = 0) (hp : p < k + sz) (hx : rc τ (nI p) = some (v, τ1)) (h17p : τ1.2.1 17 p = nI lp) (hiv : iv = 0 ∨ iv = 1) : (v = iv → prf_X_holds_79 rc (fu + 1) τ (nI k) iv (nI p) = prf_X_holds_79 rc fu τ1 (nI k) iv (nI (p + lp))) ∧ (¬ v = iv → prf_X_holds_79 rc (fu + 1) τ (nI k) iv (nI p) = some ((if iv = 0 then 1 else 0), τ1)) := by
  have head : prf_X_holds_79 rc (fu + 1) τ (nI k) iv (nI p) = if v = iv then prf_X_holds_79 rc fu τ1 (nI k) iv (nI (p + lp)) else if iv = 0 then some (1, τ1) else some (0, τ1) := by
    rw [prf_X_holds_79, pl_behX (by omega) h17, pl_sb, if_neg (nI_ge hp (by omega)), if_pos h59, hx, pl_sb]
    dsimp only
    rw [pl_behX (by omega) h17p, pl_sb]
  constructor
  · intro w; rw [head, if_pos w]
  · intro w
    rw [head, if_neg w]
    by_cases u : iv = 0
    · rw [if_pos u, if_pos u]
    · rw [if_neg u, if_neg u]
theorem pm_tst {T : pl_Tx} {m : Nat} {rep : Nat → Nat} {A E : List (Nat × Bool)} {z P nO ic qe f : Nat} (ih : pm_CD T m rep A E z P nO ic qe f) {k sz c o : Nat} {iv : Int32} (ho : (o = 33 ∧ iv = 0) ∨ (o = 32 ∧ iv = 1)) (hk : k + sz ≤ 12870) (hcf : c + f ≤ 256) (hc : c < 256) (hqe : qe ≤ nO) : ∀ (Ls : List (List pl_N × List pl_O)) (p q rd fu : Nat) (σ τ : pr_St), pl_cdl (pl_cd T f) q Ls → pm_vc T m rep A E z P nO σ τ → pm_iv ic rd σ τ → pl_nd T τ m rep p (pl_catF Ls) → pl_ops σ q (pl_catL o q Ls) → pm_lk T E σ (pl_cl false (pl_catF Ls)) → p + (pl_catF Ls).length = k + sz → q + (pl_catL o q Ls).length ≤ qe → rd + (pl_catL o q Ls).length < 2 ^ 30 → τ.2.1 17 k = nI sz → σ.1 7 13 = nI (c + 1) → σ.2.1 51 c = iv → σ.1 7 11 = 0 → τ.1 0 59 = 0 → Ls.length + 1 ≤ fu → pm_Ec z qe q (pl_catL o q Ls).length c ic rd f σ τ (fun h => prf_X_holds_79 (prF_X_holds h) fu τ (nI k) iv (nI p)) := by
  have hiv : iv = 0 ∨ iv = 1 := ho.elim (fun w => Or.inl w.2) (fun w => Or.inr w.2)
  have hd : (o = 33 ∧ iv = 0) ∨ (o = 32 ∧ ¬ iv = 0) := ho.elim Or.inl (fun w => Or.inr ⟨w.1, by rw [w.2]; decide⟩)
  intro Ls
  induction Ls with
  | nil =>
    intro p q rd fu σ τ hL hv hi hnd hop hlk hp hq hrd h17 h13 h51 h11 h59 hfu
    obtain ⟨fu, rfl⟩ : ∃ y, fu = y + 1 := ⟨fu - 1, by omega⟩
    have hp' : p = k + sz := hp
    refine Or.inl ⟨0, iv, rd, σ, τ, hiv, Nat.zero_le _, Nat.le_refl _, fun g => rfl, fun h hh => ?_, pl_fr.rf, pl_fr.rf, h13, h51, fun _ _ => rfl, h11, h59, hi⟩
    show prf_X_holds_79 _ _ _ _ _ _ = _
    rw [prf_X_holds_79, pl_behX (by omega) h17, pl_sb, hp', if_pos (Int32.le_refl _)]
    unfold pr_z
    rw [if_pos hiv]
  | cons e l il =>
    intro p q rd fu σ τ hL hv hi hnd hop hlk hp hq hrd h17 h13 h51 h11 h59 hfu
    obtain ⟨fu, rfl⟩ : ∃ y, fu = y + 1 := ⟨fu - 1, by omega⟩
    rw [List.length_cons] at hfu
    obtain ⟨hcd, hL2⟩ := hL
    have lN : (pl_catF (e :: l)).length = e.1.length + (pl_catF l).length := by
      show (e.1 ++ pl_catF l).length = _
      rw [List.length_append]
    rw [lN] at hp
    rw [pm_catL_len] at hq hrd ⊢
    have hnd' : pl_nd T τ m rep p (e.1 ++ pl_catF l) := hnd
    obtain ⟨n1, n2⟩ := pl_nd_l _ _ _ hnd'
    have hop' : σ.2.1 22 q = nI o ∧ σ.2.1 23 q = nI (q + 1 + e.2.length) ∧ pl_ops σ (q + 1) (e.2 ++ pl_catL o (q + 1 + e.2.length) l) := hop
    obtain ⟨p1, p2⟩ := pm_opl _ _ _ hop'.2.2
    have hcl : pl_cl false (pl_catF (e :: l)) = pl_cl false e.1 ++ pl_cl false (pl_catF l) := by
      show pl_cl false (e.1 ++ pl_catF l) = _
      rw [pl_cl_app, pm_cd14 _ _ _ _ hcd]
    rw [hcl] at hlk
    obtain ⟨lk1, lk2⟩ := pm_lk_l hlk
    have hro := pl_cd_ro hcd
    have rsz : τ.2.1 17 p = nI e.1.length := pm_sz hro n1
    have hpos : 1 ≤ e.1.length := by
      obtain ⟨x, y, w, _⟩ := hro
      rw [w, List.length_cons]; omega
    obtain ⟨o1, o2⟩ := pm_vcO hv
    have go0 := pm_drop (z := z) o1 o2 (show q < qe by omega) hqe h11 hop'.1 hop'.2.1 h13 hc h51 hd
    have f0 : pl_fr pm_FE pm_GE σ (pr_sI σ 7 13 (nI c)) := pl_sI_fr (o := 7) (k := 13) rfl
    obtain ⟨σ0, hσ0⟩ : ∃ σ0, σ0 = pr_sI σ 7 13 (nI c) := ⟨_, rfl⟩
    have s13 : σ0.1 7 13 = nI c := by rw [hσ0]; exact pr_sI_same
    have s11 : σ0.1 7 11 = 0 := by rw [hσ0, pr_sI_ne (by omega)]; exact h11
    have s10 : σ0.1 7 10 = σ.1 7 10 := by rw [hσ0, pr_sI_ne (by omega)]
    have sr : ∀ j, σ0.2.1 51 j = σ.2.1 51 j := by intro j; rw [hσ0]; rfl
    rw [← hσ0] at go0 f0
    have hv0 := pm_vc_fr hv f0 (pl_fr.rf (σ := τ))
    have hi0 : pm_iv ic rd σ0 τ := pm_iv_eq hi f0 pl_fr.rf s10 rfl
    rcases ih e.1 e.2 p (q + 1) c rd σ0 τ hcd ⟨hv0, hi0, n1, pm_ops f0 p1, pm_lk_fr lk1 (f0.2.1 24 rfl), ⟨by omega, by omega, hqe, by omega⟩, s13, s11, h59⟩ hcf with ⟨n, v, rd1, σ1, τ1, a0, a1, a2, a3, a4, a5⟩ | ⟨n, w, rd1, σ1, τ1, a1, a2, a3, a4, a5⟩
    · obtain ⟨f1, f2, g13, g51, gj, g11, g59, giv⟩ := a5
      dsimp only at a4
      have hv1 := pm_vc_fr hv0 f1 f2
      obtain ⟨o1', o2'⟩ := pm_vcO hv1
      have r17' : τ1.2.1 17 k = nI sz := by rw [f2.2.1 17 rfl]; exact h17
      have rsz1 : τ1.2.1 17 p = nI e.1.length := by rw [f2.2.1 17 rfl]; exact rsz
      have p2' := pm_ops (f0.tr f1) p2
      have hgo := pm_go.tr go0 a3
      by_cases w : v = iv
      · rcases il (p + e.1.length) (q + 1 + e.2.length) rd1 fu σ1 τ1 hL2 hv1 giv (pm_nd f2 n2) p2' (pm_lk_fr lk2 ((f0.tr f1).2.1 24 rfl)) (by omega) (by omega) (by omega) r17' g13 (g51.trans w) g11 g59 (by omega) with ⟨n', v', rd', σ', τ', c0, c1, c2, c3, c4, c5⟩ | ⟨n', w', rd', σ', τ', c1, c2, c3, c4, c5⟩
        · obtain ⟨d1, d2, d13, d51, dj, d11, d59, div⟩ := c5
          have hgo' := pm_go.tr hgo c3
          rw [show q + 1 + e.2.length + (pl_catL o (q + 1 + e.2.length) l).length = q + (1 + e.2.length + (pl_catL o (q + 1 + e.2.length) l).length) by omega] at hgo'
          refine Or.inl ⟨1 + n + n', v', rd', σ', τ', c0, by omega, by omega, hgo', fun h hh => ?_, (f0.tr f1).tr d1, f2.tr d2, d13, d51, fun j hj => (dj j hj).trans ((gj j hj).trans (sr j)), d11, d59, div⟩
          exact ((pm_79 hk h17 h59 (by omega) (a4 h hh) rsz1 hiv).1 w).trans (c4 h hh)
        · obtain ⟨d1, d2, d0, d11, d59, div⟩ := c5
          refine Or.inr ⟨1 + n + n', w', rd', σ', τ', by omega, by omega, pm_go.ht hgo c3, fun h hh => ?_, (f0.tr f1).tr d1, f2.tr d2, d0, d11, d59, div⟩
          obtain ⟨b, eb⟩ := c4 h hh
          exact ⟨b, ((pm_79 hk h17 h59 (by omega) (a4 h hh) rsz1 hiv).1 w).trans eb⟩
      · have hov : (o = 33 ∧ ¬ v = 0) ∨ (o = 32 ∧ v = 0) := by
          rcases ho with ⟨u1, u2⟩ | ⟨u1, u2⟩
          · exact Or.inl ⟨u1, fun u => w (u.trans u2.symm)⟩
          · exact Or.inr ⟨u1, a0.resolve_right (fun u => w (u.trans u2.symm))⟩
        have ev : v = (if iv = 0 then 1 else 0) := by
          rcases ho with ⟨_, u2⟩ | ⟨_, u2⟩
          · rw [if_pos u2]; exact a0.resolve_left (fun u => w (u.trans u2.symm))
          · rw [if_neg (by rw [u2]; decide)]; exact a0.resolve_right (fun u => w (u.trans u2.symm))
        obtain ⟨l1, l2⟩ := pm_leaps (z := z) o1' o2' hqe g11 g13 hc g51 hov l (q + 1 + e.2.length) p2' (by omega)
        have hgo' := pm_go.tr hgo l1
        rw [show q + 1 + e.2.length + (pl_catL o (q + 1 + e.2.length) l).length = q + (1 + e.2.length + (pl_catL o (q + 1 + e.2.length) l).length) by omega] at hgo'
        refine Or.inl ⟨1 + n + l.length, v, rd1, σ1, τ1, a0, by omega, by omega, hgo', fun h hh => ?_, f0.tr f1, f2, g13, g51, fun j hj => (gj j hj).trans (sr j), g11, g59, giv⟩
        have := (pm_79 (fu := fu) hk h17 h59 (by omega) (a4 h hh) rsz1 hiv).2 w
        rw [← ev] at this
        exact this
    · obtain ⟨f1, f2, w0, w1, w2, giv⟩ := a5
      dsimp only at a4
      refine Or.inr ⟨1 + n, w, rd1, σ1, τ1, by omega, by omega, pm_go.ht go0 a3, fun h hh => ?_, f0.tr f1, f2, w0, w1, w2, giv⟩
      obtain ⟨b, ev⟩ := a4 h hh
      have w59 : ¬ τ1.1 0 59 = 0 := by rw [w2]; exact pl_neg0 w0
      have r17' : τ1.2.1 17 k = nI sz := by rw [f2.2.1 17 rfl]; exact h17
      have rsz1 : τ1.2.1 17 p = nI e.1.length := by rw [f2.2.1 17 rfl]; exact rsz
      obtain ⟨fu, rfl⟩ : ∃ y, fu = y + 1 := ⟨fu - 1, by omega⟩
      by_cases u : b = iv
      · exact ⟨iv, ((pm_79 hk h17 h59 (by omega) ev rsz1 hiv).1 u).trans (pm_79T (by omega) r17' w59 hiv)⟩
      · exact ⟨_, (pm_79 hk h17 h59 (by omega) ev rsz1 hiv).2 u⟩
theorem pm_catL_le (o : Nat) : ∀ (Ls : List (List pl_N × List pl_O)) (q : Nat), Ls.length ≤ (pl_catL o q Ls).length := by
  intro Ls
  induction Ls with
  | nil => intro _; exact Nat.le_refl _
  | cons e l il =>
    intro q
    have := il (q + 1 + e.2.length)
    rw [pm_catL_len, List.length_cons]
    omega
/-- several TESTs -/
theorem pm_c3 {T : pl_Tx} {m : Nat} {rep : Nat → Nat} {A E : List (Nat × Bool)} {z P nO ic qe k q c rd t f kd : Nat} {σ τ : pr_St} {G : List pl_N} {Q : List pl_O} {Ls : List (List pl_N × List pl_O)} (ih : pm_CD T m rep A E z P nO ic qe f) (h0 : kd = 24 ∨ kd = 25) (hcd : pl_cd T f q G Q) (hcdl : pl_cdl (pl_cd T f) (q + Q.length) Ls) (h : pm_C T m rep A E z P nO ic qe k q c rd ((kd, t, 0, 1 + (G ++ pl_catF Ls).length) :: (G ++ pl_catF Ls)) (Q ++ pl_catL (57 - kd) (q + Q.length) Ls) σ τ) (hc : c + (f + 1) ≤ 256) : pm_Ec z qe q (Q ++ pl_catL (57 - kd) (q + Q.length) Ls).length c ic rd (f + 1) σ τ (fun h => prF_X_holds h τ (nI k)) := by
  obtain ⟨o, eo⟩ : ∃ o, o = 57 - kd := ⟨_, rfl⟩
  obtain ⟨iv, hiv0⟩ : ∃ iv : Int32, iv = if kd = 25 then 1 else 0 := ⟨_, rfl⟩
  have ho : (o = 33 ∧ iv = 0) ∨ (o = 32 ∧ iv = 1) := by
    rcases h0 with rfl | rfl
    · exact Or.inl ⟨eo, hiv0⟩
    · exact Or.inr ⟨eo, hiv0⟩
  have hiv : iv = 0 ∨ iv = 1 := ho.elim (fun w => Or.inl w.2) (fun w => Or.inr w.2)
  rw [← eo] at h ⊢
  obtain ⟨hv, hi, hnd, hop, hlk, ⟨b1, b2, b3, b4⟩, h13, h11, h59⟩ := h
  have lN : ((kd, t, (0 : Int32), 1 + (G ++ pl_catF Ls).length) :: (G ++ pl_catF Ls)).length = 1 + G.length + (pl_catF Ls).length := by
    rw [List.length_cons, List.length_append]; omega
  have lO : (Q ++ pl_catL o (q + Q.length) Ls).length = Q.length + (pl_catL o (q + Q.length) Ls).length := List.length_append
  rw [lN] at b1
  rw [lO] at b2 b4 ⊢
  obtain ⟨p1, p2⟩ := pm_opl Q _ q hop
  have r13 : τ.2.1 13 k = nI kd := hnd.1.1
  have r17 : τ.2.1 17 k = nI (1 + (G ++ pl_catF Ls).length) := hnd.1.2.2.2.2
  rw [List.length_append] at r17
  obtain ⟨n1, n2⟩ := pl_nd_l G (pl_catF Ls) (k + 1) hnd.2
  have hcl : pl_cl false ((kd, t, (0 : Int32), 1 + (G ++ pl_catF Ls).length) :: (G ++ pl_catF Ls)) = pl_cl false G ++ pl_cl false (pl_catF Ls) := by
    have e1 : pl_cl false ((kd, t, (0 : Int32), 1 + (G ++ pl_catF Ls).length) :: (G ++ pl_catF Ls)) = (if kd = 13 then [(t, false)] else if kd = 16 ∧ 1 + (G ++ pl_catF Ls).length ≠ 1 then [(t, false)] else []) ++ pl_cl (kd == 14) (G ++ pl_catF Ls) := rfl
    have e14 : (kd == 14) = false := by
      have : ¬ kd = 14 := by omega
      simp [this]
    rw [e1, if_neg (by omega), if_neg (by omega), e14, pl_cl_app, pm_cd14 _ _ _ _ hcd]
    rfl
  rw [hcl] at hlk
  obtain ⟨lk1, lk2⟩ := pm_lk_l hlk
  have hro := pl_cd_ro hcd
  have rsz : τ.2.1 17 (k + 1) = nI G.length := pm_sz hro n1
  have hpos : 1 ≤ G.length := by
    obtain ⟨x, y, w, _⟩ := hro
    rw [w, List.length_cons]; omega
  have hf1 : 1 ≤ f := Nat.pos_of_ne_zero (fun w => by rw [w] at hcd; exact hcd.elim)
  have hFU : pr_FU = 100000 := rfl
  have hle := pm_catL_le o Ls (q + Q.length)
  have hnO := (pm_vcO hv).2
  have head : ∀ (rc : pr_St → Int32 → Option (Int32 × pr_St)), prf_X_holds rc τ (nI k) = prf_X_holds_79 rc (99999 + 1) τ (nI k) iv (nI (k + 1)) := by
    intro rc
    have d : ∀ (j : Nat) (v : Int32), j < 64 → nI j = v → ¬ kd = j → ¬ nI kd = v := fun j v hj hv hn => pl_nn (by omega) hj hv hn
    have e58 : prf_X_holds_58 rc τ (nI k) = prf_X_holds_79 rc (99999 + 1) τ (nI k) iv (nI (k + 1)) := by
      unfold prf_X_holds_58
      rw [pl_ck (show k < 13000 by omega) (by omega), nI_clamp (show k < 2 ^ 31 by omega), r13, nI_1, hiv0]
      by_cases w : kd = 25
      · rw [if_pos (show nI kd = 25 by rw [w]; decide), if_pos w]
        rfl
      · rw [if_neg (d 25 25 (by decide) rfl w), if_neg w]
        rfl
    unfold prf_X_holds
    rw [e58, h59, if_pos (by decide), pl_ck (show k < 13000 by omega) (by omega), nI_clamp (show k < 2 ^ 31 by omega), r13, if_neg (d 26 26 (by decide) rfl (by omega)), pl_ck (show k < 13000 by omega) (by omega)]
    by_cases w : kd = 24
    · rw [if_pos (show nI kd = 24 by rw [w]; decide)]
    · rw [if_neg (d 24 24 (by decide) rfl w), pl_ck (show k < 13000 by omega) (by omega), if_pos (show nI kd = 25 by rw [h0.resolve_left w]; decide)]
  rcases ih G Q (k + 1) q c rd σ τ hcd ⟨hv, hi, n1, p1, lk1, ⟨by omega, by omega, b3, by omega⟩, h13, h11, h59⟩ (by omega) with ⟨n, v, rd1, σ1, τ1, a0, a1, a2, a3, a4, a5⟩ | ⟨n, w, rd1, σ1, τ1, a1, a2, a3, a4, a5⟩
  · obtain ⟨f1, f2, g13, g51, gj, g11, g59, giv⟩ := a5
    dsimp only at a4
    have hv1 := pm_vc_fr hv f1 f2
    obtain ⟨o1', o2'⟩ := pm_vcO hv1
    have r17' : τ1.2.1 17 k = nI (1 + (G.length + (pl_catF Ls).length)) := by rw [f2.2.1 17 rfl]; exact r17
    have rsz1 : τ1.2.1 17 (k + 1) = nI G.length := by rw [f2.2.1 17 rfl]; exact rsz
    have p2' := pm_ops f1 p2
    by_cases w : v = iv
    · rcases pm_tst ih (k := k) (sz := 1 + (G.length + (pl_catF Ls).length)) (c := c) ho (by omega) (by omega) (by omega) b3 Ls (k + 1 + G.length) (q + Q.length) rd1 99999 σ1 τ1 hcdl hv1 giv (pm_nd f2 n2) p2' (pm_lk_fr lk2 (f1.2.1 24 rfl)) (by omega) (by omega) (by omega) r17' g13 (g51.trans w) g11 g59 (by omega) with ⟨n', v', rd', σ', τ', c0, c1, c2, c3, c4, c5⟩ | ⟨n', w', rd', σ', τ', c1, c2, c3, c4, c5⟩
      · obtain ⟨d1, d2, d13, d51, dj, d11, d59, div⟩ := c5
        have hgo' := pm_go.tr a3 c3
        rw [show q + Q.length + (pl_catL o (q + Q.length) Ls).length = q + (Q.length + (pl_catL o (q + Q.length) Ls).length) by omega] at hgo'
        refine Or.inl ⟨n + n', v', rd', σ', τ', c0, by omega, by omega, hgo', fun h hh => ?_, f1.tr d1, f2.tr d2, d13, d51, fun j hj => (dj j hj).trans (gj j hj), d11, d59, div⟩
        obtain ⟨h', rfl⟩ : ∃ y, h = y + 1 := ⟨h - 1, by omega⟩
        exact (head (prF_X_holds h')).trans (((pm_79 (by omega) r17 h59 (by omega) (a4 h' (by omega)) rsz1 hiv).1 w).trans (c4 h' (by omega)))
      · obtain ⟨d1, d2, d0, d11, d59, div⟩ := c5
        refine Or.inr ⟨n + n', w', rd', σ', τ', by omega, by omega, pm_go.ht a3 c3, fun h hh => ?_, f1.tr d1, f2.tr d2, d0, d11, d59, div⟩
        obtain ⟨h', rfl⟩ : ∃ y, h = y + 1 := ⟨h - 1, by omega⟩
        obtain ⟨b, eb⟩ := c4 h' (by omega)
        exact ⟨b, (head (prF_X_holds h')).trans (((pm_79 (by omega) r17 h59 (by omega) (a4 h' (by omega)) rsz1 hiv).1 w).trans eb)⟩
    · have hov : (o = 33 ∧ ¬ v = 0) ∨ (o = 32 ∧ v = 0) := by
        rcases ho with ⟨u1, u2⟩ | ⟨u1, u2⟩
        · exact Or.inl ⟨u1, fun u => w (u.trans u2.symm)⟩
        · exact Or.inr ⟨u1, a0.resolve_right (fun u => w (u.trans u2.symm))⟩
      have ev : v = (if iv = 0 then 1 else 0) := by
        rcases ho with ⟨_, u2⟩ | ⟨_, u2⟩
        · rw [if_pos u2]; exact a0.resolve_left (fun u => w (u.trans u2.symm))
        · rw [if_neg (by rw [u2]; decide)]; exact a0.resolve_right (fun u => w (u.trans u2.symm))
      obtain ⟨l1, l2⟩ := pm_leaps (z := z) o1' o2' b3 g11 g13 (by omega) g51 hov Ls (q + Q.length) p2' (by omega)
      have hgo' := pm_go.tr a3 l1
      rw [show q + Q.length + (pl_catL o (q + Q.length) Ls).length = q + (Q.length + (pl_catL o (q + Q.length) Ls).length) by omega] at hgo'
      refine Or.inl ⟨n + Ls.length, v, rd1, σ1, τ1, a0, by omega, by omega, hgo', fun h hh => ?_, f1, f2, g13, g51, gj, g11, g59, giv⟩
      obtain ⟨h', rfl⟩ : ∃ y, h = y + 1 := ⟨h - 1, by omega⟩
      have := (pm_79 (fu := 99999) (by omega) r17 h59 (by omega) (a4 h' (by omega)) rsz1 hiv).2 w
      rw [← ev] at this
      exact (head (prF_X_holds h')).trans this
  · obtain ⟨f1, f2, w0, w1, w2, giv⟩ := a5
    dsimp only at a4
    refine Or.inr ⟨n, w, rd1, σ1, τ1, by omega, by omega, a3, fun h hh => ?_, f1, f2, w0, w1, w2, giv⟩
    obtain ⟨h', rfl⟩ : ∃ y, h = y + 1 := ⟨h - 1, by omega⟩
    obtain ⟨b, ev⟩ := a4 h' (by omega)
    have w59 : ¬ τ1.1 0 59 = 0 := by rw [w2]; exact pl_neg0 w0
    have r17' : τ1.2.1 17 k = nI (1 + (G.length + (pl_catF Ls).length)) := by rw [f2.2.1 17 rfl]; exact r17
    have rsz1 : τ1.2.1 17 (k + 1) = nI G.length := by rw [f2.2.1 17 rfl]; exact rsz
    by_cases u : b = iv
    · exact ⟨iv, (head (prF_X_holds h')).trans (((pm_79 (fu := 99998 + 1) (by omega) r17 h59 (by omega) ev rsz1 hiv).1 u).trans (pm_79T (by omega) r17' w59 hiv))⟩
    · exact ⟨_, (head (prF_X_holds h')).trans ((pm_79 (by omega) r17 h59 (by omega) ev rsz1 hiv).2 u)⟩
/-- every COND -/
theorem pm_cond {T : pl_Tx} {m : Nat} {rep : Nat → Nat} {A E : List (Nat × Bool)} {z P nO ic qe : Nat} : ∀ f : Nat, f ≤ 201 → pm_CD T m rep A E z P nO ic qe f := by
  intro f
  induction f with
  | zero => intro _ F O k q c rd σ τ h; exact h.elim
  | succ f ih =>
    intro hf F O k q c rd σ τ h hC hc
    have ih' := ih (by omega)
    rcases h with ⟨kd, t, F1, F2, O1, O2, h0, rfl, rfl, h3, h4⟩ | ⟨t, G, Q, rfl, rfl, h3⟩ | ⟨kd, t, G, Q, Ls, h0, rfl, rfl, h3, h4⟩
    · exact pm_c1 h0 h3 h4 hC hc (by omega)
    · exact pm_c2 ih' h3 hC hc (Nat.pos_of_ne_zero (fun w => by rw [w] at h3; exact h3.elim))
    · exact pm_c3 ih' h0 h3 h4 hC hc
