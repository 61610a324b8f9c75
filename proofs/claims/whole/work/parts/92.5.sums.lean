/-! THE MACHINE: SUMs of several parts -/
theorem pm_192T {rc : pr_St → Int32 → Option (Int64 × pr_St)} {τ : pr_St} {k sz fu : Nat} {v : Int64} {p : Int32} (hk : k < 13000) (h17 : τ.2.1 17 k = nI sz) (h59 : ¬ τ.1 0 59 = 0) : prf_X_reckon_192 rc (fu + 1) τ (nI k) v p = some (v, τ) := by
  rw [prf_X_reckon_192, pl_behX hk h17, pl_sb, if_neg h59]
  by_cases q : nI (k + sz) ≤ p
  · rw [if_pos q]
  · rw [if_neg q]
theorem pm_catN_len : ∀ Ls : List (Nat × Nat × List pl_N × List pl_O), Ls.length ≤ (pl_catN Ls).length := by
  intro Ls
  induction Ls with
  | nil => exact Nat.le_refl _
  | cons e l ih =>
    have : (pl_catN (e :: l)).length = 1 + e.2.2.1.length + (pl_catN l).length := by
      show ((e.1, e.2.1, 0, 1 + e.2.2.1.length) :: e.2.2.1 ++ pl_catN l).length = _
      rw [List.length_append, List.length_cons]; omega
    rw [this, List.length_cons]
    omega
theorem pm_opk {k : Nat} (h : 18 ≤ k ∧ k ≤ 23 ∧ k ≠ 20) : 21 ≤ pl_opk k ∧ pl_opk k ≤ 25 := by
  have hc : k = 18 ∨ k = 19 ∨ k = 21 ∨ k = 22 ∨ k = 23 := by omega
  rcases hc with rfl | rfl | rfl | rfl | rfl <;> decide
theorem pm_loop {T : pl_Tx} {m : Nat} {rep : Nat → Nat} {A E : List (Nat × Bool)} {z P nO ic qe f : Nat} (ih : pm_SM T m rep A E z P nO ic qe f) {k sz c : Nat} (hk : k + sz ≤ 12870) (hcf : c + 1 + f ≤ 256) (hqe : qe ≤ nO) : ∀ (Ls : List (Nat × Nat × List pl_N × List pl_O)) (p q rd fu : Nat) (v : Int32) (σ τ : pr_St), (∀ e, e ∈ Ls → (18 ≤ e.1 ∧ e.1 ≤ 23 ∧ e.1 ≠ 20) ∧ pl_sm T f e.2.2.1 e.2.2.2) → pm_vc T m rep A E z P nO σ τ → pm_iv ic rd σ τ → pl_nd T τ m rep p (pl_catN Ls) → pl_ops σ q (pl_catO Ls) → pm_lk T E σ (pl_cl false (pl_catN Ls)) → p + (pl_catN Ls).length = k + sz → q + (pl_catO Ls).length ≤ qe → rd + (pl_catO Ls).length < 2 ^ 30 → τ.2.1 17 k = nI sz → σ.1 7 13 = nI (c + 1) → σ.2.1 51 c = v → σ.1 7 11 = 0 → τ.1 0 59 = 0 → Ls.length + 1 ≤ fu → pm_Ev z qe q (pl_catO Ls).length c ic rd f σ τ (fun h => prf_X_reckon_192 (prF_X_reckon h) fu τ (nI k) v.toInt64 (nI p)) := by
  intro Ls
  induction Ls with
  | nil =>
    intro p q rd fu v σ τ hL hv hi hnd hop hlk hp hq hrd h17 h13 h51 h11 h59 hfu
    obtain ⟨fu, rfl⟩ : ∃ y, fu = y + 1 := ⟨fu - 1, by omega⟩
    have hp' : p = k + sz := hp
    refine Or.inl ⟨0, v, rd, σ, τ, Nat.zero_le _, Nat.le_refl _, fun g => rfl, fun h hh => ?_, pl_fr.rf, pl_fr.rf, h13, h51, fun _ _ => rfl, h11, h59, hi⟩
    show prf_X_reckon_192 _ _ _ _ _ _ = _
    rw [prf_X_reckon_192, pl_behX (by omega) h17, pl_sb, hp', if_pos (Int32.le_refl _)]
  | cons e l il =>
    intro p q rd fu v σ τ hL hv hi hnd hop hlk hp hq hrd h17 h13 h51 h11 h59 hfu
    obtain ⟨fu, rfl⟩ : ∃ y, fu = y + 1 := ⟨fu - 1, by omega⟩
    rw [List.length_cons] at hfu
    obtain ⟨hk1, hsm⟩ := hL e List.mem_cons_self
    have hf1 : 1 ≤ f := Nat.pos_of_ne_zero (fun w => by rw [w] at hsm; exact hsm.elim)
    have lN : (pl_catN (e :: l)).length = 1 + e.2.2.1.length + (pl_catN l).length := by
      show ((e.1, e.2.1, 0, 1 + e.2.2.1.length) :: e.2.2.1 ++ pl_catN l).length = _
      rw [List.length_append, List.length_cons]; omega
    have lO : (pl_catO (e :: l)).length = e.2.2.2.length + 1 + (pl_catO l).length := by
      show ((e.2.2.2 ++ [(pl_opk e.1, -1)]) ++ pl_catO l).length = _
      rw [List.length_append, List.length_append]; rfl
    rw [lN] at hp
    rw [lO] at hq hrd ⊢
    have hnd' : (τ.2.1 13 p = nI e.1 ∧ τ.2.1 14 p = nI (pl_xP T e.2.1) ∧ (e.1 = 13 → ∃ id, τ.2.1 15 p = nI id ∧ id < m ∧ pl_sn T (rep id) e.2.1) ∧ (¬ e.1 = 13 → τ.2.1 15 p = 0) ∧ τ.2.1 17 p = nI (1 + e.2.2.1.length)) ∧ pl_nd T τ m rep (p + 1) (e.2.2.1 ++ pl_catN l) := hnd
    obtain ⟨⟨r13, _, _, _, r17⟩, hnd2⟩ := hnd'
    obtain ⟨n1, n2⟩ := pl_nd_l e.2.2.1 (pl_catN l) (p + 1) hnd2
    have hop' : pl_ops σ q ((e.2.2.2 ++ [(pl_opk e.1, -1)]) ++ pl_catO l) := hop
    obtain ⟨p12, p3⟩ := pm_opl _ _ q hop'
    obtain ⟨p1, p2⟩ := pm_opl _ _ q p12
    rw [show q + (e.2.2.2 ++ [(pl_opk e.1, (-1 : Int32))]).length = q + e.2.2.2.length + 1 by rw [List.length_append]; rfl] at p3
    have hcl : pl_cl false (pl_catN (e :: l)) = pl_cl false e.2.2.1 ++ pl_cl false (pl_catN l) := by
      have e1 : pl_cl false (pl_catN (e :: l)) = (if e.1 = 13 then [(e.2.1, false)] else if e.1 = 16 ∧ 1 + e.2.2.1.length ≠ 1 then [(e.2.1, false)] else []) ++ pl_cl (e.1 == 14) (e.2.2.1 ++ pl_catN l) := rfl
      have e14 : (e.1 == 14) = false := by
        have : ¬ e.1 = 14 := by omega
        simp [this]
      rw [e1, if_neg (by omega), if_neg (by omega), e14, pl_cl_app, pm_sm14 _ _ _ hsm]
      rfl
    rw [hcl] at hlk
    obtain ⟨lk1, lk2⟩ := pm_lk_l hlk
    obtain ⟨ok1, ok2⟩ := pm_opk hk1
    rcases ih e.2.2.1 e.2.2.2 (p + 1) q (c + 1) rd σ τ hsm ⟨hv, hi, n1, p1, lk1, ⟨by omega, by omega, hqe, by omega⟩, h13, h11, h59⟩ (by omega) with ⟨n, w, rd1, σ2, τ2, a1, a2, a3, a4, a5⟩ | ⟨n, w, rd1, σ2, τ2, a1, a2, a3, a4, a5⟩
    · obtain ⟨f1, f2, g13, g51, gj, g11, g59, giv⟩ := a5
      dsimp only at a4
      have hv2 := pm_vc_fr hv f1 f2
      obtain ⟨o1, o2⟩ := pm_vcO hv2
      have p2' := pm_ops f1 p2
      have h51' : σ2.2.1 51 c = v := by rw [gj c (by omega)]; exact h51
      have r17' : τ2.2.1 17 k = nI sz := by rw [f2.2.1 17 rfl]; exact h17
      have r17p : τ2.2.1 17 p = nI (1 + e.2.2.1.length) := by rw [f2.2.1 17 rfl]; exact r17
      have r13p : τ2.2.1 13 p = nI e.1 := by rw [f2.2.1 13 rfl]; exact r13
      have two := pm_two (σ := σ2) (τ := τ2) (c := c) (kd := e.1) ⟨⟨hk1.1, hk1.2.1⟩, hk1.2.2⟩ g13 (by omega) g59
      rw [h51', g51] at two
      have fb : pl_fr pm_FE pm_GE σ2 (pr_sI (pr_sI σ2 7 13 (nI (c + 1))) 7 13 (nI c)) := (pl_sI_fr (o := 7) (k := 13) rfl).tr (pl_sI_fr (o := 7) (k := 13) rfl)
      have b10 : (pr_sI (pr_sI σ2 7 13 (nI (c + 1))) 7 13 (nI c)).1 7 10 = σ2.1 7 10 := by rw [pr_sI_ne (by omega), pr_sI_ne (by omega)]
      have b11 : (pr_sI (pr_sI σ2 7 13 (nI (c + 1))) 7 13 (nI c)).1 7 11 = 0 := by rw [pr_sI_ne (by omega), pr_sI_ne (by omega)]; exact g11
      have brow : ∀ j, j < c → (pr_sI (pr_sI σ2 7 13 (nI (c + 1))) 7 13 (nI c)).2.1 51 j = σ.2.1 51 j := fun j hj => gj j (by omega)
      obtain ⟨σb, hσb⟩ : ∃ σb, σb = pr_sI (pr_sI σ2 7 13 (nI (c + 1))) 7 13 (nI c) := ⟨_, rfl⟩
      rw [← hσb] at two fb b10 b11 brow
      have hib : pm_iv ic rd1 σb τ2 := pm_iv_eq giv fb pl_fr.rf b10 rfl
      rcases two with ⟨u, t1, t2⟩ | ⟨u, u0, t1, t2⟩
      · have go2 := pm_op2 (z := z) o1 o2 (show q + e.2.2.2.length < qe by omega) hqe g11 p2'.1 p2'.2.1 ⟨ok1, ok2⟩ t1
        have eg3 : pm_EG c ic rd1 u σ τ (pm_ph σb c u) τ2 := pm_EGq (f1.tr fb) f2 brow b11 g59 hib
        obtain ⟨σ3, hσ3⟩ : ∃ σ3, σ3 = pm_ph σb c u := ⟨_, rfl⟩
        rw [← hσ3] at go2 eg3
        obtain ⟨k1, _, k13, k51, kj, k11, _, kiv⟩ := eg3
        have hgo := pm_go.tr a3 go2
        have hX : ∀ h, f ≤ h → prf_X_reckon_192 (prF_X_reckon h) (fu + 1) τ (nI k) v.toInt64 (nI p) = prf_X_reckon_192 (prF_X_reckon h) fu τ2 (nI k) u.toInt64 (nI (p + 1 + e.2.2.1.length)) := by
          intro h hh
          have a4' := a4 h hh
          rw [prf_X_reckon_192, pl_behX (by omega) h17, pl_sb, if_neg (nI_ge (by omega) (by omega)), if_pos h59, nI_1, a4', pl_sb]
          dsimp only
          rw [if_pos g59, pl_ck (by omega) (by omega), nI_clamp (by omega), r13p, t2, pl_sb]
          dsimp only
          rw [pl_behX (by omega) r17p, pl_sb, Nat.add_assoc]
        rcases il (p + 1 + e.2.2.1.length) (q + e.2.2.2.length + 1) rd1 fu u σ3 τ2 (fun x hx => hL x (List.mem_cons_of_mem _ hx)) (pm_vc_fr hv k1 f2) kiv (pm_nd f2 n2) (pm_ops k1 p3) (pm_lk_fr lk2 (k1.2.1 24 rfl)) (by omega) (by omega) (by omega) r17' k13 k51 k11 g59 (by omega) with ⟨n', v', rd', σ', τ', c1, c2, c3, c4, c5⟩ | ⟨n', w', rd', σ', τ', c1, c2, c3, c4, c5⟩
        · obtain ⟨d1, d2, d13, d51, dj, d11, d59, div⟩ := c5
          dsimp only at c4
          have hgo' := pm_go.tr hgo c3
          rw [show q + e.2.2.2.length + 1 + (pl_catO l).length = q + (e.2.2.2.length + 1 + (pl_catO l).length) by omega] at hgo'
          refine Or.inl ⟨n + 1 + n', v', rd', σ', τ', by omega, by omega, hgo', fun h hh => (hX h hh).trans (c4 h hh), k1.tr d1, f2.tr d2, d13, d51, fun j hj => (dj j hj).trans (kj j hj), d11, d59, div⟩
        · obtain ⟨d1, d2, d0, d11, d59, div⟩ := c5
          dsimp only at c4
          refine Or.inr ⟨n + 1 + n', w', rd', σ', τ', by omega, by omega, pm_go.ht hgo c3, fun h hh => ?_, k1.tr d1, f2.tr d2, d0, d11, d59, div⟩
          obtain ⟨v64, ev⟩ := c4 h hh
          exact ⟨v64, (hX h hh).trans ev⟩
      · have go2 := pm_op2 (z := z) o1 o2 (show q + e.2.2.2.length < qe by omega) hqe g11 p2'.1 p2'.2.1 ⟨ok1, ok2⟩ t1
        have ft : pl_fr pm_FE pm_GE σb (pr_sI σb 7 11 u) := pl_sI_fr (o := 7) (k := 11) rfl
        have ft2 : pl_fr pm_FT pm_GT τ2 (pr_sI τ2 0 59 u) := pl_sI_fr (o := 0) (k := 59) rfl
        refine Or.inr ⟨n + 1 + 1, u, rd1, pr_sI σb 7 11 u, pr_sI τ2 0 59 u, by omega, by omega, pm_go.ht (pm_go.tr a3 go2) (pm_tp (by rw [pr_sI_same]; exact pl_neg0 u0)), fun h hh => ⟨0, ?_⟩, (f1.tr fb).tr ft, f2.tr ft2, u0, pr_sI_same, pr_sI_same, pm_iv_eq hib ft ft2 (by rw [pr_sI_ne (by omega)]) (by rw [pr_sI_ne (by omega)])⟩
        have a4' := a4 h hh
        obtain ⟨fu, rfl⟩ : ∃ y, fu = y + 1 := ⟨fu - 1, by omega⟩
        show prf_X_reckon_192 (prF_X_reckon h) (fu + 1 + 1) τ (nI k) v.toInt64 (nI p) = _
        rw [prf_X_reckon_192, pl_behX (by omega) h17, pl_sb, if_neg (nI_ge (by omega) (by omega)), if_pos h59, nI_1, a4', pl_sb]
        dsimp only
        rw [if_pos g59, pl_ck (by omega) (by omega), nI_clamp (by omega), r13p, t2, pl_sb]
        dsimp only
        have r17p' : (pr_sI τ2 0 59 u).2.1 17 p = nI (1 + e.2.2.1.length) := r17p
        have r17q : (pr_sI τ2 0 59 u).2.1 17 k = nI sz := r17'
        rw [pl_behX (by omega) r17p', pl_sb, pm_192T (by omega) r17q (by rw [pr_sI_same]; exact pl_neg0 u0)]
    · obtain ⟨f1, f2, w0, w1, w2, giv⟩ := a5
      dsimp only at a4
      refine Or.inr ⟨n, w, rd1, σ2, τ2, by omega, by omega, a3, fun h hh => ⟨v.toInt64, ?_⟩, f1, f2, w0, w1, w2, giv⟩
      obtain ⟨v64, ev⟩ := a4 h hh
      have w59 : ¬ τ2.1 0 59 = 0 := by rw [w2]; exact pl_neg0 w0
      obtain ⟨fu, rfl⟩ : ∃ y, fu = y + 1 := ⟨fu - 1, by omega⟩
      have r17' : τ2.2.1 17 k = nI sz := by rw [f2.2.1 17 rfl]; exact h17
      have r17p : τ2.2.1 17 p = nI (1 + e.2.2.1.length) := by rw [f2.2.1 17 rfl]; exact r17
      show prf_X_reckon_192 (prF_X_reckon h) (fu + 1 + 1) τ (nI k) v.toInt64 (nI p) = _
      rw [prf_X_reckon_192, pl_behX (by omega) h17, pl_sb, if_neg (nI_ge (by omega) (by omega)), if_pos h59, nI_1, ev, pl_sb]
      dsimp only
      rw [if_neg w59, pl_behX (by omega) r17p, pl_sb, pm_192T (by omega) r17' w59]
theorem pm_sz {T : pl_Tx} {m : Nat} {rep : Nat → Nat} {τ : pr_St} {n : Nat} {G : List pl_N} (hro : pl_ro G) (h : pl_nd T τ m rep n G) : τ.2.1 17 n = nI G.length := by
  obtain ⟨e, l, rfl, e2⟩ := hro
  have := h.1.2.2.2.2
  rw [e2] at this
  exact this
/-- every SUM -/
theorem pm_sum {T : pl_Tx} {m : Nat} {rep : Nat → Nat} {A E : List (Nat × Bool)} {z P nO ic qe : Nat} : ∀ f : Nat, pm_SM T m rep A E z P nO ic qe f := by
  intro f
  induction f with
  | zero => intro F O k q c rd σ τ h; exact h.elim
  | succ f ih =>
    intro F O k q c rd σ τ h hC hc
    rcases h with ⟨t, hK, rfl, rfl⟩ | ⟨t, hK, rfl, rfl⟩ | ⟨t, G, Q, hK, rfl, rfl, h3⟩ | ⟨t, G, Q, rfl, rfl, h3⟩ | ⟨t, hK, hK1, rfl, rfl⟩ | ⟨t, hK, hK1, rfl, rfl⟩ | ⟨kd, t, G, Q, Ls, h0, rfl, rfl, h3, h4⟩
    · exact pm_k1 hK hC hc
    · exact pm_k2 hK hC hc
    · cases f with
      | zero => exact h3.elim
      | succ f => exact pm_k3 ih hK h3 hC hc (by omega)
    · exact pm_k4 ih h3 hC hc
    · exact pm_k56 hK (Or.inl ⟨hK1, rfl⟩) hC hc
    · exact pm_k56 hK (Or.inr ⟨hK1, rfl⟩) hC hc
    · obtain ⟨hv, hi, hnd, hop, hlk, ⟨b1, b2, b3, b4⟩, h13, h11, h59⟩ := hC
      have lN : ((kd, t, (0 : Int32), 1 + (G ++ pl_catN Ls).length) :: (G ++ pl_catN Ls)).length = 1 + G.length + (pl_catN Ls).length := by
        rw [List.length_cons, List.length_append]; omega
      have lO : (Q ++ pl_catO Ls).length = Q.length + (pl_catO Ls).length := List.length_append
      rw [lN] at b1
      rw [lO] at b2 b4 ⊢
      obtain ⟨p1, p2⟩ := pm_opl Q _ q hop
      have r13 : τ.2.1 13 k = nI kd := hnd.1.1
      have r17 : τ.2.1 17 k = nI (1 + (G ++ pl_catN Ls).length) := hnd.1.2.2.2.2
      rw [List.length_append] at r17
      obtain ⟨n1, n2⟩ := pl_nd_l G (pl_catN Ls) (k + 1) hnd.2
      have hcl : pl_cl false ((kd, t, (0 : Int32), 1 + (G ++ pl_catN Ls).length) :: (G ++ pl_catN Ls)) = pl_cl false G ++ pl_cl false (pl_catN Ls) := by
        have e1 : pl_cl false ((kd, t, (0 : Int32), 1 + (G ++ pl_catN Ls).length) :: (G ++ pl_catN Ls)) = (if kd = 13 then [(t, false)] else if kd = 16 ∧ 1 + (G ++ pl_catN Ls).length ≠ 1 then [(t, false)] else []) ++ pl_cl (kd == 14) (G ++ pl_catN Ls) := rfl
        have e14 : (kd == 14) = false := by
          have : ¬ kd = 14 := by omega
          simp [this]
        rw [e1, if_neg (by omega), if_neg (by omega), e14, pl_cl_app, pm_sm14 _ _ _ h3]
        rfl
      rw [hcl] at hlk
      obtain ⟨lk1, lk2⟩ := pm_lk_l hlk
      have rsz : τ.2.1 17 (k + 1) = nI G.length := pm_sz (pl_sm_ro h3) n1
      have head : ∀ (rc : pr_St → Int32 → Option (Int64 × pr_St)), prf_X_reckon rc τ (nI k) = (rc τ (nI (k + 1))).bind fun r75 => (prf_X_second r75.2 (nI k)).bind fun r76 => prf_X_reckon_192 rc pr_FU r75.2 (nI k) r75.1 r76 := by
        intro rc
        have d : ∀ (j : Nat) (v : Int32), j < 64 → nI j = v → ¬ kd = j → ¬ nI kd = v := fun j v hj hv hn => pl_nn (by omega) hj hv hn
        unfold prf_X_reckon
        rw [h59, if_pos (by decide), pl_ck (by omega) (by omega), nI_clamp (by omega), r13, if_neg (d 12 12 (by decide) rfl (by omega)), if_neg (d 13 13 (by decide) rfl (by omega)), if_neg (d 14 14 (by decide) rfl (by omega)), if_neg (d 15 15 (by decide) rfl (by omega)), if_neg (d 16 16 (by decide) rfl (by omega)), nI_1]
      have hLs := pm_catN_len Ls
      have hFU : pr_FU = 100000 := rfl
      rcases ih G Q (k + 1) q c rd σ τ h3 ⟨hv, hi, n1, p1, lk1, ⟨by omega, by omega, b3, by omega⟩, h13, h11, h59⟩ (by omega) with ⟨n, v, rd1, σ1, τ1, a1, a2, a3, a4, a5⟩ | ⟨n, w, rd1, σ1, τ1, a1, a2, a3, a4, a5⟩
      · obtain ⟨f1, f2, g13, g51, gj, g11, g59, giv⟩ := a5
        dsimp only at a4
        have rsz1 : τ1.2.1 17 (k + 1) = nI G.length := by rw [f2.2.1 17 rfl]; exact rsz
        have r17' : τ1.2.1 17 k = nI (1 + (G.length + (pl_catN Ls).length)) := by rw [f2.2.1 17 rfl]; exact r17
        have hX : ∀ h, f ≤ h → prF_X_reckon (h + 1) τ (nI k) = prf_X_reckon_192 (prF_X_reckon h) pr_FU τ1 (nI k) v.toInt64 (nI (k + 1 + G.length)) := by
          intro h hh
          have a4' := a4 h hh
          show prf_X_reckon (prF_X_reckon h) τ (nI k) = _
          rw [head, a4', pl_sb]
          dsimp only
          rw [pm_secX (by omega) rsz1, pl_sb]
        rcases pm_loop ih (k := k) (sz := 1 + (G.length + (pl_catN Ls).length)) (c := c) (by omega) (by omega) b3 Ls (k + 1 + G.length) (q + Q.length) rd1 pr_FU v σ1 τ1 h4 (pm_vc_fr hv f1 f2) giv (pm_nd f2 n2) (pm_ops f1 p2) (pm_lk_fr lk2 (f1.2.1 24 rfl)) (by omega) (by omega) (by omega) r17' g13 g51 g11 g59 (by rw [hFU]; omega) with ⟨n', v', rd', σ', τ', c1, c2, c3, c4, c5⟩ | ⟨n', w', rd', σ', τ', c1, c2, c3, c4, c5⟩
        · obtain ⟨d1, d2, d13, d51, dj, d11, d59, div⟩ := c5
          dsimp only at c4
          have hgo' := pm_go.tr a3 c3
          rw [show q + Q.length + (pl_catO Ls).length = q + (Q.length + (pl_catO Ls).length) by omega] at hgo'
          refine Or.inl ⟨n + n', v', rd', σ', τ', by omega, by omega, hgo', fun h hh => ?_, f1.tr d1, f2.tr d2, d13, d51, fun j hj => (dj j hj).trans (gj j hj), d11, d59, div⟩
          obtain ⟨h', rfl⟩ : ∃ y, h = y + 1 := ⟨h - 1, by omega⟩
          exact (hX h' (by omega)).trans (c4 h' (by omega))
        · obtain ⟨d1, d2, d0, d11, d59, div⟩ := c5
          dsimp only at c4
          refine Or.inr ⟨n + n', w', rd', σ', τ', by omega, by omega, pm_go.ht a3 c3, fun h hh => ?_, f1.tr d1, f2.tr d2, d0, d11, d59, div⟩
          obtain ⟨h', rfl⟩ : ∃ y, h = y + 1 := ⟨h - 1, by omega⟩
          obtain ⟨v64, ev⟩ := c4 h' (by omega)
          exact ⟨v64, (hX h' (by omega)).trans ev⟩
      · obtain ⟨f1, f2, w0, w1, w2, giv⟩ := a5
        dsimp only at a4
        refine Or.inr ⟨n, w, rd1, σ1, τ1, by omega, by omega, a3, fun h hh => ?_, f1, f2, w0, w1, w2, giv⟩
        obtain ⟨h', rfl⟩ : ∃ y, h = y + 1 := ⟨h - 1, by omega⟩
        obtain ⟨v64, ev⟩ := a4 h' (by omega)
        refine ⟨v64, ?_⟩
        have rsz1 : τ1.2.1 17 (k + 1) = nI G.length := by rw [f2.2.1 17 rfl]; exact rsz
        have r17' : τ1.2.1 17 k = nI (1 + (G.length + (pl_catN Ls).length)) := by rw [f2.2.1 17 rfl]; exact r17
        show prf_X_reckon (prF_X_reckon h') τ (nI k) = _
        rw [head, ev, pl_sb]
        dsimp only
        rw [pm_secX (by omega) rsz1, pl_sb, show pr_FU = 99999 + 1 from rfl, pm_192T (by omega) r17' (by rw [w2]; exact pl_neg0 w0)]
