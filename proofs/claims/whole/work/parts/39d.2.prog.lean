/-! THE LAYOUT: the program -/
def pl_c6 (σ : pr_St) : pr_St := pr_sI (pr_sI (pr_sI (pr_sI (pr_sI (pr_sI σ 0 33 0) 0 42 0) 0 43 0) 0 44 0) 0 45 0) 0 46 0
def pl_layE (σ : pr_St) (x1 : Int32) : Option pr_St :=
     pr_ck (x1 + 2) 13000 <|
     if ((σ.2.1 13) (x1 + 2).toNatClampNeg) = 13 then
      (prf_X_wrong (pl_c6 σ) 7 (x1 + 1)).bind fun r27 =>
      some r27.2
     else
      (prf_X_blockOf (pl_c6 σ) x1).bind fun r18 =>
      (prf_X_block4 (prF_X_block4 260) (pl_c6 σ) r18 x1 (-1) 0).bind fun r19 =>
      if (r19.1 0 47) = 0 then
       pr_ck (r19.1 0 33) 250 <|
       pr_ck (r19.1 0 33) 250 <|
       pr_ck (r19.1 0 33) 250 <|
       pr_ck (r19.1 0 33) 250 <|
       pr_ck (r19.1 0 33) 250 <|
       pr_ck (r19.1 0 33) 251 <|
       some (pr_sI (pr_sA (pr_sA (pr_sA (pr_sA (pr_sA (pr_sA r19 20 (upd (r19.2.1 20) (r19.1 0 33).toNatClampNeg (-1))) 21 (upd (r19.2.1 21) (r19.1 0 33).toNatClampNeg (-1))) 23 (upd (r19.2.1 23) (r19.1 0 33).toNatClampNeg 0)) 24 (upd (r19.2.1 24) (r19.1 0 33).toNatClampNeg 0)) 22 (upd (r19.2.1 22) (r19.1 0 33).toNatClampNeg ((r19.1 0 33) + 1))) 25 (upd (r19.2.1 25) (r19.1 0 33).toNatClampNeg 0)) 0 33 ((r19.1 0 33) + 1))
      else
       some r19
theorem pl_c6_fr {σ : pr_St} : pl_fr pl_FM pl_GM σ (pl_c6 σ) := (((((pl_sI_fr (o := 0) (k := 33) rfl).tr (pl_sI_fr (o := 0) (k := 42) rfl)).tr (pl_sI_fr (o := 0) (k := 43) rfl)).tr (pl_sI_fr (o := 0) (k := 44) rfl)).tr (pl_sI_fr (o := 0) (k := 45) rfl)).tr (pl_sI_fr (o := 0) (k := 46) rfl)
/-- the reference's last function -/
theorem pl_lastF {T : pl_Tx} {m : Nat} {rep : Nat → Nat} {Ps : List pl_En} {σ τ : pr_St} (h : pl_bs T m rep Ps σ τ) : prf_X_layout τ = pl_layE τ (nI (1 + pl_tF (Ps.take (Ps.length - 1)))) := by
  have h24 : τ.1 0 24 = nI (1 + pl_tF Ps) := h.2.2.2.2.2.2.2.2.2.2.2.2.1
  have hF9 := h.2.2.2.2.2.2.2.2.1
  have hne := h.2.2.2.2.1
  have h889 := h.2.2.2.2.2.1
  have hF : pr_FU = 100000 := rfl
  have hl : 1 ≤ Ps.length := by
    cases Ps with
    | nil => exact absurd rfl hne
    | cons e l => rw [List.length_cons]; omega
  have loop : ∀ (r j f : Nat) (x1 : Int32), j + r = Ps.length → r + 1 ≤ f → prf_X_layout_4 f τ x1 (nI (1 + pl_tF (Ps.take j))) = pl_layE τ (if r = 0 then x1 else nI (1 + pl_tF (Ps.take (Ps.length - 1)))) := by
    intro r
    induction r with
    | zero =>
      intro j f x1 hj hf
      obtain ⟨f, rfl⟩ : ∃ z, f = z + 1 := ⟨f - 1, by omega⟩
      have ej : j = Ps.length := by omega
      rw [prf_X_layout_4, h24, ej, List.take_length, if_pos (Int32.le_refl _), if_pos rfl]
      rfl
    | succ r ih =>
      intro j f x1 hj hf
      obtain ⟨f, rfl⟩ : ∃ z, f = z + 1 := ⟨f - 1, by omega⟩
      obtain ⟨e, he⟩ : ∃ e, Ps[j]? = some e := ⟨Ps[j], List.getElem?_eq_getElem (by omega)⟩
      obtain ⟨sf, qf, g⟩ := pl_fn_get h he
      obtain ⟨z1, z2, z3, z4, z5, z6⟩ := pl_bd_fn h g
      have et := pl_tF_take he
      have hlen := pl_eF_len e
      have hle := pl_tF_mono (Ps := Ps) (show j + 1 ≤ Ps.length by omega)
      rw [List.take_length] at hle
      have ebeh := ((pl_fF_fn h g).1.2.2.2.2.2.2.2.2.2 τ pl_fr.rf).2.1
      rw [prf_X_layout_4, h24, if_neg (nI_ge (by omega) (by omega)), ebeh, pl_sb, show 1 + pl_tF (Ps.take j) + (pl_eF e).length = 1 + pl_tF (Ps.take (j + 1)) by omega, ih (j + 1) f _ (by omega) (by omega), if_neg (show ¬ r + 1 = 0 by omega)]
      by_cases q : r = 0
      · rw [if_pos q, show Ps.length - 1 = j by omega]
      · rw [if_neg q]
  unfold prf_X_layout
  have := loop Ps.length 0 pr_FU (-1) (by omega) (by rw [hF]; omega)
  rw [if_neg (show ¬ Ps.length = 0 by omega)] at this
  exact this
theorem pl_prog {T : pl_Tx} {m : Nat} {rep : Nat → Nat} {Ps : List pl_En} {σ τ : pr_St} (hb : pl_bs T m rep Ps σ τ) (h47 : τ.1 0 47 = 0) :
    (∃ σ' τ', prf_Y_layProgram σ = some (0, σ') ∧ prf_X_layout τ = some τ' ∧ (0 : Int32) < τ'.1 0 47 ∧ σ'.1 6 14 = τ'.1 0 47 ∧ σ'.1 6 15 = τ'.1 0 48 ∧ pl_fr pl_FL pl_GL σ σ' ∧ pl_fr pl_FM pl_GM τ τ') ∨
    (∃ σ' τ' W P nx, prf_Y_layProgram σ = some (1, σ') ∧ prf_X_layout τ = some τ' ∧ τ'.1 0 47 = 0 ∧ τ'.1 0 48 = τ.1 0 48 ∧ pl_RP T m rep Ps W P nx σ' τ' ∧ W 0 = ([], []) ∧ pl_fr pl_FL pl_GL σ σ' ∧ pl_fr pl_FM pl_GM τ τ') := by
  have hne := hb.2.2.2.2.1
  have h889 := hb.2.2.2.2.2.1
  have h7 := hb.2.2.2.2.2.2.1
  have h5 : σ.1 2 5 = nI Ps.length := hb.2.2.2.2.2.2.2.2.2.1
  have hF : pr_FU = 100000 := rfl
  have hl : 1 ≤ Ps.length := by
    cases Ps with
    | nil => exact absurd rfl hne
    | cons e l => rw [List.length_cons]; omega
  obtain ⟨n, hn⟩ : ∃ n, Ps.length = n + 1 := ⟨Ps.length - 1, by omega⟩
  obtain ⟨e, he⟩ : ∃ e, Ps[n]? = some e := ⟨Ps[n], List.getElem?_eq_getElem (by omega)⟩
  rw [pl_lastF hb, show Ps.length - 1 = n by omega]
  obtain ⟨σc, hσc⟩ : ∃ σc, σc = pr_sI (pr_sI (pr_sI (pr_sI σ 4 14 0) 5 4 0) 5 5 0) 6 9 0 := ⟨_, rfl⟩
  have fc : pl_fr pl_FL pl_GL σ σc := by rw [hσc]; exact (((pl_sI_fr (o := 4) (k := 14) rfl).tr (pl_sI_fr (o := 5) (k := 4) rfl)).tr (pl_sI_fr (o := 5) (k := 5) rfl)).tr (pl_sI_fr (o := 6) (k := 9) rfl)
  have ft : pl_fr pl_FM pl_GM τ (pl_c6 τ) := pl_c6_fr
  have bc := pl_bs_fr hb fc ft
  obtain ⟨sf, qf, g⟩ := pl_fn_get bc he
  obtain ⟨nf, hnf⟩ : ∃ nf, nf = 1 + pl_tF (Ps.take n) := ⟨_, rfl⟩
  rw [← hnf] at g ⊢
  obtain ⟨z1, z2, z3, z4, z5, z6⟩ := pl_bd_fn bc g
  obtain ⟨p1, p2, p3, p4⟩ := pl_fpC bc g
  have elen := pl_eF_len e
  have hnd : pl_nd T (pl_c6 τ) m rep nf (pl_eF e) := g.2.2.1.2.2.2.1
  have hlp : prf_Y_layProgram σ = if nI e.2.1 ≤ 0 then ((prf_Y_openFunction σc (nI n) (-1)).bind fun r35 => prf_Y_layProgram_65 pr_FU r35 0) else some (0, pl_wC T σc 7 (e.1 + 1)) := by
    unfold prf_Y_layProgram
    have e1 : prf_O_clear σ = some (pr_sI σ 4 14 0) := rfl
    have e2 : prf_S_cutTo (pr_sI σ 4 14 0) 0 0 = some (pr_sI (pr_sI (pr_sI σ 4 14 0) 5 4 0) 5 5 0) := rfl
    have e3 : prf_G_functions σc = some (nI Ps.length) := by
      unfold prf_G_functions
      rw [show σc.1 2 5 = σ.1 2 5 by rw [hσc]; rfl, h5]
    have e4 : nI Ps.length - 1 = nI n := by rw [hn, pl_sub1]
    have e5 : prf_G_nameOf σc (nI n) = some (nI (e.1 + 1)) := by
      have h5c : σc.1 2 5 = nI Ps.length := bc.2.2.2.2.2.2.2.2.2.1
      have r12 : σc.2.1 12 n = nI (e.1 + 1) := g.2.2.1.1.1
      unfold prf_G_nameOf prf_G_isFunction
      rw [if_neg (nI_pos (by omega)), h5c, if_neg (nI_ge (by omega) (by omega)), pl_sb, if_neg pl_10, pl_ck (by omega) (by omega), nI_clamp (by omega), r12]
    rw [e1, pl_sb, e2, pl_sb, ← hσc, e3, pl_sb, e4, p1, pl_sb, e5, pl_sb, pl_isW bc.1 (show e.1 + 1 < pl_xc T by omega), pl_sb]
    rfl
  rw [hlp]
  have h47c : (pl_c6 τ).1 0 47 = 0 := h47
  by_cases q0 : e.2.1 = 0
  · -- it takes no inputs of its own
    have h13 : (τ.2.1 13 (nf + 2)) = nI 2 := by
      have : pl_nd T (pl_c6 τ) m rep (nf + 1 + 1) (pl_par (e.1 + 3) e.2.1 ++ pl_eB e) := hnd.2.2
      rw [q0] at this
      exact this.1.1
    obtain ⟨hff, e17B⟩ := pl_fF_fn bc g
    obtain ⟨σO, hσO⟩ : ∃ σO, σO = pr_sI (pr_sA (pr_sA (pr_sA (pr_sA (pr_sA σc 45 (upd (σc.2.1 45) 0 (-1))) 46 (upd (σc.2.1 46) 0 (nI n))) 42 (upd (σc.2.1 42) 0 (nI sf))) 43 (upd (σc.2.1 43) 0 (nI (sf + (pl_b2 e.2.2.2).length)))) 44 (upd (σc.2.1 44) 0 (nI (sf + (pl_b2 e.2.2.2).length)))) 6 9 (nI 1) := ⟨_, rfl⟩
    have fO : pl_fr pl_FL pl_GL σc σO := by rw [hσO]; exact (((((pl_sA_fr (o := 45) rfl).tr (pl_sA_fr (o := 46) rfl)).tr (pl_sA_fr (o := 42) rfl)).tr (pl_sA_fr (o := 43) rfl)).tr (pl_sA_fr (o := 44) rfl)).tr (pl_sI_fr (o := 6) (k := 9) rfl)
    have eopen : prf_Y_openFunction σc (nI n) (-1) = some σO := by
      unfold prf_Y_openFunction prf_Y_openBlock
      have e9 : σc.1 6 9 = nI 0 := by rw [hσc]; exact pr_sI_same
      have e10 : nI 0 + 1 = nI 1 := nI_1 0
      rw [p3, pl_sb, p4, pl_sb, pl_sb, e9, if_neg (by decide), if_pos (by decide), pl_ck (by omega) (by omega), pl_ck (by omega) (by omega), pl_ck (by omega) (by omega), pl_ck (by omega) (by omega), pl_ck (by omega) (by omega), nI_clamp (by omega), e10, ← hσO]
      have eg : prf_O_goInto σO (-1) = some σO := by
        unfold prf_O_goInto
        rw [pl_pn1.1, pl_sb, if_pos rfl]
      rw [eg]
      by_cases q : nI (sf + (pl_b2 e.2.2.2).length) ≤ nI sf
      · rw [if_pos q]; rfl
      · rw [if_neg q]; rfl
    have bO := pl_bs_fr bc fO (pl_fr.rf (σ := pl_c6 τ))
    have gO := pl_fn_fr g fO (pl_fr.rf (F := pl_FM) (G := pl_GM) (σ := pl_c6 τ))
    have hsfe := g.2.2.2.2.2.2.1
    have r42 : σO.2.1 42 0 = nI sf := by rw [hσO]; rfl
    have r43 : σO.2.1 43 0 = nI (sf + (pl_b2 e.2.2.2).length) := by rw [hσO]; rfl
    have r44 : σO.2.1 44 0 = nI (sf + (pl_b2 e.2.2.2).length) := by rw [hσO]; rfl
    have r45 : σO.2.1 45 0 = -1 := by rw [hσO]; rfl
    have r46 : σO.2.1 46 0 = nI n := by rw [hσO]; rfl
    obtain ⟨W0, hW0⟩ : ∃ W0 : pl_Wt, W0 = fun _ => ([], []) := ⟨_, rfl⟩
    have hZ : pl_Z T m rep Ps W0 [] [] 0 0 0 0 0 n (sf + (pl_b2 e.2.2.2).length) (nf + 2 + e.2.1) (nf + 2 + e.2.1) (-1) σO (pl_c6 τ) := by
      refine ⟨bO, ⟨?_, ?_, rfl, rfl, rfl, by decide, by decide, fun v x hv => by cases v <;> cases hv⟩, ⟨rfl, h47c⟩, ⟨?_, rfl, by omega, ?_, Nat.le_refl _⟩, ⟨r43, r45, r46, hsfe, by omega⟩, ⟨rfl, Nat.le_refl _, Nat.le_refl _, Nat.le_refl _, Nat.le_refl _, fun v hv => by cases hv⟩, Or.inl ⟨rfl, rfl, rfl, hn.symm, rfl⟩⟩
      · rw [hσO, hσc]; rfl
      · rw [hσO, hσc]; rfl
      · rw [hσO, hσc]; rfl
      · rw [hσO]; exact pr_sI_same
    have hil := gO.2.2.2.2.2.1
    have hpe : pl_pe (e.1 + 3) e.2.1 = [] := by rw [q0]; rfl
    rw [hpe, show nf + 3 + e.2.1 = nf + 2 + e.2.1 + 1 by omega] at hil
    have hres := pl_LBall (T := T) (m := m) (rep := rep) (Ps := Ps) 260 e.2.2.2 60 (nf + 2 + e.2.1) (nf + 2 + e.2.1 + 1) sf qf [] [] W0 0 0 0 0 0 n (sf + (pl_b2 e.2.2.2).length) (nf + 2 + e.2.1) (1 + (pl_b1 e.2.2.2).length) 0 nf (pl_eF e).length pr_FU (-1) 0 0 0 σO (pl_c6 τ) hZ hil r42 rfl (by omega) (by omega) e17B (by omega) (fun z s r hz => by omega) hff (fun hne' τ1 fτ => pl_lsX0 (σ := σO) (by omega) (by rw [fτ.2.1 17 rfl]; exact e17B) (pl_il_fr (pl_fr.rf (σ := σO)) fτ _ _ _ _ _ hil) (by omega) (by omega) hne') (by omega) (by rw [hF]; omega)
    have hblk : prf_X_block4 (prF_X_block4 260) (pl_c6 τ) (nI (nf + 2 + e.2.1)) (nI nf) (-1) 0 = prf_X_block4_23 (prF_X_block4 260) pr_FU (pl_c6 τ) (nI (nf + 2 + e.2.1)) (nI nf) (-1) (nI 0) 0 0 0 (nI (nf + 2 + e.2.1 + 1)) := by
      unfold prf_X_block4
      rw [nI_1]
      rfl
    have hlay : pl_layE τ (nI nf) = (prf_X_block4_23 (prF_X_block4 260) pr_FU (pl_c6 τ) (nI (nf + 2 + e.2.1)) (nI nf) (-1) (nI 0) 0 0 0 (nI (nf + 2 + e.2.1 + 1))).bind fun r19 => if (r19.1 0 47) = 0 then (pr_ck (r19.1 0 33) 250 <| pr_ck (r19.1 0 33) 250 <| pr_ck (r19.1 0 33) 250 <| pr_ck (r19.1 0 33) 250 <| pr_ck (r19.1 0 33) 250 <| pr_ck (r19.1 0 33) 251 <| some (pr_sI (pr_sA (pr_sA (pr_sA (pr_sA (pr_sA (pr_sA r19 20 (upd (r19.2.1 20) (r19.1 0 33).toNatClampNeg (-1))) 21 (upd (r19.2.1 21) (r19.1 0 33).toNatClampNeg (-1))) 23 (upd (r19.2.1 23) (r19.1 0 33).toNatClampNeg 0)) 24 (upd (r19.2.1 24) (r19.1 0 33).toNatClampNeg 0)) 22 (upd (r19.2.1 22) (r19.1 0 33).toNatClampNeg ((r19.1 0 33) + 1))) 25 (upd (r19.2.1 25) (r19.1 0 33).toNatClampNeg 0)) 0 33 ((r19.1 0 33) + 1))) else some r19 := by
      unfold pl_layE
      rw [pl_n2, pl_ck (by omega) (by omega), nI_clamp (by omega), h13, if_neg (by decide), (hff.2.2.2.2.2.2.2.2.2 (pl_c6 τ) pl_fr.rf).1, pl_sb, hblk]
    rw [hlay, if_pos (show nI e.2.1 ≤ 0 by rw [q0]; decide), eopen, pl_sb]
    rcases hres with ⟨k, P, W', σ1, τ1, g1, g2, g3, g4, g5, g6, g7⟩ | ⟨k, σ1, τ1, g1, g2, g3, g4, g5, g6, g7, g8⟩
    · -- laid
      obtain ⟨⟨nb, hZ1⟩, w2, w3, w4, w5, w6, w7, w8, w9, w10⟩ := g4
      obtain ⟨y1, y2, ⟨y31, y32⟩, ⟨y41, y42, y43, y44, y45⟩, ⟨y51, y52, y53, y54, y55⟩, _, _⟩ := hZ1
      obtain ⟨τ2, hτ2⟩ : ∃ τ2, τ2 = pl_rs τ1 0 0 0 := ⟨_, rfl⟩
      have h33r : τ2.1 0 33 = nI P := by rw [hτ2]; exact y42
      have h47r : τ2.1 0 47 = 0 := by rw [hτ2]; exact y32
      obtain ⟨τ3, hτ3⟩ : ∃ τ3, τ3 = pr_sI (pr_sA (pr_sA (pr_sA (pr_sA (pr_sA (pr_sA τ2 20 (upd (τ2.2.1 20) P (-1))) 21 (upd (τ2.2.1 21) P (-1))) 23 (upd (τ2.2.1 23) P 0)) 24 (upd (τ2.2.1 24) P 0)) 22 (upd (τ2.2.1 22) P (nI (P + 1)))) 25 (upd (τ2.2.1 25) P 0)) 0 33 (nI (P + 1)) := ⟨_, rfl⟩
      have f12 : pl_fr pl_FM pl_GM τ1 τ2 := by rw [hτ2]; exact pl_rs_fr
      have f23 : pl_fr pl_FM pl_GM τ2 τ3 := by
        rw [hτ3]
        exact ((((((pl_sA_fr (o := 20) rfl).tr (pl_sA_fr (o := 21) rfl)).tr (pl_sA_fr (o := 23) rfl)).tr (pl_sA_fr (o := 24) rfl)).tr (pl_sA_fr (o := 22) rfl)).tr (pl_sA_fr (o := 25) rfl)).tr (pl_sI_fr (o := 0) (k := 33) rfl)
      have f1τ : pl_fr pl_FM pl_GM τ τ3 := ((ft.tr w3.2.1).tr f12).tr f23
      have hz3 : ∀ a z, ¬ z = P → τ3.2.1 a z = τ1.2.1 a z := by
        intro a z hz
        have key : ∀ (σx : pr_St) (c : Nat) (g : Nat → Int32) (v : Int32), g z = σx.2.1 c z → (pr_sA σx c (upd g P v)).2.1 a z = σx.2.1 a z := by
          intro σx c g v hg
          by_cases q : a = c
          · subst q; rw [pl_sA_same, pk_un hz, hg]
          · rw [pl_sA_ne q]
        rw [hτ3]
        show (pr_sA (pr_sA (pr_sA (pr_sA (pr_sA (pr_sA τ2 20 _) 21 _) 23 _) 24 _) 22 _) 25 _).2.1 a z = _
        have e1 : τ2.2.1 a z = τ1.2.1 a z := by rw [hτ2]; rfl
        exact ((key _ 25 _ _ rfl).trans ((key _ 22 _ _ rfl).trans ((key _ 24 _ _ rfl).trans ((key _ 23 _ _ rfl).trans ((key _ 21 _ _ rfl).trans (key _ 20 _ _ rfl)))))).trans e1
      have hrow3 : ∀ a, ¬ (20 ≤ a ∧ a ≤ 25) → τ3.2.1 a = τ1.2.1 a := by
        intro a ha
        rw [hτ3]
        show (pr_sA (pr_sA (pr_sA (pr_sA (pr_sA (pr_sA τ2 20 _) 21 _) 23 _) 24 _) 22 _) 25 _).2.1 a = _
        rw [pl_sA_ne (by omega), pl_sA_ne (by omega), pl_sA_ne (by omega), pl_sA_ne (by omega), pl_sA_ne (by omega), pl_sA_ne (by omega), hτ2]
        rfl
      -- the class closes the program's BLOCK
      obtain ⟨σE, hσE⟩ : ∃ σE, σE = pr_sI (pr_sI (pr_sI (pr_sI σ1 6 10 (nI 0)) 5 4 0) 5 5 0) 6 9 (nI 0) := ⟨_, rfl⟩
      have fE : pl_fr pl_FL pl_GL σ1 σE := by rw [hσE]; exact (((pl_sI_fr (o := 6) (k := 10) rfl).tr (pl_sI_fr (o := 5) (k := 4) rfl)).tr (pl_sI_fr (o := 5) (k := 5) rfl)).tr (pl_sI_fr (o := 6) (k := 9) rfl)
      have c44 : σ1.2.1 44 0 = nI (sf + (pl_b2 e.2.2.2).length) := by rw [w3.2.2.2.2.2.1 44 (by decide) (by decide)]; exact r44
      have hclose : ∀ gg, prf_Y_layProgram_65 (gg + 2) σ1 (nI k) = (prf_O_finish σE).bind fun r23 => some (1, r23) := by
        intro gg
        have hop : pl_opn 0 (pr_sI σ1 6 10 (nI 0)) := ⟨y44, pr_sI_same, by decide⟩
        have etk : prf_Y_takeStatement (pr_sI σ1 6 10 (nI 0)) = some (-1, pr_sI σ1 6 10 (nI 0)) := by
          unfold prf_Y_takeStatement
          have e42 : (pr_sI σ1 6 10 (nI 0)).2.1 42 0 = nI (sf + (pl_b2 e.2.2.2).length) := w2
          have e43 : (pr_sI σ1 6 10 (nI 0)).2.1 43 0 = nI (sf + (pl_b2 e.2.2.2).length) := y51
          rw [pl_isO hop, pl_sb, if_neg pl_10, hop.2.1, pl_ck (by omega) (by omega), pl_ck (by omega) (by omega), nI_clamp (by omega), e42, e43, if_neg (nI_nlt (Nat.le_refl _) (by omega))]
        have epar : prf_Y_parent (pr_sI σ1 6 10 (nI 0)) = some (-1) := by
          rw [(pl_opC hop).1]
          show some (σ1.2.1 45 0) = _
          rw [y52]
        obtain ⟨σX, hσX⟩ : ∃ σX, σX = pr_sI (pr_sI (pr_sI σ1 6 10 (nI 0)) 5 4 0) 5 5 0 := ⟨_, rfl⟩
        have ecut : prf_S_cutTo (pr_sI σ1 6 10 (nI 0)) 0 0 = some σX := by rw [hσX]; rfl
        have opX : pl_opn 0 σX := by rw [hσX]; exact ⟨y44, rfl, by decide⟩
        have eend : prf_Y_endBlock (pr_sI σ1 6 10 (nI 0)) = some σE := by
          unfold prf_Y_endBlock
          have e44 : σX.2.1 44 0 = nI (sf + (pl_b2 e.2.2.2).length) := by rw [hσX]; exact c44
          have e43 : σX.2.1 43 0 = nI (sf + (pl_b2 e.2.2.2).length) := by rw [hσX]; exact y51
          have ecl : prf_O_close σX (-1) = some σX := by
            unfold prf_O_close
            rw [pl_pn1.1, pl_sb, if_pos rfl]
          have e9 : σX.1 6 9 - 1 = nI 0 := by
            rw [opX.1]
            exact pl_sub1 0
          rw [epar, pl_sb, (pl_pn1 (σ := pr_sI σ1 6 10 (nI 0))).2.2.1, pl_sb, (pl_pn1 (σ := pr_sI σ1 6 10 (nI 0))).2.2.2.1, pl_sb, ecut, pl_sb, pl_isO opX, pl_sb, if_neg pl_10, opX.2.1, pl_ck (by omega) (by omega), pl_ck (by omega) (by omega), nI_clamp (by omega), e44, e43, if_pos (Int32.le_refl _), ecl, pl_sb, e9, hσE, hσX]
        rw [show gg + 2 = (gg + 1) + 1 from rfl, prf_Y_layProgram_65, if_neg (show ¬ (1000 : Int32) ≤ nI k from nI_ge (b := 1000) (by omega) (by omega)), y44, if_neg (show ¬ nI (0 + 1) ≤ 0 by decide), pl_sub1, etk, pl_sb, if_pos rfl]
        show (prf_Y_endBlock (pr_sI σ1 6 10 (nI 0))).bind _ = _
        rw [eend, pl_sb, nI_1, prf_Y_layProgram_65, if_neg (show ¬ (1000 : Int32) ≤ nI (k + 1) from nI_ge (b := 1000) (by omega) (by omega)), if_pos (show σE.1 6 9 ≤ 0 by rw [hσE, pr_sI_same]; decide)]
      have c14 : σE.1 4 14 = nI P := by rw [hσE]; exact y41
      obtain ⟨σe, eend, heC⟩ := pl_endP c14 y43
      -- the points
      obtain ⟨W2, hW2⟩ : ∃ W2 : pl_Wt, W2 = fun z => if z = P then ([], []) else W' z := ⟨_, rfl⟩
      have hW2z : ∀ z, z < P → W2 z = W' z := by intro z hz; rw [hW2]; exact if_neg (by omega)
      have hW2P : W2 P = ([], []) := by rw [hW2]; exact if_pos rfl
      have hfz : pl_fz P 0 ([] ++ pl_exs (pl_xK T) [] e.2.2.2 : List (Nat × Bool)).length σ1 τ1 σE τ3 := by
        refine ⟨fE, f12.tr f23, fun a z _ _ _ => by rw [hσE]; rfl, fun a z _ _ _ => by rw [hσE]; rfl, fun a z _ _ _ => by rw [hσE]; rfl, fun a _ _ => by rw [hσE]; rfl, fun a z _ _ hz => hz3 a z (by omega), fun a z h1 h2 _ => by rw [hrow3 a (by omega)], fun a z h1 h2 _ => by rw [hrow3 a (by omega)]⟩
      have hptE : ∀ z, z < P → pl_pt T m rep Ps W2 P σE τ3 z := fun z hz => pl_pt_fz (w7 z (by omega) hz) hfz (Nat.le_refl _) y43 hW2z
      have hpgE : ∀ z, z < P → pl_pg T W2 P σE z := fun z hz => pl_pg_fz (g5 z (by omega) hz) hfz hz (Nat.le_refl _) hW2z
      have bE : pl_bs T m rep Ps σE τ3 := pl_bs_fr y1 fE (f12.tr f23)
      have h33 : τ3.1 0 33 = nI (P + 1) := by rw [hτ3]; exact pr_sI_same
      obtain ⟨σ', nx, efin, hRP, f0'⟩ := pl_finL bE y43 hptE hpgE h33 hW2P heC ⟨by rw [hτ3]; exact pk_us, by rw [hτ3]; exact pk_us, by rw [hτ3]; exact pk_us⟩ (pl_sv_eq w6 (fun z _ => by rw [hσE]; rfl) (by rw [hσE]; rfl))
      have hW20 : W2 0 = ([], []) := by
        by_cases hP0 : P = 0
        · have : W2 0 = W2 P := by rw [hP0]
          rw [this]; exact hW2P
        · by_cases hL : e.2.2.2 = []
          · exact absurd (g6 hL) hP0
          · rw [hW2z 0 (by omega)]; exact (g7 hL).2.1
      refine Or.inr ⟨σ', τ3, W2, P, nx, ?_, ?_, ?_, ?_, hRP, hW20, (((fc.tr fO).tr w3.1).tr fE).tr f0', f1τ⟩
      · have hfu : pr_FU = (pr_FU - k - 2 + 2) + k := by rw [hF]; omega
        rw [hfu, show (0 : Int32) = nI 0 from rfl, g2 (pr_FU - k - 2 + 2), Nat.zero_add, hclose]
        unfold prf_O_finish
        rw [eend, pl_sb, c14, efin, pl_sb]
      · rw [g3, pl_sb, ← hτ2, if_pos h47r, h33r, pl_ck (by omega) (by omega), pl_ck (by omega) (by omega), pl_ck (by omega) (by omega), pl_ck (by omega) (by omega), pl_ck (by omega) (by omega), pl_ck (by omega) (by omega), nI_clamp (by omega), nI_1, ← hτ3]
      · rw [hτ3, pr_sI_ne (by omega)]; exact h47r
      · rw [hτ3, pr_sI_ne (by omega)]
        show τ2.1 0 48 = _
        rw [hτ2]
        show τ1.1 0 48 = _
        rw [w10.1]
        rfl
    · refine Or.inl ⟨σ1, τ1, ?_, ?_, g3, g4, g5, (fc.tr fO).tr g6, ft.tr g7⟩
      · have hfu : pr_FU = (pr_FU - k) + k := by rw [hF]; omega
        rw [hfu, show (0 : Int32) = nI 0 from rfl]
        exact g1 (pr_FU - k)
      · rw [g2, pl_sb, if_neg (pl_neg0 g3)]
  · -- it takes inputs of its own
    have h13 : (τ.2.1 13 (nf + 2)) = nI 13 := by
      have : pl_nd T (pl_c6 τ) m rep (nf + 1 + 1) (pl_par (e.1 + 3) e.2.1 ++ pl_eB e) := hnd.2.2
      obtain ⟨w, hw⟩ : ∃ w, e.2.1 = w + 1 := ⟨e.2.1 - 1, by omega⟩
      rw [hw] at this
      exact this.1.1
    have h14 : (pl_c6 τ).2.1 14 (nf + 1) = nI (pl_xP T (e.1 + 1)) := hnd.2.1.2.1
    refine Or.inl ⟨pl_wC T σc 7 (e.1 + 1), pl_wX T (pl_c6 τ) 7 (e.1 + 1), ?_, ?_, by rw [pl_wX_47.1]; decide, by rw [pl_wC_14.1, pl_wX_47.1], by rw [pl_wC_14.2, pl_wX_47.2], fc.tr pl_wC_fr, ft.tr pl_wX_fr⟩
    · rw [if_neg (show ¬ nI e.2.1 ≤ 0 from fun w => nI_ge (a := 0) (b := e.2.1) (by omega) (by omega) w)]
    · unfold pl_layE
      rw [pl_n2, nI_1, pl_ck (by omega) (by omega), nI_clamp (by omega), h13, if_pos (by rfl), pl_wrX h47c (by omega) h14, pl_sb]
