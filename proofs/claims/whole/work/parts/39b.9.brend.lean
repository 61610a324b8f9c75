/-! THE LAYOUT: if and while: their BLOCKs in place, their end -/
theorem pl_sl_len {L S : List pl_S} {s : Nat} (h : pl_sl L s S) (hS : 1 ≤ S.length) : s + S.length ≤ L.length := by
  have := h (S.length - 1) (by omega)
  rw [List.getElem?_eq_getElem (l := S) (by omega)] at this
  by_cases q : s + (S.length - 1) < L.length
  · omega
  · rw [List.getElem?_eq_none (l := L) (by omega)] at this
    cases this
/-- the BLOCKs of an if or while -/
theorem pl_brIl {T : pl_Tx} {m : Nat} {rep : Nat → Nat} {Ps : List pl_En} {σ τ : pr_St} {f b k s q kr t eb tt : Nat} {E : List (Nat × Bool)} {C B2 : List pl_N} {Qc : List pl_O} {L1 : List (List pl_N × List pl_S × List pl_O)} {S2 : List pl_S} {O2 : List pl_O} {f0 : Nat} (hb : pl_bs T m rep Ps σ τ) (his : pl_is T m rep Ps σ τ f0 b k s q E ((kr, t, 0, 1 + (C ++ ((2, tt, 0, 1 + (pl_b1 L1).length) :: pl_b1 L1) ++ B2).length) :: (C ++ ((2, tt, 0, 1 + (pl_b1 L1).length) :: pl_b1 L1) ++ B2)) ((kr - 3, t, q, s + 1 + (pl_b2 L1).length, s + 1 + (pl_b2 L1).length + S2.length, E, eb + 1) :: (pl_b2 L1 ++ S2)) (Qc ++ pl_b3 L1 ++ O2)) (hC : pl_ns C) (h1 : pl_bl (pl_xK T) (pl_sT T f) (s + 1) (q + Qc.length) E L1) (h2 : (B2 = [] ∧ S2 = [] ∧ O2 = []) ∨ pl_bk (pl_xK T) (pl_sT T f) (s + 1 + (pl_b2 L1).length) (q + Qc.length + (pl_b3 L1).length) E B2 S2 O2) :
    pl_il T m rep Ps σ τ f (k + 1 + C.length) (k + 2 + C.length) (s + 1) (q + Qc.length) E L1 ∧ τ.2.1 17 (k + 1 + C.length) = nI (1 + (pl_b1 L1).length) ∧
    ((B2 = [] ∧ S2 = [] ∧ O2 = []) ∨ ∃ t2 L2, B2 = (2, t2, 0, 1 + (pl_b1 L2).length) :: pl_b1 L2 ∧ S2 = pl_b2 L2 ∧ O2 = pl_b3 L2 ∧ pl_il T m rep Ps σ τ f (k + 1 + C.length + (1 + (pl_b1 L1).length)) (k + 1 + C.length + (1 + (pl_b1 L1).length) + 1) (s + 1 + (pl_b2 L1).length) (q + Qc.length + (pl_b3 L1).length) E L2 ∧ τ.2.1 17 (k + 1 + C.length + (1 + (pl_b1 L1).length)) = nI (1 + (pl_b1 L2).length)) := by
  obtain ⟨i1, i2, i3, i4, i5, i6, ⟨i71, i72, i73, i74⟩, i8⟩ := his
  have h11 := hb.2.2.2.2.2.2.2.2.2.2.1
  have h7 := hb.2.2.2.2.2.2.1
  have hl1 : ((2, tt, 0, 1 + (pl_b1 L1).length) :: pl_b1 L1 : List pl_N).length = 1 + (pl_b1 L1).length := by rw [List.length_cons]; omega
  rw [List.length_cons, List.length_append, List.length_append, hl1] at i72
  rw [List.length_cons, List.length_append] at i73
  rw [List.length_append, List.length_append] at i74
  obtain ⟨n0, n12⟩ := pl_nd_l C (((2, tt, 0, 1 + (pl_b1 L1).length) :: pl_b1 L1) ++ B2) (k + 1) (by rw [← List.append_assoc]; exact i2.2)
  obtain ⟨n1, n2⟩ := pl_nd_l _ _ _ n12
  rw [hl1] at n2
  obtain ⟨s1, s2⟩ := pl_sts_l _ _ _ i4.2
  obtain ⟨o01, o2⟩ := pl_ops_l _ _ _ i5
  obtain ⟨o0, o1⟩ := pl_ops_l _ _ _ o01
  obtain ⟨l1, l2⟩ := pl_sl_app (pl_sl_cons i6).2
  have hv1 : pl_ns ((2, tt, 0, 1 + (pl_b1 L1).length) :: pl_b1 L1) := ⟨⟨show 1 ≤ 1 + (pl_b1 L1).length by omega, Nat.le_refl _⟩, (pl_bl_vn (pl_sT_vn f) _ _ _ _ h1).2⟩
  have w1 : pl_wh τ (k + 1 + C.length) (nI k) ((2, tt, 0, 1 + (pl_b1 L1).length) :: pl_b1 L1) := pl_wh_c i3 rfl rfl hC (pl_ro_cons rfl)
  have e17 : τ.2.1 17 (k + 1 + C.length) = nI (1 + (pl_b1 L1).length) := n1.1.2.2.2.2
  have hal : (pl_aS Ps).length = pl_tS Ps := pl_aS_len Ps
  have hsS : s + 1 + (pl_b2 L1).length + S2.length ≤ pl_tS Ps := by
    have := pl_sl_len i6 (by rw [List.length_cons]; omega)
    rw [List.length_cons, List.length_append] at this
    omega
  have hnqE : pl_nq σ (s + 1 + (pl_b2 L1).length + S2.length) (q + Qc.length + (pl_b3 L1).length + O2.length) := by
    rw [List.length_cons, List.length_append, List.length_append, List.length_append] at i8
    rw [show s + 1 + (pl_b2 L1).length + S2.length = s + ((pl_b2 L1).length + S2.length + 1) by omega, show q + Qc.length + (pl_b3 L1).length + O2.length = q + (Qc.length + (pl_b3 L1).length + O2.length) by omega]
    exact i8
  have hnq1 : pl_nq σ (s + 1 + (pl_b2 L1).length) (q + Qc.length + (pl_b3 L1).length) := by
    rcases h2 with ⟨_, rfl, rfl⟩ | ⟨t2, L2, _, e2, e3, hbl⟩
    · exact hnqE
    · cases L2 with
      | nil =>
        have e2' : S2 = [] := e2
        have e3' : O2 = [] := e3
        rw [e2', e3'] at hnqE
        exact hnqE
      | cons z l =>
        obtain ⟨r, S', er, hq, _⟩ := pl_sT_hd hbl.1
        have e2' : S2 = z.2.1 ++ pl_b2 l := e2
        rw [e2', er] at s2
        have hl2 : S2.length = S'.length + 1 + (pl_b2 l).length := by rw [e2', er, List.length_append, List.length_cons]
        exact pl_nq_st h11 h7 (by omega) (by rw [s2.1.2.2.1, hq])
  refine ⟨?_, e17, ?_⟩
  · refine pl_il_mk (kk := 2) (t := tt) (v := 0) (o := nI k) (by omega) h11 h7 L1 [] _ _ _ _ (by show _ = _ + 1 + 0; omega) trivial w1 h1 ?_ s1 ?_ l1 (by omega) (by omega) (by omega) hnq1
    · rw [show k + 2 + C.length = k + 1 + C.length + 1 by omega]
      exact n1.2
    · exact o1
  · rcases h2 with h2 | ⟨t2, L2, e1, e2, e3, hbl⟩
    · exact Or.inl h2
    · have w2 : pl_wh τ (k + 1 + C.length + (1 + (pl_b1 L1).length)) (nI k) B2 := by
        have := pl_wh_c (A := C ++ ((2, tt, 0, 1 + (pl_b1 L1).length) :: pl_b1 L1)) (G := B2) (C := []) i3 (by rw [List.append_nil]) rfl (pl_ns_app _ _ hC hv1) (by rw [e1]; exact pl_ro_cons rfl)
        rw [List.length_append, hl1, ← Nat.add_assoc] at this
        exact this
      have hl2 : B2.length = 1 + (pl_b1 L2).length := by rw [e1, List.length_cons]; omega
      rw [e1] at n2 w2
      rw [e2] at s2 l2 i73 hsS
      rw [e3] at i74
      rw [List.length_append] at o2
      refine Or.inr ⟨t2, L2, e1, e2, e3, ?_, n2.1.2.2.2.2⟩
      refine pl_il_mk (kk := 2) (t := t2) (v := 0) (o := nI k) (by omega) h11 h7 L2 [] _ _ _ _ (by show _ = _ + 1 + 0; omega) trivial w2 hbl n2.2 s2 ?_ l2 (by omega) (by omega) (by omega) (by rw [e2, e3] at hnqE; exact hnqE)
      rw [e3] at o2
      rw [show q + Qc.length + (pl_b3 L1).length = q + (Qc.length + (pl_b3 L1).length) by omega]
      exact o2
/-- its end on both sides -/
theorem pl_brEnd {T : pl_Tx} {m : Nat} {rep : Nat → Nat} {Ps : List pl_En} {W W1 : pl_Wt} {A E : List (Nat × Bool)} {d p ii nb bb fi send b bF f k s q bs x n1 P nb' se ot : Nat} {par tg : Int32} {σ τ σ1 τ1 : pr_St} {F : List pl_N} {S : List pl_S} {O : List pl_O} {r : pl_S} {rX : Option pr_St} (hZ : pl_Z T m rep Ps W A E d p ii nb bb fi send b bF par σ τ) (his : pl_is T m rep Ps σ τ f b k s q E F S O) (hS : ∃ S', S = r :: S') (hbs : τ.2.1 17 b = nI bs) (hkb : k + F.length ≤ b + bs) (hbl : b + bs ≤ 12870) (hp : p < 249) (hr8 : ¬ r.1 = 8)
    (hM : pl_M T m rep Ps W A E d p k s (s + S.length) r par (if k + F.length = b + bs then 1 else 0) tg σ τ P W1 σ1 τ1) (hP : P ≤ 249) (h69 : σ1.1 6 9 = nI (d + 2)) (h14 : σ1.1 4 14 = nI P) (h42 : σ1.2.1 42 (d + 1) = nI se) (h43 : σ1.2.1 43 (d + 1) = nI se) (h44 : σ1.2.1 44 (d + 1) = nI ot) (h45 : σ1.2.1 45 (d + 1) = nI p) (hse : se < 2 ^ 31) (hot : ot ≤ se) (hx : x + n1 < 1000) (hn1 : n1 + 1 ≤ 3 * (P - p)) (hrun : ∀ g, prf_Y_layProgram_65 (g + n1) σ (nI x) = prf_Y_layProgram_65 g σ1 (nI (x + n1)))
    (x33 : τ1.1 0 33 = nI P) (x42 : τ1.1 0 42 = nI (A ++ E).length) (x43 : τ1.1 0 43 = nI A.length) (x45 : τ1.1 0 45 = nI (pl_cnt false (A ++ E))) (x46 : τ1.1 0 46 = nI (pl_cnt true (A ++ E))) (x47 : τ1.1 0 47 = 0) (x48 : τ1.1 0 48 = τ.1 0 48) (x44 : τ1.1 0 44 = nI nb') (hnb : nb ≤ nb') (hnb' : nb' ≤ nb + 2 * (P - p)) (hrX : rX = some (pl_e22 τ1 p)) (hpk : pl_pk T W1 p k P F.length r σ1 τ1) :
    pl_Lg T m rep Ps W A E E d p ii bb fi send b bF s (s + S.length) r.1 x par (if k + F.length = b + bs then 1 else 0) σ τ rX := by
  have hd : d ≤ p := hZ.2.2.2.1.2.2.2.2
  have m9 := hM.2.2.2.2.2.2.2.2.1
  have m3 := hM.2.2.1
  obtain ⟨σ', eσ'⟩ : ∃ σ', σ' = pr_sI (pr_sA (pl_cut σ1 (d + 1) (A ++ E)) 35 (upd (σ1.2.1 35) p (nI P))) 6 9 (nI (d + 1)) := ⟨_, rfl⟩
  have hend : ∀ g, prf_Y_layProgram_65 (g + 1) σ1 (nI (x + n1)) = prf_Y_layProgram_65 g σ' (nI (x + n1 + 1)) := by
    intro g
    have := pl_endC (V := A ++ E) (d := d + 1) h69 (by omega) h14 hP m9 h42 h43 h44 h45 m3.2.2.2.1 m3.2.2.2.2.1 hse (by omega) hx g
    rw [if_pos hot, ← eσ'] at this
    exact this
  have rr : ∀ a, ¬ a = 35 → σ'.2.1 a = σ1.2.1 a := by
    intro a ha
    rw [eσ']
    show (pr_sA (pl_cut σ1 (d + 1) (A ++ E)) 35 _).2.1 a = _
    rw [pl_sA_ne ha]
    rfl
  have r35 : σ'.2.1 35 = upd (σ1.2.1 35) p (nI P) := by rw [eσ']; rfl
  have fC : pl_fr pl_FL pl_GL σ1 σ' := by rw [eσ']; exact (pl_cut_fr.tr (pl_sA_fr (o := 35) rfl)).tr (pl_sI_fr (o := 6) (k := 9) rfl)
  have fT : pl_fr pl_FM pl_GM τ1 (pl_e22 τ1 p) := pl_e22_fr
  have tt : ∀ a, ¬ a = 22 → (pl_e22 τ1 p).2.1 a = τ1.2.1 a := by intro a ha; unfold pl_e22; rw [pl_sA_ne ha]
  have hM' : pl_M T m rep Ps W A E d p k s (s + S.length) r par (if k + F.length = b + bs then 1 else 0) tg σ τ P W1 σ' (pl_e22 τ1 p) := by
    refine pl_M_eq hM hP fC fT (fun a z h1 h2 h3 => ?_) (fun a z h1 h2 => by rw [rr a (by omega)]) (fun a z h1 h2 _ => by rw [rr a (by omega)]) (fun a z h1 h2 h3 => ?_)
    · by_cases h : a = 35
      · subst h
        rw [r35, pk_un (by omega)]
      · rw [rr a h]
    · by_cases h : a = 22
      · subst h
        unfold pl_e22
        rw [pl_sA_same, pk_un (by omega)]
      · rw [tt a h]
  obtain ⟨m1', m2', m3', m4', m5', m6', ⟨m71', m72'⟩, m8', m9', m10'⟩ := hM'
  have hpk' : pl_pk T W1 p k P F.length r σ' (pl_e22 τ1 p) := by
    unfold pl_pk at *
    rw [rr 34 (by decide), rr 36 (by decide), rr 37 (by decide), tt 17 (by decide), tt 16 (by decide), tt 20 (by decide), tt 21 (by decide)]
    exact hpk
  refine pl_blkG (n := n1 + 1) hZ his hS hbs hkb hbl m1' hn1 (fun g => ?_) hrX ?_ x33 hP m9 ?_ ?_ ?_ x42 x43 x45 x46 x47 x48 x44 hnb hnb' m2' m3' (by rw [r35, pk_us]) ⟨m5'.1, m5'.2.1, ?_, m5'.2.2.1, m5'.2.2.2.1, m5'.2.2.2.2⟩ m6' m71' m72' m8' (fun z h1 h2 => (m10' z h1 h2).1) (fun z h1 h2 => (m10' z h1 h2).2.1) (fun z h1 h2 => (m10' z h1 h2).2.2) hpk' hr8
  · rw [show g + (n1 + 1) = (g + 1) + n1 by omega, hrun (g + 1), hend g, show x + n1 + 1 = x + (n1 + 1) by omega]
  · rw [eσ']; exact h14
  · rw [eσ']; exact pr_sI_same
  · rw [eσ']; rfl
  · rw [eσ']; rfl
  · unfold pl_e22
    rw [pl_sA_same, pk_us]
    exact x33
