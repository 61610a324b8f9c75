/-! THE LAYOUT: assignments, assert, return -/
def pl_cx (T : pl_Tx) (m : Nat) (rep : Nat → Nat) (Ps : List pl_En) (W : pl_Wt) (A E : List (Nat × Bool)) (d p ii nb bb fi send b bF f k s q bs x : Nat) (par : Int32) (σ τ : pr_St) (F : List pl_N) (S : List pl_S) (O : List pl_O) : Prop :=
  pl_Z T m rep Ps W A E d p ii nb bb fi send b bF par σ τ ∧ pl_is T m rep Ps σ τ f b k s q E F S O ∧ σ.2.1 42 d = nI s ∧ s < send ∧ x < 1000 ∧ τ.2.1 17 b = nI bs ∧ k + F.length ≤ b + bs ∧ b + bs ≤ 12870 ∧ (s + S.length = send ↔ k + F.length = b + bs) ∧ pl_sv T Ps p σ ∧ s + S.length ≤ send
/-- what becomes of a statement -/
def pl_LS (T : pl_Tx) (m : Nat) (rep : Nat → Nat) (Ps : List pl_En) (W : pl_Wt) (A E : List (Nat × Bool)) (d p ii bb fi send b bF k s bs x : Nat) (par : Int32) (σ τ : pr_St) (F : List pl_N) (S : List pl_S) (r1 : Nat) (rX : Option pr_St) : Prop :=
  pl_Lg T m rep Ps W A E (pl_ex (pl_xK T) E S) d p ii bb fi send b bF s (s + S.length) r1 x par (if k + F.length = b + bs then 1 else 0) σ τ rX ∨ pl_Lb x σ τ rX
theorem pl_wh_c {τ : pr_St} {n : Nat} {o : Int32} {e : pl_N} {L A G C : List pl_N} (h : pl_wh τ n o (e :: L)) (hL : L = A ++ G ++ C) (hsz : e.2.2.2 = 1 + L.length) (hA : pl_ns A) (hG : pl_ro G) : pl_wh τ (n + 1 + A.length) (nI n) G := by
  obtain ⟨k, t, v, z⟩ := e
  have hz : z = 1 + L.length := hsz
  subst hz hL
  exact pl_wh_part h hA hG
/-- the reference comes to the statement's kind -/
theorem pl_own {T : pl_Tx} {m : Nat} {rep : Nat → Nat} {Ps : List pl_En} {σ τ : pr_St} {f b k s q : Nat} {E : List (Nat × Bool)} {F : List pl_N} {r : pl_S} {S : List pl_S} {O : List pl_O} (h : pl_bs T m rep Ps σ τ) (his : pl_is T m rep Ps σ τ f b k s q E F (r :: S) O) : r.2.1 ≤ r.2.2.2.2.2.2 ∧ r.2.2.2.2.2.2 ≤ pl_xc T := by
  have ha := (pl_sl_cons his.2.2.2.2.2.1).1
  have := pl_od_get _ _ _ _ _ h.2.2.2.2.2.2.2.2.2.2.2.2.2.1 ha
  exact this.2
theorem pl_nn {r j : Nat} {v : Int32} (hr : r < 64) (hj : j < 64) (hv : nI j = v) (hn : ¬ r = j) : ¬ nI r = v := fun q => hn ((nI_eq (by omega) (by omega)).mp (q.trans hv.symm))
/-- nodes in their places after the point was laid -/
theorem pl_nd_fm {T : pl_Tx} {m : Nat} {rep : Nat → Nat} {τ τ1 : pr_St} {k : Nat} {F : List pl_N} (h : pl_nd T τ m rep k F) (f : pl_fr pl_FM pl_GM τ τ1) : pl_nd T τ1 m rep k F := pl_nd_eq (Nat.le_refl _) (fun _ _ => rfl) _ _ (fun r z _ hr _ _ _ => by rw [f.2.1 r (pl_GM_lo (by omega))]) h
theorem pl_wh_fm {τ τ1 : pr_St} {k : Nat} {o : Int32} {F : List pl_N} (h : pl_wh τ k o F) (f : pl_fr pl_FM pl_GM τ τ1) : pl_wh τ1 k o F := pl_wh_eq h (fun z _ _ => by rw [f.2.1 16 rfl])
theorem pl_bad_1 {T : pl_Tx} {E : List (Nat × Bool)} {t : Nat} {b : Bool} (k2 : pl_xK T t = 2) (h : pl_yes T E (t, b)) : ∃ i e, pl_lst T E 0 t i e ∧ e.2 = b := by
  unfold pl_yes at h
  rw [if_pos (show pl_xK T (t, b).1 = 2 from k2)] at h
  exact h
theorem pl_stSetL {rc : pr_St → Int32 → Int32 → Int32 → Int32 → Option pr_St} {T : pl_Tx} {m : Nat} {rep : Nat → Nat} {Ps : List pl_En} {W : pl_Wt} {A E : List (Nat × Bool)} {d p ii nb bb fi send b bF f k s q bs x : Nat} {par x3 : Int32} {σ τ : pr_St} {F : List pl_N} {S : List pl_S} {O : List pl_O} (hc : pl_cx T m rep Ps W A E d p ii nb bb fi send b bF f k s q bs x par σ τ F S O) (hp : p < 249) (h : pl_st4 T s q E F S O) : pl_LS T m rep Ps W A E d p ii bb fi send b bF k s bs x par σ τ F S 2 (prf_X_statement5 rc τ (nI k) (nI b) x3 par (nI ii)) := by
  obtain ⟨t, e, G, k1, k2, k3, k4, hcm, hsm, rfl, rfl⟩ := h
  obtain ⟨hZ, his, h42, hse, hx, hbs, hkb, hbl, hlast, hsv, hss⟩ := hc
  have hown := (pl_own hZ.1 his).2
  have hown : e + 1 ≤ pl_xc T := hown
  have htt := hZ.1.1
  have hte : t + 2 < e := hcm.1
  obtain ⟨i1, i2, i3, i4, i5, i6, ⟨i71, i72, i73, i74⟩, i8⟩ := id his
  rw [List.length_cons, List.length_cons] at i72
  have ecu : pl_cu (pl_xK T) t e = (t, false) :: pl_cl false G := by
    rw [pl_cu_nm (by omega) k1, pl_cu_sk (a := t + 1) (by omega) (by omega) (by omega), hcm.2.2.1, k2]
    rfl
  have htc : pl_tc T t e := pl_tc_app (pl_tc_1 (by omega) (by omega) (by omega) (by omega) (fun _ => by omega)) (pl_tc_app (pl_tc_1 (a := t + 1) (by omega) (by omega) (by omega) (by omega) (fun q => by omega)) (pl_tc_cm htt hcm (by omega) (by omega)))
  refine pl_leafN (rc := rc) (x3 := x3) (e := e) (r := (2, t, q, 0, s + 1, E, e + 1)) hZ his h42 hse hp hx hbs hkb hbl hlast hsv (Or.inl rfl) rfl (show t ≤ e by omega) (by omega) k4 htc (fun z => absurd z (show ¬ 2 = 8 by decide)) (fun z => absurd z (show ¬ 2 = 8 by decide)) (fun τ1 f' hpX fX hls => ?_)
  have n1 := pl_nd_fm i2 fX
  have w1 := pl_wh_fm i3 fX
  have wG : pl_wh τ1 (k + 2) (nI k) G := pl_wh_c (A := [(13, t, nI t, 1)]) (C := []) w1 (by rw [List.append_nil]; rfl) (by show 2 + G.length = 1 + ((13, t, nI t, 1) :: G).length; rw [List.length_cons]; omega) ⟨⟨Nat.le_refl _, Nat.le_refl _⟩, trivial⟩ (pl_sm_ro hsm)
  have h13 : τ1.2.1 13 k = nI 5 := n1.1.1
  obtain ⟨idn, e15, hidm, hsn⟩ : ∃ id, τ1.2.1 15 (k + 1) = nI id ∧ id < m ∧ pl_sn T (rep id) t := n1.2.1.2.2.1 rfl
  have e14 : τ1.2.1 14 (k + 1) = nI (pl_xP T t) := n1.2.1.2.1
  have e17 : τ1.2.1 17 (k + 1) = nI 1 := n1.2.1.2.2.2.2
  have nG : pl_nd T τ1 m rep (k + 2) G := n1.2.2
  obtain ⟨m1, m2⟩ := pl_nmX hls (x := k + 1) k1 (by omega) e14 e15 hidm hsn false
  obtain ⟨l1, l2⟩ := pl_lkX hls nG wG (pl_sm_xf _ _ _ hsm) (pl_sm_vn _ _ _ hsm).2 (pl_sm_ro hsm) (by omega) (by omega) (by rw [h13]; decide)
  have h42x : τ1.1 0 42 = nI (A ++ E).length := hls.2.2.1.2.2.1
  have hsec : ∀ τx : pr_St, τx.2.1 17 (k + 1) = nI 1 → prf_X_second τx (nI k) = some (nI (k + 2)) := by
    intro τx hx
    unfold prf_X_second
    rw [nI_1, pl_behX (by omega) hx, pl_sb]
  have head : prf_X_statement5_96 rc (f' + 1) τ1 (nI k) (nI b) x3 (nI ii) (nI p) (nI (A ++ E).length) = (prf_X_lookName τ1 (nI (k + 1)) 0).bind fun r192 => if r192.1 = 0 then some (pl_e22 r192.2 p) else (prf_X_second r192.2 (nI k)).bind fun r195 => (prf_X_lookAll r192.2 r195).bind fun r196 => some (pl_e22 r196.2 p) := by
    rw [prf_X_statement5_96, h42x, if_pos (Int32.le_refl _), pl_ck (by omega) (by omega), nI_clamp (by omega), h13, if_neg (by decide), if_neg (by decide), if_pos (by rfl), nI_1]
    simp only [pl_e22_X (show p < 250 by omega)]
  rw [head]
  show ((∀ c, c ∈ pl_cu (pl_xK T) t e → pl_yes T E c) → _) ∧ (∀ w pt, pl_bad T E (pl_cu (pl_xK T) t e) w pt → _)
  rw [ecu]
  constructor
  · intro hall
    obtain ⟨i, e0, g1, g2⟩ := pl_bad_1 k1 (hall (t, false) (List.mem_cons_self ..))
    have hnm : prf_X_lookName τ1 (nI (k + 1)) 0 = some (1, τ1) := m1 i e0 g1 g2
    rw [hnm, pl_sb, if_neg (show ¬ ((1 : Int32), τ1).1 = 0 from pl_10), hsec τ1 e17, pl_sb, l1 (fun c hc => hall c (List.mem_cons_of_mem _ hc)), pl_sb]
  · intro w pt hbad
    rcases pl_bad_cons hbad with hno | ⟨hy, hb2⟩
    · have hnm : prf_X_lookName τ1 (nI (k + 1)) 0 = some (0, pl_wX T τ1 w pt) := m2 w pt hno
      rw [hnm, pl_sb, if_pos rfl]
    · obtain ⟨i, e0, g1, g2⟩ := pl_bad_1 k1 hy
      have hnm : prf_X_lookName τ1 (nI (k + 1)) 0 = some (1, τ1) := m1 i e0 g1 g2
      rw [hnm, pl_sb, if_neg (show ¬ ((1 : Int32), τ1).1 = 0 from pl_10), hsec τ1 e17, pl_sb, l2 w pt hb2, pl_sb]
theorem pl_stPlaceL {rc : pr_St → Int32 → Int32 → Int32 → Int32 → Option pr_St} {T : pl_Tx} {m : Nat} {rep : Nat → Nat} {Ps : List pl_En} {W : pl_Wt} {A E : List (Nat × Bool)} {d p ii nb bb fi send b bF f k s q bs x : Nat} {par x3 : Int32} {σ τ : pr_St} {F : List pl_N} {S : List pl_S} {O : List pl_O} (hc : pl_cx T m rep Ps W A E d p ii nb bb fi send b bF f k s q bs x par σ τ F S O) (hp : p < 249) (h : pl_st5 T s q E F S O) : pl_LS T m rep Ps W A E d p ii bb fi send b bF k s bs x par σ τ F S 3 (prf_X_statement5 rc τ (nI k) (nI b) x3 par (nI ii)) := by
  obtain ⟨t, e1, e, G, H, Q, R, k1, k2, k3, k4, k5, hcm, hcm2, hsm, hsm2, rfl, rfl, rfl⟩ := h
  obtain ⟨hZ, his, h42, hse, hx, hbs, hkb, hbl, hlast, hsv, hss⟩ := hc
  have hown := (pl_own hZ.1 his).2
  have hown : e + 1 ≤ pl_xc T := hown
  have htt := hZ.1.1
  have hte : t + 2 < e1 := hcm.1
  have hte2 : e1 + 2 < e := hcm2.1
  obtain ⟨i1, i2, i3, i4, i5, i6, ⟨i71, i72, i73, i74⟩, i8⟩ := id his
  rw [List.length_cons, List.length_cons, List.length_append] at i72
  have ecu : pl_cu (pl_xK T) t e = (t, true) :: (pl_cl false G ++ pl_cl false H) := by
    rw [pl_cu_nm (by omega) k1, pl_cu_sk (a := t + 1) (by omega) (by omega) (by omega), pl_cu_app (b := e1) (by omega) (by omega), pl_cu_sk (a := e1) (by omega) (by omega) (by omega), pl_cu_sk (a := e1 + 1) (by omega) (by omega) (by omega), hcm.2.2.1, hcm2.2.2.1, k2]
    rfl
  have htc : pl_tc T t e := pl_tc_app (pl_tc_1 (by omega) (by omega) (by omega) (by omega) (fun _ => by omega)) (pl_tc_app (pl_tc_1 (a := t + 1) (by omega) (by omega) (by omega) (by omega) (fun q => by omega)) (pl_tc_app (pl_tc_cm htt hcm (by omega) (by omega)) (pl_tc_app (pl_tc_1 (by omega) (by omega) (by omega) (by omega) (fun q => by omega)) (pl_tc_app (pl_tc_1 (a := e1 + 1) (by omega) (by omega) (by omega) (by omega) (fun q => by omega)) (pl_tc_cm htt hcm2 (by omega) (by omega))))))
  refine pl_leafN (rc := rc) (x3 := x3) (e := e) (r := (3, t, q, 0, s + 1, E, e + 1)) hZ his h42 hse hp hx hbs hkb hbl hlast hsv (Or.inr (Or.inl rfl)) rfl (show t ≤ e by omega) (by omega) k5 htc (fun z => absurd z (show ¬ 3 = 8 by decide)) (fun z => absurd z (show ¬ 3 = 8 by decide)) (fun τ1 f' hpX fX hls => ?_)
  have n1 := pl_nd_fm i2 fX
  have w1 := pl_wh_fm i3 fX
  have nG1 : pl_ns G := (pl_sm_vn _ _ _ hsm).2
  have wG : pl_wh τ1 (k + 2) (nI k) G := pl_wh_c (A := [(13, t, nI t, 1)]) (C := H) w1 rfl (by show 2 + (G ++ H).length = 1 + ((13, t, nI t, 1) :: (G ++ H)).length; rw [List.length_cons]; omega) ⟨⟨Nat.le_refl _, Nat.le_refl _⟩, trivial⟩ (pl_sm_ro hsm)
  have wH : pl_wh τ1 (k + 2 + G.length) (nI k) H := by
    have := pl_wh_c (A := (13, t, nI t, 1) :: G) (C := []) w1 (by rw [List.append_nil]; rfl) (by show 2 + (G ++ H).length = 1 + ((13, t, nI t, 1) :: (G ++ H)).length; rw [List.length_cons]; omega) ⟨⟨Nat.le_refl _, by show 1 ≤ 1 + G.length; omega⟩, nG1⟩ (pl_sm_ro hsm2)
    rw [List.length_cons, show k + 1 + (G.length + 1) = k + 2 + G.length by omega] at this
    exact this
  have h13 : τ1.2.1 13 k = nI 6 := n1.1.1
  obtain ⟨idn, e15, hidm, hsn⟩ : ∃ id, τ1.2.1 15 (k + 1) = nI id ∧ id < m ∧ pl_sn T (rep id) t := n1.2.1.2.2.1 rfl
  have e14 : τ1.2.1 14 (k + 1) = nI (pl_xP T t) := n1.2.1.2.1
  have e17 : τ1.2.1 17 (k + 1) = nI 1 := n1.2.1.2.2.2.2
  obtain ⟨nG, nH⟩ := pl_nd_l _ _ _ (show pl_nd T τ1 m rep (k + 2) (G ++ H) from n1.2.2)
  have e17G : τ1.2.1 17 (k + 2) = nI G.length := by
    obtain ⟨g0, l0, eg, hg⟩ := pl_sm_ro hsm
    rw [← hg]
    rw [eg] at nG
    exact nG.1.2.2.2.2
  obtain ⟨m1, m2⟩ := pl_nmX hls (x := k + 1) k1 (by omega) e14 e15 hidm hsn true
  obtain ⟨l1, l2⟩ := pl_lkX hls nG wG (pl_sm_xf _ _ _ hsm) nG1 (pl_sm_ro hsm) (by omega) (by omega) (by rw [h13]; decide)
  obtain ⟨l3, l4⟩ := pl_lkX hls nH wH (pl_sm_xf _ _ _ hsm2) (pl_sm_vn _ _ _ hsm2).2 (pl_sm_ro hsm2) (by omega) (by omega) (by rw [h13]; decide)
  have h42x : τ1.1 0 42 = nI (A ++ E).length := hls.2.2.1.2.2.1
  have hsec : prf_X_second τ1 (nI k) = some (nI (k + 2)) := by
    unfold prf_X_second
    rw [nI_1, pl_behX (by omega) e17, pl_sb]
  have head : prf_X_statement5_96 rc (f' + 1) τ1 (nI k) (nI b) x3 (nI ii) (nI p) (nI (A ++ E).length) = (prf_X_lookName τ1 (nI (k + 1)) 1).bind fun r199 => if r199.1 = 0 then some (pl_e22 r199.2 p) else (prf_X_second r199.2 (nI k)).bind fun r202 => (prf_X_lookAll r199.2 r202).bind fun r203 => if r203.1 = 0 then some (pl_e22 r203.2 p) else (prf_X_second r203.2 (nI k)).bind fun r206 => (prf_X_behind r203.2 r206).bind fun r207 => (prf_X_lookAll r203.2 r207).bind fun r208 => some (pl_e22 r208.2 p) := by
    rw [prf_X_statement5_96, h42x, if_pos (Int32.le_refl _), pl_ck (by omega) (by omega), nI_clamp (by omega), h13, if_neg (by decide), if_neg (by decide), if_neg (by decide), if_pos (by rfl), nI_1]
    simp only [pl_e22_X (show p < 250 by omega)]
  rw [head]
  show ((∀ c, c ∈ pl_cu (pl_xK T) t e → pl_yes T E c) → _) ∧ (∀ w pt, pl_bad T E (pl_cu (pl_xK T) t e) w pt → _)
  rw [ecu]
  have n0 : ¬ ((1 : Int32), τ1).1 = 0 := pl_10
  constructor
  · intro hall
    obtain ⟨i, e0, g1, g2⟩ := pl_bad_1 k1 (hall (t, true) (List.mem_cons_self ..))
    have hnm : prf_X_lookName τ1 (nI (k + 1)) 1 = some (1, τ1) := m1 i e0 g1 g2
    rw [hnm, pl_sb, if_neg n0, hsec, pl_sb, l1 (fun c hc => hall c (List.mem_cons_of_mem _ (List.mem_append_left _ hc))), pl_sb, if_neg n0, hsec, pl_sb, pl_behX (by omega) e17G, pl_sb, l3 (fun c hc => hall c (List.mem_cons_of_mem _ (List.mem_append_right _ hc))), pl_sb]
  · intro w pt hbad
    rcases pl_bad_cons hbad with hno | ⟨hy, hb2⟩
    · have hnm : prf_X_lookName τ1 (nI (k + 1)) 1 = some (0, pl_wX T τ1 w pt) := m2 w pt hno
      rw [hnm, pl_sb, if_pos rfl]
    · obtain ⟨i, e0, g1, g2⟩ := pl_bad_1 k1 hy
      have hnm : prf_X_lookName τ1 (nI (k + 1)) 1 = some (1, τ1) := m1 i e0 g1 g2
      rcases pl_bad_app hb2 with hb3 | ⟨hy2, hb3⟩
      · rw [hnm, pl_sb, if_neg n0, hsec, pl_sb, l2 w pt hb3, pl_sb, if_pos rfl]
      · rw [hnm, pl_sb, if_neg n0, hsec, pl_sb, l1 hy2, pl_sb, if_neg n0, hsec, pl_sb, pl_behX (by omega) e17G, pl_sb, l4 w pt hb3, pl_sb]
theorem pl_stAssL {rc : pr_St → Int32 → Int32 → Int32 → Int32 → Option pr_St} {T : pl_Tx} {m : Nat} {rep : Nat → Nat} {Ps : List pl_En} {W : pl_Wt} {A E : List (Nat × Bool)} {d p ii nb bb fi send b bF f k s q bs x : Nat} {par x3 : Int32} {σ τ : pr_St} {F : List pl_N} {S : List pl_S} {O : List pl_O} (hc : pl_cx T m rep Ps W A E d p ii nb bb fi send b bF f k s q bs x par σ τ F S O) (hp : p < 249) (h : pl_st9 T s q E F S O) : pl_LS T m rep Ps W A E d p ii bb fi send b bF k s bs x par σ τ F S 7 (prf_X_statement5 rc τ (nI k) (nI b) x3 par (nI ii)) := by
  obtain ⟨t, e, C, k1, k2, k3, k4, hcm, hcd, rfl, rfl⟩ := h
  obtain ⟨hZ, his, h42, hse, hx, hbs, hkb, hbl, hlast, hsv, hss⟩ := hc
  have hown := (pl_own hZ.1 his).2
  have hown : e + 2 ≤ pl_xc T := hown
  have htt := hZ.1.1
  have hte : t + 2 < e := hcm.1
  obtain ⟨i1, i2, i3, i4, i5, i6, ⟨i71, i72, i73, i74⟩, i8⟩ := id his
  rw [List.length_cons] at i72
  have ecu : pl_cu (pl_xK T) t (e + 1) = pl_cl false C := by
    rw [pl_cu_sk (a := t) (by omega) (by omega) (by omega), pl_cu_sk (a := t + 1) (by omega) (by omega) (by omega), pl_cu_se (by omega) (by omega) (by omega), hcm.2.2.1]
  have htc : pl_tc T t (e + 1) := pl_tc_app (pl_tc_1 (by omega) (by omega) (by omega) (by omega) (fun _ => by omega)) (pl_tc_app (pl_tc_1 (a := t + 1) (by omega) (by omega) (by omega) (by omega) (fun q => by omega)) (pl_tc_app (pl_tc_cm htt hcm (by omega) (by omega)) (pl_tc_1 (by omega) (by omega) (by omega) (by omega) (fun q => by omega))))
  refine pl_leafN (rc := rc) (x3 := x3) (e := e + 1) (r := (7, t, q, 0, s + 1, E, e + 2)) hZ his h42 hse hp hx hbs hkb hbl hlast hsv (Or.inr (Or.inr (Or.inl rfl))) rfl (show t ≤ e + 1 by omega) (by omega) k4 htc (fun z => absurd z (show ¬ 7 = 8 by decide)) (fun z => absurd z (show ¬ 7 = 8 by decide)) (fun τ1 f' hpX fX hls => ?_)
  have n1 := pl_nd_fm i2 fX
  have w1 := pl_wh_fm i3 fX
  have wG : pl_wh τ1 (k + 1) (nI k) C := pl_wh_c (A := []) (C := []) w1 (by rw [List.append_nil]; rfl) rfl trivial (pl_cd_ro hcd)
  have h13 : τ1.2.1 13 k = nI 10 := n1.1.1
  have nG : pl_nd T τ1 m rep (k + 1) C := n1.2
  obtain ⟨l1, l2⟩ := pl_lkX hls nG wG (pl_cd_xf _ _ _ _ hcd) (pl_cd_vn _ _ _ _ hcd).2 (pl_cd_ro hcd) (by omega) (by omega) (by rw [h13]; decide)
  have h42x : τ1.1 0 42 = nI (A ++ E).length := hls.2.2.1.2.2.1
  have head : prf_X_statement5_96 rc (f' + 1) τ1 (nI k) (nI b) x3 (nI ii) (nI p) (nI (A ++ E).length) = (prf_X_lookAll τ1 (nI (k + 1))).bind fun r244 => some (pl_e22 r244.2 p) := by
    rw [prf_X_statement5_96, h42x, if_pos (Int32.le_refl _), pl_ck (by omega) (by omega), nI_clamp (by omega), h13, if_neg (by decide), if_neg (by decide), if_neg (by decide), if_neg (by decide), if_neg (by decide), if_neg (by decide), if_neg (by decide), if_pos (by rfl), nI_1]
    simp only [pl_e22_X (show p < 250 by omega)]
  rw [head]
  show ((∀ c, c ∈ pl_cu (pl_xK T) t (e + 1) → pl_yes T E c) → _) ∧ (∀ w pt, pl_bad T E (pl_cu (pl_xK T) t (e + 1)) w pt → _)
  rw [ecu]
  exact ⟨fun hall => by rw [l1 hall, pl_sb], fun w pt hbad => by rw [l2 w pt hbad, pl_sb]⟩
