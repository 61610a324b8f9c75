/-! THE LAYOUT: parameters of the function called -/
theorem pl_fpC {T : pl_Tx} {m : Nat} {rep : Nat → Nat} {Ps : List pl_En} {σ τ : pr_St} (h : pl_bs T m rep Ps σ τ) {j nf sf qf : Nat} {e : pl_En} (g : pl_fn T m rep Ps σ τ j nf sf qf e) : prf_G_parametersOf σ (nI j) = some (nI e.2.1) ∧ (∀ i, i < e.2.1 → prf_G_parameterToken σ (nI j) (nI i) = some (nI (e.1 + 3 + 2 * i))) ∧ prf_G_beginOf σ (nI j) = some (nI sf) ∧ prf_G_endOf σ (nI j) = some (nI (sf + (pl_b2 e.2.2.2).length)) := by
  obtain ⟨z1, z2, z3, z4, z5, z6⟩ := pl_bd_fn h g
  have h5 := h.2.2.2.2.2.2.2.2.2.1
  have h889 := h.2.2.2.2.2.1
  have c8 := pl_c8 h.1
  obtain ⟨⟨r12, r13, r14, r15, _⟩, _⟩ := g.2.2.1
  have hj := g.2.2.2.2.1
  have isF : prf_G_isFunction σ (nI j) = some 1 := by
    unfold prf_G_isFunction
    rw [if_neg (nI_pos (by omega)), h5, if_neg (nI_ge (by omega) (by omega))]
  unfold prf_G_parametersOf prf_G_parameterToken prf_G_nameOf prf_G_beginOf prf_G_endOf
  rw [isF]
  simp only [pl_sb, if_neg pl_10]
  rw [pl_ck (by omega) (by omega), pl_ck (by omega) (by omega), pl_ck (by omega) (by omega), pl_ck (by omega) (by omega), nI_clamp (by omega), r12, r13, r14, r15]
  refine ⟨rfl, fun i hi => ?_, rfl, rfl⟩
  rw [pl_sb]
  have e2 : (2 : Int32) * nI i = nI (2 * i) := pk_mul (a := 2) (b := i)
  rw [pl_n2, e2, nI_add, show e.1 + 1 + 2 + 2 * i = e.1 + 3 + 2 * i by omega]
/-- the nodes of the parameters -/
def pl_pn1d (T : pl_Tx) (τ : pr_St) (m : Nat) (rep : Nat → Nat) (k t n : Nat) : Prop := ∀ i, i < n → τ.2.1 14 (k + i) = nI (pl_xP T (t + 2 * i)) ∧ ∃ id, τ.2.1 15 (k + i) = nI id ∧ id < m ∧ pl_sn T (rep id) (t + 2 * i)
theorem pl_par_nd {T : pl_Tx} {τ : pr_St} {m : Nat} {rep : Nat → Nat} : ∀ (n t k : Nat) (l : List pl_N), pl_nd T τ m rep k (pl_par t n ++ l) → pl_pn1d T τ m rep k t n := by
  intro n
  induction n with
  | zero => intro t k l _ i hi; omega
  | succ n ih =>
    intro t k l h i hi
    have h' : pl_nd T τ m rep k ((13, t, nI t, 1) :: (pl_par (t + 2) n ++ l)) := h
    cases i with
    | zero => exact ⟨h'.1.2.1, h'.1.2.2.1 rfl⟩
    | succ i =>
      have := ih (t + 2) (k + 1) l h'.2 i (by omega)
      rw [show k + (i + 1) = k + 1 + i by omega, show t + 2 * (i + 1) = t + 2 + 2 * i by omega]
      exact this
theorem pl_fpX {T : pl_Tx} {m : Nat} {rep : Nat → Nat} {Ps : List pl_En} {σ τ : pr_St} {j nf sf qf : Nat} {e : pl_En} (g : pl_fn T m rep Ps σ τ j nf sf qf e) : pl_pn1d T τ m rep (nf + 2) (e.1 + 3) e.2.1 := by
  have hnd : pl_nd T τ m rep nf (pl_eF e) := g.2.2.1.2.2.2.1
  have : pl_nd T τ m rep (nf + 1 + 1) (pl_par (e.1 + 3) e.2.1 ++ pl_eB e) := hnd.2.2
  exact pl_par_nd _ _ _ _ this
/-- what the reference does when they differ -/
def pl_242e (rc : pr_St → Int32 → Int32 → Int32 → Int32 → Option pr_St) (σ : pr_St) (x1 x2 x4 x5 x7 x8 x9 x10 : Int32) : Option pr_St :=
  if ((σ.1 0 45) + x5) ≤ 12 then
   prf_X_call_336 rc pr_FU σ x2 x4 x5 x7 x8 x9 x10 0
  else
   (prf_X_wrong σ 10 x1).bind fun r52 =>
   some r52.2
theorem pl_dup {rc : pr_St → Int32 → Int32 → Int32 → Int32 → Option pr_St} {T : pl_Tx} {m : Nat} {rep : Nat → Nat} {Ps : List pl_En} {σ τ : pr_St} (h : pl_bs T m rep Ps σ τ) {j nf sf qf : Nat} {e : pl_En} (g : pl_fn T m rep Ps σ τ j nf sf qf e) (h13 : σ.1 6 13 = nI j) (h47 : τ.1 0 47 = 0) (x1 x2 x7 x8 x9 x10 : Int32) :
    (∃ pt, prf_Y_parametersHold σ = some (0, pl_wC T σ 2 pt) ∧ prf_X_call_242 rc pr_FU τ x1 x2 (nI nf) (nI e.2.1) x7 x8 x9 x10 0 = some (pl_wX T τ 2 pt)) ∨ (prf_Y_parametersHold σ = some (1, σ) ∧ prf_X_call_242 rc pr_FU τ x1 x2 (nI nf) (nI e.2.1) x7 x8 x9 x10 0 = pl_242e rc τ x1 x2 (nI nf) (nI e.2.1) x7 x8 x9 x10) := by
  obtain ⟨z1, z2, z3, z4, z5, z6⟩ := pl_bd_fn h g
  obtain ⟨p1, p2, _, _⟩ := pl_fpC h g
  have hpn := pl_fpX g
  have elen := pl_eF_len e
  have c8 := pl_c8 h.1
  have hm := h.2.2.2.1
  have hr := h.2.2.1
  have hF : pr_FU = 100000 := rfl
  -- one parameter against those before it
  have inner : ∀ (kk : pr_St → Int32 → Option (Int32 × pr_St)) (kx : pr_St → Int32 → Int32 → Int32 → Int32 → Int32 → Int32 → Int32 → Int32 → Int32 → Option pr_St) (i : Nat), i < e.2.1 → ∀ (r u f f' : Nat), u + r = i → r + 1 ≤ f → r + 1 ≤ f' → (∃ pt, prf_Y_parametersHold_32 kk f σ (nI i) (nI (e.1 + 3 + 2 * i)) (nI u) = some (0, pl_wC T σ 2 pt) ∧ prf_X_call_252 rc kx f' τ x1 x2 (nI nf) (nI e.2.1) x7 x8 x9 x10 (nI i) (nI u) = some (pl_wX T τ 2 pt)) ∨ (prf_Y_parametersHold_32 kk f σ (nI i) (nI (e.1 + 3 + 2 * i)) (nI u) = kk σ (nI (i + 1)) ∧ prf_X_call_252 rc kx f' τ x1 x2 (nI nf) (nI e.2.1) x7 x8 x9 x10 (nI i) (nI u) = kx τ x1 x2 (nI nf) (nI e.2.1) x7 x8 x9 x10 (nI (i + 1))) := by
    intro kk kx i hi r
    induction r with
    | zero =>
      intro u f f' hu hf hf'
      obtain ⟨f, rfl⟩ : ∃ z, f = z + 1 := ⟨f - 1, by omega⟩
      obtain ⟨f', rfl⟩ : ∃ z, f' = z + 1 := ⟨f' - 1, by omega⟩
      refine Or.inr ⟨?_, ?_⟩
      · rw [prf_Y_parametersHold_32, if_pos (nI_le (by omega) (by omega)), nI_1]
      · rw [prf_X_call_252, if_pos (nI_le (by omega) (by omega)), nI_1]
    | succ r ih =>
      intro u f f' hu hf hf'
      obtain ⟨f, rfl⟩ : ∃ z, f = z + 1 := ⟨f - 1, by omega⟩
      obtain ⟨f', rfl⟩ : ∃ z, f' = z + 1 := ⟨f' - 1, by omega⟩
      obtain ⟨i14, ii, i15, hii, hsi⟩ := hpn i hi
      obtain ⟨u14, uu, u15, huu, hsu⟩ := hpn u (by omega)
      obtain ⟨s1, s2⟩ := pl_same h.1 h.2.1 (show e.1 + 3 + 2 * i < pl_xc T by omega) (show e.1 + 3 + 2 * u < pl_xc T by omega) (z6 i hi) (z6 u (by omega))
      have eC : prf_Y_parametersHold_32 kk (f + 1) σ (nI i) (nI (e.1 + 3 + 2 * i)) (nI u) = (prf_T_sameName σ (nI (e.1 + 3 + 2 * i)) (nI (e.1 + 3 + 2 * u))).bind fun r12 => if r12 = 0 then prf_Y_parametersHold_32 kk f σ (nI i) (nI (e.1 + 3 + 2 * i)) (nI (u + 1)) else some (0, pl_wC T σ 2 (e.1 + 3 + 2 * i)) := by
        rw [prf_Y_parametersHold_32, if_neg (nI_ge (by omega) (by omega)), h13, p2 u (by omega), pl_sb, pl_isW h.1 (show e.1 + 3 + 2 * i < pl_xc T by omega), pl_sb, nI_1]
        rfl
      have eX : prf_X_call_252 rc kx (f' + 1) τ x1 x2 (nI nf) (nI e.2.1) x7 x8 x9 x10 (nI i) (nI u) = if nI ii = nI uu then some (pl_wX T τ 2 (e.1 + 3 + 2 * i)) else prf_X_call_252 rc kx f' τ x1 x2 (nI nf) (nI e.2.1) x7 x8 x9 x10 (nI i) (nI (u + 1)) := by
        rw [prf_X_call_252, if_neg (nI_ge (by omega) (by omega)), pl_n2, nI_add, nI_add, pl_ck (by omega) (by omega), pl_ck (by omega) (by omega), nI_clamp (by omega), nI_clamp (by omega), i15, u15, pl_wrX h47 (by omega) i14, pl_sb, nI_1]
      rw [eC, eX]
      by_cases q : pl_sn T (e.1 + 3 + 2 * i) (e.1 + 3 + 2 * u)
      · rw [s1 q, pl_sb, if_neg pl_10, if_pos (by rw [(pl_ids hr hii huu hsi hsu).mpr q])]
        exact Or.inl ⟨_, rfl, rfl⟩
      · rw [s2 q, pl_sb, if_pos rfl, if_neg (fun w => q ((pl_ids hr hii huu hsi hsu).mp ((nI_eq (by omega) (by omega)).mp w)))]
        exact ih (u + 1) f f' (by omega) (by omega) (by omega)
  have outer : ∀ (r i f f' : Nat), i + r = e.2.1 → r + 1 ≤ f → r + 1 ≤ f' → (∃ pt, prf_Y_parametersHold_2 f σ (nI i) = some (0, pl_wC T σ 2 pt) ∧ prf_X_call_242 rc f' τ x1 x2 (nI nf) (nI e.2.1) x7 x8 x9 x10 (nI i) = some (pl_wX T τ 2 pt)) ∨ (prf_Y_parametersHold_2 f σ (nI i) = some (1, σ) ∧ prf_X_call_242 rc f' τ x1 x2 (nI nf) (nI e.2.1) x7 x8 x9 x10 (nI i) = pl_242e rc τ x1 x2 (nI nf) (nI e.2.1) x7 x8 x9 x10) := by
    intro r
    induction r with
    | zero =>
      intro i f f' hi hf hf'
      obtain ⟨f, rfl⟩ : ∃ z, f = z + 1 := ⟨f - 1, by omega⟩
      obtain ⟨f', rfl⟩ : ∃ z, f' = z + 1 := ⟨f' - 1, by omega⟩
      refine Or.inr ⟨?_, ?_⟩
      · rw [prf_Y_parametersHold_2, h13, p1, pl_sb, if_pos (nI_le (by omega) (by omega))]
      · rw [prf_X_call_242, if_pos (nI_le (by omega) (by omega))]
        rfl
    | succ r ih =>
      intro i f f' hi hf hf'
      obtain ⟨f, rfl⟩ : ∃ z, f = z + 1 := ⟨f - 1, by omega⟩
      obtain ⟨f', rfl⟩ : ∃ z, f' = z + 1 := ⟨f' - 1, by omega⟩
      have eC : prf_Y_parametersHold_2 (f + 1) σ (nI i) = prf_Y_parametersHold_32 (prf_Y_parametersHold_2 f) pr_FU σ (nI i) (nI (e.1 + 3 + 2 * i)) (nI 0) := by
        rw [prf_Y_parametersHold_2, h13, p1, pl_sb, if_neg (nI_ge (by omega) (by omega)), p2 i (by omega), pl_sb]
        rfl
      have eX : prf_X_call_242 rc (f' + 1) τ x1 x2 (nI nf) (nI e.2.1) x7 x8 x9 x10 (nI i) = prf_X_call_252 rc (prf_X_call_242 rc f') pr_FU τ x1 x2 (nI nf) (nI e.2.1) x7 x8 x9 x10 (nI i) (nI 0) := by
        rw [prf_X_call_242, if_neg (nI_ge (by omega) (by omega))]
        rfl
      rw [eC, eX]
      rcases inner (prf_Y_parametersHold_2 f) (prf_X_call_242 rc f') i (by omega) i 0 pr_FU pr_FU (by omega) (by rw [hF]; omega) (by rw [hF]; omega) with q | ⟨q1, q2⟩
      · exact Or.inl q
      · rw [q1, q2]
        exact ih (i + 1) f f' (by omega) (by omega) (by omega)
  unfold prf_Y_parametersHold
  by_cases q0 : e.2.1 = 0
  · refine Or.inr ⟨?_, ?_⟩
    · rw [show pr_FU = 99999 + 1 from rfl, prf_Y_parametersHold_2, h13, p1, pl_sb, q0, if_pos (by decide)]
    · rw [show pr_FU = 99999 + 1 from rfl, prf_X_call_242, q0, if_pos (by decide)]
      rfl
  · have e0 : prf_X_call_242 rc pr_FU τ x1 x2 (nI nf) (nI e.2.1) x7 x8 x9 x10 0 = prf_X_call_242 rc 99999 τ x1 x2 (nI nf) (nI e.2.1) x7 x8 x9 x10 (nI 1) := by
      have h1 : prf_X_call_242 rc pr_FU τ x1 x2 (nI nf) (nI e.2.1) x7 x8 x9 x10 0 = prf_X_call_252 rc (prf_X_call_242 rc 99999) pr_FU τ x1 x2 (nI nf) (nI e.2.1) x7 x8 x9 x10 0 0 := by
        conv => lhs; rw [show pr_FU = 99999 + 1 from rfl]
        rw [prf_X_call_242, if_neg (show ¬ nI e.2.1 ≤ 0 from fun w => nI_ge (a := 0) (b := e.2.1) (by omega) (by omega) w)]
      rw [h1, show pr_FU = 99999 + 1 from rfl, prf_X_call_252, if_pos (by decide)]
      rfl
    rw [e0]
    exact outer (e.2.1 - 1) 1 pr_FU 99999 (by omega) (by rw [hF]; omega) (by omega)
/-- the parameters are there on both sides -/
theorem pl_give {rc : pr_St → Int32 → Int32 → Int32 → Int32 → Option pr_St} {T : pl_Tx} {m : Nat} {rep : Nat → Nat} {Ps : List pl_En} {j nf sf qf nb1 : Nat} {e : pl_En} {xp x2 x7 x8 x9 : Int32} : ∀ (r i f f' : Nat) (V : List (Nat × Bool)) (σ τ : pr_St), pl_bs T m rep Ps σ τ → pl_fn T m rep Ps σ τ j nf sf qf e → σ.1 6 13 = nI j → i + r = e.2.1 → pl_scp T m rep σ τ V → pl_cnt false V + r ≤ 12 → ∃ σ' τ', prf_Y_layCall_38 (f + 1 + r) σ xp (nI i) = (prf_Y_openFunction σ' (nI j) xp).bind (fun r12 => some r12) ∧ prf_X_call_336 rc (f' + 1 + r) τ x2 (nI nf) (nI e.2.1) x7 x8 x9 (nI nb1) (nI i) = ((prf_X_blockOf τ' (nI nf)).bind fun r46 => (rc τ' r46 (nI nf) x2 (nI nb1)).bind fun r47 => some (pr_sI (pr_sI (pr_sI r47 0 42 x7) 0 43 x8) 0 45 x9)) ∧ pl_scp T m rep σ' τ' (V ++ pl_pe (e.1 + 3 + 2 * i) r) ∧ ((∀ o q, ¬ o = 5 → σ'.1 o q = σ.1 o q) ∧ (∀ a, ¬ (39 ≤ a ∧ a ≤ 41) → σ'.2.1 a = σ.2.1 a) ∧ (∀ a z, z < V.length → σ'.2.1 a z = σ.2.1 a z) ∧ σ'.2.2 = σ.2.2) ∧ ((∀ o q, ¬ (o = 0 ∧ (q = 42 ∨ q = 45)) → τ'.1 o q = τ.1 o q) ∧ (∀ a, ¬ (29 ≤ a ∧ a ≤ 32) → τ'.2.1 a = τ.2.1 a) ∧ (∀ a z, z < V.length → τ'.2.1 a z = τ.2.1 a z) ∧ τ'.2.2 = τ.2.2 ∧ ∀ v, V.length ≤ v → v < V.length + r → τ'.2.1 32 v = nI nb1) := by
  intro r
  induction r with
  | zero =>
    intro i f f' V σ τ hb g h13 hi hs _
    obtain ⟨p1, _, _, _⟩ := pl_fpC hb g
    obtain ⟨z1, z2, z3, z4, z5, z6⟩ := pl_bd_fn hb g
    have c8 := pl_c8 hb.1
    refine ⟨σ, τ, ?_, ?_, by rw [show pl_pe (e.1 + 3 + 2 * i) 0 = [] from rfl, List.append_nil]; exact hs, ⟨fun _ _ _ => rfl, fun _ _ => rfl, fun _ _ _ => rfl, rfl⟩, fun _ _ _ => rfl, fun _ _ => rfl, fun _ _ _ => rfl, rfl, fun v h1 h2 => by omega⟩
    · show prf_Y_layCall_38 (f + 1) σ xp (nI i) = _
      rw [prf_Y_layCall_38, h13, p1, pl_sb, if_pos (nI_le (by omega) (by omega))]
    · show prf_X_call_336 rc (f' + 1) τ x2 (nI nf) (nI e.2.1) x7 x8 x9 (nI nb1) (nI i) = _
      rw [prf_X_call_336, if_pos (nI_le (by omega) (by omega))]
  | succ r ih =>
    intro i f f' V σ τ hb g h13 hi hs h12
    obtain ⟨p1, p2, _, _⟩ := pl_fpC hb g
    obtain ⟨z1, z2, z3, z4, z5, z6⟩ := pl_bd_fn hb g
    have c8 := pl_c8 hb.1
    have elen := pl_eF_len e
    obtain ⟨i14, id, i15, hid, hsn⟩ := pl_fpX g i (by omega)
    have hl18 := pl_scp_len hs
    obtain ⟨σa, e1, e2, e3, e4, e5, e6, e7, e8, e9⟩ := pl_adC hs (e.1 + 3 + 2 * i) false (fun _ => by omega) (fun q => by cases q)
    obtain ⟨τa, hτa⟩ : ∃ τa, τa = pr_sI (pl_gv τ V.length (nI id) (nI (pl_cnt false V)) 0 (nI nb1)) 0 45 (nI (pl_cnt false V + 1)) := ⟨_, rfl⟩
    have cf : pl_cnt false (V ++ [(e.1 + 3 + 2 * i, false)]) = pl_cnt false V + 1 := by rw [pl_cnt_app]; rfl
    have ct : pl_cnt true (V ++ [(e.1 + 3 + 2 * i, false)]) = pl_cnt true V := by rw [pl_cnt_app]; rfl
    have hs2 : pl_scp T m rep σa τa (V ++ [(e.1 + 3 + 2 * i, false)]) := by
      refine pl_scp_ext hs (id := id) e2 e3 ?_ ?_ ?_ (by rw [cf]; omega) (by rw [ct]; exact hs.2.2.2.2.2.2.1) e4 e5 e6 ?_ ?_ ?_ (z6 i (by omega)) (by omega) hid hsn (fun q => by cases q)
      · rw [hτa, pr_sI_ne (by omega)]; exact pr_sI_same
      · rw [hτa, cf, pr_sI_same]
      · rw [hτa, ct, pr_sI_ne (by omega)]
        unfold pl_gv
        rw [pr_sI_ne (by omega)]
        exact hs.2.2.2.2.1
      · rw [hτa]; rfl
      · rw [hτa]; rfl
      · rw [hτa]; rfl
    have fa : pl_fr pl_FL pl_GL σ σa := by
      refine ⟨fun o k hok => e8 o k (fun q => ?_), fun a ha => e7 a (fun q => ?_), e9⟩
      · rw [q] at hok; cases hok
      · unfold pl_GL at ha
        rw [Nat.ble_eq_true_of_le (show 24 ≤ a by omega), Nat.ble_eq_true_of_le (show a ≤ 46 by omega)] at ha
        cases ha
    have ff : ∀ o q, ¬ (o = 0 ∧ (q = 42 ∨ q = 45)) → τa.1 o q = τ.1 o q := by
      intro o q hq
      rw [hτa, pr_sI_ne (by omega)]
      unfold pl_gv
      rw [pr_sI_ne (by omega)]
      rfl
    have fr : ∀ a, ¬ (29 ≤ a ∧ a ≤ 32) → τa.2.1 a = τ.2.1 a := by
      intro a ha
      rw [hτa]
      show (pr_sA (pr_sA (pr_sA (pr_sA τ 29 _) 30 _) 31 _) 32 _).2.1 a = _
      rw [pl_sA_ne (by omega), pl_sA_ne (by omega), pl_sA_ne (by omega), pl_sA_ne (by omega)]
    have rz : ∀ a z, ¬ z = V.length → τa.2.1 a z = τ.2.1 a z := by
      intro a z hz
      by_cases h29 : a = 29
      · subst h29; rw [hτa]; show upd _ _ _ z = _; rw [pk_un hz]
      by_cases h30 : a = 30
      · subst h30; rw [hτa]; show upd _ _ _ z = _; rw [pk_un hz]
      by_cases h31 : a = 31
      · subst h31; rw [hτa]; show upd _ _ _ z = _; rw [pk_un hz]
      by_cases h32 : a = 32
      · subst h32; rw [hτa]; show upd _ _ _ z = _; rw [pk_un hz]
      rw [fr a (by omega)]
    have cz : ∀ a z, ¬ z = V.length → σa.2.1 a z = σ.2.1 a z := by
      intro a z hz
      by_cases h39 : a = 39
      · subst h39; rw [e4, pk_un hz]
      by_cases h40 : a = 40
      · subst h40; rw [e5, pk_un hz]
      by_cases h41 : a = 41
      · subst h41; rw [e6, pk_un hz]
      rw [e7 a (by omega)]
    have fx : pl_fr pl_FM pl_GM τ τa := by
      refine ⟨fun o k hok => ff o k (fun q => ?_), fun a ha => fr a (fun q => ?_), by rw [hτa]; rfl⟩
      · rw [q.1] at hok
        rcases q.2 with q | q
        · rw [q] at hok; cases hok
        · rw [q] at hok; cases hok
      · unfold pl_GM at ha
        rw [Nat.ble_eq_true_of_le (show 20 ≤ a by omega), Nat.ble_eq_true_of_le (show a ≤ 32 by omega)] at ha
        cases ha
    have hb2 := pl_bs_fr hb fa fx
    have g2 : pl_fn T m rep Ps σa τa j nf sf qf e := by
      obtain ⟨g1, g2, g3, g4, g5, g6, g7⟩ := g
      refine ⟨g1, g2, ?_, g4, g5, pl_il_fr fa fx _ _ _ _ _ g6, g7⟩
      obtain ⟨⟨q1, q2, q3, q4, q5⟩, w2, w3, w4, w5, w6⟩ := g3
      refine ⟨⟨by rw [fa.2.1 12 rfl]; exact q1, by rw [fa.2.1 13 rfl]; exact q2, by rw [fa.2.1 14 rfl]; exact q3, by rw [fa.2.1 15 rfl]; exact q4, by rw [fa.2.1 16 rfl]; exact q5⟩, pl_sts_eq _ _ (fun r z _ hr _ _ => by rw [fa.2.1 r (pl_GL_lo (by omega))]) w2, pl_ops_fr (fa.2.1 22 rfl) (fa.2.1 23 rfl) _ _ w3, pl_nd_fm w4 fx, pl_wh_fm w5 fx, w6⟩
    obtain ⟨σ', τ', q1, q2, q3, ⟨c1, c2, c3, c4⟩, d1, d2, d3, d4, d5⟩ := ih (i + 1) f f' (V ++ [(e.1 + 3 + 2 * i, false)]) σa τa hb2 g2 (by rw [e8 6 13 (by decide)]; exact h13) (by omega) hs2 (by rw [cf]; omega)
    have lV : (V ++ [(e.1 + 3 + 2 * i, false)]).length = V.length + 1 := by rw [List.length_append]; rfl
    refine ⟨σ', τ', ?_, ?_, ?_, ⟨fun o q ho => by rw [c1 o q ho, e8 o q ho], fun a ha => by rw [c2 a ha, e7 a ha], fun a z hz => by rw [c3 a z (by omega), cz a z (by omega)], by rw [c4, e9]⟩, fun o q ho => by rw [d1 o q ho, ff o q ho], fun a ha => by rw [d2 a ha, fr a ha], fun a z hz => by rw [d3 a z (by omega), rz a z (by omega)], by rw [d4, hτa]; rfl, fun v h1 h2 => ?_⟩
    · rw [show f + 1 + (r + 1) = f + 1 + r + 1 by omega, prf_Y_layCall_38, h13, p1, pl_sb, if_neg (nI_ge (by omega) (by omega)), p2 i (by omega), pl_sb]
      have e1' : prf_S_add σ (nI (e.1 + 3 + 2 * i)) 0 = some σa := e1
      rw [e1', pl_sb, nI_1]
      exact q1
    · rw [show f' + 1 + (r + 1) = f' + 1 + r + 1 by omega, prf_X_call_336, if_neg (nI_ge (by omega) (by omega)), pl_n2, nI_add, pl_ck (by omega) (by omega), nI_clamp (by omega), i15, hs.2.2.2.1, pl_giveX hs.2.2.1 (by omega), pl_sb, nI_1]
      have e45 : (pl_gv τ V.length (nI id) (nI (pl_cnt false V)) 0 (nI nb1)).1 0 45 + 1 = nI (pl_cnt false V + 1) := by
        unfold pl_gv
        rw [pr_sI_ne (by omega)]
        show τ.1 0 45 + 1 = _
        rw [hs.2.2.2.1, nI_1]
      rw [e45, ← hτa]
      exact q2
    · have ep : V ++ pl_pe (e.1 + 3 + 2 * i) (r + 1) = (V ++ [(e.1 + 3 + 2 * i, false)]) ++ pl_pe (e.1 + 3 + 2 * (i + 1)) r := by
        rw [List.append_assoc, show e.1 + 3 + 2 * (i + 1) = e.1 + 3 + 2 * i + 2 by omega]
        rfl
      rw [ep]
      exact q3
    · by_cases hv : v = V.length
      · rw [hv, d3 32 V.length (by omega), hτa]
        show upd _ _ _ _ = _
        rw [pk_us]
      · exact d5 v (by omega) (by omega)
