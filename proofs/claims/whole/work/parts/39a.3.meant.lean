/-! THE LAYOUT: which function a call means, whether it returns -/
theorem pl_bd_fn {T : pl_Tx} {m : Nat} {rep : Nat → Nat} {Ps : List pl_En} {σ τ : pr_St} {fi nf sf qf : Nat} {e : pl_En} (h : pl_bs T m rep Ps σ τ) (g : pl_fn T m rep Ps σ τ fi nf sf qf e) : nf + (pl_eF e).length ≤ 12851 ∧ 1 ≤ nf ∧ fi ≤ 888 ∧ e.1 + 3 + 2 * e.2.1 ≤ pl_xc T ∧ pl_xK T (e.1 + 1) = 2 ∧ (∀ j, j < e.2.1 → pl_xK T (e.1 + 3 + 2 * j) = 2) := by
  obtain ⟨h1, h2, h3, h4, h5, h6, h7, h8, h9, h10, h11, h12, h13, h14, h15⟩ := h
  obtain ⟨g1, g2, g3, g4, g5, g6⟩ := g
  obtain ⟨_, _, _, _, _, k1, k2, k3, _⟩ := g3
  exact ⟨by omega, by omega, by omega, k3, k1, k2⟩
/-- the function that a call means: the latest one before f of that name -/
def pl_mf (T : pl_Tx) (Ps : List pl_En) (fi t j : Nat) : Prop := j < fi ∧ (∃ e, Ps[j]? = some e ∧ pl_sn T (e.1 + 1) t) ∧ ∀ i e, j < i → i < fi → Ps[i]? = some e → ¬ pl_sn T (e.1 + 1) t
def pl_mn (T : pl_Tx) (Ps : List pl_En) (fi t : Nat) : Prop := ∀ i e, i < fi → Ps[i]? = some e → ¬ pl_sn T (e.1 + 1) t
theorem pl_mfC {T : pl_Tx} {m : Nat} {rep : Nat → Nat} {Ps : List pl_En} {σ τ : pr_St} (h : pl_bs T m rep Ps σ τ) {t : Nat} (ht : t < pl_xc T) (kt : pl_xK T t = 2) : ∀ (j fi f : Nat), j ≤ fi → fi ≤ Ps.length → j + 1 ≤ f → (∀ i e, j ≤ i → i < fi → Ps[i]? = some e → ¬ pl_sn T (e.1 + 1) t) → (∃ x, pl_mf T Ps fi t x ∧ prf_Y_functionMeant_7 f σ (nI t) (nI j + (-1)) = some (nI x)) ∨ (pl_mn T Ps fi t ∧ prf_Y_functionMeant_7 f σ (nI t) (nI j + (-1)) = some (-1)) := by
  intro j
  have h889 := h.2.2.2.2.2.1
  have h5 := h.2.2.2.2.2.2.2.2.2.1
  induction j with
  | zero =>
    intro fi f _ _ hf hall
    obtain ⟨f, rfl⟩ : ∃ z, f = z + 1 := ⟨f - 1, by omega⟩
    refine Or.inr ⟨fun i e hi he => hall i e (by omega) hi he, ?_⟩
    have e0 : nI 0 + (-1) = (-1 : Int32) := by decide
    rw [e0, prf_Y_functionMeant_7, if_pos (by decide)]
  | succ j ih =>
    intro fi f hj hfi hf hall
    obtain ⟨f, rfl⟩ : ∃ z, f = z + 1 := ⟨f - 1, by omega⟩
    rw [pl_dn]
    obtain ⟨e, he⟩ : ∃ e, Ps[j]? = some e := ⟨Ps[j], List.getElem?_eq_getElem (by omega)⟩
    obtain ⟨sf, qf, g⟩ := pl_fn_get h he
    obtain ⟨z1, z2, z3, z4, z5, z6⟩ := pl_bd_fn h g
    have r12 : σ.2.1 12 j = nI (e.1 + 1) := g.2.2.1.1.1
    obtain ⟨s1, s2⟩ := pl_same h.1 h.2.1 (show e.1 + 1 < pl_xc T by omega) ht z5 kt
    have step : prf_Y_functionMeant_7 (f + 1) σ (nI t) (nI j) = (prf_T_sameName σ (nI (e.1 + 1)) (nI t)).bind fun r8 => if r8 = 0 then prf_Y_functionMeant_7 f σ (nI t) (nI j + (-1)) else some (nI j) := by
      rw [prf_Y_functionMeant_7, if_neg (nI_pos (by omega))]
      unfold prf_G_nameOf prf_G_isFunction
      rw [if_neg (nI_pos (by omega)), h5, if_neg (nI_ge (by omega) (by omega)), pl_sb, if_neg pl_10, pl_ck (by omega) (by omega), nI_clamp (by omega), r12, pl_sb]
    rw [step]
    by_cases q : pl_sn T (e.1 + 1) t
    · rw [s1 q, pl_sb, if_neg pl_10]
      exact Or.inl ⟨j, ⟨by omega, ⟨e, he, q⟩, fun i x hi hi2 hx => hall i x (by omega) hi2 hx⟩, rfl⟩
    · rw [s2 q, pl_sb, if_pos rfl]
      exact ih fi f (by omega) hfi (by omega) (fun i x hi hi2 hx => by
        by_cases z : i = j
        · subst z
          rw [he] at hx
          rw [← Option.some.inj hx]
          exact q
        · exact hall i x (by omega) hi2 hx)
theorem pl_tF_take {Ps : List pl_En} {i : Nat} {e : pl_En} (he : Ps[i]? = some e) : pl_tF (Ps.take (i + 1)) = pl_tF (Ps.take i) + (pl_eF e).length := by
  rw [List.take_add_one, he, pl_tF_app]
  show _ + ((pl_eF e).length + 0) = _
  omega
theorem pl_tF_mono {Ps : List pl_En} {i j : Nat} (h : i ≤ j) : pl_tF (Ps.take i) ≤ pl_tF (Ps.take j) := by
  have e : Ps.take j = (Ps.take i) ++ (Ps.take j).drop i := by
    have := List.take_append_drop i (Ps.take j)
    rw [List.take_take, Nat.min_eq_left h] at this
    exact this.symm
  rw [e, pl_tF_app]
  omega
theorem pl_mfX {T : pl_Tx} {m : Nat} {rep : Nat → Nat} {Ps : List pl_En} {σ τ : pr_St} (h : pl_bs T m rep Ps σ τ) {fi t id : Nat} (hfi : fi < Ps.length) (hid : id < m) (hsn : pl_sn T (rep id) t) : ∀ (r j f : Nat) (x : Int32), j + r = Ps.length → r + 1 ≤ f → ((∃ y, y < j ∧ pl_mf T Ps (min j fi) t y ∧ x = nI (1 + pl_tF (Ps.take y))) ∨ (pl_mn T Ps (min j fi) t ∧ x = -1)) → (∃ y, pl_mf T Ps fi t y ∧ prf_X_functionOf_5 f τ (nI id) (nI (1 + pl_tF (Ps.take fi))) x (nI (1 + pl_tF (Ps.take j))) = some (nI (1 + pl_tF (Ps.take y)))) ∨ (pl_mn T Ps fi t ∧ prf_X_functionOf_5 f τ (nI id) (nI (1 + pl_tF (Ps.take fi))) x (nI (1 + pl_tF (Ps.take j))) = some (-1)) := by
  intro r
  have h24 : τ.1 0 24 = nI (1 + pl_tF Ps) := h.2.2.2.2.2.2.2.2.2.2.2.2.1
  have hF := h.2.2.2.2.2.2.2.2.1
  induction r with
  | zero =>
    intro j f x hj hf hx
    obtain ⟨f, rfl⟩ : ∃ z, f = z + 1 := ⟨f - 1, by omega⟩
    have ej : j = Ps.length := by omega
    subst ej
    rw [Nat.min_eq_right (by omega)] at hx
    rw [prf_X_functionOf_5, h24, List.take_length, if_pos (Int32.le_refl _)]
    rcases hx with ⟨y, _, hy, rfl⟩ | ⟨hn, rfl⟩
    · exact Or.inl ⟨y, hy, rfl⟩
    · exact Or.inr ⟨hn, rfl⟩
  | succ r ih =>
    intro j f x hj hf hx
    obtain ⟨f, rfl⟩ : ∃ z, f = z + 1 := ⟨f - 1, by omega⟩
    obtain ⟨e, he⟩ : ∃ e, Ps[j]? = some e := ⟨Ps[j], List.getElem?_eq_getElem (by omega)⟩
    obtain ⟨sf, qf, g⟩ := pl_fn_get h he
    obtain ⟨z1, z2, z3, z4, z5, z6⟩ := pl_bd_fn h g
    have et := pl_tF_take he
    have hnd : pl_nd T τ m rep (1 + pl_tF (Ps.take j)) (pl_eF e) := g.2.2.1.2.2.2.1
    have hlen := pl_eF_len e
    have h17 : τ.2.1 17 (1 + pl_tF (Ps.take j)) = nI (pl_eF e).length := by
      have : τ.2.1 17 (1 + pl_tF (Ps.take j)) = nI (2 + e.2.1 + (pl_eB e).length) := hnd.1.2.2.2.2
      rw [this, hlen]
      unfold pl_eB
      rw [List.length_cons, show 2 + e.2.1 + ((pl_b1 e.2.2.2).length + 1) = 3 + e.2.1 + (pl_b1 e.2.2.2).length by omega]
    obtain ⟨ij, hij, hijm, hsnj⟩ : ∃ id, τ.2.1 15 (1 + pl_tF (Ps.take j) + 1) = nI id ∧ id < m ∧ pl_sn T (rep id) (e.1 + 1) := hnd.2.1.2.2.1 rfl
    have hm := h.2.2.2.1
    have g4 := g.2.2.2.1
    have ebeh : prf_X_behind τ (nI (1 + pl_tF (Ps.take j))) = some (nI (1 + pl_tF (Ps.take (j + 1)))) := by
      rw [pl_behX (by omega) h17, et, show 1 + (pl_tF (Ps.take j) + (pl_eF e).length) = 1 + pl_tF (Ps.take j) + (pl_eF e).length by omega]
    have step : prf_X_functionOf_5 (f + 1) τ (nI id) (nI (1 + pl_tF (Ps.take fi))) x (nI (1 + pl_tF (Ps.take j))) = if nI (1 + pl_tF (Ps.take fi)) < nI (1 + pl_tF (Ps.take (j + 1))) then prf_X_functionOf_5 f τ (nI id) (nI (1 + pl_tF (Ps.take fi))) x (nI (1 + pl_tF (Ps.take (j + 1)))) else if nI ij = nI id then prf_X_functionOf_5 f τ (nI id) (nI (1 + pl_tF (Ps.take fi))) (nI (1 + pl_tF (Ps.take j))) (nI (1 + pl_tF (Ps.take (j + 1)))) else prf_X_functionOf_5 f τ (nI id) (nI (1 + pl_tF (Ps.take fi))) x (nI (1 + pl_tF (Ps.take (j + 1)))) := by
      rw [prf_X_functionOf_5, h24, if_neg (nI_ge (by omega) (by omega)), ebeh, pl_sb, pl_sb, nI_1, pl_ck (by omega) (by omega), nI_clamp (by omega), hij, pl_sb]
    rw [step]
    by_cases hjf : j < fi
    · have hle := pl_tF_mono (Ps := Ps) (show j + 1 ≤ fi by omega)
      have hfl := pl_tF_mono (Ps := Ps) (show fi ≤ Ps.length by omega)
      rw [List.take_length] at hfl
      rw [if_neg (nI_nlt (by omega) (by omega))]
      rw [Nat.min_eq_left (by omega)] at hx
      by_cases q : pl_sn T (e.1 + 1) t
      · rw [if_pos (by rw [(pl_ids h.2.2.1 hijm hid hsnj hsn).mpr q])]
        refine ih (j + 1) f _ (by omega) (by omega) (Or.inl ⟨j, by omega, ?_, rfl⟩)
        rw [Nat.min_eq_left (by omega)]
        exact ⟨by omega, ⟨e, he, q⟩, fun i y hi hi2 _ => by omega⟩
      · rw [if_neg (fun z => q ((pl_ids h.2.2.1 hijm hid hsnj hsn).mp ((nI_eq (by omega) (by omega)).mp z)))]
        refine ih (j + 1) f _ (by omega) (by omega) ?_
        rw [Nat.min_eq_left (show j + 1 ≤ fi by omega)]
        have hnew : ∀ i y, i = j → Ps[i]? = some y → ¬ pl_sn T (y.1 + 1) t := by
          intro i y hi hy
          subst hi
          rw [he] at hy
          rw [← Option.some.inj hy]
          exact q
        rcases hx with ⟨y, hy, ⟨y1, y2, y3⟩, rfl⟩ | ⟨hn, rfl⟩
        · refine Or.inl ⟨y, by omega, ⟨by omega, y2, fun i x hi hi2 hx => ?_⟩, rfl⟩
          by_cases z : i = j
          · exact hnew i x z hx
          · exact y3 i x hi (by omega) hx
        · refine Or.inr ⟨fun i x hi hx => ?_, rfl⟩
          by_cases z : i = j
          · exact hnew i x z hx
          · exact hn i x (by omega) hx
    · have hlt : pl_tF (Ps.take fi) < pl_tF (Ps.take (j + 1)) := by
        have := pl_tF_mono (Ps := Ps) (show fi ≤ j by omega)
        rw [et]
        omega
      have hle := pl_tF_mono (Ps := Ps) (show j + 1 ≤ Ps.length by omega)
      rw [List.take_length] at hle
      rw [if_pos (nI_lt (by omega) (by omega))]
      rw [Nat.min_eq_right (by omega)] at hx
      refine ih (j + 1) f _ (by omega) (by omega) ?_
      rw [Nat.min_eq_right (by omega)]
      rcases hx with ⟨y, hy, hz, rfl⟩ | hx
      · exact Or.inl ⟨y, by omega, hz, rfl⟩
      · exact Or.inr hx
/-- the last statement of a list -/
def pl_lk : Nat → Int32 → List (List pl_N × List pl_S × List pl_O) → Int32
  | _, x, [] => x
  | k, _, e :: l => pl_lk (k + e.1.length) (nI k) l
theorem pl_is_17 {T : pl_Tx} {m : Nat} {rep : Nat → Nat} {Ps : List pl_En} {σ τ : pr_St} {f b k s q : Nat} {E : List (Nat × Bool)} {F : List pl_N} {S : List pl_S} {O : List pl_O} (h : pl_is T m rep Ps σ τ f b k s q E F S O) : τ.2.1 17 k = nI F.length ∧ 1 ≤ F.length := by
  obtain ⟨h1, h2, _⟩ := h
  obtain ⟨e0, l0, eF, hsz⟩ := pl_sT_ro h1
  rw [eF] at h2 hsz ⊢
  refine ⟨?_, by rw [List.length_cons]; omega⟩
  rw [← hsz]
  exact h2.1.2.2.2.2
theorem pl_lsX {T : pl_Tx} {m : Nat} {rep : Nat → Nat} {Ps : List pl_En} {σ τ : pr_St} {ff b bs : Nat} (hb : b < 12870) (hbs : τ.2.1 17 b = nI bs) : ∀ (Ls : List (List pl_N × List pl_S × List pl_O)) (k s q : Nat) (E : List (Nat × Bool)) (x : Int32) (f : Nat), pl_il T m rep Ps σ τ ff b k s q E Ls → k + (pl_b1 Ls).length = b + bs → k + (pl_b1 Ls).length ≤ 12860 → (pl_b1 Ls).length + 1 ≤ f → prf_X_lastStatement_6 f τ (nI b) x (nI k) = some (pl_lk k x Ls) := by
  intro Ls
  induction Ls with
  | nil =>
    intro k s q E x f _ hk hk2 hf
    obtain ⟨f, rfl⟩ : ∃ z, f = z + 1 := ⟨f - 1, by omega⟩
    have hk' : k + 0 = b + bs := hk
    rw [prf_X_lastStatement_6, pl_behX (by omega) hbs, pl_sb, if_pos (by rw [← hk', Nat.add_zero]; exact Int32.le_refl _)]
    rfl
  | cons e l ih =>
    intro k s q E x f h hk hk2 hf
    have el : (pl_b1 (e :: l)).length = e.1.length + (pl_b1 l).length := by show (e.1 ++ pl_b1 l).length = _; rw [List.length_append]
    obtain ⟨h17, h1⟩ := pl_is_17 h.1
    obtain ⟨f, rfl⟩ : ∃ z, f = z + 1 := ⟨f - 1, by omega⟩
    rw [prf_X_lastStatement_6, pl_behX (by omega) hbs, pl_sb, if_neg (nI_ge (by omega) (by omega)), pl_behX (by omega) h17, pl_sb]
    exact ih _ _ _ _ _ f h.2 (by omega) (by omega) (by omega)
theorem pl_lk_ge : ∀ (Ls : List (List pl_N × List pl_S × List pl_O)) (k x : Nat), x < k → (∀ e, e ∈ Ls → 1 ≤ e.1.length) → ∃ y, pl_lk k (nI x) Ls = nI y ∧ (Ls = [] → y = x) ∧ (¬ Ls = [] → k ≤ y) ∧ y < k + (pl_b1 Ls).length + 1 := by
  intro Ls
  induction Ls with
  | nil => intro k x hx _; exact ⟨x, rfl, fun _ => rfl, fun q => absurd rfl q, by show x < k + 0 + 1; omega⟩
  | cons e l ih =>
    intro k x hx hall
    have h1 := hall e (List.mem_cons_self ..)
    obtain ⟨y, h2, h3, h4, h5⟩ := ih (k + e.1.length) k (by omega) (fun z hz => hall z (List.mem_cons_of_mem _ hz))
    have el : (pl_b1 (e :: l)).length = e.1.length + (pl_b1 l).length := by show (e.1 ++ pl_b1 l).length = _; rw [List.length_append]
    refine ⟨y, h2, (fun q => (List.cons_ne_nil _ _ q).elim), fun _ => ?_, by omega⟩
    by_cases q : l = []
    · rw [h3 q]; exact Nat.le_refl _
    · have := h4 q; omega
/-- kinds of root and record -/
def pl_rk (k r : Nat) : Prop := (r = 1 ∧ (k = 3 ∨ k = 4)) ∨ (5 ≤ k ∧ k ≤ 11 ∧ r + 3 = k)
theorem pl_sT_kd {T : pl_Tx} {f s q : Nat} {E : List (Nat × Bool)} {F : List pl_N} {S : List pl_S} {O : List pl_O} (h : pl_sT T f s q E F S O) : ∃ k t v z F' r S', F = (k, t, v, z) :: F' ∧ S = r :: S' ∧ pl_rk k r.1 ∧ r.2.1 = t := by
  cases f with
  | zero => exact h.elim
  | succ f =>
    rcases h with (⟨t, _, _, _, rfl, rfl, _⟩ | ⟨t, b, G, _, _, _, _, _, _, rfl, rfl⟩ | ⟨t, _, _, _, _, _, _, rfl, rfl, _⟩ | ⟨t, _, G, _, _, _, _, _, _, rfl, rfl⟩ | ⟨t, _, _, G, H, _, _, _, _, _, _, _, _, _, _, _, rfl, _, rfl⟩ | ⟨t, _, _, _, Gs, _, _, _, _, _, rfl, _, rfl, _⟩ | ⟨t, _, C, _, _, _, _, _, _, rfl, rfl⟩ | ⟨t, _, G, _, _, _, _, rfl, rfl⟩) | ⟨k, t, b, C, Qc, B1, S1, O1, B2, S2, O2, h1, h2, h3, h4, h5, h6, h7, h8, rfl, rfl, _⟩
    · exact ⟨_, _, _, _, _, _, _, rfl, rfl, Or.inl ⟨rfl, Or.inl rfl⟩, rfl⟩
    · exact ⟨_, _, _, _, _, _, _, rfl, rfl, Or.inl ⟨rfl, Or.inl rfl⟩, rfl⟩
    · exact ⟨_, _, _, _, _, _, _, rfl, rfl, Or.inl ⟨rfl, Or.inr rfl⟩, rfl⟩
    · exact ⟨_, _, _, _, _, _, _, rfl, rfl, Or.inr ⟨by decide, by decide, rfl⟩, rfl⟩
    · exact ⟨_, _, _, _, _, _, _, rfl, rfl, Or.inr ⟨by decide, by decide, rfl⟩, rfl⟩
    · exact ⟨_, _, _, _, _, _, _, rfl, rfl, Or.inr ⟨by decide, by decide, rfl⟩, rfl⟩
    · exact ⟨_, _, _, _, _, _, _, rfl, rfl, Or.inr ⟨by decide, by decide, rfl⟩, rfl⟩
    · exact ⟨_, _, _, _, _, _, _, rfl, rfl, Or.inr ⟨by decide, by decide, rfl⟩, rfl⟩
    · refine ⟨_, _, _, _, _, _, _, rfl, rfl, Or.inr ⟨by omega, by omega, ?_⟩, rfl⟩
      show k - 3 + 3 = k
      omega
/-- whether a function returns -/
theorem pl_retX {T : pl_Tx} {m : Nat} {rep : Nat → Nat} {Ps : List pl_En} {σ τ : pr_St} {fi nf sf qf : Nat} {e : pl_En} (h : pl_bs T m rep Ps σ τ) (g : pl_fn T m rep Ps σ τ fi nf sf qf e) : prf_X_returns τ (nI nf) = some (pl_eR e) := by
  obtain ⟨z1, z2, z3, z4, z5, z6⟩ := pl_bd_fn h g
  have hlen := pl_eF_len e
  have hnd : pl_nd T τ m rep nf (pl_eF e) := g.2.2.1.2.2.2.1
  have hil := g.2.2.2.2.2.1
  have hB : τ.2.1 17 (nf + 2 + e.2.1) = nI (1 + (pl_b1 e.2.2.2).length) := by
    have h1 := (pl_nd_l ((1, e.1, 0, 2 + e.2.1 + (pl_eB e).length) :: (13, e.1 + 1, nI (e.1 + 1), 1) :: pl_par (e.1 + 3) e.2.1) (pl_eB e) nf hnd).2
    rw [List.length_cons, List.length_cons, pl_par_len, show nf + (e.2.1 + 1 + 1) = nf + 2 + e.2.1 by omega] at h1
    exact h1.1.2.2.2.2
  unfold prf_X_returns
  rw [pl_blkX hnd (by omega), pl_sb]
  unfold prf_X_lastStatement
  rw [nI_1, show nf + 2 + e.2.1 + 1 = nf + 3 + e.2.1 by omega, pl_lsX (by omega) hB e.2.2.2 _ _ _ _ _ _ hil (by omega) (by omega) (by have : pr_FU = 100000 := rfl; omega), pl_sb]
  have key : ∀ (Ls : List (List pl_N × List pl_S × List pl_O)) (k s q : Nat) (E : List (Nat × Bool)) (x v : Int32), pl_il T m rep Ps σ τ 60 (nf + 2 + e.2.1) k s q E Ls → (x = -1 ∧ ¬ v = 8 ∨ ∃ y, x = nI y ∧ y < 12860 ∧ (τ.2.1 13 y = 11 ↔ v = 8)) → (pl_lk k x Ls = -1 ∧ ¬ pl_lv v Ls = 8 ∨ ∃ y, pl_lk k x Ls = nI y ∧ y < 12860 ∧ (τ.2.1 13 y = 11 ↔ pl_lv v Ls = 8)) := by
    intro Ls
    induction Ls with
    | nil => intro k s q E x v _ hx; exact hx
    | cons a l ih =>
      intro k s q E x v h hx
      obtain ⟨⟨i1, i2, i3, i4, i5, i6, i7, i8⟩, i9⟩ := h
      obtain ⟨kr, t, vv, zz, F', r, S', eF, eS, hrk, _⟩ := pl_sT_kd i1
      have ev : pl_lv v (a :: l) = pl_lv (nI r.1) l := by
        show pl_lv (match a.2.1 with | [] => v | r :: _ => nI r.1) l = _
        rw [eS]
      rw [ev]
      refine ih _ _ _ _ _ _ i9 (Or.inr ⟨k, rfl, ?_, ?_⟩)
      · rw [eF, List.length_cons] at i7
        omega
      · rw [eF] at i2
        have h13 : τ.2.1 13 k = nI kr := i2.1.1
        rw [h13]
        have n11 : (11 : Int32) = nI 11 := rfl
        have n8 : (8 : Int32) = nI 8 := rfl
        rw [n11, n8]
        constructor
        · intro q
          have := (nI_eq (by unfold pl_rk at hrk; omega) (by omega)).mp q
          have : r.1 = 8 := by unfold pl_rk at hrk; omega
          rw [this]
        · intro q
          have := (nI_eq (by unfold pl_rk at hrk; omega) (by omega)).mp q
          have : kr = 11 := by unfold pl_rk at hrk; omega
          rw [this]
  unfold pl_eR
  rcases key e.2.2.2 _ _ _ _ (-1) 0 hil (Or.inl ⟨rfl, by decide⟩) with ⟨q1, q2⟩ | ⟨y, q1, q2, q3⟩
  · rw [q1, if_pos rfl, if_neg q2]
  · rw [q1, if_neg (pl_nIm1 (by omega)), pl_ck (by omega) (by omega), nI_clamp (by omega)]
    by_cases q : τ.2.1 13 y = 11
    · rw [if_pos q, if_pos (q3.mp q)]
    · rw [if_neg q, if_neg (fun z => q (q3.mpr z))]
