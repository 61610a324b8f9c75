/-! THE MACHINE: variables, places, inputs -/
theorem pm_nn {v : Int32} (h : ¬ v < 0) : v = nI v.toNatClampNeg ∧ v.toNatClampNeg < 2 ^ 31 := by
  have h0 : (0 : Int) ≤ v.toInt := by
    have := Int32.not_lt.mp h
    exact Int32.le_iff_toInt_le.mp this
  have h1 := v.toInt_lt
  have e : (v.toNatClampNeg : Int) = v.toInt := by
    show ((v.toInt.toNat : Nat) : Int) = v.toInt
    exact Int.toNat_of_nonneg h0
  have hl : v.toNatClampNeg < 2 ^ 31 := by omega
  refine ⟨?_, hl⟩
  apply Int32.toInt_inj.mp
  rw [nI_toInt hl, e]
/-- the reference finds the variable that a name means -/
theorem pm_meant {T : pl_Tx} {m : Nat} {rep : Nat → Nat} {A E : List (Nat × Bool)} {z P nO : Nat} {σ τ : pr_St} (h : pm_vc T m rep A E z P nO σ τ) {t i id : Nat} {e : Nat × Bool} (hl : pl_lst T E 0 t i e) (hid : id < m) (hsn : pl_sn T (rep id) t) : prf_X_meantAt τ (nI id) = some (nI (40 * z + i)) ∧ i < E.length ∧ E.length ≤ 18 := by
  obtain ⟨h1, h2, h3, ⟨h41, h42, h43, _⟩, ⟨_, _, h53, h54⟩, ⟨h61, h62⟩, h7, _⟩ := h
  have hF : pr_FU = 100000 := rfl
  have hE : E.length ≤ 18 := by
    have := pl_cnt_len (A ++ E)
    rw [List.length_append] at this
    omega
  have hi : i < E.length := by
    by_cases q : i < E.length
    · exact q
    · have := hl.2.1
      rw [List.getElem?_eq_none (by omega)] at this; cases this
  have loop : ∀ (r n f : Nat), i + r = n → n < E.length → r + 1 ≤ f → prf_X_meantAt_12 f τ (nI id) (nI n) = some (nI (40 * z + i)) := by
    intro r
    induction r with
    | zero =>
      intro n f hn hnl hf
      obtain ⟨f, rfl⟩ : ∃ y, f = y + 1 := ⟨f - 1, by omega⟩
      have : n = i := by omega
      subst this
      obtain ⟨⟨jd, j1, j2, j3⟩, _⟩ := h7 n e hl.2.1
      have em : (40 : Int32) * nI z = nI (40 * z) := pk_mul (a := 40) (b := z)
      rw [prf_X_meantAt_12, if_neg (nI_pos (by omega)), h61, em, nI_add, pl_ck (by omega) (by omega), nI_clamp (by omega), j1, if_pos (by rw [(pl_ids h2 j2 hid j3 hsn).mpr hl.2.2.1])]
    | succ r ih =>
      intro n f hn hnl hf
      obtain ⟨f, rfl⟩ : ∃ y, f = y + 1 := ⟨f - 1, by omega⟩
      obtain ⟨e', he'⟩ : ∃ e', E[n]? = some e' := ⟨E[n], List.getElem?_eq_getElem hnl⟩
      obtain ⟨⟨jd, j1, j2, j3⟩, _⟩ := h7 n e' he'
      have hns := hl.2.2.2 n e' (by omega) he'
      have em : (40 : Int32) * nI z = nI (40 * z) := pk_mul (a := 40) (b := z)
      obtain ⟨n', hn'⟩ : ∃ n', n = n' + 1 := ⟨n - 1, by omega⟩
      rw [prf_X_meantAt_12, if_neg (nI_pos (by omega)), h61, em, nI_add, pl_ck (by omega) (by omega), nI_clamp (by omega), j1, if_neg (fun w => hns ((pl_ids h2 j2 hid j3 hsn).mp ((nI_eq (by omega) (by omega)).mp w))), hn', pl_dn]
      exact ih n' f (by omega) (by omega) (by omega)
  refine ⟨?_, hi, hE⟩
  unfold prf_X_meantAt
  obtain ⟨n', hn'⟩ : ∃ n', E.length = n' + 1 := ⟨E.length - 1, by omega⟩
  rw [h61, pl_ck (by omega) (by omega), nI_clamp (by omega), h62, hn', pl_sub1]
  exact loop (n' - i) n' pr_FU (by omega) (by omega) (by rw [hF]; omega)
theorem pm_take_lt {E : List (Nat × Bool)} {i : Nat} {e : Nat × Bool} {b : Bool} (h : E[i]? = some e) (hb : e.2 = b) : pl_cnt b (E.take i) < pl_cnt b E := by
  have hi : i < E.length := by
    by_cases q : i < E.length
    · exact q
    · rw [List.getElem?_eq_none (by omega)] at h; cases h
  have hsp : E = E.take i ++ e :: E.drop (i + 1) := by
    have h1 := List.take_append_drop i E
    rw [← List.getElem_cons_drop hi] at h1
    rw [List.getElem?_eq_getElem hi] at h
    rw [Option.some.inj h] at h1
    exact h1.symm
  have e1 : pl_cnt b E = pl_cnt b (E.take i) + pl_cnt b (e :: E.drop (i + 1)) := by
    conv => lhs; rw [hsp]
    exact pl_cnt_app _ _
  have e2 : pl_cnt b (e :: E.drop (i + 1)) = pl_cnt b [e] + pl_cnt b (E.drop (i + 1)) := pl_cnt_app [e] _
  have e3 : pl_cnt b [e] = 1 := by
    obtain ⟨a, bo⟩ := e
    have : bo = b := hb
    subst this
    cases bo <;> rfl
  omega
theorem pm_slot {σ : pr_St} {t : Nat} (ht : t < 8001) : prf_G_slotOf σ (nI t) = some (σ.2.1 24 t) := by
  unfold prf_G_slotOf
  rw [if_neg (nI_pos (by omega)), if_neg (show ¬ (8001 : Int32) ≤ nI t from nI_ge (b := 8001) (by omega) (by omega)), pl_ck (by omega) (by omega), nI_clamp (by omega)]
/-- the value of a number variable -/
theorem pm_name {T : pl_Tx} {m : Nat} {rep : Nat → Nat} {A E : List (Nat × Bool)} {z P nO : Nat} {σ τ : pr_St} (h : pm_vc T m rep A E z P nO σ τ) {t : Nat} (ht : t < pl_xc T) (hso : pl_so T E t false (σ.2.1 24 t)) : ∃ s, s < 12 ∧ prf_M_slotOfName σ (nI z) (nI t) = some (nI s) ∧ (∃ i e, pl_lst T E 0 t i e ∧ e.2 = false ∧ s = pl_cnt false (A ++ E.take i)) ∧ ∀ id, id < m → pl_sn T (rep id) t → ∃ x, prf_X_meantAt τ (nI id) = some (nI x) ∧ x < 10040 ∧ τ.2.1 27 x = nI s := by
  obtain ⟨i, e, hl, he, hx⟩ := hso
  have hv := h
  obtain ⟨h1, h2, h3, ⟨h41, h42, h43, _⟩, ⟨h51, h52, h53, h54⟩, ⟨h61, h62⟩, h7, h8, h9, h10⟩ := hv
  have hlt := pm_take_lt hl.2.1 he
  rw [pl_cnt_app] at h53
  have hs : pl_cnt false (A ++ E.take i) = pl_cnt false A + pl_cnt false (E.take i) := pl_cnt_app _ _
  refine ⟨pl_cnt false (A ++ E.take i), by omega, ?_, ⟨i, e, hl, he, rfl⟩, fun id hid hsn => ?_⟩
  · unfold prf_M_slotOfName
    rw [(pl_pnt h41 (by omega) (show z < P + 1 by omega)).2.2.2.2.1, pl_sb, h51, pm_slot (by have := h1.2.2.1; omega), pl_sb, hx, nI_add, hs]
  · obtain ⟨e1, e2, e3⟩ := pm_meant h hl hid hsn
    obtain ⟨_, e4, _⟩ := h7 i e hl.2.1
    exact ⟨40 * z + i, e1, by omega, by rw [e4, he]⟩
/-- the array that a name means -/
theorem pm_arr {T : pl_Tx} {m : Nat} {rep : Nat → Nat} {A E : List (Nat × Bool)} {z P nO : Nat} {σ τ : pr_St} (h : pm_vc T m rep A E z P nO σ τ) {t : Nat} (ht : t < pl_xc T) (hso : pl_so T E t true (σ.2.1 24 t)) : ∃ s R, s < 6 ∧ 1 ≤ R ∧ R ≤ 64 ∧ prf_O_foreignArraysAt σ (nI z) = some (nI (pl_cnt true A)) ∧ prf_G_slotOf σ (nI t) = some (nI (s - pl_cnt true A)) ∧ pl_cnt true A ≤ s ∧ σ.2.1 49 s = nI R ∧ ∀ id, id < m → pl_sn T (rep id) t → ∃ x, prf_X_meantAt τ (nI id) = some (nI x) ∧ x < 10040 ∧ τ.2.1 27 x = nI s ∧ τ.2.1 28 x = nI R := by
  obtain ⟨i, e, hl, he, hx⟩ := hso
  have hv := h
  obtain ⟨h1, h2, h3, ⟨h41, h42, h43, _⟩, ⟨h51, h52, h53, h54⟩, ⟨h61, h62⟩, h7, h8, h9, h10⟩ := hv
  have hlt := pm_take_lt hl.2.1 he
  rw [pl_cnt_app] at h54
  have hs : pl_cnt true (A ++ E.take i) = pl_cnt true A + pl_cnt true (E.take i) := pl_cnt_app _ _
  obtain ⟨_, e4, e5, e6⟩ := h7 i e hl.2.1
  obtain ⟨r1, r2⟩ := e6 he
  have erm : pl_rm T e = nI (pl_vt T (e.1 + 2)) := if_pos he
  refine ⟨pl_cnt true (A ++ E.take i), pl_vt T (e.1 + 2), by omega, r1, r2, ?_, ?_, by omega, by rw [h10 i e hl.2.1 he, erm], fun id hid hsn => ?_⟩
  · rw [(pl_pnt h41 (by omega) (show z < P + 1 by omega)).2.2.2.2.2, h52]
  · rw [pm_slot (by have := h1.2.2.1; omega), hx, show pl_cnt true (A ++ E.take i) - pl_cnt true A = pl_cnt true (E.take i) by omega]
  · obtain ⟨e1, e2, e3⟩ := pm_meant h hl hid hsn
    exact ⟨40 * z + i, e1, by omega, by rw [e4, he], by rw [e5, erm]⟩
/-- whether there is such a place -/
theorem pm_has {σ : pr_St} {s R : Nat} (hs : s < 6) (hR : R ≤ 64) (h49 : σ.2.1 49 s = nI R) (v : Int32) : prf_M_hasPlace σ (nI s) v = some (if v < 0 then 0 else if nI R ≤ v then 0 else 1) := by
  unfold prf_M_hasPlace
  rw [if_neg (nI_pos (by omega)), if_neg (show ¬ (6 : Int32) ≤ nI s from nI_ge (b := 6) hs (by omega)), pl_ck hs (by omega), nI_clamp (by omega), h49]
  by_cases q1 : v < 0
  · rw [if_pos q1, if_pos q1]
  · rw [if_neg q1, if_neg q1]
    by_cases q2 : nI R ≤ v
    · rw [if_pos q2, if_pos q2]
    · rw [if_neg q2, if_neg q2, if_neg (show ¬ (64 : Int32) ≤ v from fun w => q2 (Int32.le_trans (show nI R ≤ 64 from nI_le (b := 64) hR (by omega)) w))]
/-- an input is taken -/
theorem pm_any {T : pl_Tx} {ic rd t : Nat} {σ τ : pr_St} (htv : pm_tv T σ) (hi : pm_iv ic rd σ τ) (hrd : rd + 1 < 2 ^ 31) (ht : t + 1 < pl_xc T) (hlim : pl_xK T (t + 1) = 12 → pl_sec T (t + 2) + 1 < pl_xc T) : ∃ (u : Int32) (σ' τ' : pr_St), prf_X_next τ = some (u, τ') ∧ prf_M_takeAny σ (nI t) = some (if pl_xK T (t + 1) = 12 then (if u < pl_lim T (t + 2) then pl_lim T (t + 2) else if pl_lim T (pl_sec T (t + 2)) < u then pl_lim T (t + 2) else u) else u, σ') ∧ (∀ o q, ¬ (o = 7 ∧ q = 10) → σ'.1 o q = σ.1 o q) ∧ σ'.2 = σ.2 ∧ (∀ o q, ¬ (o = 0 ∧ q = 58) → τ'.1 o q = τ.1 o q) ∧ τ'.2 = τ.2 ∧ pm_iv ic (rd + 1) σ' τ' := by
  obtain ⟨a1, a2, a3, a4, a5, a6⟩ := hi
  have e52 : ∀ (σx : pr_St) (u : Int32), pm_tv T σx → prf_M_takeAny_52 σx (nI t) u = some (if pl_xK T (t + 1) = 12 then (if u < pl_lim T (t + 2) then pl_lim T (t + 2) else if pl_lim T (pl_sec T (t + 2)) < u then pl_lim T (t + 2) else u) else u, σx) := by
    intro σx u hx
    have hK := hx.2.2.2.1 (t + 1) ht
    unfold prf_M_takeAny_52
    rw [nI_1, (hx.1 (t + 1) ht).1, pl_sb]
    by_cases q : pl_xK T (t + 1) = 12
    · have hl := hlim q
      have hsec : t + 3 < pl_xc T := by
        have : t + 2 + 2 ≤ pl_sec T (t + 2) := by
          unfold pl_sec
          split <;> omega
        omega
      rw [if_pos (show nI (pl_xK T (t + 1)) = 12 by rw [q]; rfl), if_pos q, pl_n2, (hx.2.1 (t + 2) (by omega)).1, pl_sb, (hx.2.1 (t + 2) (by omega)).2, pl_sb, (hx.2.1 _ hl).1, pl_sb]
      by_cases c1 : u < pl_lim T (t + 2)
      · rw [if_pos c1, if_pos c1]
      · rw [if_neg c1, if_neg c1]
        by_cases c2 : pl_lim T (pl_sec T (t + 2)) < u
        · rw [if_pos c2, if_pos c2]
        · rw [if_neg c2, if_neg c2]
    · rw [if_neg (show ¬ nI (pl_xK T (t + 1)) = 12 from pl_nn (j := 12) (v := 12) (by omega) (by decide) rfl q), if_neg q]
  unfold prf_X_next prf_M_takeAny
  rw [a1, a2, a5, a6, nI_1]
  by_cases q : rd < ic
  · have em : min rd ic = rd := Nat.min_eq_left (by omega)
    have em1 : min (rd + 1) ic = rd + 1 := Nat.min_eq_left (by omega)
    rw [em, if_neg (show ¬ nI ic < nI (rd + 1) from nI_nlt (by omega) (by omega)), pl_sub1, pl_ck (by omega) (by omega), nI_clamp (by omega), if_neg (nI_pos (by omega)), if_neg (show ¬ nI ic ≤ nI rd from nI_ge q (by omega)), if_neg (show ¬ (400 : Int32) ≤ nI rd from nI_ge (b := 400) (by omega) (by omega)), pl_ck (by omega) (by omega), nI_1]
    refine ⟨τ.2.1 33 rd, pr_sI σ 7 10 (nI (rd + 1)), pr_sI τ 0 58 (nI (rd + 1)), rfl, ?_, fun o k hk => pr_sI_ne hk, rfl, fun o k hk => pr_sI_ne hk, rfl, ?_⟩
    · rw [a4 rd q]
      exact e52 _ _ (pm_tv_eq htv rfl rfl rfl)
    · exact ⟨by rw [pr_sI_ne (by omega)]; exact a1, by rw [pr_sI_ne (by omega)]; exact a2, a3, a4, pr_sI_same, by rw [em1]; exact pr_sI_same⟩
  · have em : min rd ic = ic := Nat.min_eq_right (by omega)
    have em1 : min (rd + 1) ic = ic := Nat.min_eq_right (by omega)
    rw [em, if_pos (show nI ic < nI (rd + 1) from nI_lt (by omega) (by omega)), if_neg (nI_pos (by omega)), if_pos (Int32.le_refl _)]
    refine ⟨0, σ, pr_sI τ 0 58 (nI (rd + 1)), rfl, e52 _ _ htv, fun _ _ _ => rfl, rfl, fun o k hk => pr_sI_ne hk, rfl, ?_⟩
    exact ⟨a1, by rw [pr_sI_ne (by omega)]; exact a2, a3, a4, pr_sI_same, by rw [em1, a6, em]⟩
