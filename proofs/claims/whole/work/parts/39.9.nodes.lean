/-! THE LAYOUT: the reference goes over the nodes of an expression -/
def pl_ki : List pl_N → Nat → Nat
  | [], _ => 0
  | e :: _, 0 => e.1
  | _ :: l, j + 1 => pl_ki l j
theorem pl_nd_ki {T : pl_Tx} {τ : pr_St} {m : Nat} {rep : Nat → Nat} : ∀ (F : List pl_N) (n j : Nat), pl_nd T τ m rep n F → j < F.length → τ.2.1 13 (n + j) = nI (pl_ki F j) := by
  intro F
  induction F with
  | nil => intro n j _ h; exact absurd h (Nat.not_lt_zero _)
  | cons e l ih =>
    intro n j h hj
    cases j with
    | zero => exact h.1.1
    | succ j =>
      rw [List.length_cons] at hj
      have := ih (n + 1) j h.2 (by omega)
      rw [show n + (j + 1) = n + 1 + j by omega]
      exact this
theorem pl_ki_l : ∀ {A C : List pl_N} {j : Nat}, j < A.length → pl_ki (A ++ C) j = pl_ki A j := by
  intro A
  induction A with
  | nil => intro C j h; exact absurd h (Nat.not_lt_zero _)
  | cons e l ih =>
    intro C j h
    cases j with
    | zero => rfl
    | succ j => exact ih (by rw [List.length_cons] at h; omega)
theorem pl_ki_r : ∀ {A C : List pl_N} {j : Nat}, pl_ki (A ++ C) (A.length + j) = pl_ki C j := by
  intro A
  induction A with
  | nil => intro C j; rw [List.length_nil, Nat.zero_add]; rfl
  | cons e l ih =>
    intro C j
    rw [List.length_cons, show l.length + 1 + j = l.length + j + 1 by omega]
    exact ih
/-- what the nodes of an expression have -/
def pl_xfa (T : pl_Tx) : List pl_N → Prop
  | [] => True
  | e :: l => ((e.1 = 16 → ¬ e.2.2.2 = 1 → ∃ x y l', l = x :: y :: l' ∧ ¬ x.1 = 13 ∧ ¬ y.1 = 13 ∧ x.2.1 = e.2.1 + 2 ∧ x.2.2.1 = pl_lim T (e.2.1 + 2) ∧ y.2.2.1 = pl_lim T (pl_sec T (e.2.1 + 2))) ∧ (e.1 = 14 → 2 ≤ e.2.2.2) ∧ (e.1 = 13 → pl_xK T e.2.1 = 2) ∧ (e.1 = 16 → pl_xK T e.2.1 = 11) ∧ e.1 < 64) ∧ pl_xfa T l
theorem pl_xf_app {T : pl_Tx} : ∀ A C : List pl_N, pl_xfa T A → pl_xfa T C → pl_xfa T (A ++ C) := by
  intro A
  induction A with
  | nil => intro C _ h; exact h
  | cons e l ih =>
    intro C h1 h2
    refine ⟨⟨fun q1 q2 => ?_, h1.1.2⟩, ih C h1.2 h2⟩
    obtain ⟨x, y, l', e1, e2⟩ := h1.1.1 q1 q2
    exact ⟨x, y, l' ++ C, by show l ++ C = _; rw [e1]; rfl, e2⟩
theorem pl_xf_cons {T : pl_Tx} {k t s : Nat} {v : Int32} {l : List pl_N} (h : pl_xfa T l) (h0 : k < 64) (h3 : ¬ k = 13) (h4 : k = 14 → 2 ≤ s) (h6 : ¬ k = 16) : pl_xfa T ((k, t, v, s) :: l) := ⟨⟨fun q => absurd q h6, h4, fun q => absurd q h3, fun q => absurd q h6, h0⟩, h⟩
theorem pl_xf_name {T : pl_Tx} {t s : Nat} {v : Int32} {l : List pl_N} (hk : pl_xK T t = 2) (h : pl_xfa T l) : pl_xfa T ((13, t, v, s) :: l) := ⟨⟨fun q => absurd q (show ¬ 13 = 16 by decide), fun q => absurd q (show ¬ 13 = 14 by decide), fun _ => hk, fun q => absurd q (show ¬ 13 = 16 by decide), by show 13 < 64; decide⟩, h⟩
theorem pl_sm_xf {T : pl_Tx} : ∀ (f : Nat) (F : List pl_N) (O : List pl_O), pl_sm T f F O → pl_xfa T F := by
  intro f
  induction f with
  | zero => intro F O h; exact h.elim
  | succ f ih =>
    intro F O h
    rcases h with ⟨t, h0, rfl, _⟩ | ⟨t, h0, rfl, _⟩ | ⟨t, G, Q, h0, rfl, _, h3⟩ | ⟨t, G, Q, rfl, _, h3⟩ | ⟨t, h0, h1, rfl, _⟩ | ⟨t, h0, h1, rfl, _⟩ | ⟨k, t, G, Q, Ls, h0, rfl, _, h3, h4⟩
    · exact pl_xf_cons trivial (by decide) (by decide) (fun q => absurd q (by decide)) (by decide)
    · exact pl_xf_name h0 trivial
    · exact pl_xf_cons (pl_xf_name h0 (ih _ _ h3)) (by decide) (by decide) (fun _ => by omega) (by decide)
    · exact pl_xf_cons (ih _ _ h3) (by decide) (by decide) (fun q => absurd q (by decide)) (by decide)
    · exact ⟨⟨fun _ q => absurd rfl q, fun q => absurd q (show ¬ 16 = 14 by decide), fun q => absurd q (show ¬ 16 = 13 by decide), fun _ => h0, by show 16 < 64; decide⟩, trivial⟩
    · exact ⟨⟨fun _ _ => ⟨_, _, _, rfl, by show ¬ 12 = 13; decide, by show ¬ 12 = 13; decide, rfl, rfl, rfl⟩, fun q => absurd q (show ¬ 16 = 14 by decide), fun q => absurd q (show ¬ 16 = 13 by decide), fun _ => h0, by show 16 < 64; decide⟩, pl_xf_cons (pl_xf_cons trivial (by decide) (by decide) (fun q => absurd q (by decide)) (by decide)) (by decide) (by decide) (fun q => absurd q (by decide)) (by decide)⟩
    · have hcat : ∀ l : List (Nat × Nat × List pl_N × List pl_O), (∀ e, e ∈ l → (18 ≤ e.1 ∧ e.1 ≤ 23 ∧ e.1 ≠ 20) ∧ pl_sm T f e.2.2.1 e.2.2.2) → pl_xfa T (pl_catN l) := by
        intro l
        induction l with
        | nil => intro _; trivial
        | cons e l ihl =>
          intro hl
          have he := hl e (List.mem_cons_self ..)
          show pl_xfa T (((e.1, e.2.1, 0, 1 + e.2.2.1.length) :: e.2.2.1) ++ pl_catN l)
          exact pl_xf_app _ _ (pl_xf_cons (ih _ _ he.2) (by omega) (by omega) (fun q => absurd q (by omega)) (by omega)) (ihl (fun x hx => hl x (List.mem_cons_of_mem _ hx)))
      exact pl_xf_cons (pl_xf_app _ _ (ih _ _ h3) (hcat Ls h4)) (by omega) (by omega) (fun q => absurd q (by omega)) (by omega)
theorem pl_cd_xf {T : pl_Tx} : ∀ (f q : Nat) (F : List pl_N) (O : List pl_O), pl_cd T f q F O → pl_xfa T F := by
  intro f
  induction f with
  | zero => intro q F O h; exact h.elim
  | succ f ih =>
    intro q F O h
    rcases h with ⟨k, t, F1, F2, O1, O2, h0, rfl, _, h3, h4⟩ | ⟨t, G, Q, rfl, _, h3⟩ | ⟨k, t, G, Q, Ls, h0, rfl, _, h3, h4⟩
    · exact pl_xf_cons (pl_xf_app _ _ (pl_sm_xf _ _ _ h3) (pl_sm_xf _ _ _ h4)) (by omega) (by omega) (fun q => absurd q (by omega)) (by omega)
    · exact pl_xf_cons (ih _ _ _ h3) (by decide) (by decide) (fun q => absurd q (by decide)) (by decide)
    · have hcat : ∀ (l : List (List pl_N × List pl_O)) (b : Nat), pl_cdl (pl_cd T f) b l → pl_xfa T (pl_catF l) := by
        intro l
        induction l with
        | nil => intro b _; trivial
        | cons e l ihl => intro b hl; exact pl_xf_app _ _ (ih _ _ _ hl.1) (ihl _ hl.2)
      exact pl_xf_cons (pl_xf_app _ _ (ih _ _ _ h3) (hcat Ls _ h4)) (by omega) (by omega) (fun q => absurd q (by omega)) (by omega)
/-- an expression as it stands in the nodes: root size is its length -/
def pl_ro (F : List pl_N) : Prop := ∃ e l, F = e :: l ∧ e.2.2.2 = F.length
theorem pl_sm_ro {T : pl_Tx} {f : Nat} {F : List pl_N} {O : List pl_O} (h : pl_sm T f F O) : pl_ro F := by
  cases f with
  | zero => exact h.elim
  | succ f =>
    rcases h with ⟨t, h0, rfl, _⟩ | ⟨t, h0, rfl, _⟩ | ⟨t, G, Q, h0, rfl, _, h3⟩ | ⟨t, G, Q, rfl, _, h3⟩ | ⟨t, h0, h1, rfl, _⟩ | ⟨t, h0, h1, rfl, _⟩ | ⟨k, t, G, Q, Ls, h0, rfl, _, h3, h4⟩
    · exact ⟨_, _, rfl, rfl⟩
    · exact ⟨_, _, rfl, rfl⟩
    · exact ⟨_, _, rfl, by show 2 + G.length = (_ :: _ :: G).length; rw [List.length_cons, List.length_cons]; omega⟩
    · exact ⟨_, _, rfl, by show 1 + G.length = _; rw [List.length_cons]; omega⟩
    · exact ⟨_, _, rfl, rfl⟩
    · exact ⟨_, _, rfl, rfl⟩
    · exact ⟨_, _, rfl, by show 1 + _ = _; rw [List.length_cons]; omega⟩
theorem pl_cd_ro {T : pl_Tx} {f q : Nat} {F : List pl_N} {O : List pl_O} (h : pl_cd T f q F O) : pl_ro F := by
  cases f with
  | zero => exact h.elim
  | succ f =>
    rcases h with ⟨k, t, F1, F2, O1, O2, h0, rfl, _, h3, h4⟩ | ⟨t, G, Q, rfl, _, h3⟩ | ⟨k, t, G, Q, Ls, h0, rfl, _, h3, h4⟩
    · exact ⟨_, _, rfl, by show 1 + _ = _; rw [List.length_cons]; omega⟩
    · exact ⟨_, _, rfl, by show 1 + _ = _; rw [List.length_cons]; omega⟩
    · exact ⟨_, _, rfl, by show 1 + _ = _; rw [List.length_cons]; omega⟩
theorem pl_sub1 (n : Nat) : nI (n + 1) - 1 = nI n := nI_pred n
theorem pl_behX {τ : pr_St} {k z : Nat} (hk : k < 13000) (hz : τ.2.1 17 k = nI z) : prf_X_behind τ (nI k) = some (nI (k + z)) := by
  unfold prf_X_behind
  rw [pl_ck hk (by omega), nI_clamp (by omega), hz, nI_add]
/-- the nodes of an expression are looked at -/
theorem pl_lkX {T : pl_Tx} {m : Nat} {rep : Nat → Nat} {A E : List (Nat × Bool)} {σ τ : pr_St} (h : pl_ls T m rep A E σ τ) {k o : Nat} {F : List pl_N} (hnd : pl_nd T τ m rep k F) (hwh : pl_wh τ k (nI o) F) (hxf : pl_xfa T F) (hns : pl_ns F) (hro : pl_ro F) (hk : k + F.length ≤ 12900) (ho : o < 13000) (ho14 : ¬ τ.2.1 13 o = 14) : ((∀ c, c ∈ pl_cl false F → pl_yes T E c) → prf_X_lookAll τ (nI k) = some (1, τ)) ∧ (∀ w pt, pl_bad T E (pl_cl false F) w pt → prf_X_lookAll τ (nI k) = some (0, pl_wX T τ w pt)) := by
  obtain ⟨e0, l0, eF, esz⟩ := hro
  have h17 : τ.2.1 17 k = nI F.length := by
    have := hnd
    rw [eF] at this
    rw [this.1.2.2.2.2, esz]
  have hbeh := pl_behX (τ := τ) (k := k) (by rw [eF, List.length_cons] at hk; omega) h17
  have hF : pr_FU = 100000 := rfl
  have h0 := h.2.2.2.2.2.2.2.2
  have main : ∀ (l pre : List pl_N) (f : Nat) (b : Bool), F = pre ++ l → pl_nd T τ m rep (k + pre.length) l → pl_xfa T l → ((pre = [] ∧ b = false) ∨ ∃ i', pre.length = i' + 1 ∧ b = (pl_ki F i' == 14) ∧ (b = true → 2 ≤ pl_sz F i')) → ((∀ c, c ∈ pl_cl b l → pl_yes T E c) → prf_X_lookAll_2 (f + 1 + l.length) τ (nI k) (nI (k + pre.length)) = some (1, τ)) ∧ (∀ w pt, pl_bad T E (pl_cl b l) w pt → prf_X_lookAll_2 (f + 1 + l.length) τ (nI k) (nI (k + pre.length)) = some (0, pl_wX T τ w pt)) := by
    intro l
    induction l with
    | nil =>
      intro pre f b hpre _ _ _
      have e : pre.length = F.length := by rw [hpre, List.append_nil]
      refine ⟨fun _ => ?_, fun w pt hb => ?_⟩
      · show prf_X_lookAll_2 (f + 1 + 0) τ (nI k) (nI (k + pre.length)) = _
        rw [Nat.add_zero, prf_X_lookAll_2, hbeh, pl_sb, e, if_pos (Int32.le_refl _)]
      · obtain ⟨C1, c, C2, e, _⟩ := hb
        cases C1 <;> cases e
    | cons e l ih =>
      intro pre f b hpre hndl hxfl hb
      have hlen : F.length = pre.length + (l.length + 1) := by rw [hpre, List.length_append, List.length_cons]
      obtain ⟨n1, n2, n3, n4, n5⟩ := hndl.1
      obtain ⟨x1, x2, x3, x4, x5⟩ := hxfl.1
      have hcl : pl_cl b (e :: l) = (if e.1 = 13 then [(e.2.1, b)] else if e.1 = 16 ∧ e.2.2.2 ≠ 1 then [(e.2.1, false)] else []) ++ pl_cl (e.1 == 14) l := rfl
      have hszF : pl_sz F pre.length = e.2.2.2 := by
        have := pl_sz_r (A := pre) (C := e :: l) (j := 0)
        rw [Nat.add_zero, ← hpre] at this
        exact this
      have hkiF : pl_ki F pre.length = e.1 := by
        have := pl_ki_r (A := pre) (C := e :: l) (j := 0)
        rw [Nat.add_zero, ← hpre] at this
        exact this
      have hnext := fun g => ih (pre ++ [e]) g (e.1 == 14) (by rw [hpre, List.append_assoc]; rfl) (by rw [List.length_append]; exact hndl.2) hxfl.2 (Or.inr ⟨pre.length, by rw [List.length_append]; rfl, by rw [hkiF], fun q => by rw [hszF]; exact x2 (by simpa using q)⟩)
      have hnext' : ∀ g, ((∀ c, c ∈ pl_cl (e.1 == 14) l → pl_yes T E c) → prf_X_lookAll_2 (g + 1 + l.length) τ (nI k) (nI (k + pre.length + 1)) = some (1, τ)) ∧ (∀ w pt, pl_bad T E (pl_cl (e.1 == 14) l) w pt → prf_X_lookAll_2 (g + 1 + l.length) τ (nI k) (nI (k + pre.length + 1)) = some (0, pl_wX T τ w pt)) := by
        intro g
        have := hnext g
        rw [List.length_append, show k + (pre.length + [e].length) = k + pre.length + 1 by show k + (pre.length + 1) = _; omega] at this
        exact this
      -- the look at limits
      have e76 : prf_X_lookAll_76 (prf_X_lookAll_2 (f + 1 + l.length)) τ (nI k) (nI (k + pre.length)) = if e.1 = 16 ∧ e.2.2.2 ≠ 1 then (if pl_lim T (e.2.1 + 2) ≤ pl_lim T (pl_sec T (e.2.1 + 2)) then prf_X_lookAll_2 (f + 1 + l.length) τ (nI k) (nI (k + pre.length + 1)) else some (0, pl_wX T τ 8 (e.2.1 + 2))) else prf_X_lookAll_2 (f + 1 + l.length) τ (nI k) (nI (k + pre.length + 1)) := by
        unfold prf_X_lookAll_76
        rw [pl_ck (show k + pre.length < 13000 by omega) (by omega), nI_clamp (by omega), n1, nI_1]
        by_cases k16 : e.1 = 16
        · rw [if_pos (show nI e.1 = 16 by rw [k16]; rfl), pl_ck (show k + pre.length < 13000 by omega) (by omega), n5]
          by_cases s1 : e.2.2.2 = 1
          · rw [if_pos (show nI e.2.2.2 ≤ 1 by rw [s1]; decide), if_neg (fun q => q.2 s1)]
          · obtain ⟨x, y, l', el, z1, z2, z3, z4, z5⟩ := x1 k16 s1
            subst el
            obtain ⟨⟨_, y14, _, y15, _⟩, ⟨⟨_, _, _, w15, _⟩, _⟩⟩ := hndl.2
            have hs0 : ¬ nI e.2.2.2 ≤ 1 := by
              have hsz : 1 ≤ e.2.2.2 ∧ e.2.2.2 < 2 ^ 31 := by
                have := pl_ns_sz F pre.length hns (by omega)
                rw [hszF] at this
                omega
              have h1lt : 1 < e.2.2.2 := by
                have := hsz.1
                exact Nat.lt_of_le_of_ne this (fun q => s1 q.symm)
              exact nI_ge (a := 1) h1lt hsz.2
            have e15x : τ.2.1 15 (k + pre.length + 1) = pl_lim T (e.2.1 + 2) := by rw [y15 z1, z4]
            have e15y : τ.2.1 15 (k + pre.length + 2) = pl_lim T (pl_sec T (e.2.1 + 2)) := by
              have := w15 z2
              rw [z5] at this
              exact this
            have e14x : τ.2.1 14 (k + pre.length + 1) = nI (pl_xP T (e.2.1 + 2)) := by rw [y14, z3]
            have hb2 : k + pre.length + 2 < 13000 := by rw [List.length_cons, List.length_cons] at hlen; omega
            have hb1 : k + pre.length + 1 < 13000 := Nat.lt_trans (Nat.lt_succ_self _) hb2
            rw [if_neg hs0, if_pos (show e.1 = 16 ∧ e.2.2.2 ≠ 1 from ⟨k16, s1⟩), pl_ck hb1 (by decide), pl_n2, pl_ck hb2 (by decide), nI_clamp (Nat.lt_trans hb1 (by decide)), nI_clamp (Nat.lt_trans hb2 (by decide)), e15x, e15y, pl_wrX h0 hb1 e14x, pl_sb]
            rfl
        · rw [if_neg (show ¬ nI e.1 = 16 from fun q => k16 ((nI_eq (b := 16) (by omega) (by omega)).mp q)), if_neg (fun q => k16 q.1)]
      have e52 : prf_X_lookAll_52 (prf_X_lookAll_2 (f + 1 + l.length)) τ (nI k) (nI (k + pre.length)) = if e.1 = 13 then (prf_X_lookName τ (nI (k + pre.length)) 0).bind fun r => if r.1 = 0 then some (0, r.2) else prf_X_lookAll_76 (prf_X_lookAll_2 (f + 1 + l.length)) r.2 (nI k) (nI (k + pre.length)) else prf_X_lookAll_76 (prf_X_lookAll_2 (f + 1 + l.length)) τ (nI k) (nI (k + pre.length)) := by
        unfold prf_X_lookAll_52
        rw [pl_ck (show k + pre.length < 13000 by omega) (by omega), nI_clamp (by omega), n1]
        by_cases k13 : e.1 = 13
        · rw [if_pos (show nI e.1 = 13 by rw [k13]; rfl), if_pos k13]
        · rw [if_neg (show ¬ nI e.1 = 13 from fun q => k13 ((nI_eq (b := 13) (by omega) (by omega)).mp q)), if_neg k13]
      have step : prf_X_lookAll_2 (f + 1 + (l.length + 1)) τ (nI k) (nI (k + pre.length)) = if e.1 = 13 then (prf_X_lookName τ (nI (k + pre.length)) (pl_bI b)).bind fun r => if r.1 = 0 then some (0, r.2) else prf_X_lookAll_76 (prf_X_lookAll_2 (f + 1 + l.length)) r.2 (nI k) (nI (k + pre.length)) else prf_X_lookAll_76 (prf_X_lookAll_2 (f + 1 + l.length)) τ (nI k) (nI (k + pre.length)) := by
        have hx13 : k + pre.length < 13000 := by omega
        rw [show f + 1 + (l.length + 1) = f + 1 + l.length + 1 by omega, prf_X_lookAll_2, hbeh, pl_sb, if_neg (nI_ge (by omega) (by omega)), pl_ck hx13 (by omega), nI_clamp (by omega)]
        rcases hwh pre.length (by omega) with ⟨z0, z1⟩ | ⟨w, z1, z2, z3, z4⟩
        · have hb0 : b = false := by
            rcases hb with ⟨_, q⟩ | ⟨i', q, _⟩
            · exact q
            · omega
          have z1' : τ.2.1 16 (k + pre.length) = nI o := by rw [z0, Nat.add_zero]; exact z1
          rw [z1', if_neg (nI_pos (by omega)), pl_ck hx13 (by omega), pl_ck ho (by omega), nI_clamp (by omega), if_neg ho14, e52, hb0]
          rfl
        · have hwk : τ.2.1 13 (k + w) = nI (pl_ki F w) := pl_nd_ki F k w hnd (by omega)
          rw [z2, if_neg (nI_pos (by omega)), pl_ck hx13 (by omega), pl_ck (show k + w < 13000 by omega) (by omega), nI_clamp (by omega), hwk]
          obtain ⟨i', q1, q2, q3⟩ : ∃ i', pre.length = i' + 1 ∧ b = (pl_ki F i' == 14) ∧ (b = true → 2 ≤ pl_sz F i') := by
            rcases hb with ⟨q, _⟩ | q
            · rw [q] at z1; exact absurd z1 (Nat.not_lt_zero _)
            · exact q
          have esub : nI (k + pre.length) - 1 = nI (k + i') := by rw [q1, show k + (i' + 1) = k + i' + 1 by omega, pl_sub1]
          cases hbb : b with
          | true =>
            have hki : pl_ki F i' = 14 := by rw [hbb] at q2; simpa using q2.symm
            have hw : w = i' := by
              by_cases q : w < i'
              · have := z4 i' q (by omega)
                have := q3 hbb
                omega
              · omega
            subst hw
            rw [hki, if_pos (show nI 14 = 14 from rfl), pl_ck hx13 (by omega), esub, if_pos rfl, pl_ck hx13 (by omega), n1]
            by_cases k13 : e.1 = 13
            · rw [if_pos (show nI e.1 = 13 by rw [k13]; rfl), if_pos k13]
              rfl
            · rw [if_neg (show ¬ nI e.1 = 13 from fun q => k13 ((nI_eq (b := 13) (by omega) (by omega)).mp q)), if_neg k13]
          | false =>
            have hki : ¬ pl_ki F i' = 14 := by
              rw [hbb] at q2
              intro q
              rw [q] at q2
              cases q2
            by_cases kw : pl_ki F w = 14
            · have hw : ¬ w = i' := fun q => hki (by rw [← q]; exact kw)
              rw [kw, if_pos (show nI 14 = 14 from rfl), pl_ck hx13 (by omega), esub, if_neg (fun q => hw (by have := (nI_eq (by omega) (by omega)).mp q; omega)), e52]
              rfl
            · have hk64 : pl_ki F w < 2 ^ 31 ∨ True := Or.inr trivial
              by_cases kq : nI (pl_ki F w) = 14
              · rw [if_pos kq, pl_ck hx13 (by omega), esub]
                by_cases hw : w = i'
                · subst hw
                  exfalso
                  have h64 : ∀ (G : List pl_N) (j : Nat), pl_xfa T G → pl_ki G j < 64 := by
                    intro G
                    induction G with
                    | nil => intro j _; show 0 < 64; decide
                    | cons g G ihG =>
                      intro j hG
                      cases j with
                      | zero => exact hG.1.2.2.2.2
                      | succ j => exact ihG j hG.2
                  exact kw ((nI_eq (b := 14) (by have := h64 F w hxf; omega) (by omega)).mp kq)
                · rw [if_neg (fun q => hw (by have := (nI_eq (by omega) (by omega)).mp q; omega)), e52]
                  rfl
              · rw [if_neg kq, e52]
                rfl
      show ((∀ c, c ∈ pl_cl b (e :: l) → pl_yes T E c) → prf_X_lookAll_2 (f + 1 + (l.length + 1)) τ (nI k) (nI (k + pre.length)) = some (1, τ)) ∧ (∀ w pt, pl_bad T E (pl_cl b (e :: l)) w pt → prf_X_lookAll_2 (f + 1 + (l.length + 1)) τ (nI k) (nI (k + pre.length)) = some (0, pl_wX T τ w pt))
      rw [step, hcl]
      by_cases k13 : e.1 = 13
      · obtain ⟨id, i1, i2, i3⟩ := n3 k13
        obtain ⟨m1, m2⟩ := pl_nmX h (x3 k13) (show k + pre.length < 13000 by omega) n2 i1 i2 i3 b
        have e76' : prf_X_lookAll_76 (prf_X_lookAll_2 (f + 1 + l.length)) τ (nI k) (nI (k + pre.length)) = prf_X_lookAll_2 (f + 1 + l.length) τ (nI k) (nI (k + pre.length + 1)) := by
          rw [e76, if_neg (fun q => by omega)]
        rw [if_pos k13, if_pos k13]
        constructor
        · intro hall
          have hy := hall (e.2.1, b) (List.mem_append_left _ (List.mem_cons_self ..))
          unfold pl_yes at hy
          rw [if_pos (show pl_xK T (e.2.1, b).1 = 2 from x3 k13)] at hy
          obtain ⟨i, e', hl, he⟩ := hy
          rw [m1 i e' hl he, pl_sb, if_neg (show ¬ ((1 : Int32), τ).1 = 0 from pl_10)]
          show prf_X_lookAll_76 _ τ (nI k) (nI (k + pre.length)) = _
          rw [e76']
          exact (hnext' f).1 (fun c hc => hall c (List.mem_append_right _ hc))
        · intro w pt hbad
          rcases pl_bad_cons hbad with hno | ⟨hy, hbad2⟩
          · rw [m2 w pt hno, pl_sb, if_pos rfl]
          · unfold pl_yes at hy
            rw [if_pos (show pl_xK T (e.2.1, b).1 = 2 from x3 k13)] at hy
            obtain ⟨i, e', hl, he⟩ := hy
            rw [m1 i e' hl he, pl_sb, if_neg (show ¬ ((1 : Int32), τ).1 = 0 from pl_10)]
            show prf_X_lookAll_76 _ τ (nI k) (nI (k + pre.length)) = _
            rw [e76']
            exact (hnext' f).2 w pt hbad2
      · rw [if_neg k13, if_neg k13, e76]
        by_cases k16 : e.1 = 16 ∧ e.2.2.2 ≠ 1
        · rw [if_pos k16, if_pos k16]
          have hk2 : ¬ pl_xK T e.2.1 = 2 := by have := x4 k16.1; omega
          have eyes : pl_yes T E (e.2.1, false) = (pl_lim T (e.2.1 + 2) ≤ pl_lim T (pl_sec T (e.2.1 + 2))) := by unfold pl_yes; rw [if_neg (show ¬ pl_xK T (e.2.1, false).1 = 2 from hk2)]
          constructor
          · intro hall
            have hy := hall (e.2.1, false) (List.mem_append_left _ (List.mem_cons_self ..))
            rw [eyes] at hy
            rw [if_pos hy]
            exact (hnext' f).1 (fun c hc => hall c (List.mem_append_right _ hc))
          · intro w pt hbad
            rcases pl_bad_cons hbad with hno | ⟨hy, hbad2⟩
            · unfold pl_no at hno
              rw [if_neg (show ¬ pl_xK T (e.2.1, false).1 = 2 from hk2)] at hno
              obtain ⟨rfl, rfl, hno⟩ := hno
              rw [if_neg hno]
            · rw [eyes] at hy
              rw [if_pos hy]
              exact (hnext' f).2 w pt hbad2
        · rw [if_neg k16, if_neg k16, List.nil_append]
          exact hnext' f
  have key := main F [] (99999 - F.length) false rfl hnd hxf (Or.inl ⟨rfl, rfl⟩)
  have e1 : 99999 - F.length + 1 + F.length = pr_FU := by rw [hF]; omega
  rw [e1] at key
  exact key
