/-! KEEPING: a tree of drafts becomes nodes -/
/-- nodes from n on -/
def pl_nd (T : pl_Tx) (τ : pr_St) (m : Nat) (rep : Nat → Nat) : Nat → List pl_N → Prop
  | _, [] => True
  | n, e :: l => (τ.2.1 13 n = nI e.1 ∧ τ.2.1 14 n = nI (pl_xP T e.2.1) ∧ (e.1 = 13 → ∃ id, τ.2.1 15 n = nI id ∧ id < m ∧ pl_sn T (rep id) e.2.1) ∧ (¬ e.1 = 13 → τ.2.1 15 n = e.2.2.1) ∧ τ.2.1 17 n = nI e.2.2.2) ∧ pl_nd T τ m rep (n + 1) l
theorem pl_nd_app {T : pl_Tx} {τ : pr_St} {m : Nat} {rep : Nat → Nat} : ∀ (a b : List pl_N) (n : Nat), pl_nd T τ m rep n a → pl_nd T τ m rep (n + a.length) b → pl_nd T τ m rep n (a ++ b) := by
  intro a
  induction a with
  | nil => intro b n _ h; exact h
  | cons e l ih =>
    intro b n h1 h2
    refine ⟨h1.1, ih b (n + 1) h1.2 ?_⟩
    rw [List.length_cons] at h2
    rw [show n + 1 + l.length = n + (l.length + 1) by omega]
    exact h2
theorem pl_nd_l {T : pl_Tx} {τ : pr_St} {m : Nat} {rep : Nat → Nat} : ∀ (a b : List pl_N) (n : Nat), pl_nd T τ m rep n (a ++ b) → pl_nd T τ m rep n a ∧ pl_nd T τ m rep (n + a.length) b := by
  intro a
  induction a with
  | nil => intro b n h; exact ⟨trivial, h⟩
  | cons e l ih =>
    intro b n h
    obtain ⟨i1, i2⟩ := ih b (n + 1) h.2
    refine ⟨⟨h.1, i1⟩, ?_⟩
    rw [List.length_cons, show n + (l.length + 1) = n + 1 + l.length by omega]
    exact i2
theorem pl_nd_eq {T : pl_Tx} {τ τ' : pr_St} {m m' : Nat} {rep rep' : Nat → Nat} (hm : m ≤ m') (hr : ∀ j, j < m → rep' j = rep j) : ∀ (a : List pl_N) (n : Nat), (∀ r z, 13 ≤ r → r ≤ 17 → ¬ r = 16 → n ≤ z → z < n + a.length → τ'.2.1 r z = τ.2.1 r z) → pl_nd T τ m rep n a → pl_nd T τ' m' rep' n a := by
  intro a
  induction a with
  | nil => intro n _ _; trivial
  | cons e l ih =>
    intro n h h1
    rw [List.length_cons] at h
    refine ⟨?_, ih (n + 1) (fun r z h2 h3 h4 h5 h6 => h r z h2 h3 h4 (by omega) (by omega)) h1.2⟩
    obtain ⟨⟨w1, w2, w3, w4, w5⟩, _⟩ := h1
    rw [h 13 n (by decide) (by decide) (by decide) (Nat.le_refl _) (by omega), h 14 n (by decide) (by decide) (by decide) (Nat.le_refl _) (by omega), h 15 n (by decide) (by decide) (by decide) (Nat.le_refl _) (by omega), h 17 n (by decide) (by decide) (by decide) (Nat.le_refl _) (by omega)]
    refine ⟨w1, w2, fun q => ?_, w4, w5⟩
    obtain ⟨id, i1, i2, i3⟩ := w3 q
    exact ⟨id, i1, by omega, by rw [hr id i2]; exact i3⟩
/-- sizes nest -/
def pl_ns : List pl_N → Prop
  | [] => True
  | e :: l => (1 ≤ e.2.2.2 ∧ e.2.2.2 ≤ 1 + l.length) ∧ pl_ns l
theorem pl_ns_app : ∀ a b : List pl_N, pl_ns a → pl_ns b → pl_ns (a ++ b) := by
  intro a
  induction a with
  | nil => intro b _ h; exact h
  | cons e l ih =>
    intro b h1 h2
    refine ⟨⟨h1.1.1, ?_⟩, ih b h1.2 h2⟩
    have := h1.1.2
    show e.2.2.2 ≤ 1 + (l ++ b).length
    rw [List.length_append]
    omega
def pl_sz : List pl_N → Nat → Nat
  | [], _ => 0
  | e :: _, 0 => e.2.2.2
  | _ :: l, j + 1 => pl_sz l j
theorem pl_ns_sz : ∀ (F : List pl_N) (j : Nat), pl_ns F → j < F.length → 1 ≤ pl_sz F j ∧ j + pl_sz F j ≤ F.length := by
  intro F
  induction F with
  | nil => intro j _ h; exact absurd h (Nat.not_lt_zero _)
  | cons e l ih =>
    intro j h hj
    rw [List.length_cons] at hj ⊢
    cases j with
    | zero => have := h.1; show 1 ≤ e.2.2.2 ∧ 0 + e.2.2.2 ≤ _; omega
    | succ j =>
      have := ih j h.2 (by omega)
      show 1 ≤ pl_sz l j ∧ j + 1 + pl_sz l j ≤ _
      omega
theorem pl_sz_l : ∀ {A C : List pl_N} {j : Nat}, j < A.length → pl_sz (A ++ C) j = pl_sz A j := by
  intro A
  induction A with
  | nil => intro C j h; exact absurd h (Nat.not_lt_zero _)
  | cons e l ih =>
    intro C j h
    cases j with
    | zero => rfl
    | succ j => exact ih (by rw [List.length_cons] at h; omega)
theorem pl_sz_r : ∀ {A C : List pl_N} {j : Nat}, pl_sz (A ++ C) (A.length + j) = pl_sz C j := by
  intro A
  induction A with
  | nil => intro C j; rw [List.length_nil, Nat.zero_add]; rfl
  | cons e l ih =>
    intro C j
    rw [List.length_cons, show l.length + 1 + j = l.length + j + 1 by omega]
    exact ih
theorem pl_sz_c {e : pl_N} {l : List pl_N} {j : Nat} : pl_sz (e :: l) (j + 1) = pl_sz l j := rfl
/-- of which node each node is a part -/
def pl_wh (τ : pr_St) (n : Nat) (o : Int32) (F : List pl_N) : Prop := ∀ i, i < F.length → (i = 0 ∧ τ.2.1 16 n = o) ∨ (∃ w, w < i ∧ τ.2.1 16 (n + i) = nI (n + w) ∧ i < w + pl_sz F w ∧ ∀ j, w < j → j < i → j + pl_sz F j ≤ i)
theorem pl_wh_eq {τ τ' : pr_St} {n : Nat} {o : Int32} {F : List pl_N} (h : pl_wh τ n o F) (he : ∀ z, n ≤ z → z < n + F.length → τ'.2.1 16 z = τ.2.1 16 z) : pl_wh τ' n o F := by
  intro i hi
  rcases h i hi with ⟨h1, h2⟩ | ⟨w, h1, h2, h3⟩
  · exact Or.inl ⟨h1, by rw [he n (Nat.le_refl _) (by omega)]; exact h2⟩
  · exact Or.inr ⟨w, h1, by rw [he (n + i) (by omega) (by omega)]; exact h2, h3⟩
/-- the parts of a node, one behind the other -/
def pl_whs (τ : pr_St) (o : Int32) : Nat → List (Nat × List pl_N) → Prop
  | _, [] => True
  | n, e :: l => pl_wh τ n o e.2 ∧ pl_whs τ o (n + e.2.length) l
theorem pl_whs_eq {τ τ' : pr_St} {o : Int32} : ∀ (cs : List (Nat × List pl_N)) (n : Nat), pl_whs τ o n cs → (∀ z, n ≤ z → z < n + (pl_cat cs).length → τ'.2.1 16 z = τ.2.1 16 z) → pl_whs τ' o n cs := by
  intro cs
  induction cs with
  | nil => intro n _ _; trivial
  | cons e l ih =>
    intro n h he
    have el : (pl_cat (e :: l)).length = e.2.length + (pl_cat l).length := by show (e.2 ++ pl_cat l).length = _; rw [List.length_append]
    rw [el] at he
    exact ⟨pl_wh_eq h.1 (fun z h1 h2 => he z h1 (by omega)), ih _ h.2 (fun z h1 h2 => he z (by omega) (by omega))⟩
/-- a node over its parts -/
theorem pl_wh_node {τ : pr_St} {n0 : Nat} {o : Int32} {k t : Nat} {v : Int32} {cs : List (Nat × List pl_N)} (h0 : τ.2.1 16 n0 = o) (hs : pl_whs τ (nI n0) (n0 + 1) cs) (hns : ∀ e, e ∈ cs → pl_ns e.2) : pl_wh τ n0 o ((k, t, v, 1 + (pl_cat cs).length) :: pl_cat cs) := by
  -- the parts from the list l on, behind A
  have main : ∀ (l : List (Nat × List pl_N)) (A : List pl_N), pl_cat cs = A ++ pl_cat l → pl_ns A → (∀ e, e ∈ l → pl_ns e.2) → pl_whs τ (nI n0) (n0 + 1 + A.length) l → ∀ i, A.length ≤ i → i < A.length + (pl_cat l).length → ∃ w, w < i + 1 ∧ τ.2.1 16 (n0 + (i + 1)) = nI (n0 + w) ∧ i + 1 < w + pl_sz ((k, t, v, 1 + (pl_cat cs).length) :: pl_cat cs) w ∧ ∀ j, w < j → j < i + 1 → j + pl_sz ((k, t, v, 1 + (pl_cat cs).length) :: pl_cat cs) j ≤ i + 1 := by
    intro l
    induction l with
    | nil => intro A _ _ _ _ i h1 h2; exact absurd h2 (by show ¬ i < A.length + 0; omega)
    | cons e l ih =>
      intro A hA hnA hnl hw i h1 h2
      have el : pl_cat (e :: l) = e.2 ++ pl_cat l := rfl
      have ell : (pl_cat (e :: l)).length = e.2.length + (pl_cat l).length := by rw [el, List.length_append]
      by_cases hi : i < A.length + e.2.length
      · -- inside e
        obtain ⟨i', rfl⟩ : ∃ i', i = A.length + i' := ⟨i - A.length, by omega⟩
        have hsz : ∀ j, j < e.2.length → pl_sz ((k, t, v, 1 + (pl_cat cs).length) :: pl_cat cs) (A.length + j + 1) = pl_sz e.2 j := by
          intro j hj
          rw [pl_sz_c, hA, el, ← List.append_assoc, pl_sz_l (by rw [List.length_append]; omega), pl_sz_r]
        have hszA : ∀ j, j < A.length → pl_sz ((k, t, v, 1 + (pl_cat cs).length) :: pl_cat cs) (j + 1) = pl_sz A j := by
          intro j hj
          rw [pl_sz_c, hA, pl_sz_l hj]
        have hns := hnl e (List.mem_cons_self ..)
        rcases hw.1 i' (by omega) with ⟨z1, z2⟩ | ⟨w, z1, z2, z3, z4⟩
        · subst z1
          refine ⟨0, by omega, ?_, ?_, fun j hj1 hj2 => ?_⟩
          · rw [show n0 + (A.length + 0 + 1) = n0 + 1 + A.length by omega, z2]; rfl
          · show A.length + 0 + 1 < 0 + (1 + (pl_cat cs).length)
            rw [hA, List.length_append]; omega
          · obtain ⟨j', rfl⟩ : ∃ j', j = j' + 1 := ⟨j - 1, by omega⟩
            rw [hszA j' (by omega)]
            have := pl_ns_sz A j' hnA (by omega)
            omega
        · refine ⟨A.length + w + 1, by omega, ?_, ?_, fun j hj1 hj2 => ?_⟩
          · rw [show n0 + (A.length + i' + 1) = n0 + 1 + A.length + i' by omega, z2, show n0 + 1 + A.length + w = n0 + (A.length + w + 1) by omega]
          · rw [hsz w (by omega)]; omega
          · obtain ⟨j', rfl⟩ : ∃ j', j = A.length + j' + 1 := ⟨j - A.length - 1, by omega⟩
            rw [hsz j' (by omega)]
            have := z4 j' (by omega) (by omega)
            omega
      · refine ih (A ++ e.2) (by rw [hA, el, List.append_assoc]) (pl_ns_app _ _ hnA (hnl e (List.mem_cons_self ..))) (fun x hx => hnl x (List.mem_cons_of_mem _ hx)) (by rw [List.length_append, ← Nat.add_assoc]; exact hw.2) i (by rw [List.length_append]; omega) (by rw [List.length_append]; omega)
  intro i hi
  rw [List.length_cons] at hi
  cases i with
  | zero => exact Or.inl ⟨rfl, h0⟩
  | succ i => exact Or.inr (main cs [] rfl trivial hns (by simpa using hs) i (Nat.zero_le _) (by show i < 0 + _; omega))
/-- the nodes in which a node lies -/
def pl_pa (τ : pr_St) : Nat → List Nat → Prop
  | _, [] => False
  | o, x :: l => x = o ∧ ((l = [] ∧ τ.2.1 16 o = -1) ∨ (∃ w, w < o ∧ τ.2.1 16 o = nI w ∧ pl_pa τ w l))
theorem pl_pa_le {τ : pr_St} : ∀ (A : List Nat) (o : Nat), pl_pa τ o A → (∀ x, x ∈ A → x ≤ o) ∧ A.length ≤ o + 1 := by
  intro A
  induction A with
  | nil => intro o h; exact h.elim
  | cons y l ih =>
    intro o h
    obtain ⟨rfl, h⟩ := h
    rcases h with ⟨rfl, _⟩ | ⟨w, h1, h2, h3⟩
    · refine ⟨fun x hx => ?_, by show 1 ≤ _; omega⟩
      have hxy : x = y := by simpa using hx
      omega
    · obtain ⟨i1, i2⟩ := ih w h3
      refine ⟨fun x hx => ?_, by rw [List.length_cons]; omega⟩
      rcases List.mem_cons.mp hx with rfl | hx
      · exact Nat.le_refl _
      · have := i1 x hx; omega
theorem pl_pa_eq {τ τ' : pr_St} : ∀ (A : List Nat) (o : Nat), (∀ z, z ≤ o → τ'.2.1 16 z = τ.2.1 16 z) → pl_pa τ o A → pl_pa τ' o A := by
  intro A
  induction A with
  | nil => intro o _ h; exact h
  | cons y l ih =>
    intro o he h
    obtain ⟨rfl, h⟩ := h
    refine ⟨rfl, ?_⟩
    rcases h with ⟨h0, h1⟩ | ⟨w, h1, h2, h3⟩
    · exact Or.inl ⟨h0, by rw [he y (Nat.le_refl _)]; exact h1⟩
    · exact Or.inr ⟨w, h1, by rw [he y (Nat.le_refl _)]; exact h2, ih w (fun z hz => he z (by omega)) h3⟩
def pl_FA (o k : Nat) : Bool := o == 0 && k == 24
def pl_G17 (a : Nat) : Bool := a == 17
theorem pl_add55 : ∀ (A : List Nat) (o f n : Nat) (τ : pr_St), pl_pa τ o A → o < 13000 → A.length + 1 ≤ f → τ.1 0 24 = nI n → ∃ τ', prf_X_add_55 f τ (nI o) = some (nI n, τ') ∧ τ'.1 0 24 = nI (n + 1) ∧ pl_fr pl_FA pl_G17 τ τ' ∧ ∀ j, τ'.2.1 17 j = if j ∈ A then τ.2.1 17 j + 1 else τ.2.1 17 j := by
  intro A
  induction A with
  | nil => intro o f n τ h; exact h.elim
  | cons y l ih =>
    intro o f n τ h ho hf hn
    obtain ⟨rfl, h⟩ := h
    rw [List.length_cons] at hf
    obtain ⟨f, rfl⟩ : ∃ z, f = z + 1 := ⟨f - 1, by omega⟩
    have step : prf_X_add_55 (f + 1) τ (nI y) = prf_X_add_55 f (pr_sA τ 17 (upd (τ.2.1 17) y (τ.2.1 17 y + 1))) (τ.2.1 16 y) := by
      rw [prf_X_add_55, if_neg (pl_nIm1 (by omega)), pl_ck ho (by omega), pl_ck ho (by omega), pl_ck ho (by omega), nI_clamp (by omega)]
    rw [step]
    rcases h with ⟨rfl, h1⟩ | ⟨w, h1, h2, h3⟩
    · obtain ⟨f, rfl⟩ : ∃ z, f = z + 1 := ⟨f - 1, by omega⟩
      refine ⟨pr_sI (pr_sA τ 17 (upd (τ.2.1 17) y (τ.2.1 17 y + 1))) 0 24 (nI (n + 1)), ?_, pr_sI_same, (pl_sA_fr (o := 17) rfl).tr (pl_sI_fr (o := 0) (k := 24) rfl), fun j => ?_⟩
      · rw [h1, prf_X_add_55, if_pos rfl]
        show some (τ.1 0 24 + 1 - 1, pr_sI (pr_sA τ 17 (upd (τ.2.1 17) y (τ.2.1 17 y + 1))) 0 24 (τ.1 0 24 + 1)) = _
        rw [hn, nI_1, nI_pred]
      · show upd (τ.2.1 17) y (τ.2.1 17 y + 1) j = _
        by_cases hj : j = y
        · subst hj; rw [pk_us, if_pos (List.mem_singleton.mpr rfl)]
        · rw [pk_un hj, if_neg (by simpa using hj)]
    · have hle := (pl_pa_le l w h3).1
      obtain ⟨τ', w1, w2, w3, w4⟩ := ih w f n (pr_sA τ 17 (upd (τ.2.1 17) y (τ.2.1 17 y + 1))) (pl_pa_eq (τ := τ) l w (fun z _ => rfl) h3) (by omega) (by omega) hn
      refine ⟨τ', by rw [h2]; exact w1, w2, (pl_sA_fr (o := 17) rfl).tr w3, fun j => ?_⟩
      rw [w4, pl_sA_same]
      by_cases hj : j = y
      · subst hj
        rw [pk_us, if_neg (fun q => by have := hle j q; omega), if_pos (List.mem_cons_self ..)]
      · rw [pk_un hj]
        by_cases hl : j ∈ l
        · rw [if_pos hl, if_pos (List.mem_cons_of_mem _ hl)]
        · rw [if_neg hl, if_neg (fun q => by rcases List.mem_cons.mp q with q | q; exact hj q; exact hl q)]
def pl_GA (a : Nat) : Bool := a == 13 || a == 14 || a == 15 || a == 16 || a == 17
/-- one more node -/
theorem pl_addN {τ : pr_St} {n o : Nat} {A : List Nat} (hn : τ.1 0 24 = nI n) (hn13 : n < 13000) (ho : o < n) (hp : pl_pa τ o A) (k p v : Int32) : ∃ τ', prf_X_add τ k p v (nI o) = some (nI n, τ') ∧ τ'.1 0 24 = nI (n + 1) ∧ pl_fr pl_FA pl_GA τ τ' ∧ τ'.2.1 13 = upd (τ.2.1 13) n k ∧ τ'.2.1 14 = upd (τ.2.1 14) n p ∧ τ'.2.1 15 = upd (τ.2.1 15) n v ∧ τ'.2.1 16 = upd (τ.2.1 16) n (nI o) ∧ τ'.2.1 17 n = 1 ∧ (∀ j, ¬ j = n → τ'.2.1 17 j = if j ∈ A then τ.2.1 17 j + 1 else τ.2.1 17 j) := by
  have hle := pl_pa_le A o hp
  obtain ⟨τ1, h1⟩ : ∃ τ1, τ1 = pr_sA (pr_sA (pr_sA (pr_sA (pr_sA τ 13 (upd (τ.2.1 13) n k)) 14 (upd (τ.2.1 14) n p)) 15 (upd (τ.2.1 15) n v)) 16 (upd (τ.2.1 16) n (nI o))) 17 (upd (τ.2.1 17) n 1) := ⟨_, rfl⟩
  have e13 : τ1.2.1 13 = upd (τ.2.1 13) n k := by rw [h1]; rfl
  have e14 : τ1.2.1 14 = upd (τ.2.1 14) n p := by rw [h1]; rfl
  have e15 : τ1.2.1 15 = upd (τ.2.1 15) n v := by rw [h1]; rfl
  have e16 : τ1.2.1 16 = upd (τ.2.1 16) n (nI o) := by rw [h1]; rfl
  have e17 : τ1.2.1 17 = upd (τ.2.1 17) n 1 := by rw [h1]; rfl
  have ef : τ1.1 = τ.1 := by rw [h1]; rfl
  have hfr : pl_fr pl_FA pl_GA τ τ1 := by
    rw [h1]
    exact ((((pl_sA_fr (o := 13) rfl).tr (pl_sA_fr (o := 14) rfl)).tr (pl_sA_fr (o := 15) rfl)).tr (pl_sA_fr (o := 16) rfl)).tr (pl_sA_fr (o := 17) rfl)
  obtain ⟨τ', w1, w2, w3, w4⟩ := pl_add55 A o pr_FU n τ1 (pl_pa_eq A o (fun z hz => by rw [e16, pk_un (by omega)]) hp) (by omega) (by rw [show pr_FU = 100000 from rfl]; omega) (by rw [ef]; exact hn)
  refine ⟨τ', ?_, w2, ⟨fun a b hab => (w3.1 a b hab).trans (hfr.1 a b hab), fun r hr => ?_, w3.2.2.trans hfr.2.2⟩, by rw [w3.2.1 13 rfl, e13], by rw [w3.2.1 14 rfl, e14], by rw [w3.2.1 15 rfl, e15], by rw [w3.2.1 16 rfl, e16], ?_, fun j hj => ?_⟩
  · unfold prf_X_add
    rw [hn, pl_ck hn13 (by omega), pl_ck hn13 (by omega), pl_ck hn13 (by omega), pl_ck hn13 (by omega), pl_ck hn13 (by omega), nI_clamp (by omega), ← h1]
    exact w1
  · have hr17 : pl_G17 r = false := by
      unfold pl_GA at hr
      unfold pl_G17
      simp only [Bool.or_eq_false_iff] at hr
      exact hr.2
    rw [w3.2.1 r hr17]
    exact hfr.2.1 r hr
  · rw [w4, e17, if_neg (fun q => by have := hle.1 n q; omega), pk_us]
  · rw [w4, e17, pk_un hj]
