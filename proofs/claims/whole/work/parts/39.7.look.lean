/-! THE LAYOUT: what a statement looks up -/
def pl_bI (b : Bool) : Int32 := if b = true then 1 else 0
/-- the slot of a name among those of its function -/
def pl_so (T : pl_Tx) (E : List (Nat × Bool)) (t : Nat) (b : Bool) (x : Int32) : Prop := ∃ i e, pl_lst T E 0 t i e ∧ e.2 = b ∧ x = nI (pl_cnt b (E.take i))
theorem pl_lst_app {T : pl_Tx} {A E : List (Nat × Bool)} {t v : Nat} {e : Nat × Bool} (h : pl_lst T (A ++ E) A.length t v e) : ∃ i, v = A.length + i ∧ pl_lst T E 0 t i e := by
  obtain ⟨h1, h2, h3, h4⟩ := h
  refine ⟨v - A.length, by omega, Nat.zero_le _, ?_, h3, fun j x hj hx => h4 (A.length + j) x (by omega) ?_⟩
  · rw [List.getElem?_append_right h1] at h2; exact h2
  · rw [List.getElem?_append_right (by omega), show A.length + j - A.length = j by omega]; exact hx
theorem pl_lst_ap {T : pl_Tx} {A E : List (Nat × Bool)} {t i : Nat} {e : Nat × Bool} (h : pl_lst T E 0 t i e) : pl_lst T (A ++ E) A.length t (A.length + i) e := by
  obtain ⟨h1, h2, h3, h4⟩ := h
  refine ⟨by omega, ?_, h3, fun j x hj hx => h4 (j - A.length) x (by omega) ?_⟩
  · rw [List.getElem?_append_right (by omega), show A.length + i - A.length = i by omega]; exact h2
  · rw [List.getElem?_append_right (by omega)] at hx; exact hx
/-- the state while a statement is looked at: foreign variables A, its function's own E -/
def pl_ls (T : pl_Tx) (m : Nat) (rep : Nat → Nat) (A E : List (Nat × Bool)) (σ τ : pr_St) : Prop := pl_tt T σ τ ∧ pl_by8 σ ∧ pl_scp T m rep σ τ (A ++ E) ∧ (∀ j k, j < k → k < m → ¬ pl_sn T (rep j) (rep k)) ∧ m ≤ 8000 ∧ σ.1 6 11 = nI (pl_cnt false A) ∧ σ.1 6 12 = nI (pl_cnt true A) ∧ τ.1 0 43 = nI A.length ∧ τ.1 0 47 = 0
theorem pl_ls_24 {T : pl_Tx} {m : Nat} {rep : Nat → Nat} {A E : List (Nat × Bool)} {σ τ : pr_St} (h : pl_ls T m rep A E σ τ) (f : Nat → Int32) : pl_ls T m rep A E (pr_sA σ 24 f) τ := by
  obtain ⟨h1, h2, h3, h4, h5, h6, h7, h8, h9⟩ := h
  exact ⟨pl_tt_fr h1 (pl_sA_fr (F := fun _ _ => false) (G := fun a => a == 24) rfl) (pl_fr.rf (F := pl_FQ) (G := pl_GD)) ⟨rfl, rfl, rfl, rfl, rfl, rfl⟩ ⟨rfl, rfl, rfl, rfl, rfl, rfl⟩, h2, h3, h4, h5, h6, h7, h8, h9⟩
theorem pl_nmC {T : pl_Tx} {m : Nat} {rep : Nat → Nat} {A E : List (Nat × Bool)} {σ τ : pr_St} (h : pl_ls T m rep A E σ τ) {t : Nat} (ht : t < pl_xc T) (kt : pl_xK T t = 2) (b : Bool) : (∀ i e, pl_lst T E 0 t i e → e.2 = b → prf_Y_nameHolds σ (nI t) (pl_bI b) = some (1, pr_sA σ 24 (upd (σ.2.1 24) t (nI (pl_cnt b (E.take i)))))) ∧ (∀ w pt, pl_no T E (t, b) w pt → prf_Y_nameHolds σ (nI t) (pl_bI b) = some (0, pl_wC T σ w pt)) := by
  obtain ⟨h1, h2, h3, h4, h5, h6, h7, h8, h9⟩ := h
  have hlen := pl_scp_len h3
  rw [List.length_append] at hlen
  have hf := pl_find h1 h2 h3 (t := t) (base := A.length) ht kt (by rw [List.length_append]; omega)
  have c8 := pl_c8 h1
  have ebase : σ.1 6 11 + σ.1 6 12 = nI A.length := by rw [h6, h7, nI_add, pl_cnt_len]
  have go : ∀ v e, pl_lst T (A ++ E) A.length t v e → prf_S_find σ (nI t) (nI A.length) = some (nI v) → ∃ i, pl_lst T E 0 t i e ∧ prf_Y_nameHolds σ (nI t) (pl_bI b) = if e.2 = b then some (1, pr_sA σ 24 (upd (σ.2.1 24) t (nI (pl_cnt b (E.take i))))) else some (0, pl_wC T σ 3 t) := by
    intro v e hl hfd
    obtain ⟨i, rfl, hi⟩ := pl_lst_app hl
    have hv : A.length + i < 18 := by
      have := (List.getElem?_eq_some_iff.mp hl.2.1).1
      rw [List.length_append] at this
      omega
    obtain ⟨_, r40, r41, _⟩ := h3.2.2.2.2.2.2.2 (A.length + i) e hl.2.1
    have etk : (A ++ E).take (A.length + i) = A ++ E.take i := by
      rw [List.take_append, List.take_of_length_le (by omega), show A.length + i - A.length = i by omega]
    rw [etk, pl_cnt_app] at r40
    refine ⟨i, hi, ?_⟩
    have eA : prf_S_isArray σ (nI (A.length + i)) = some (pl_bI e.2) := by
      unfold prf_S_isArray prf_S_isVariable pl_bI
      rw [if_neg (nI_pos (by omega)), if_neg (show ¬ (18 : Int32) ≤ nI (A.length + i) from nI_ge (b := 18) hv (by omega)), pl_sb, if_neg pl_10, pl_ck hv (by omega), nI_clamp (by omega), r41]
      cases e.2 with
      | false => simp
      | true => simp
    have eS : prf_S_slotOf σ (nI (A.length + i)) = some (nI (pl_cnt e.2 A + pl_cnt e.2 (E.take i))) := by
      unfold prf_S_slotOf prf_S_isVariable
      rw [if_neg (nI_pos (by omega)), if_neg (show ¬ (18 : Int32) ≤ nI (A.length + i) from nI_ge (b := 18) hv (by omega)), pl_sb, if_neg pl_10, pl_ck hv (by omega), nI_clamp (by omega), r40]
    have eSet : ∀ x : Int32, prf_G_setSlot σ (nI t) x = some (pr_sA σ 24 (upd (σ.2.1 24) t x)) := by
      intro x
      unfold prf_G_setSlot
      rw [if_neg (nI_pos (by omega)), if_neg (show ¬ (8001 : Int32) ≤ nI t from nI_ge (b := 8001) (by omega) (by omega)), pl_ck (by omega) (by omega), nI_clamp (by omega)]
    have esub : ∀ x y : Nat, nI (x + y) - nI x = nI y := by
      intro x y
      rw [← nI_add, Int32.add_comm, Int32.add_sub_cancel]
    unfold prf_Y_nameHolds
    rw [ebase, hfd, pl_sb, if_neg (pl_nIm1 (by omega)), eA, pl_sb]
    by_cases q : e.2 = b
    · rw [if_pos q, if_pos (by rw [q]), eS, pl_sb, eSet, eSet, pl_sb, pl_sb, h6, h7, q]
      cases b with
      | false => rw [if_pos (show pl_bI false = 0 from rfl), esub]
      | true => rw [if_neg (show ¬ pl_bI true = 0 by decide), esub]
    · rw [if_neg q, if_neg (fun z => q (by
        cases he : e.2 with
        | false => cases hb : b with
          | false => rfl
          | true => rw [he, hb] at z; exact absurd z (by decide)
        | true => cases hb : b with
          | false => rw [he, hb] at z; exact absurd z (by decide)
          | true => rfl)), pl_isW h1 ht, pl_sb]
      rfl
  refine ⟨fun i e hl hb => ?_, fun w pt hno => ?_⟩
  · rcases hf with ⟨v, e', hl', hfd⟩ | ⟨hn, _⟩
    · obtain ⟨i', hi', hq⟩ := go v e' hl' hfd
      obtain ⟨rfl, rfl⟩ := pl_lst_u hl hi'
      rw [hq, if_pos hb]
    · exact absurd hl.2.2.1 (hn (A.length + i) e (by omega) (pl_lst_ap (A := A) hl).2.1)
  · unfold pl_no at hno
    rw [if_pos (show pl_xK T (t, b).1 = 2 from kt)] at hno
    obtain ⟨rfl, hno⟩ := hno
    rcases hno with ⟨hn, rfl⟩ | ⟨i, e, hl, hne, rfl⟩
    · rcases hf with ⟨v, e', hl', hfd⟩ | ⟨_, hfd⟩
      · obtain ⟨i', hi', _⟩ := go v e' hl' hfd
        exact absurd hi'.2.2.1 (hn i' e' hi'.2.1)
      · unfold prf_Y_nameHolds
        rw [ebase, hfd, pl_sb, if_pos rfl, pl_isW h1 ht, pl_sb]
        rfl
    · rcases hf with ⟨v, e', hl', hfd⟩ | ⟨hn, _⟩
      · obtain ⟨i', hi', hq⟩ := go v e' hl' hfd
        obtain ⟨rfl, rfl⟩ := pl_lst_u hl hi'
        rw [hq, if_neg hne]
      · exact absurd hl.2.2.1 (hn (A.length + i) e (by omega) (pl_lst_ap (A := A) hl).2.1)
theorem pl_nmX {T : pl_Tx} {m : Nat} {rep : Nat → Nat} {A E : List (Nat × Bool)} {σ τ : pr_St} (h : pl_ls T m rep A E σ τ) {t x id : Nat} (kt : pl_xK T t = 2) (hx : x < 13000) (h14 : τ.2.1 14 x = nI (pl_xP T t)) (h15 : τ.2.1 15 x = nI id) (hid : id < m) (hsn : pl_sn T (rep id) t) (b : Bool) : (∀ i e, pl_lst T E 0 t i e → e.2 = b → prf_X_lookName τ (nI x) (pl_bI b) = some (1, τ)) ∧ (∀ w pt, pl_no T E (t, b) w pt → prf_X_lookName τ (nI x) (pl_bI b) = some (0, pl_wX T τ w pt)) := by
  obtain ⟨h1, h2, h3, h4, h5, h6, h7, h8, h9⟩ := h
  have hlen := pl_scp_len h3
  rw [List.length_append] at hlen
  have hf := pl_meantN h3 h4 h5 (t := t) (base := A.length) hid hsn (by rw [List.length_append]; omega) h8
  have go : ∀ v e, pl_lst T (A ++ E) A.length t v e → prf_X_meantNow τ (nI id) = some (nI v) → ∃ i, pl_lst T E 0 t i e ∧ prf_X_lookName τ (nI x) (pl_bI b) = if e.2 = b then some (1, τ) else some (0, pl_wX T τ 3 t) := by
    intro v e hl hfd
    obtain ⟨i, rfl, hi⟩ := pl_lst_app hl
    have hv : A.length + i < 18 := by
      have := (List.getElem?_eq_some_iff.mp hl.2.1).1
      rw [List.length_append] at this
      omega
    obtain ⟨_, _, _, _, _, r31, _, _, hsz⟩ := h3.2.2.2.2.2.2.2 (A.length + i) e hl.2.1
    refine ⟨i, hi, ?_⟩
    unfold prf_X_lookName
    rw [pl_ck hx (by omega), nI_clamp (by omega), h15, hfd, pl_sb, if_neg (pl_nIm1 (by omega)), pl_ck (by omega) (by omega), nI_clamp (by omega), r31, pl_wrX h9 hx h14]
    unfold pl_rm
    cases he : e.2 with
    | false =>
      rw [if_neg (show ¬ false = true by decide), if_pos (show (0 : Int32) ≤ 0 by decide)]
      cases b with
      | false => rw [if_pos (show (0 : Int32) = pl_bI false from rfl), if_pos rfl]
      | true => rw [if_neg (show ¬ (0 : Int32) = pl_bI true by decide), if_neg (show ¬ false = true by decide), pl_sb, if_pos rfl]
    | true =>
      obtain ⟨q1, q2⟩ := hsz he
      rw [if_pos (show true = true from rfl), if_neg (show ¬ nI (pl_vt T (e.1 + 2)) ≤ 0 from nI_nle (by omega) (by omega))]
      cases b with
      | false => rw [if_neg (show ¬ (1 : Int32) = pl_bI false by decide), if_neg (show ¬ true = false by decide), pl_sb, if_pos rfl]
      | true => rw [if_pos (show (1 : Int32) = pl_bI true from rfl), if_pos rfl]
  refine ⟨fun i e hl hb => ?_, fun w pt hno => ?_⟩
  · rcases hf with ⟨v, e', hl', hfd⟩ | ⟨hn, _⟩
    · obtain ⟨i', hi', hq⟩ := go v e' hl' hfd
      obtain ⟨rfl, rfl⟩ := pl_lst_u hl hi'
      rw [hq, if_pos hb]
    · exact absurd hl.2.2.1 (hn (A.length + i) e (by omega) (pl_lst_ap (A := A) hl).2.1)
  · unfold pl_no at hno
    rw [if_pos (show pl_xK T (t, b).1 = 2 from kt)] at hno
    obtain ⟨rfl, hno⟩ := hno
    rcases hno with ⟨hn, rfl⟩ | ⟨i, e, hl, hne, rfl⟩
    · rcases hf with ⟨v, e', hl', hfd⟩ | ⟨_, hfd⟩
      · obtain ⟨i', hi', _⟩ := go v e' hl' hfd
        exact absurd hi'.2.2.1 (hn i' e' hi'.2.1)
      · unfold prf_X_lookName
        rw [pl_ck hx (by omega), nI_clamp (by omega), h15, hfd, pl_sb, if_pos rfl, pl_wrX h9 hx h14, pl_sb]
        rfl
    · rcases hf with ⟨v, e', hl', hfd⟩ | ⟨hn, _⟩
      · obtain ⟨i', hi', hq⟩ := go v e' hl' hfd
        obtain ⟨rfl, rfl⟩ := pl_lst_u hl hi'
        rw [hq, if_neg hne]
      · exact absurd hl.2.2.1 (hn (A.length + i) e (by omega) (pl_lst_ap (A := A) hl).2.1)
theorem pl_yn {T : pl_Tx} {E : List (Nat × Bool)} (c : Nat × Bool) : pl_yes T E c ∨ ∃ w pt, pl_no T E c w pt := by
  by_cases h : pl_yes T E c
  · exact Or.inl h
  · refine Or.inr ?_
    unfold pl_yes at h
    unfold pl_no
    by_cases k : pl_xK T c.1 = 2
    · rw [if_pos k] at h
      by_cases q : ∃ i e, pl_lst T E 0 c.1 i e
      · obtain ⟨i, e, hl⟩ := q
        exact ⟨3, c.1, by rw [if_pos k]; exact ⟨rfl, Or.inr ⟨i, e, hl, fun z => h ⟨i, e, hl, z⟩, rfl⟩⟩⟩
      · have main : ∀ (n : Nat) (j : Nat) (x : Nat × Bool), E.length ≤ j + n → E[j]? = some x → ¬ pl_sn T x.1 c.1 := by
          intro n
          induction n with
          | zero => intro j x hj hx; rw [List.getElem?_eq_none (by omega)] at hx; cases hx
          | succ n ih => intro j x hj hx hsn; exact q ⟨j, x, Nat.zero_le _, hx, hsn, fun i y hi hy => ih i y (by omega) hy⟩
        exact ⟨1, c.1, by rw [if_pos k]; exact ⟨rfl, Or.inl ⟨fun j x hx => main E.length j x (by omega) hx, rfl⟩⟩⟩
    · rw [if_neg k] at h
      exact ⟨8, c.1 + 2, by rw [if_neg k]; exact ⟨rfl, rfl, h⟩⟩
/-- the first one that does not hold -/
def pl_bad (T : pl_Tx) (E : List (Nat × Bool)) (C : List (Nat × Bool)) (w : Int32) (pt : Nat) : Prop := ∃ C1 c C2, C = C1 ++ c :: C2 ∧ (∀ x, x ∈ C1 → pl_yes T E x) ∧ pl_no T E c w pt
theorem pl_allbad {T : pl_Tx} {E : List (Nat × Bool)} : ∀ C : List (Nat × Bool), (∀ x, x ∈ C → pl_yes T E x) ∨ ∃ w pt, pl_bad T E C w pt := by
  intro C
  induction C with
  | nil => exact Or.inl (fun x hx => by cases hx)
  | cons c l ih =>
    rcases pl_yn (T := T) (E := E) c with h | ⟨w, pt, h⟩
    · rcases ih with ih | ⟨w, pt, C1, c', C2, e, h1, h2⟩
      · exact Or.inl (fun x hx => by
          rcases List.mem_cons.mp hx with rfl | hx
          · exact h
          · exact ih x hx)
      · exact Or.inr ⟨w, pt, c :: C1, c', C2, by rw [e]; rfl, fun x hx => by
          rcases List.mem_cons.mp hx with rfl | hx
          · exact h
          · exact h1 x hx, h2⟩
    · exact Or.inr ⟨w, pt, [], c, l, rfl, fun x hx => (by cases hx), h⟩
theorem pl_bad_cons {T : pl_Tx} {E : List (Nat × Bool)} {c : Nat × Bool} {l : List (Nat × Bool)} {w : Int32} {pt : Nat} (h : pl_bad T E (c :: l) w pt) : pl_no T E c w pt ∨ (pl_yes T E c ∧ pl_bad T E l w pt) := by
  obtain ⟨C1, c', C2, e, h1, h2⟩ := h
  cases C1 with
  | nil =>
    have := (List.cons.inj e).1
    subst this
    exact Or.inl h2
  | cons x C1 =>
    have e1 := (List.cons.inj e).1
    have e2 := (List.cons.inj e).2
    subst e1
    exact Or.inr ⟨h1 _ (List.mem_cons_self ..), C1, c', C2, e2, fun y hy => h1 y (List.mem_cons_of_mem _ hy), h2⟩
theorem pl_bad_app {T : pl_Tx} {E A C : List (Nat × Bool)} {w : Int32} {pt : Nat} (h : pl_bad T E (A ++ C) w pt) : pl_bad T E A w pt ∨ ((∀ x, x ∈ A → pl_yes T E x) ∧ pl_bad T E C w pt) := by
  induction A with
  | nil => exact Or.inr ⟨fun x hx => (by cases hx), h⟩
  | cons c l ih =>
    rcases pl_bad_cons h with h1 | ⟨h1, h2⟩
    · exact Or.inl ⟨[], c, l, rfl, fun x hx => (by cases hx), h1⟩
    · rcases ih h2 with ⟨C1, c', C2, e, h3, h4⟩ | ⟨h3, h4⟩
      · exact Or.inl ⟨c :: C1, c', C2, by rw [e]; rfl, fun x hx => by
          rcases List.mem_cons.mp hx with rfl | hx
          · exact h1
          · exact h3 x hx, h4⟩
      · exact Or.inr ⟨fun x hx => by
          rcases List.mem_cons.mp hx with rfl | hx
          · exact h1
          · exact h3 x hx, h4⟩
