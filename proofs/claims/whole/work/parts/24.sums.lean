/-! THE PARSER: SUMs. What is to be looked up, in the order of the tokens -/
def pl_cl : Bool → List pl_N → List (Nat × Bool)
  | _, [] => []
  | b, e :: l => (if e.1 = 13 then [(e.2.1, b)] else if e.1 = 16 ∧ e.2.2.2 ≠ 1 then [(e.2.1, false)] else []) ++ pl_cl (e.1 == 14) l
def pl_l14 : Bool → List pl_N → Bool
  | b, [] => b
  | _, e :: l => pl_l14 (e.1 == 14) l
theorem pl_cl_app : ∀ (A C : List pl_N) (b : Bool), pl_cl b (A ++ C) = pl_cl b A ++ pl_cl (pl_l14 b A) C := by
  intro A
  induction A with
  | nil => intro C b; rfl
  | cons e l ih =>
    intro C b
    show _ ++ pl_cl (e.1 == 14) (l ++ C) = _ ++ pl_cl (e.1 == 14) l ++ pl_cl (pl_l14 (e.1 == 14) l) C
    rw [ih, List.append_assoc]
theorem pl_l14_app : ∀ (A C : List pl_N) (b : Bool), pl_l14 b (A ++ C) = pl_l14 (pl_l14 b A) C := by
  intro A
  induction A with
  | nil => intro C b; rfl
  | cons e l ih => intro C b; exact ih C (e.1 == 14)
theorem pl_l14_any {A : List pl_N} (h : pl_l14 true A = false) (b : Bool) : pl_l14 b A = false := by
  cases A with
  | nil => cases h
  | cons e l => exact h
def pl_ct1 (K : Nat → Nat) (a : Nat) : List (Nat × Bool) := if K a = 2 then [(a, K (a + 1) == 16)] else if K a = 11 ∧ K (a + 1) = 12 then [(a, false)] else []
def pl_ct (K : Nat → Nat) : Nat → Nat → List (Nat × Bool)
  | _, 0 => []
  | a, m + 1 => pl_ct1 K a ++ pl_ct K (a + 1) m
theorem pl_ct_app {K : Nat → Nat} : ∀ m a m' : Nat, pl_ct K a (m + m') = pl_ct K a m ++ pl_ct K (a + m) m' := by
  intro m
  induction m with
  | zero => intro a m'; rw [Nat.zero_add]; rfl
  | succ m ih =>
    intro a m'
    rw [show m + 1 + m' = m + m' + 1 by omega]
    show pl_ct1 K a ++ pl_ct K (a + 1) (m + m') = pl_ct1 K a ++ pl_ct K (a + 1) m ++ pl_ct K (a + (m + 1)) m'
    rw [ih, List.append_assoc, show a + 1 + m = a + (m + 1) by omega]
def pl_cu (K : Nat → Nat) (a b : Nat) : List (Nat × Bool) := pl_ct K a (b - a)
theorem pl_cu_app {K : Nat → Nat} {a b c : Nat} (h1 : a ≤ b) (h2 : b ≤ c) : pl_cu K a c = pl_cu K a b ++ pl_cu K b c := by
  unfold pl_cu
  rw [show c - a = (b - a) + (c - b) by omega, pl_ct_app, show a + (b - a) = b by omega]
theorem pl_cu_1 {K : Nat → Nat} {a : Nat} : pl_cu K a (a + 1) = pl_ct1 K a := by
  unfold pl_cu
  rw [show a + 1 - a = 1 by omega]
  show pl_ct1 K a ++ [] = _
  rw [List.append_nil]
theorem pl_cu_0 {K : Nat → Nat} {a : Nat} : pl_cu K a a = [] := by
  unfold pl_cu
  rw [Nat.sub_self]
  rfl
/-- a token that needs no looking up -/
def pl_pn (k : Nat) : Prop := k ≠ 2 ∧ k ≠ 11 ∧ k ≠ 19 ∧ k ≠ 14
theorem pl_ct1_pn {K : Nat → Nat} {a : Nat} (h : pl_pn (K a)) : pl_ct1 K a = [] := by
  unfold pl_ct1
  rw [if_neg h.1, if_neg (fun q => h.2.1 q.1)]
/-- the second limit -/
def pl_sK (K : Nat → Nat) (t : Nat) : Nat := if K t = 22 then t + 3 else t + 2
def pl_tok2 (K : Nat → Nat) (a b : Nat) : Prop := ∀ t, a ≤ t → t < b → K t ≠ 19 ∧ K t ≠ 14 ∧ (t + 1 < b → K t = 2 → K (t + 1) ≠ 12) ∧ (t + 1 < b → K t = 11 → K (t + 1) = 12 → pl_sK K (t + 2) + 1 < b)
theorem pl_tok2_app {K : Nat → Nat} {a b c : Nat} (h1 : pl_tok2 K a b) (h2 : pl_tok2 K b c) (hb : ∀ t, t + 1 = b → (K t = 2 ∨ K t = 11) → K b ≠ 12) (hbc : b ≤ c) : pl_tok2 K a c := by
  intro t ha hc
  by_cases h : t < b
  · obtain ⟨q1, q2, q3, q4⟩ := h1 t ha h
    refine ⟨q1, q2, fun _ hk => ?_, fun _ hk hk2 => ?_⟩
    · by_cases h' : t + 1 < b
      · exact q3 h' hk
      · have e : t + 1 = b := by omega
        rw [e]; exact hb t e (Or.inl hk)
    · by_cases h' : t + 1 < b
      · have := q4 h' hk hk2; omega
      · have e : t + 1 = b := by omega
        rw [e] at hk2
        exact absurd hk2 (hb t e (Or.inr hk))
  · exact h2 t (by omega) hc
theorem pl_tok2_1 {K : Nat → Nat} {a : Nat} (h1 : K a ≠ 19) (h2 : K a ≠ 14) : pl_tok2 K a (a + 1) := by
  intro t ha hc
  have e : t = a := by omega
  subst e
  exact ⟨h1, h2, fun q => absurd q (by omega), fun q => absurd q (by omega)⟩
/-- the tokens [a, b) are the nodes F -/
def pl_cm (K : Nat → Nat) (a b : Nat) (F : List pl_N) : Prop := a < b ∧ pl_l14 true F = false ∧ pl_cl false F = pl_cu K a b ∧ pl_tok2 K a b
theorem pl_cm_hd {K : Nat → Nat} {a b : Nat} {F : List pl_N} {e : pl_N} (h : pl_cm K a b F) (h3 : ¬ e.1 = 13) (h4 : ¬ e.1 = 14) (h6 : ¬ e.1 = 16) : pl_cm K a b (e :: F) := by
  obtain ⟨c1, c2, c3, c4⟩ := h
  have e14 : (e.1 == 14) = false := by simpa using h4
  refine ⟨c1, ?_, ?_, c4⟩
  · show pl_l14 (e.1 == 14) F = false
    exact pl_l14_any c2 _
  · show (if e.1 = 13 then _ else if e.1 = 16 ∧ _ then _ else []) ++ pl_cl (e.1 == 14) F = _
    rw [if_neg h3, if_neg (fun q => h6 q.1), e14, List.nil_append, c3]
theorem pl_cm_pre {K : Nat → Nat} {a b : Nat} {F : List pl_N} (h : pl_cm K (a + 1) b F) (hp : pl_pn (K a)) : pl_cm K a b F := by
  obtain ⟨c1, c2, c3, c4⟩ := h
  refine ⟨by omega, c2, ?_, pl_tok2_app (pl_tok2_1 hp.2.2.1 hp.2.2.2) c4 (fun t ht hk => ?_) (by omega)⟩
  · rw [pl_cu_app (b := a + 1) (by omega) (by omega), pl_cu_1, pl_ct1_pn hp, List.nil_append, c3]
  · have : t = a := by omega
    subst this
    exact absurd hk (fun q => q.elim hp.1 hp.2.1)
theorem pl_cm_suf {K : Nat → Nat} {a b : Nat} {F : List pl_N} (h : pl_cm K a b F) (hp : pl_pn (K b)) (h12 : ¬ K b = 12) : pl_cm K a (b + 1) F := by
  obtain ⟨c1, c2, c3, c4⟩ := h
  refine ⟨by omega, c2, ?_, pl_tok2_app c4 (pl_tok2_1 hp.2.2.1 hp.2.2.2) (fun t _ _ => h12) (by omega)⟩
  rw [pl_cu_app (b := b) (by omega) (by omega), pl_cu_1, pl_ct1_pn hp, List.append_nil, c3]
theorem pl_cm_app {K : Nat → Nat} {a b c : Nat} {F G : List pl_N} (h : pl_cm K a b F) (h' : pl_cm K b c G) (hb : ∀ t, t + 1 = b → (K t = 2 ∨ K t = 11) → K b ≠ 12) : pl_cm K a c (F ++ G) := by
  obtain ⟨c1, c2, c3, c4⟩ := h
  obtain ⟨d1, d2, d3, d4⟩ := h'
  refine ⟨by omega, ?_, ?_, pl_tok2_app c4 d4 hb (by omega)⟩
  · rw [pl_l14_app, c2]; exact pl_l14_any d2 _
  · rw [pl_cl_app, pl_l14_any c2, c3, d3, ← pl_cu_app (by omega) (by omega)]
/-- one more part behind a sign -/
theorem pl_cm_bin {K : Nat → Nat} {a b c : Nat} {F G : List pl_N} {e : pl_N} (h : pl_cm K a b F) (hp : pl_pn (K b)) (h12 : ¬ K b = 12) (h' : pl_cm K (b + 1) c G) (h3 : ¬ e.1 = 13) (h4 : ¬ e.1 = 14) (h6 : ¬ e.1 = 16) : pl_cm K a c (F ++ e :: G) :=
  pl_cm_app (pl_cm_suf h hp h12) (pl_cm_hd h' h3 h4 h6) (fun t ht hk => by
    have : t = b := by omega
    subst this
    exact absurd hk (fun q => q.elim hp.1 hp.2.1))
/-! nodes and operations of a SUM -/
def pl_vt (T : pl_Tx) (t : Nat) : Nat := pl_vl (pl_xB T) (pl_xK T t) (pl_xP T t) (pl_xL T t)
def pl_lim (T : pl_Tx) (t : Nat) : Int32 := if pl_xK T t = 22 then - nI (pl_vt T (t + 1)) else nI (pl_vt T t)
def pl_sec (T : pl_Tx) (t : Nat) : Nat := if pl_xK T t = 22 then t + 3 else t + 2
/-- the operation of a node -/
def pl_opk (k : Nat) : Nat := if k = 18 then 21 else if k = 19 then 22 else if k = 21 then 23 else if k = 22 then 24 else 25
def pl_catN : List (Nat × Nat × List pl_N × List pl_O) → List pl_N
  | [] => []
  | e :: l => (e.1, e.2.1, 0, 1 + e.2.2.1.length) :: e.2.2.1 ++ pl_catN l
def pl_catO : List (Nat × Nat × List pl_N × List pl_O) → List pl_O
  | [] => []
  | e :: l => (e.2.2.2 ++ [(pl_opk e.1, -1)]) ++ pl_catO l
theorem pl_catN_app : ∀ a b : List (Nat × Nat × List pl_N × List pl_O), pl_catN (a ++ b) = pl_catN a ++ pl_catN b := by
  intro a
  induction a with
  | nil => intro b; rfl
  | cons e l ih =>
    intro b
    show (e.1, e.2.1, 0, 1 + e.2.2.1.length) :: e.2.2.1 ++ pl_catN (l ++ b) = (e.1, e.2.1, 0, 1 + e.2.2.1.length) :: e.2.2.1 ++ pl_catN l ++ pl_catN b
    rw [ih, List.append_assoc]
theorem pl_catO_app : ∀ a b : List (Nat × Nat × List pl_N × List pl_O), pl_catO (a ++ b) = pl_catO a ++ pl_catO b := by
  intro a
  induction a with
  | nil => intro b; rfl
  | cons e l ih =>
    intro b
    show (e.2.2.2 ++ [(pl_opk e.1, -1)]) ++ pl_catO (l ++ b) = (e.2.2.2 ++ [(pl_opk e.1, -1)]) ++ pl_catO l ++ pl_catO b
    rw [ih, List.append_assoc (e.2.2.2 ++ [(pl_opk e.1, -1)])]
/-- F are the nodes of a SUM, a term or a factor, O its operations; f bounds how deep they lie -/
def pl_sm (T : pl_Tx) : Nat → List pl_N → List pl_O → Prop
  | 0 => fun _ _ => False
  | f + 1 => fun F O =>
    (∃ t, pl_xK T t = 3 ∧ F = [(12, t, nI (pl_vt T t), 1)] ∧ O = [(3, nI t)]) ∨
    (∃ t, pl_xK T t = 2 ∧ F = [(13, t, nI t, 1)] ∧ O = [(2, nI t)]) ∨
    (∃ t G Q, pl_xK T t = 2 ∧ F = (14, t, 0, 2 + G.length) :: (13, t, nI t, 1) :: G ∧ O = (36, nI t) :: (Q ++ [(38, -1)]) ∧ pl_sm T f G Q) ∨
    (∃ t G Q, F = (15, t, 0, 1 + G.length) :: G ∧ O = Q ++ [(35, -1)] ∧ pl_sm T f G Q) ∨
    (∃ t, pl_xK T t = 11 ∧ pl_xK T (t + 1) ≠ 12 ∧ F = [(16, t, 0, 1)] ∧ O = [(11, nI t)]) ∨
    (∃ t, pl_xK T t = 11 ∧ pl_xK T (t + 1) = 12 ∧ F = [(16, t, 0, 3), (12, t + 2, pl_lim T (t + 2), 1), (12, pl_sec T (t + 2), pl_lim T (pl_sec T (t + 2)), 1)] ∧ O = [(11, nI t)]) ∨
    (∃ (k t : Nat) (G : List pl_N) (Q : List pl_O) (Ls : List (Nat × Nat × List pl_N × List pl_O)), (k = 17 ∨ k = 20) ∧ F = (k, t, 0, 1 + (G ++ pl_catN Ls).length) :: (G ++ pl_catN Ls) ∧ O = Q ++ pl_catO Ls ∧ pl_sm T f G Q ∧ ∀ e, e ∈ Ls → (18 ≤ e.1 ∧ e.1 ≤ 23 ∧ e.1 ≠ 20) ∧ pl_sm T f e.2.2.1 e.2.2.2)
theorem pl_sm_f {T : pl_Tx} : ∀ (f : Nat) (F : List pl_N) (O : List pl_O), pl_sm T f F O → pl_sm T (f + 1) F O := by
  intro f
  induction f with
  | zero => intro F O h; exact h.elim
  | succ f ih =>
    intro F O h
    rcases h with h | h | h | h | h | h | h
    · exact Or.inl h
    · exact Or.inr (Or.inl h)
    · obtain ⟨t, G, Q, h0, h1, h2, h3⟩ := h
      exact Or.inr (Or.inr (Or.inl ⟨t, G, Q, h0, h1, h2, ih _ _ h3⟩))
    · obtain ⟨t, G, Q, h1, h2, h3⟩ := h
      exact Or.inr (Or.inr (Or.inr (Or.inl ⟨t, G, Q, h1, h2, ih _ _ h3⟩)))
    · exact Or.inr (Or.inr (Or.inr (Or.inr (Or.inl h))))
    · exact Or.inr (Or.inr (Or.inr (Or.inr (Or.inr (Or.inl h)))))
    · obtain ⟨k, t, G, Q, Ls, h0, h1, h2, h3, h4⟩ := h
      exact Or.inr (Or.inr (Or.inr (Or.inr (Or.inr (Or.inr ⟨k, t, G, Q, Ls, h0, h1, h2, ih _ _ h3, fun e he => ⟨(h4 e he).1, ih _ _ (h4 e he).2⟩⟩)))))
theorem pl_sm_ff {T : pl_Tx} {f : Nat} {F : List pl_N} {O : List pl_O} (h : pl_sm T f F O) {g : Nat} (hg : f ≤ g) : pl_sm T g F O := by
  obtain ⟨m, rfl⟩ : ∃ m, g = f + m := ⟨g - f, by omega⟩
  clear hg
  induction m with
  | zero => exact h
  | succ m ih => exact pl_sm_f _ _ _ ih
/-! a phrase on both sides -/
def pl_ph (T : pl_Tx) (Φ : Nat → List pl_N → List pl_O → Prop) (a q d : Nat) (σ τ : pr_St) (rC rX : Option (Int32 × pr_St)) : Prop :=
  ∃ (a' : Nat) (σ' τ' : pr_St), a ≤ a' ∧ pl_fc q σ σ' ∧ pl_fx d τ τ' ∧
    ((∃ (y d' : Nat) (F : List pl_N) (O : List pl_O), rC = some (1, σ') ∧ rX = some (nI y, τ') ∧ pl_gd T a' (q + O.length) d' σ' τ' ∧ O.length + a ≤ a' ∧ 5 * d' + 8 * a + 3 ≤ 5 * d + 8 * a' ∧ pl_tr τ' (pl_xP T) d d' y F ∧ pl_ops σ' q O ∧ pl_cm (pl_xK T) a a' F ∧ Φ q F O) ∨
     (rC = some (0, σ') ∧ ∃ v, rX = some (v, τ') ∧ pl_bd T a' d 3 σ' τ' ∧ pl_vi d v))
def pl_sp (T : pl_Tx) (Φ : Nat → List pl_N → List pl_O → Prop) (fC fX : pr_St → Option (Int32 × pr_St)) : Prop :=
  ∀ (a q d : Nat) (σ τ : pr_St), pl_gd T a q d σ τ → q ≤ a → d ≤ 2 * a → pl_ph T Φ a q d σ τ (fC σ) (fX τ)
theorem pl_Pn {n c : Nat} {K P L : Nat → Nat} (h : pl_TW n c K P L) : ∀ m t : Nat, t + 1 + m = c → P t ≤ n := by
  obtain ⟨h1, h2, h3, h4⟩ := h
  intro m
  induction m with
  | zero => intro t ht; rw [show t = c - 1 by omega]; exact h4
  | succ m ih =>
    intro t ht
    have a := ih (t + 1) (by omega)
    have b := (h3 t (by omega)).2.2
    omega
theorem pl_dec {v b : Nat} (h : 48 ≤ b) : ((10 * nI v) + nI b) - 48 = nI (v * 10 + (b - 48)) := by
  obtain ⟨x, rfl⟩ : ∃ x, b = x + 48 := ⟨b - 48, by omega⟩
  have e : 10 * nI v + nI (x + 48) = nI (v * 10 + x) + 48 := by
    have e1 : (10 : Int32) * nI v = nI (10 * v) := (Int32.ofNat_mul 10 v).symm
    have e2 : nI (v * 10 + x) + 48 = nI (v * 10 + x + 48) := nI_add _ 48
    rw [e1, e2, nI_add]
    exact congrArg nI (by omega)
  rw [e, Int32.add_sub_cancel, show x + 48 - 48 = x by omega]
theorem pl_num47 {T : pl_Tx} {a q d : Nat} {σ τ : pr_St} (g : pl_gd T a q d σ τ) (hk : pl_xK T a = 3) (x2 x3 : Int32) : ∀ m i f : Nat, i + m = pl_xL T a → m + 1 ≤ f → prf_X_number_47 f τ x2 x3 (nI (pl_val (pl_xB T) (pl_xP T a) i)) (nI i) = (prf_X_take τ 3).bind fun r18 => (prf_X_draft r18 12 x2 (x3 * nI (pl_vt T a))).bind fun r19 => some (r19.1, r19.2) := by
  obtain ⟨g1, g2, g3, g4, g5, g6⟩ := id g
  obtain ⟨n1, n2, nX, nT, nW, _⟩ := id g1
  have h8 := pl_gd8 g
  have hm := pl_more g1 g3 (by omega)
  have hPL := (nW.2.2.1 a hm).2.2
  have hPn := pl_Pn nW (pl_xc T - (a + 2)) (a + 1) (by omega)
  have e5 : τ.2.1 5 a = nI (pl_xL T a) := (nT.2.2 a g3).2.2.2.2.2.2.1
  have ed := (nT.2.2 a g3).2.2.2.2.2.2.2 hk
  have ev : pl_vt T a = pl_val (pl_xB T) (pl_xP T a) (pl_xL T a) := by
    unfold pl_vt pl_vl
    rw [if_pos hk]
  intro m
  induction m with
  | zero =>
    intro i f hi hf
    obtain ⟨f, rfl⟩ : ∃ z, f = z + 1 := ⟨f - 1, by omega⟩
    have hi' : i = pl_xL T a := by omega
    subst hi'
    rw [prf_X_number_47, (pl_placeG g).1, g2.2, nI_clamp (by omega), e5, if_pos (Int32.le_refl _), ev]
  | succ m ih =>
    intro i f hi hf
    obtain ⟨f, rfl⟩ : ∃ z, f = z + 1 := ⟨f - 1, by omega⟩
    rw [prf_X_number_47, (pl_placeG g).1, (pl_placeG g).1, (pl_placeG (α := Nat) (k := none) g).2, g2.2, nI_clamp (by omega), e5, if_neg (nI_ge (by omega) (by omega)), nI_add, pl_ck (by omega) (by omega), nI_clamp (by omega), (nX.2.2.2.2 (pl_xP T a + i) (by omega)).2, pl_dec (ed i (by omega)), nI_1]
    exact ih (i + 1) f (by omega) (by omega)
