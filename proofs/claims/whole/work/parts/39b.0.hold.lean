/-! THE LAYOUT: tokens of a statement held against the rules -/
def pl_tc (T : pl_Tx) (a b : Nat) : Prop := ∀ t, a ≤ t → t < b → 2 ≤ pl_xK T t ∧ ¬ pl_xK T t = 19 ∧ ¬ pl_xK T t = 14 ∧ (pl_xK T t = 2 → ¬ pl_xK T (t + 1) = 12) ∧ (pl_xK T t = 11 → pl_xK T (t + 1) = 12 → pl_sec T (t + 2) + 1 < pl_xc T)
theorem pl_real {T : pl_Tx} {σ τ : pr_St} (h : pl_tt T σ τ) {t : Nat} (ht : t + 1 < pl_xc T) : 2 ≤ pl_xK T t := by
  obtain ⟨_, _, _, _, ⟨e1, e2, e3, e4⟩, _⟩ := h
  exact (e3 t ht).1
theorem pl_tc_cm {T : pl_Tx} {σ τ : pr_St} (h : pl_tt T σ τ) {a b : Nat} {G : List pl_N} (hc : pl_cm (pl_xK T) a b G) (hb : b < pl_xc T) (h12 : ¬ pl_xK T b = 12) : pl_tc T a b := by
  obtain ⟨_, _, _, h4⟩ := hc
  intro t h1 h2
  obtain ⟨q1, q2, q3, q4⟩ := h4 t h1 h2
  refine ⟨pl_real h (by omega), q1, q2, fun k2 => ?_, fun k11 k12 => ?_⟩
  · by_cases q : t + 1 < b
    · exact q3 q k2
    · rw [show t + 1 = b by omega]; exact h12
  · by_cases q : t + 1 < b
    · have := q4 q k11 k12
      have e : pl_sec T (t + 2) = pl_sK (pl_xK T) (t + 2) := rfl
      omega
    · rw [show t + 1 = b by omega] at k12
      exact absurd k12 h12
theorem pl_tc_1 {T : pl_Tx} {a : Nat} (h0 : 2 ≤ pl_xK T a) (h1 : ¬ pl_xK T a = 19) (h2 : ¬ pl_xK T a = 14) (h3 : ¬ pl_xK T a = 11) (h4 : pl_xK T a = 2 → ¬ pl_xK T (a + 1) = 12) : pl_tc T a (a + 1) := by
  intro t t1 t2
  have e : t = a := by omega
  subst e
  exact ⟨h0, h1, h2, h4, fun q => absurd q h3⟩
theorem pl_tc_app {T : pl_Tx} {a b c : Nat} (h1 : pl_tc T a b) (h2 : pl_tc T b c) : pl_tc T a c := by
  intro t t1 t2
  by_cases q : t < b
  · exact h1 t t1 q
  · exact h2 t (by omega) t2
theorem pl_cu_sk {K : Nat → Nat} {a b : Nat} (h : a < b) (h2 : ¬ K a = 2) (h11 : ¬ K a = 11) : pl_cu K a b = pl_cu K (a + 1) b := by
  rw [pl_cu_app (b := a + 1) (by omega) (by omega), pl_cu_1]
  unfold pl_ct1
  rw [if_neg h2, if_neg (fun q => h11 q.1)]
  rfl
theorem pl_cu_se {K : Nat → Nat} {a b : Nat} (h : a ≤ b) (h2 : ¬ K b = 2) (h11 : ¬ K b = 11) : pl_cu K a (b + 1) = pl_cu K a b := by
  rw [pl_cu_app (b := b) (by omega) (by omega), pl_cu_1]
  unfold pl_ct1
  rw [if_neg h2, if_neg (fun q => h11 q.1), List.append_nil]
theorem pl_cu_nm {K : Nat → Nat} {a b : Nat} (h : a < b) (h2 : K a = 2) : pl_cu K a b = (a, K (a + 1) == 16) :: pl_cu K (a + 1) b := by
  rw [pl_cu_app (b := a + 1) (by omega) (by omega), pl_cu_1]
  unfold pl_ct1
  rw [if_pos h2]
  rfl
theorem pl_cu_in {K : Nat → Nat} {t : Nat} (k2 : K t = 2) : ∀ (m a : Nat), a ≤ t → t < a + m → (t, K (t + 1) == 16) ∈ pl_ct K a m := by
  intro m
  induction m with
  | zero => intro a h1 h2; omega
  | succ m ih =>
    intro a h1 h2
    show (t, K (t + 1) == 16) ∈ pl_ct1 K a ++ pl_ct K (a + 1) m
    by_cases q : t = a
    · subst q
      refine List.mem_append_left _ ?_
      unfold pl_ct1
      rw [if_pos k2]
      exact List.mem_cons_self ..
    · exact List.mem_append_right _ (ih (a + 1) (by omega) (by omega))
/-- the class goes over a statement's own tokens -/
theorem pl_tokH {T : pl_Tx} {m : Nat} {rep : Nat → Nat} {A E : List (Nat × Bool)} {σ τ : pr_St} (h : pl_ls T m rep A E σ τ) (s : Int32) {a b : Nat} (hab : a ≤ b) (hb : b < pl_xc T) (hk : pl_xK T b = 19 ∨ pl_xK T b = 14) (hc : pl_tc T a b) : ((∀ c, c ∈ pl_cu (pl_xK T) a b → pl_yes T E c) → ∃ σ', prf_Y_tokensHold σ s (nI a) = some (1, σ') ∧ pl_u24 T E (pl_cu (pl_xK T) a b) σ σ') ∧ (∀ w pt, pl_bad T E (pl_cu (pl_xK T) a b) w pt → ∃ g, prf_Y_tokensHold σ s (nI a) = some (0, pl_wC T (pr_sA σ 24 g) w pt)) := by
  have c8 := pl_c8 h.1
  have hF : pr_FU = (99999 - (b - a)) + 1 + (b - a) := by have : pr_FU = 100000 := rfl; omega
  obtain ⟨k1, k2⟩ := pl_tokC (m := m) (rep := rep) (A := A) (E := E) (τ := τ) s b hb (b - a) a (99999 - (b - a)) σ (by omega) h hc
  unfold prf_Y_tokensHold
  rw [hF]
  refine ⟨fun hall => ?_, k2⟩
  obtain ⟨σ', w1, w2⟩ := k1 hall
  refine ⟨σ', ?_, w2⟩
  obtain ⟨⟨g, eg⟩, _⟩ := w2
  have tt : pl_tt T σ' τ := by rw [eg]; exact (pl_ls_24 h g).1
  have hcnt : prf_T_count σ' = some (nI (pl_xc T)) := by unfold prf_T_count; rw [tt.2.2.2.1.1]
  rw [w1, prf_Y_tokensHold_5, hcnt, pl_sb, if_neg (nI_ge (by omega) (by omega)), if_neg pl_10, pl_kindG tt hb, pl_sb]
  have hK := pl_K35 tt hb
  rcases hk with hk | hk
  · rw [if_pos (show nI (pl_xK T b) = 19 by rw [hk]; rfl)]
  · rw [if_neg (pl_cn hK (j := 19) (v := 19) (by decide) rfl (by omega)), if_pos (show nI (pl_xK T b) = 14 by rw [hk]; rfl)]
/-- no parameters to look at, and room -/
theorem pl_82 {T : pl_Tx} {m : Nat} {rep : Nat → Nat} {V : List (Nat × Bool)} {σ τ : pr_St} (hs : pl_scp T m rep σ τ V) (h13 : σ.1 6 13 = -1) (r1 first : Nat) (h1 : ¬ r1 = 1) (hr : r1 < 64) (s : Int32) {σ0 : pr_St} (ht : prf_Y_tokensHold σ0 s (nI first) = some (1, σ)) : prf_Y_holds_82 σ0 s (nI r1) (nI first) = some (1, σ) := by
  have n1 : ¬ nI r1 = 1 := fun q => h1 ((nI_eq (b := 1) (by omega) (by omega)).mp q)
  have ep : prf_G_parametersOf σ (-1) = some 0 := rfl
  have e2 : prf_Y_parametersHold σ = some (1, σ) := by
    unfold prf_Y_parametersHold
    rw [show pr_FU = 99999 + 1 from rfl, prf_Y_parametersHold_2, h13, ep, pl_sb, if_pos (by decide)]
  have e3 : prf_Y_thereIsRoom σ (nI r1) (nI first) = some (1, σ) := by
    unfold prf_Y_thereIsRoom prf_Y_thereIsRoom_48 prf_S_numbers
    have h12 := hs.2.2.2.2.2.1
    rw [if_neg n1, if_neg n1, h13, ep, pl_sb, hs.1, pl_sb, if_pos (show nI (pl_cnt false V) + 0 ≤ 12 from by
      have : nI (pl_cnt false V) + 0 = nI (pl_cnt false V) := nI_add _ 0
      rw [this]
      exact nI_le (b := 12) h12 (by omega))]
  unfold prf_Y_holds_82
  rw [if_neg n1, ht, pl_sb, if_neg (show ¬ ((1 : Int32), σ).1 = 0 from pl_10), e2, pl_sb, if_neg (show ¬ ((1 : Int32), σ).1 = 0 from pl_10), e3, pl_sb, if_neg (show ¬ ((1 : Int32), σ).1 = 0 from pl_10)]
theorem pl_82w (r1 first : Nat) (h1 : ¬ r1 = 1) (hr : r1 < 64) (s : Int32) {σ σ0 : pr_St} (ht : prf_Y_tokensHold σ0 s (nI first) = some (0, σ)) : prf_Y_holds_82 σ0 s (nI r1) (nI first) = some (0, σ) := by
  have n1 : ¬ nI r1 = 1 := fun q => h1 ((nI_eq (b := 1) (by omega) (by omega)).mp q)
  unfold prf_Y_holds_82
  rw [if_neg n1, ht, pl_sb, if_pos rfl]
theorem pl_h3_mk {T : pl_Tx} {E : List (Nat × Bool)} {a b : Nat} {r : pl_S} {σ2 σ3 : pr_St} (h : pl_u24 T E (pl_cu (pl_xK T) a b) σ2 σ3) (hE : r.2.2.2.2.2.1 = E) (ha : r.2.1 ≤ a) (hab : a ≤ b) (hb : b ≤ r.2.2.2.2.2.2) (hcov : ∀ t, r.2.1 ≤ t → t < r.2.2.2.2.2.2 → pl_xK T t = 2 → ¬ (r.1 = 1 ∧ t = r.2.1 + 1) → a ≤ t ∧ t < b) : pl_h3 T r σ2 σ3 := by
  obtain ⟨⟨g, eg⟩, h2, h3⟩ := h
  refine ⟨fun o q _ => by rw [eg]; rfl, fun x hx => by rw [eg, pl_sA_ne hx], by rw [eg]; rfl, fun t ht => ?_, fun t t1 t2 t3 t4 t5 => ?_⟩
  · refine h2 t (fun c hc _ hq => ht ?_)
    have := pl_cu_mem _ _ c hc
    omega
  · obtain ⟨w1, w2⟩ := hcov t t1 t2 t3 t5
    rw [hE]
    exact h3 (t, pl_xK T (t + 1) == 16) (pl_cu_in t3 _ _ w1 (by omega)) t3
/-- the state at which the statement is looked at -/
theorem pl_Z_ls {T : pl_Tx} {m : Nat} {rep : Nat → Nat} {Ps : List pl_En} {W : pl_Wt} {A E : List (Nat × Bool)} {d p ii nb bb fi send b bF e : Nat} {par : Int32} {σ τ τ1 : pr_St} (hZ : pl_Z T m rep Ps W A E d p ii nb bb fi send b bF par σ τ) (h1 : pl_fr pl_FM pl_GM τ τ1) (h2 : ∀ o q, ¬ (o = 0 ∧ q = 33) → τ1.1 o q = τ.1 o q) (h3 : ∀ r, ¬ (20 ≤ r ∧ r ≤ 28) → τ1.2.1 r = τ.2.1 r) : pl_ls T m rep A E (pl_s2 σ d e A) τ1 := by
  obtain ⟨z1, z2, ⟨z31, z32⟩, _⟩ := hZ
  have f : ∀ o q, ¬ o = 6 → (pl_s2 σ d e A).1 o q = σ.1 o q := by
    intro o q ho
    unfold pl_s2 pl_s1
    rw [pr_sI_ne (by omega), pr_sI_ne (by omega), pr_sI_ne (by omega)]
    show (pr_sI σ 6 10 (nI d)).1 o q = _
    rw [pr_sI_ne (by omega)]
  have g : ∀ r, ¬ r = 42 → (pl_s2 σ d e A).2.1 r = σ.2.1 r := by
    intro r hr
    show (pl_s1 σ d e).2.1 r = _
    unfold pl_s1
    rw [pl_sA_ne hr]; rfl
  have b2 := pl_bs_fr z1 (pl_s2_fr (d := d) (e := e) (A := A)) h1
  refine ⟨b2.1, b2.2.1, ?_, z1.2.2.1, z1.2.2.2.1, ?_, ?_, ?_, ?_⟩
  · refine pl_scp_eq z2 (by rw [f 5 4 (by decide)]; exact z2.1) (by rw [f 5 5 (by decide)]; exact z2.2.1) (by rw [h2 0 42 (by omega)]; exact z2.2.2.1) (by rw [h2 0 45 (by omega)]; exact z2.2.2.2.1) (by rw [h2 0 46 (by omega)]; exact z2.2.2.2.2.1) (fun r z q1 q2 _ => by rw [g r (by omega)]) (fun r z q1 q2 _ => by rw [h3 r (by omega)])
  · unfold pl_s2; rw [pr_sI_ne (by omega), pr_sI_same]
  · unfold pl_s2; rw [pr_sI_same]
  · rw [h2 0 43 (by omega)]; exact z31
  · rw [h2 0 47 (by omega)]; exact z32
