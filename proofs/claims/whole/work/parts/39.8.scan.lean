/-! THE LAYOUT: the tokens of a statement, the nodes of an expression -/
theorem pl_limC {T : pl_Tx} {σ τ : pr_St} (h : pl_tt T σ τ) {t : Nat} (ht : t + 1 < pl_xc T) : prf_T_limitAt σ (nI t) = some (pl_lim T t) ∧ prf_T_secondLimit σ (nI t) = some (nI (pl_sec T t)) := by
  have hK := pl_K35 h (show t < pl_xc T by omega)
  constructor
  · unfold prf_T_limitAt pl_lim
    rw [pl_kindG h (by omega), pl_sb, nI_1, pl_valG h ht, pl_sb, pl_valG h (by omega), pl_sb]
    by_cases k : pl_xK T t = 22
    · rw [if_pos (show nI (pl_xK T t) = 22 by rw [k]; rfl), if_pos k]
    · rw [if_neg (pl_cn hK (j := 22) (v := 22) (by decide) rfl k), if_neg k]
  · unfold prf_T_secondLimit pl_sec
    rw [pl_kindG h (by omega), pl_sb]
    by_cases k : pl_xK T t = 22
    · rw [if_pos (show nI (pl_xK T t) = 22 by rw [k]; rfl), if_pos k]
      exact congrArg some (nI_add t 3)
    · rw [if_neg (pl_cn hK (j := 22) (v := 22) (by decide) rfl k), if_neg k]
      exact congrArg some (nI_add t 2)
/-- where slots were set: those of the names looked up -/
def pl_u24 (T : pl_Tx) (E : List (Nat × Bool)) (C : List (Nat × Bool)) (σ σ' : pr_St) : Prop := (∃ f, σ' = pr_sA σ 24 f) ∧ (∀ t, (∀ c, c ∈ C → pl_xK T c.1 = 2 → ¬ c.1 = t) → σ'.2.1 24 t = σ.2.1 24 t) ∧ ∀ c, c ∈ C → pl_xK T c.1 = 2 → pl_so T E c.1 c.2 (σ'.2.1 24 c.1)
theorem pl_sA_id {σ : pr_St} {o : Nat} : pr_sA σ o (σ.2.1 o) = σ := by
  unfold pr_sA
  refine Prod.ext rfl (Prod.ext ?_ rfl)
  funext x
  show (if x = o then σ.2.1 o else σ.2.1 x) = σ.2.1 x
  by_cases h : x = o
  · subst h; rw [if_pos rfl]
  · rw [if_neg h]
theorem pl_sA_sA {σ : pr_St} {o : Nat} {f g : Nat → Int32} : pr_sA (pr_sA σ o f) o g = pr_sA σ o g := by
  unfold pr_sA
  refine Prod.ext rfl (Prod.ext ?_ rfl)
  funext x
  show (if x = o then g else (if x = o then f else σ.2.1 x)) = if x = o then g else σ.2.1 x
  by_cases h : x = o
  · rw [if_pos h, if_pos h]
  · rw [if_neg h, if_neg h, if_neg h]
theorem pl_u24_0 {T : pl_Tx} {E : List (Nat × Bool)} {σ : pr_St} : pl_u24 T E [] σ σ := ⟨⟨σ.2.1 24, pl_sA_id.symm⟩, fun _ _ => rfl, fun c hc => (by cases hc)⟩
theorem pl_u24_tr {T : pl_Tx} {E C D : List (Nat × Bool)} {σ σ1 σ2 : pr_St} (h1 : pl_u24 T E C σ σ1) (h2 : pl_u24 T E D σ1 σ2) (hb : ∀ c d, c ∈ C → d ∈ D → c.1 = d.1 → c.2 = d.2) : pl_u24 T E (C ++ D) σ σ2 := by
  obtain ⟨⟨f, rfl⟩, a2, a3⟩ := h1
  obtain ⟨⟨g, rfl⟩, b2, b3⟩ := h2
  refine ⟨⟨g, pl_sA_sA⟩, fun t ht => ?_, fun c hc hk => ?_⟩
  · rw [b2 t (fun c hc => ht c (List.mem_append_right _ hc)), a2 t (fun c hc => ht c (List.mem_append_left _ hc))]
  · by_cases hd : ∃ d, d ∈ D ∧ pl_xK T d.1 = 2 ∧ d.1 = c.1
    · obtain ⟨d, d1, d2, d3⟩ := hd
      have := b3 d d1 d2
      rcases List.mem_append.mp hc with hc | hc
      · rw [d3] at this
        rw [hb c d hc d1 d3.symm]
        exact this
      · exact b3 c hc hk
    · rcases List.mem_append.mp hc with hc | hc
      · rw [b2 c.1 (fun d hdD hk2 hq => hd ⟨d, hdD, hk2, hq⟩)]
        exact a3 c hc hk
      · exact b3 c hc hk
theorem pl_cu_mem {K : Nat → Nat} : ∀ (m a : Nat) (c : Nat × Bool), c ∈ pl_ct K a m → a ≤ c.1 ∧ c.1 < a + m ∧ (K c.1 = 2 → c.2 = (K (c.1 + 1) == 16)) := by
  intro m
  induction m with
  | zero => intro a c h; cases h
  | succ m ih =>
    intro a c h
    have h' : c ∈ pl_ct1 K a ++ pl_ct K (a + 1) m := h
    rcases List.mem_append.mp h' with h | h
    · unfold pl_ct1 at h
      by_cases k2 : K a = 2
      · rw [if_pos k2] at h
        have e : c = (a, K (a + 1) == 16) := by simpa using h
        subst e
        exact ⟨Nat.le_refl _, by show a < a + (m + 1); omega, fun _ => rfl⟩
      · rw [if_neg k2] at h
        by_cases k11 : K a = 11 ∧ K (a + 1) = 12
        · rw [if_pos k11] at h
          have e : c = (a, false) := by simpa using h
          subst e
          exact ⟨Nat.le_refl _, by show a < a + (m + 1); omega, fun q => absurd q k2⟩
        · rw [if_neg k11] at h
          cases h
    · have := ih (a + 1) c h
      exact ⟨by omega, by omega, this.2.2⟩
/-- the class goes over the tokens [a, b) of a statement -/
theorem pl_tokC {T : pl_Tx} {m : Nat} {rep : Nat → Nat} {A E : List (Nat × Bool)} {τ : pr_St} (s : Int32) (b : Nat) (hb : b < pl_xc T) : ∀ (r a f : Nat) (σ : pr_St), a + r = b → pl_ls T m rep A E σ τ → (∀ t, a ≤ t → t < b → 2 ≤ pl_xK T t ∧ ¬ pl_xK T t = 19 ∧ ¬ pl_xK T t = 14 ∧ (pl_xK T t = 2 → ¬ pl_xK T (t + 1) = 12) ∧ (pl_xK T t = 11 → pl_xK T (t + 1) = 12 → pl_sec T (t + 2) + 1 < pl_xc T)) →
    ((∀ c, c ∈ pl_cu (pl_xK T) a b → pl_yes T E c) → ∃ σ', prf_Y_tokensHold_5 (f + 1 + r) σ s 1 (nI a) = prf_Y_tokensHold_5 (f + 1) σ' s 1 (nI b) ∧ pl_u24 T E (pl_cu (pl_xK T) a b) σ σ') ∧ (∀ w pt, pl_bad T E (pl_cu (pl_xK T) a b) w pt → ∃ g, prf_Y_tokensHold_5 (f + 1 + r) σ s 1 (nI a) = some (0, pl_wC T (pr_sA σ 24 g) w pt)) := by
  intro r
  induction r with
  | zero =>
    intro a f σ hab h htk
    have e : a = b := by omega
    subst e
    rw [pl_cu_0]
    refine ⟨fun _ => ⟨σ, rfl, pl_u24_0⟩, fun w pt hbad => ?_⟩
    obtain ⟨C1, c, C2, e, _⟩ := hbad
    cases C1 <;> cases e
  | succ r ih =>
    intro a f σ hab h htk
    have c8 := pl_c8 h.1
    obtain ⟨k0, k19, k14, k12, klim⟩ := htk a (Nat.le_refl _) (by omega)
    have hK := pl_K35 h.1 (show a < pl_xc T by omega)
    have hK1 := pl_K35 h.1 (show a + 1 < pl_xc T by omega)
    have ecu : pl_cu (pl_xK T) a b = pl_ct1 (pl_xK T) a ++ pl_cu (pl_xK T) (a + 1) b := by
      rw [pl_cu_app (b := a + 1) (by omega) (by omega), pl_cu_1]
    have hcnt : prf_T_count σ = some (nI (pl_xc T)) := by unfold prf_T_count; rw [h.1.2.2.2.1.1]
    have head : ∀ (F : Nat) (σ : pr_St), pl_ls T m rep A E σ τ → prf_Y_tokensHold_5 (F + 1) σ s 1 (nI a) = if nI (pl_xK T a) = 2 then (if nI (pl_xK T (a + 1)) = 12 then (prf_Y_callHolds σ s (nI a)).bind fun r36 => prf_Y_tokensHold_5 F r36.2 s r36.1 (nI (a + 1)) else if nI (pl_xK T (a + 1)) = 16 then (prf_Y_nameHolds σ (nI a) 1).bind fun r35 => prf_Y_tokensHold_5 F r35.2 s r35.1 (nI (a + 1)) else (prf_Y_nameHolds σ (nI a) 0).bind fun r34 => prf_Y_tokensHold_5 F r34.2 s r34.1 (nI (a + 1))) else if nI (pl_xK T a) = 11 then (if nI (pl_xK T (a + 1)) = 12 then (prf_Y_limitsHold σ (nI (a + 2))).bind fun r31 => prf_Y_tokensHold_5 F r31.2 s r31.1 (nI (a + 1)) else prf_Y_tokensHold_5 F σ s 1 (nI (a + 1))) else prf_Y_tokensHold_5 F σ s 1 (nI (a + 1)) := by
      intro F σ h
      have hcnt : prf_T_count σ = some (nI (pl_xc T)) := by unfold prf_T_count; rw [h.1.2.2.2.1.1]
      rw [prf_Y_tokensHold_5, hcnt, pl_sb, if_neg (nI_ge (by omega) (by omega)), if_neg pl_10, pl_kindG h.1 (by omega), pl_sb, if_neg (pl_cn hK (j := 19) (v := 19) (by decide) rfl k19), if_neg (pl_cn hK (j := 14) (v := 14) (by decide) rfl k14), nI_1, pl_kindG h.1 (by omega), pl_sb, pl_n2]
    have zero : ∀ (F : Nat) (σ : pr_St), pl_tt T σ τ → prf_Y_tokensHold_5 (F + 1) σ s 0 (nI (a + 1)) = some (0, σ) := by
      intro F σ h
      have hcnt : prf_T_count σ = some (nI (pl_xc T)) := by unfold prf_T_count; rw [h.2.2.2.1.1]
      rw [prf_Y_tokensHold_5, hcnt, pl_sb, if_pos rfl]
      by_cases q : nI (pl_xc T) ≤ nI (a + 1)
      · rw [if_pos q]; rfl
      · rw [if_neg q]; rfl
    have hsub := fun σ h => ih (a + 1) f σ (by omega) h (fun t h1 h2 => htk t (by omega) h2)
    rw [show f + 1 + (r + 1) = f + 1 + r + 1 by omega, head _ σ h]
    have wtt : ∀ w pt, pl_tt T (pl_wC T σ w pt) τ := fun w pt => pl_tt_fr h.1 ((pl_sI_fr (F := fun o k => o == 6 && (k == 14 || k == 15)) (G := fun _ => false) (o := 6) (k := 14) rfl).tr (pl_sI_fr (o := 6) (k := 15) rfl)) (pl_fr.rf (F := pl_FQ) (G := pl_GD)) ⟨rfl, rfl, rfl, rfl, rfl, rfl⟩ ⟨rfl, rfl, rfl, rfl, rfl, rfl⟩
    by_cases k2 : pl_xK T a = 2
    · -- a NAME
      obtain ⟨bb, hbb⟩ : ∃ bb : Bool, bb = (pl_xK T (a + 1) == 16) := ⟨_, rfl⟩
      have ect : pl_ct1 (pl_xK T) a = [(a, bb)] := by unfold pl_ct1; rw [if_pos k2, hbb]
      rw [ect] at ecu
      obtain ⟨n1, n2⟩ := pl_nmC h (show a < pl_xc T by omega) k2 bb
      have e2 : (if nI (pl_xK T (a + 1)) = 16 then (prf_Y_nameHolds σ (nI a) 1).bind fun r35 => prf_Y_tokensHold_5 (f + 1 + r) r35.2 s r35.1 (nI (a + 1)) else (prf_Y_nameHolds σ (nI a) 0).bind fun r34 => prf_Y_tokensHold_5 (f + 1 + r) r34.2 s r34.1 (nI (a + 1))) = (prf_Y_nameHolds σ (nI a) (pl_bI bb)).bind fun r35 => prf_Y_tokensHold_5 (f + 1 + r) r35.2 s r35.1 (nI (a + 1)) := by
        by_cases k16 : pl_xK T (a + 1) = 16
        · rw [if_pos (show nI (pl_xK T (a + 1)) = 16 by rw [k16]; rfl), hbb, k16]
          rfl
        · rw [if_neg (pl_cn hK1 (j := 16) (v := 16) (by decide) rfl k16), hbb, show (pl_xK T (a + 1) == 16) = false by simpa using k16]
          rfl
      rw [if_pos (show nI (pl_xK T a) = 2 by rw [k2]; rfl), if_neg (pl_cn hK1 (j := 12) (v := 12) (by decide) rfl (k12 k2)), e2]
      rw [ecu]
      constructor
      · intro hall
        have hy := hall (a, bb) (List.mem_append_left _ (List.mem_cons_self ..))
        unfold pl_yes at hy
        rw [if_pos (show pl_xK T (a, bb).1 = 2 from k2)] at hy
        obtain ⟨i, e, hl, he⟩ := hy
        have hnm := n1 i e hl he
        obtain ⟨σ', w1, w2⟩ := (hsub _ (pl_ls_24 h (upd (σ.2.1 24) a (nI (pl_cnt bb (E.take i)))))).1 (fun c hc => hall c (List.mem_append_right _ hc))
        refine ⟨σ', by rw [hnm, pl_sb]; exact w1, pl_u24_tr (σ1 := pr_sA σ 24 (upd (σ.2.1 24) a (nI (pl_cnt bb (E.take i))))) ⟨⟨_, rfl⟩, fun t ht => ?_, fun c hc _ => ?_⟩ w2 (fun c d hc hd hq => ?_)⟩
        · have : ¬ a = t := ht (a, bb) (List.mem_cons_self ..) k2
          rw [pl_sA_same, pk_un (fun q => this q.symm)]
        · have e0 : c = (a, bb) := by simpa using hc
          subst e0
          exact ⟨i, e, hl, he, by rw [pl_sA_same, pk_us]⟩
        · have e0 : c = (a, bb) := by simpa using hc
          subst e0
          have := pl_cu_mem _ _ d hd
          omega
      · intro w pt hbad
        rcases pl_bad_cons hbad with hno | ⟨hy, hbad2⟩
        · obtain ⟨F, hF⟩ : ∃ F, f + 1 + r = F + 1 := ⟨f + r, by omega⟩
          refine ⟨σ.2.1 24, ?_⟩
          rw [n2 w pt hno, pl_sb, hF]
          show prf_Y_tokensHold_5 (F + 1) (pl_wC T σ w pt) s 0 (nI (a + 1)) = _
          rw [zero F _ (wtt w pt), pl_sA_id]
        · unfold pl_yes at hy
          rw [if_pos (show pl_xK T (a, bb).1 = 2 from k2)] at hy
          obtain ⟨i, e, hl, he⟩ := hy
          obtain ⟨g, w1⟩ := (hsub _ (pl_ls_24 h (upd (σ.2.1 24) a (nI (pl_cnt bb (E.take i)))))).2 w pt hbad2
          exact ⟨g, by rw [n1 i e hl he, pl_sb]; rw [pl_sA_sA] at w1; exact w1⟩
    · rw [if_neg (pl_cn hK (j := 2) (v := 2) (by decide) rfl k2)]
      by_cases k11 : pl_xK T a = 11
      · rw [if_pos (show nI (pl_xK T a) = 11 by rw [k11]; rfl)]
        by_cases k12b : pl_xK T (a + 1) = 12
        · -- limits
          have ect : pl_ct1 (pl_xK T) a = [(a, false)] := by unfold pl_ct1; rw [if_neg k2, if_pos ⟨k11, k12b⟩]
          rw [ect] at ecu
          have hsec := klim k11 k12b
          have hsec2 : a + 4 ≤ pl_sec T (a + 2) := by
            unfold pl_sec
            by_cases q : pl_xK T (a + 2) = 22
            · rw [if_pos q]; omega
            · rw [if_neg q]; omega
          obtain ⟨l1, l2⟩ := pl_limC h.1 (t := a + 2) (by omega)
          obtain ⟨l3, _⟩ := pl_limC h.1 (t := pl_sec T (a + 2)) hsec
          have elim : prf_Y_limitsHold σ (nI (a + 2)) = if pl_lim T (a + 2) ≤ pl_lim T (pl_sec T (a + 2)) then some (1, σ) else some (0, pl_wC T σ 8 (a + 2)) := by
            unfold prf_Y_limitsHold
            rw [l2, pl_sb, l1, pl_sb, l3, pl_sb, pl_isW h.1 (by omega), pl_sb, if_pos rfl]
          rw [if_pos (show nI (pl_xK T (a + 1)) = 12 by rw [k12b]; rfl), elim, ecu]
          have eyes : pl_yes T E (a, false) = (pl_lim T (a + 2) ≤ pl_lim T (pl_sec T (a + 2))) := by unfold pl_yes; rw [if_neg (show ¬ pl_xK T (a, false).1 = 2 from k2)]
          constructor
          · intro hall
            have hy := hall (a, false) (List.mem_append_left _ (List.mem_cons_self ..))
            rw [eyes] at hy
            rw [if_pos hy, pl_sb]
            obtain ⟨σ', w1, w2⟩ := (hsub _ h).1 (fun c hc => hall c (List.mem_append_right _ hc))
            refine ⟨σ', w1, pl_u24_tr (C := [(a, false)]) ⟨⟨_, pl_sA_id.symm⟩, fun _ _ => rfl, fun c hc hk => ?_⟩ w2 (fun c d hc hd hq => ?_)⟩
            · have e0 : c = (a, false) := by simpa using hc
              subst e0
              exact absurd hk k2
            · have e0 : c = (a, false) := by simpa using hc
              subst e0
              have := pl_cu_mem _ _ d hd
              omega
          · intro w pt hbad
            rcases pl_bad_cons hbad with hno | ⟨hy, hbad2⟩
            · unfold pl_no at hno
              rw [if_neg (show ¬ pl_xK T (a, false).1 = 2 from k2)] at hno
              obtain ⟨rfl, rfl, hno⟩ := hno
              obtain ⟨F, hF⟩ : ∃ F, f + 1 + r = F + 1 := ⟨f + r, by omega⟩
              refine ⟨σ.2.1 24, ?_⟩
              rw [if_neg hno, pl_sb, hF]
              show prf_Y_tokensHold_5 (F + 1) (pl_wC T σ 8 (a + 2)) s 0 (nI (a + 1)) = _
              rw [zero F _ (wtt 8 (a + 2)), pl_sA_id]
            · rw [eyes] at hy
              rw [if_pos hy, pl_sb]
              exact (hsub _ h).2 w pt hbad2
        · have ect : pl_ct1 (pl_xK T) a = [] := by unfold pl_ct1; rw [if_neg k2, if_neg (fun q => k12b q.2)]
          rw [ect, List.nil_append] at ecu
          rw [if_neg (pl_cn hK1 (j := 12) (v := 12) (by decide) rfl k12b), ecu]
          exact hsub _ h
      · have ect : pl_ct1 (pl_xK T) a = [] := by unfold pl_ct1; rw [if_neg k2, if_neg (fun q => k11 q.1)]
        rw [ect, List.nil_append] at ecu
        rw [if_neg (pl_cn hK (j := 11) (v := 11) (by decide) rfl k11), ecu]
        exact hsub _ h
