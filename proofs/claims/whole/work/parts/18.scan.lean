/-! THE TOKENS: readText and scan write the same tokens -/
/-- fields and rows that the class' scanner writes; the reference's -/
def pl_FT (o k : Nat) : Bool := o == 1 && k == 6
def pl_FT1 (o k : Nat) : Bool := o == 1 && (k == 1 || k == 5 || k == 6)
theorem pl_fr.mono {F F' : Nat → Nat → Bool} {G : Nat → Bool} {a b : pr_St} (h : pl_fr F G a b) (hF : ∀ o k, F' o k = false → F o k = false) : pl_fr F' G a b := ⟨fun o k q => h.1 o k (hF o k q), h.2⟩
theorem pl_FT_FT1 : ∀ o k, pl_FT1 o k = false → pl_FT o k = false := by
  intro o k h
  unfold pl_FT1 at h
  unfold pl_FT
  cases ho : o == 1 with
  | false => rfl
  | true =>
    rw [ho, Bool.true_and] at h
    rw [Bool.true_and]
    exact (Bool.or_eq_false_iff.mp h).2
def pl_GT (a : Nat) : Bool := a == 9 || a == 10 || a == 11
def pl_FX (o k : Nat) : Bool := o == 0 && k == 7
def pl_GX (a : Nat) : Bool := a == 3 || a == 4 || a == 5
theorem pl_addC_fr {σ : pr_St} {c k p v : Nat} : pl_fr pl_FT pl_GT σ (pl_addC σ c k p v) := by
  unfold pl_addC
  exact pl_fr.tr (pl_fr.tr (pl_fr.tr (pl_sA_fr (o := 9) rfl) (pl_sA_fr (o := 10) rfl)) (pl_sA_fr (o := 11) rfl)) (pl_sI_fr (o := 1) (k := 6) rfl)
theorem pl_addR_fr {σ : pr_St} {c k p v : Nat} : pl_fr pl_FX pl_GX σ (pl_addR σ c k p v) := by
  unfold pl_addR
  exact pl_fr.tr (pl_fr.tr (pl_fr.tr (pl_sA_fr (o := 3) rfl) (pl_sA_fr (o := 4) rfl)) (pl_sA_fr (o := 5) rfl)) (pl_sI_fr (o := 0) (k := 7) rfl)
/-- a row of tokens that is whole: real ones, then the end of the text or a byte at which there is none; each in its place -/
def pl_TW (n c : Nat) (K P L : Nat → Nat) : Prop := 1 ≤ c ∧ K (c - 1) ≤ 1 ∧ (∀ t, t + 1 < c → 2 ≤ K t ∧ 1 ≤ L t ∧ P t + L t ≤ P (t + 1)) ∧ P (c - 1) ≤ n
/-- real tokens so far, all before byte i -/
def pl_TR (i c : Nat) (K P L : Nat → Nat) : Prop := c ≤ i ∧ (∀ t, t < c → 2 ≤ K t ∧ 1 ≤ L t ∧ P t + L t ≤ i) ∧ ∀ t, t + 1 < c → P t + L t ≤ P (t + 1)
/-- the bytes of all tokens -/
def pl_TF (n : Nat) (B : Nat → Nat) (c : Nat) (K P L : Nat → Nat) : Prop := ∀ t, t < c → pl_tf n B (K t) (P t) (L t)
theorem pl_TF_up {n : Nat} {B : Nat → Nat} {c : Nat} {K P L : Nat → Nat} (h : pl_TF n B c K P L) {k p l : Nat} (hk : pl_tf n B k p l) : pl_TF n B (c + 1) (pl_up K c k) (pl_up P c p) (pl_up L c l) := by
  intro t ht
  unfold pl_up
  by_cases q : t = c
  · rw [if_pos q, if_pos q, if_pos q]; exact hk
  · rw [if_neg q, if_neg q, if_neg q]; exact h t (by omega)
theorem pl_tf01 {n : Nat} {B : Nat → Nat} {k p l : Nat} (h : k ≤ 1) : pl_tf n B k p l := ⟨fun q => absurd q (by omega), fun q => absurd q (by omega), fun q _ => absurd q (by omega), fun q => absurd q (by omega)⟩
theorem pl_kmno : ∀ k, k < 35 → 2 ≤ k → ¬ (nI (pl_km k) = 1 ∨ nI (pl_km k) = 0) := by decide +kernel
theorem pl_scan {n : Nat} {B : Nat → Nat} : ∀ (m i c f g : Nat) (σ τ : pr_St) (K P L : Nat → Nat), i + m = n → m + 1 ≤ f → m + 3 ≤ g → pl_TX n B σ τ → pl_TT B c K P L σ τ → pl_TR i c K P L → pl_TF n B c K P L →
    ∃ (σ' τ' : pr_St) (c' : Nat) (K' P' L' : Nat → Nat), prf_T_readText_23 f σ (nI i) (nI c) = some σ' ∧ prf_X_scan_13 g τ (nI i) 1 = some τ' ∧ pl_TX n B σ' τ' ∧ pl_TT B c' K' P' L' σ' τ' ∧ pl_TW n c' K' P' L' ∧ c' ≤ n + 1 ∧ pl_fr pl_FT pl_GT σ σ' ∧ pl_fr pl_FX pl_GX τ τ' ∧ pl_TF n B c' K' P' L' := by
  have d10 : ¬ (1 : Int32) = 0 := by decide
  -- a last token: the text's end, or none
  have last : ∀ (i c : Nat) (K P L : Nat → Nat) (k l : Nat), i ≤ n → k ≤ 1 → pl_TR i c K P L → pl_TW n (c + 1) (pl_up K c k) (pl_up P c i) (pl_up L c l) := by
    intro i c K P L k l hi hk hR
    obtain ⟨r1, r2, r3⟩ := hR
    unfold pl_TW pl_up
    refine ⟨by omega, by rw [if_pos (by omega)]; exact hk, fun t ht => ?_, by rw [if_pos (by omega)]; exact hi⟩
    rw [if_neg (show ¬ t = c by omega), if_neg (show ¬ t = c by omega), if_neg (show ¬ t = c by omega)]
    obtain ⟨q1, q2, q3⟩ := r2 t (by omega)
    refine ⟨q1, q2, ?_⟩
    by_cases h : t + 1 = c
    · rw [if_pos h]; exact q3
    · rw [if_neg h]; exact r3 t (by omega)
  intro m
  induction m using Nat.strongRecOn with
  | ind m ih =>
    intro i c f g σ τ K P L hi hf hg h hT hR hTF
    obtain ⟨h1, h2, h3, h4, h5⟩ := id h
    obtain ⟨f, rfl⟩ : ∃ z, f = z + 1 := ⟨f - 1, by omega⟩
    obtain ⟨g, rfl⟩ : ∃ z, g = z + 1 + 1 := ⟨g - 2, by omega⟩
    have hcn : c ≤ i := hR.1
    by_cases hin : i < n
    · obtain ⟨k, l, a1, a2, a3, a4, a5⟩ := pl_tok h hT hin hcn
      rw [a5 (g + 1), pl_420 hT.2.1 (by omega)]
      rw [prf_T_readText_23, if_neg (show ¬ (8000 : Int32) ≤ nI c from nI_ge (b := 8000) (by omega) (by omega)), h3, if_neg (nI_ge hin (by omega))]
      rcases a4 with ⟨b1, b0, b2⟩ | ⟨b1, b2⟩
      · have hT2 := pl_TT_add hT a1 i l (fun q => (b0.1 q).1)
        have hX2 : pl_TX n B (pl_addC σ c k i (pl_vl B k i l)) (pl_addR τ c (pl_km k) i l) := pl_TX_add h _ _ _ _ _ _ _ _
        obtain ⟨j, j1, j2, j3, j4⟩ := pl_blanks hX2.tb (i := i + l) (by omega)
        rw [b2, pl_sb, if_neg (show ¬ nI l = 0 from nI_ne0 (by omega) (by omega)), nI_add, j3, pl_sb, nI_1, j4, pl_sb, if_neg (pl_kmno k a1 b1)]
        have hR2 : pl_TR j (c + 1) (pl_up K c k) (pl_up P c i) (pl_up L c l) := by
          obtain ⟨r1, r2, r3⟩ := hR
          refine ⟨by omega, fun t ht => ?_, fun t ht => ?_⟩
          · unfold pl_up
            by_cases q : t = c
            · rw [if_pos q, if_pos q, if_pos q]; exact ⟨b1, a2, by omega⟩
            · rw [if_neg q, if_neg q, if_neg q]
              obtain ⟨q1, q2, q3⟩ := r2 t (by omega)
              exact ⟨q1, q2, by omega⟩
          · unfold pl_up
            rw [if_neg (show ¬ t = c by omega), if_neg (show ¬ t = c by omega)]
            by_cases q : t + 1 = c
            · rw [if_pos q]; exact (r2 t (by omega)).2.2
            · rw [if_neg q]; exact r3 t (by omega)
        obtain ⟨σ', τ', c', K', P', L', e1, e2, e3, e4, e5, e6, e7, e8, e9⟩ := ih (n - j) (by omega) j (c + 1) f (g + 1) _ _ _ _ _ (by omega) (by omega) (by omega) hX2 hT2 hR2 (pl_TF_up hTF b0)
        exact ⟨σ', τ', c', K', P', L', e1, e2, e3, e4, e5, e6, pl_addC_fr.tr e7, pl_addR_fr.tr e8, e9⟩
      · subst b1
        have hT2 := pl_TT_add hT (show 1 < 35 by decide) i l (fun q => absurd q (by decide))
        have hX2 : pl_TX n B (pl_addC σ c 1 i (pl_vl B 1 i l)) (pl_addR τ c (pl_km 1) i l) := pl_TX_add h _ _ _ _ _ _ _ _
        obtain ⟨j, j1, j2, j3, j4⟩ := pl_blanks hX2.tb (i := i + l) (by omega)
        rw [b2, pl_sb, if_pos rfl, j4, pl_sb, if_pos (show nI (pl_km 1) = 1 ∨ nI (pl_km 1) = 0 from Or.inl rfl), prf_X_scan_13, if_pos rfl]
        have ea : prf_T_add σ 1 (nI i) 0 = some (pl_addC σ c 1 i 0) := pl_addT hT.1 (by omega) (show 1 < 35 by decide) i 0
        have e0 : pl_vl B 1 i l = 0 := rfl
        rw [e0] at hT2 hX2
        exact ⟨_, _, c + 1, _, _, _, by show (prf_T_add σ 1 (nI i) 0).bind _ = _; rw [ea]; rfl, rfl, hX2, hT2, last i c K P L 1 l (by omega) (by decide) hR, by omega, pl_addC_fr, pl_addR_fr, pl_TF_up hTF (pl_tf01 (by decide))⟩
    · have hin2 : i = n := by omega
      subst hin2
      have hT2 := pl_TT_add hT (show 0 < 35 by decide) i 0 (fun q => absurd q (by decide))
      have hX2 : pl_TX i B (pl_addC σ c 0 i (pl_vl B 0 i 0)) (pl_addR τ c (pl_km 0) i 0) := pl_TX_add h _ _ _ _ _ _ _ _
      have e0 : pl_vl B 0 i 0 = 0 := rfl
      rw [e0] at hT2 hX2
      obtain ⟨j, j1, j2, j3, j4⟩ := pl_blanks hX2.tb (i := i + 0) (by omega)
      have ea : prf_T_add σ 0 (nI i) 0 = some (pl_addC σ c 0 i 0) := pl_addT hT.1 (by omega) (show 0 < 35 by decide) i 0
      have et : prf_T_readText_23 (f + 1) σ (nI i) (nI c) = some (pl_addC σ c 0 i 0) := by
        rw [prf_T_readText_23, h3, ea, if_pos (Int32.le_refl _)]
        by_cases q : (8000 : Int32) ≤ nI c
        · rw [if_pos q]; rfl
        · rw [if_neg q]; rfl
      have ex : prf_X_scan_13 (g + 1 + 1) τ (nI i) 1 = some (pl_addR τ c (pl_km 0) i 0) := by
        rw [prf_X_scan_13, if_neg d10, h4, if_pos (Int32.le_refl _), if_neg (show ¬ nI i < nI i from nI_nlt (Nat.le_refl _) (by omega))]
        have e420 : prf_X_scan_420 (prf_X_scan_13 (g + 1)) τ (nI i) 0 0 = _ := pl_420 hT.2.1 (by omega) (prf_X_scan_13 (g + 1)) 0 i 0
        rw [e420]
        have j4' : prf_X_behindBlanks (pl_addR τ c 0 i 0) (nI (i + 0)) = some (nI j) := j4
        rw [j4', pl_sb, if_pos (show nI 0 = 1 ∨ nI 0 = 0 from Or.inr rfl), prf_X_scan_13, if_pos rfl]
        rfl
      exact ⟨_, _, c + 1, _, _, _, et, ex, hX2, hT2, last i c K P L 0 0 (by omega) (by decide) hR, by omega, pl_addC_fr, pl_addR_fr, pl_TF_up hTF (pl_tf01 (by decide))⟩
/-- the text is read: both sides have the same tokens -/
theorem pl_text {n : Nat} {σ τ : pr_St} (hn : n ≤ 8000) (hb : ∀ j, j < n → σ.2.1 8 j &&& 255 = τ.2.1 2 j) (he : τ.1 0 3 = nI n) : ∃ (σ' τ' : pr_St) (B : Nat → Nat) (c : Nat) (K P L : Nat → Nat), prf_T_readText σ (nI n) = some σ' ∧ prf_X_scan τ = some τ' ∧ pl_TX n B σ' τ' ∧ pl_TT B c K P L σ' τ' ∧ pl_TW n c K P L ∧ c ≤ n + 1 ∧ σ'.1 1 1 = 0 ∧ pl_fr pl_FT1 pl_GT σ σ' ∧ pl_fr pl_FX pl_GX τ τ' ∧ pl_TF n B c K P L := by
  have hF : pr_FU = 100000 := rfl
  have hTB : pl_TB n (pr_sI (pr_sI (pr_sI σ 1 1 0) 1 5 (nI n)) 1 6 0) (pr_sI τ 0 7 0) := ⟨hn, rfl, he, hb⟩
  obtain ⟨B, hX⟩ := pl_TX_of hTB
  obtain ⟨j, j1, j2, j3, j4⟩ := pl_blanks hTB (i := 0) (Nat.zero_le _)
  have hT : pl_TT B 0 (fun _ => 0) (fun _ => 0) (fun _ => 0) (pr_sI (pr_sI (pr_sI σ 1 1 0) 1 5 (nI n)) 1 6 0) (pr_sI τ 0 7 0) := ⟨rfl, rfl, fun t ht => absurd ht (Nat.not_lt_zero _)⟩
  have hR : pl_TR j 0 (fun _ => 0) (fun _ => 0) (fun _ => 0) := ⟨Nat.zero_le _, fun t ht => absurd ht (Nat.not_lt_zero _), fun t ht => absurd ht (by omega)⟩
  obtain ⟨σ', τ', c, K, P, L, e1, e2, e3, e4, e5, e6, e7, e8, e9⟩ := pl_scan (n - j) j 0 pr_FU pr_FU _ _ _ _ _ (by omega) (by rw [hF]; omega) (by rw [hF]; omega) hX hT hR (fun t ht => absurd ht (Nat.not_lt_zero _))
  refine ⟨σ', τ', B, c, K, P, L, ?_, ?_, e3, e4, e5, e6, e7.1 1 1 rfl, pl_fr.tr ?_ (e7.mono pl_FT_FT1), pl_fr.tr (pl_sI_fr rfl) e8, e9⟩
  · unfold prf_T_readText
    have j3' : prf_T_behindBlanks (pr_sI (pr_sI (pr_sI σ 1 1 0) 1 5 (nI n)) 1 6 0) 0 = some (nI j) := j3
    rw [j3', pl_sb]
    exact e1
  · unfold prf_X_scan
    have j4' : prf_X_behindBlanks (pr_sI τ 0 7 0) 0 = some (nI j) := j4
    rw [j4', pl_sb]
    exact e2
  · exact pl_fr.tr (pl_fr.tr (pl_sI_fr (o := 1) (k := 1) rfl) (pl_sI_fr (o := 1) (k := 5) rfl)) (pl_sI_fr (o := 1) (k := 6) rfl)
