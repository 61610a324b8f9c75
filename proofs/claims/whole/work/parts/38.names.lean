/-! NAMES: the reference's table of names -/
/-- two tokens are the same name -/
def pl_sn (T : pl_Tx) (t u : Nat) : Prop := pl_xL T t = pl_xL T u ∧ ∀ i, i < pl_xL T t → pl_xB T (pl_xP T t + i) = pl_xB T (pl_xP T u + i)
theorem pl_sn.rf {T : pl_Tx} {t : Nat} : pl_sn T t t := ⟨rfl, fun _ _ => rfl⟩
theorem pl_sn.sy {T : pl_Tx} {t u : Nat} (h : pl_sn T t u) : pl_sn T u t := ⟨h.1.symm, fun i hi => (h.2 i (by rw [h.1]; exact hi)).symm⟩
theorem pl_sn.tr {T : pl_Tx} {t u v : Nat} (h : pl_sn T t u) (h2 : pl_sn T u v) : pl_sn T t v := ⟨h.1.trans h2.1, fun i hi => (h.2 i hi).trans (h2.2 i (by rw [← h.1]; exact hi))⟩
def pl_stt (L rep : Nat → Nat) : Nat → Nat
  | 0 => 0
  | k + 1 => pl_stt L rep k + L (rep k)
theorem pl_stt_eq {L rep rep' : Nat → Nat} : ∀ m : Nat, (∀ j, j < m → rep' j = rep j) → pl_stt L rep' m = pl_stt L rep m := by
  intro m
  induction m with
  | zero => intro _; rfl
  | succ m ih =>
    intro h
    show pl_stt L rep' m + L (rep' m) = pl_stt L rep m + L (rep m)
    rw [ih (fun j hj => h j (by omega)), h m (by omega)]
theorem pl_stt_mono {L rep : Nat → Nat} : ∀ d k : Nat, pl_stt L rep k ≤ pl_stt L rep (k + d) := by
  intro d
  induction d with
  | zero => intro k; exact Nat.le_refl _
  | succ d ih =>
    intro k
    have a := ih k
    have b : pl_stt L rep (k + (d + 1)) = pl_stt L rep (k + d) + L (rep (k + d)) := rfl
    omega
/-- the table: m names, each with the token where it came first; behind lo there is room -/
def pl_NT (T : pl_Tx) (τ : pr_St) (m : Nat) (rep : Nat → Nat) (lo : Nat) : Prop :=
  τ.1 0 27 = nI m ∧ (∀ k, k ≤ m → τ.2.1 19 k = nI (pl_stt (pl_xL T) rep k)) ∧ (∀ k, k < m → ∀ i, i < pl_xL T (rep k) → τ.2.1 18 (pl_stt (pl_xL T) rep k + i) = nI (pl_xB T (pl_xP T (rep k) + i))) ∧ (∀ j k, j < k → k < m → ¬ pl_sn T (rep j) (rep k)) ∧ (m ≤ pl_stt (pl_xL T) rep m ∧ pl_stt (pl_xL T) rep m ≤ 8000) ∧ (∀ t, lo ≤ t → t < pl_xc T → pl_xK T t = 2 → pl_stt (pl_xL T) rep m + m ≤ pl_xP T t)
def pl_FN (o k : Nat) : Bool := o == 0 && k == 27
def pl_GN (a : Nat) : Bool := a == 18 || a == 19
/-- the bytes of a token lie in the text -/
theorem pl_PL {T : pl_Tx} {σ τ : pr_St} (h : pl_tt T σ τ) {t : Nat} (ht : t < pl_xc T) (hk : 2 ≤ pl_xK T t) : pl_xP T t + pl_xL T t ≤ pl_xn T ∧ 1 ≤ pl_xL T t ∧ pl_xn T ≤ 8000 := by
  have hm := pl_more h ht hk
  obtain ⟨n1, _, _, _, nW, _⟩ := id h
  have a := (nW.2.2.1 t hm).2.2
  have b := pl_Pn nW (pl_xc T - (t + 2)) (t + 1) (by omega)
  exact ⟨by omega, (nW.2.2.1 t hm).2.1, n1⟩
theorem pl_no43z {kk : pr_St → Int32 → Int32 → Option (Int32 × pr_St)} {τ : pr_St} {t k f : Nat} (ht : t < 8002) (x4 : Int32) : prf_X_nameOf_43 kk (f + 1) τ (nI t) (nI k) 0 x4 = kk τ (nI t) (nI (k + 1)) := by
  rw [prf_X_nameOf_43, pl_ck ht (by omega), if_pos rfl, if_pos rfl, nI_1]
  by_cases h : (τ.2.1 5) (nI t).toNatClampNeg ≤ x4
  · rw [if_pos h]
  · rw [if_neg h]
theorem pl_beq {a b : Nat} (ha : a < 256) (hb : b < 256) : nI a = nI b ↔ a = b := nI_eq (by omega) (by omega)
theorem pl_no43 {T : pl_Tx} {σ τ : pr_St} (h : pl_tt T σ τ) {m lo : Nat} {rep : Nat → Nat} (hN : pl_NT T τ m rep lo) {t k : Nat} (ht : t < pl_xc T) (hk2 : pl_xK T t = 2) (hk : k < m) (hL : pl_xL T (rep k) = pl_xL T t) (hb : pl_stt (pl_xL T) rep m + m ≤ 8000) (kk : pr_St → Int32 → Int32 → Option (Int32 × pr_St)) : ∀ r i f : Nat, i + r = pl_xL T t → r + 2 ≤ f → (∀ j, j < i → pl_xB T (pl_xP T (rep k) + j) = pl_xB T (pl_xP T t + j)) → (pl_sn T (rep k) t → prf_X_nameOf_43 kk f τ (nI t) (nI k) 1 (nI i) = some (nI k, τ)) ∧ (¬ pl_sn T (rep k) t → prf_X_nameOf_43 kk f τ (nI t) (nI k) 1 (nI i) = kk τ (nI t) (nI (k + 1))) := by
  obtain ⟨n1, n2, n3, n4, n5, n6⟩ := id hN
  obtain ⟨p1, p2, p3⟩ := pl_PL h ht (by omega)
  obtain ⟨z1, z2, zX, zT, zW, zF⟩ := id h
  have c8 := pl_c8 h
  have e4 : τ.2.1 4 t = nI (pl_xP T t) := pl_plX h ht
  have e5 : τ.2.1 5 t = nI (pl_xL T t) := (zT.2.2 t ht).2.2.2.2.2.2.1
  have hst : pl_stt (pl_xL T) rep k + pl_xL T (rep k) ≤ 8000 := by
    have := pl_stt_mono (L := pl_xL T) (rep := rep) (m - (k + 1)) (k + 1)
    rw [show k + 1 + (m - (k + 1)) = m by omega] at this
    have e : pl_stt (pl_xL T) rep (k + 1) = pl_stt (pl_xL T) rep k + pl_xL T (rep k) := rfl
    omega
  intro r
  induction r with
  | zero =>
    intro i f hi hf hall
    obtain ⟨f, rfl⟩ : ∃ z, f = z + 1 := ⟨f - 1, by omega⟩
    have hsn : pl_sn T (rep k) t := ⟨hL, fun j hj => hall j (by omega)⟩
    refine ⟨fun _ => ?_, fun q => absurd hsn q⟩
    rw [prf_X_nameOf_43, pl_ck (by omega) (by omega), nI_clamp (by omega), e5, if_pos (show nI (pl_xL T t) ≤ nI i by rw [show i = pl_xL T t by omega]; exact Int32.le_refl _), if_neg pl_10]
  | succ r ih =>
    intro i f hi hf hall
    obtain ⟨f, rfl⟩ : ∃ z, f = z + 1 := ⟨f - 1, by omega⟩
    have step : prf_X_nameOf_43 kk (f + 1) τ (nI t) (nI k) 1 (nI i) = if nI (pl_xB T (pl_xP T (rep k) + i)) = nI (pl_xB T (pl_xP T t + i)) then prf_X_nameOf_43 kk f τ (nI t) (nI k) 1 (nI (i + 1)) else prf_X_nameOf_43 kk f τ (nI t) (nI k) 0 (nI (i + 1)) := by
      rw [prf_X_nameOf_43, pl_ck (by omega) (by omega), nI_clamp (by omega), e5, if_neg (nI_ge (by omega) (by omega)), if_neg pl_10, pl_ck (by omega) (by omega), nI_clamp (by omega), n2 k (by omega), nI_add, pl_ck (by omega) (by omega), pl_ck (by omega) (by omega), e4, nI_add, pl_ck (by omega) (by omega), nI_clamp (by omega), nI_clamp (by omega), n3 k hk i (by omega), (zX.2.2.2.2 (pl_xP T t + i) (by omega)).2, nI_1]
    rw [step]
    by_cases hq : pl_xB T (pl_xP T (rep k) + i) = pl_xB T (pl_xP T t + i)
    · rw [if_pos (by rw [hq])]
      exact ih (i + 1) f (by omega) (by omega) (fun j hj => by
        by_cases hj2 : j = i
        · rw [hj2]; exact hq
        · exact hall j (by omega))
    · rw [if_neg (fun q => hq ((pl_beq (zX.2.1 _) (zX.2.1 _)).mp q))]
      obtain ⟨f, rfl⟩ : ∃ z, f = z + 1 := ⟨f - 1, by omega⟩
      rw [pl_no43z (by omega)]
      exact ⟨fun q => absurd (q.2 i (by omega)) hq, fun _ => rfl⟩
/-- a new name -/
theorem pl_no115 {T : pl_Tx} {σ τ : pr_St} (h : pl_tt T σ τ) {m lo : Nat} {rep : Nat → Nat} (hN : pl_NT T τ m rep lo) {t : Nat} (ht : t < pl_xc T) (hk2 : pl_xK T t = 2) (hb : pl_stt (pl_xL T) rep m + m ≤ pl_xP T t) : ∀ (r i f : Nat) (τ1 : pr_St), i + r = pl_xL T t → r + 1 ≤ f → pl_fr pl_FN pl_GN τ τ1 → τ1.1 = τ.1 → τ1.2.1 19 = τ.2.1 19 → (∀ z, τ1.2.1 18 z = if pl_stt (pl_xL T) rep m ≤ z ∧ z < pl_stt (pl_xL T) rep m + i then nI (pl_xB T (pl_xP T t + (z - pl_stt (pl_xL T) rep m))) else τ.2.1 18 z) →
    ∃ τ', prf_X_nameOf_115 f τ1 (nI t) (nI i) = some (nI m, τ') ∧ pl_fr pl_FN pl_GN τ τ' ∧ τ'.1 0 27 = nI (m + 1) ∧ τ'.2.1 19 = upd (τ.2.1 19) (m + 1) (nI (pl_stt (pl_xL T) rep m + pl_xL T t)) ∧ (∀ z, τ'.2.1 18 z = if pl_stt (pl_xL T) rep m ≤ z ∧ z < pl_stt (pl_xL T) rep m + pl_xL T t then nI (pl_xB T (pl_xP T t + (z - pl_stt (pl_xL T) rep m))) else τ.2.1 18 z) := by
  obtain ⟨n1, n2, n3, n4, n5, n6⟩ := id hN
  obtain ⟨p1, p2, p3⟩ := pl_PL h ht (by omega)
  obtain ⟨z1, z2, zX, zT, zW, zF⟩ := id h
  have c8 := pl_c8 h
  intro r
  induction r with
  | zero =>
    intro i f τ1 hi hf hfr hf1 h19 h18
    obtain ⟨f, rfl⟩ : ∃ z, f = z + 1 := ⟨f - 1, by omega⟩
    have e5 : τ1.2.1 5 t = nI (pl_xL T t) := by rw [hfr.2.1 5 rfl]; exact (zT.2.2 t ht).2.2.2.2.2.2.1
    have e27 : τ1.1 0 27 = nI m := by rw [hf1]; exact n1
    refine ⟨pr_sA (pr_sI τ1 0 27 (nI (m + 1))) 19 (upd (τ1.2.1 19) (m + 1) (nI (pl_stt (pl_xL T) rep m) + nI (pl_xL T t))), ?_, (hfr.tr (pl_sI_fr (o := 0) (k := 27) rfl)).tr (pl_sA_fr (o := 19) rfl), (by show (pr_sI τ1 0 27 (nI (m + 1))).1 0 27 = _; exact pr_sI_same), ?_, fun z => ?_⟩
    · rw [prf_X_nameOf_115, pl_ck (by omega) (by omega), nI_clamp (by omega), e5, if_pos (show nI (pl_xL T t) ≤ nI i by rw [show i = pl_xL T t by omega]; exact Int32.le_refl _), e27, nI_1, nI_pred, pl_ck (by omega) (by omega), pl_ck (by omega) (by omega), pl_ck (by omega) (by omega), nI_clamp (by omega), nI_clamp (by omega), h19, n2 m (Nat.le_refl _)]
    · rw [pl_sA_same, h19, nI_add]
    · rw [pl_sA_ne (by decide)]
      show τ1.2.1 18 z = _
      rw [h18 z, show i = pl_xL T t by omega]
  | succ r ih =>
    intro i f τ1 hi hf hfr hf1 h19 h18
    obtain ⟨f, rfl⟩ : ∃ z, f = z + 1 := ⟨f - 1, by omega⟩
    have e5 : τ1.2.1 5 t = nI (pl_xL T t) := by rw [hfr.2.1 5 rfl]; exact (zT.2.2 t ht).2.2.2.2.2.2.1
    have e4 : τ1.2.1 4 t = nI (pl_xP T t) := by rw [hfr.2.1 4 rfl]; exact pl_plX h ht
    have e2 : τ1.2.1 2 (pl_xP T t + i) = nI (pl_xB T (pl_xP T t + i)) := by rw [hfr.2.1 2 rfl]; exact (zX.2.2.2.2 (pl_xP T t + i) (by omega)).2
    have e27 : τ1.1 0 27 = nI m := by rw [hf1]; exact n1
    obtain ⟨τ', w1, w2⟩ := ih (i + 1) f (pr_sA τ1 18 (upd (τ1.2.1 18) (pl_stt (pl_xL T) rep m + i) (nI (pl_xB T (pl_xP T t + i))))) (by omega) (by omega) (hfr.tr (pl_sA_fr (o := 18) rfl)) hf1 (by rw [pl_sA_ne (by decide)]; exact h19) (fun z => by
      rw [pl_sA_same]
      by_cases hz : z = pl_stt (pl_xL T) rep m + i
      · rw [hz, pk_us, if_pos (by omega), show pl_stt (pl_xL T) rep m + i - pl_stt (pl_xL T) rep m = i by omega]
      · rw [pk_un hz, h18 z]
        by_cases hz2 : pl_stt (pl_xL T) rep m ≤ z ∧ z < pl_stt (pl_xL T) rep m + i
        · rw [if_pos hz2, if_pos (by omega)]
        · rw [if_neg hz2, if_neg (by omega)])
    refine ⟨τ', ?_, w2⟩
    rw [prf_X_nameOf_115, pl_ck (by omega) (by omega), nI_clamp (by omega), e5, if_neg (nI_ge (by omega) (by omega)), e27, pl_ck (by omega) (by omega), pl_ck (by omega) (by omega), e4, nI_add, pl_ck (by omega) (by omega), nI_clamp (by omega), h19, n2 m (Nat.le_refl _), nI_add, pl_ck (by omega) (by omega), nI_clamp (by omega), nI_clamp (by omega), e2, nI_1]
    exact w1
def pl_rup (rep : Nat → Nat) (m t : Nat) : Nat → Nat := fun k => if k = m then t else rep k
/-- names stand apart: the next one begins behind a byte at least -/
theorem pl_Pname {T : pl_Tx} {σ τ : pr_St} (h : pl_tt T σ τ) {t t' : Nat} (ht : t < t') (ht' : t' < pl_xc T) (hk : pl_xK T t = 2) (hk' : pl_xK T t' = 2) : pl_xP T t + pl_xL T t + 1 ≤ pl_xP T t' := by
  obtain ⟨z1, z2, zX, zT, zW, zF⟩ := id h
  have a := (zW.2.2.1 t (by omega)).2.2
  by_cases q : t + 1 = t'
  · subst q
    by_cases q2 : pl_xP T (t + 1) = pl_xP T t + pl_xL T t
    · exfalso
      have w1 := ((zF t (by omega)).2.1 (Or.inl hk)).2
      have w2 := ((zF (t + 1) ht').2.1 (Or.inl hk')).1
      obtain ⟨p1, p2, p3⟩ := pl_PL h ht' (by omega)
      rw [← q2] at w1
      have w3 := w1 (by omega)
      unfold pl_wc at w3
      rw [w2] at w3
      cases w3
    · omega
  · have b := pl_Pm h (t' - (t + 1)) (t + 1) (by omega)
    rw [show t + 1 + (t' - (t + 1)) = t' by omega] at b
    omega
/-- the number of a name -/
theorem pl_nameOf {T : pl_Tx} {σ τ : pr_St} (h : pl_tt T σ τ) {m lo : Nat} {rep : Nat → Nat} (hN : pl_NT T τ m rep lo) {t : Nat} (hlo : lo ≤ t) (ht : t < pl_xc T) (hk2 : pl_xK T t = 2) : ∃ (id m' : Nat) (rep' : Nat → Nat) (τ' : pr_St), prf_X_nameOf τ (nI t) = some (nI id, τ') ∧ pl_fr pl_FN pl_GN τ τ' ∧ pl_NT T τ' m' rep' (t + 1) ∧ id < m' ∧ pl_sn T (rep' id) t ∧ m ≤ m' ∧ (∀ j, j < m → rep' j = rep j) := by
  obtain ⟨n1, n2, n3, n4, n5, n6⟩ := id hN
  obtain ⟨p1, p2, p3⟩ := pl_PL h ht (by omega)
  have c8 := pl_c8 h
  have hb := n6 t hlo ht hk2
  have hF : pr_FU = 100000 := rfl
  have e5 : τ.2.1 5 t = nI (pl_xL T t) := (h.2.2.2.1.2.2 t ht).2.2.2.2.2.2.1
  -- what stays holds behind t
  have stay : pl_NT T τ m rep (t + 1) := ⟨n1, n2, n3, n4, n5, fun t' h1 h2 h3 => n6 t' (by omega) h2 h3⟩
  have main : ∀ r k f : Nat, k + r = m → r + 1 ≤ f → (∀ j, j < k → ¬ pl_sn T (rep j) t) → (∃ id, id < m ∧ pl_sn T (rep id) t ∧ prf_X_nameOf_2 f τ (nI t) (nI k) = some (nI id, τ)) ∨ ((∀ j, j < m → ¬ pl_sn T (rep j) t) ∧ prf_X_nameOf_2 f τ (nI t) (nI k) = prf_X_nameOf_115 pr_FU τ (nI t) 0) := by
    intro r
    induction r with
    | zero =>
      intro k f hk hf hall
      obtain ⟨f, rfl⟩ : ∃ z, f = z + 1 := ⟨f - 1, by omega⟩
      refine Or.inr ⟨fun j hj => hall j (by omega), ?_⟩
      rw [prf_X_nameOf_2, n1, if_pos (show nI m ≤ nI k by rw [show k = m by omega]; exact Int32.le_refl _)]
    | succ r ih =>
      intro k f hk hf hall
      obtain ⟨f, rfl⟩ : ∃ z, f = z + 1 := ⟨f - 1, by omega⟩
      have est : pl_stt (pl_xL T) rep (k + 1) = pl_stt (pl_xL T) rep k + pl_xL T (rep k) := rfl
      have hmono := pl_stt_mono (L := pl_xL T) (rep := rep) (m - (k + 1)) (k + 1)
      rw [show k + 1 + (m - (k + 1)) = m by omega] at hmono
      have esub : nI (pl_stt (pl_xL T) rep (k + 1)) - nI (pl_stt (pl_xL T) rep k) = nI (pl_xL T (rep k)) := by
        rw [est, ← nI_add, Int32.add_comm, Int32.add_sub_cancel]
      have step : prf_X_nameOf_2 (f + 1) τ (nI t) (nI k) = if nI (pl_xL T (rep k)) = nI (pl_xL T t) then prf_X_nameOf_43 (prf_X_nameOf_2 f) pr_FU τ (nI t) (nI k) 1 0 else prf_X_nameOf_43 (prf_X_nameOf_2 f) pr_FU τ (nI t) (nI k) 0 0 := by
        rw [prf_X_nameOf_2, n1, if_neg (nI_ge (by omega) (by omega)), nI_1, pl_ck (by omega) (by omega), pl_ck (by omega) (by omega), pl_ck (by omega) (by omega), nI_clamp (by omega), nI_clamp (by omega), nI_clamp (by omega), n2 (k + 1) (by omega), n2 k (by omega), esub, e5]
      by_cases hL : pl_xL T (rep k) = pl_xL T t
      · rw [step, if_pos (by rw [hL])]
        obtain ⟨q1, q2⟩ := pl_no43 h hN ht hk2 (k := k) (by omega) hL (by omega) (prf_X_nameOf_2 f) (pl_xL T t) 0 pr_FU (by omega) (by rw [hF]; omega) (fun j hj => absurd hj (Nat.not_lt_zero _))
        by_cases hs : pl_sn T (rep k) t
        · exact Or.inl ⟨k, by omega, hs, q1 hs⟩
        · have e := q2 hs
          have e' : prf_X_nameOf_43 (prf_X_nameOf_2 f) pr_FU τ (nI t) (nI k) 1 0 = prf_X_nameOf_2 f τ (nI t) (nI (k + 1)) := e
          rw [e']
          exact ih (k + 1) f (by omega) (by omega) (fun j hj => by
            by_cases hj2 : j = k
            · rw [hj2]; exact hs
            · exact hall j (by omega))
      · have hne : ¬ nI (pl_xL T (rep k)) = nI (pl_xL T t) := fun q => hL ((nI_eq (by omega) (by omega)).mp q)
        rw [step, if_neg hne, show pr_FU = 99999 + 1 from rfl, pl_no43z (by omega)]
        exact ih (k + 1) f (by omega) (by omega) (fun j hj => by
            by_cases hj2 : j = k
            · rw [hj2]; exact fun q => hL q.1
            · exact hall j (by omega))
  rcases main m 0 pr_FU (by omega) (by rw [hF]; omega) (fun j hj => absurd hj (Nat.not_lt_zero _)) with ⟨id, h1, h2, h3⟩ | ⟨h1, h2⟩
  · exact ⟨id, m, rep, τ, h3, pl_fr.rf, stay, h1, h2, Nat.le_refl _, fun _ _ => rfl⟩
  · obtain ⟨τ', w1, w2, w3, w4, w5⟩ := pl_no115 h hN ht hk2 hb (pl_xL T t) 0 pr_FU τ (by omega) (by rw [hF]; omega) pl_fr.rf rfl rfl (fun z => by rw [if_neg (by omega)])
    have er : ∀ j, j < m → pl_rup rep m t j = rep j := fun j hj => if_neg (by omega)
    have em : pl_rup rep m t m = t := if_pos rfl
    have es : ∀ k, k ≤ m → pl_stt (pl_xL T) (pl_rup rep m t) k = pl_stt (pl_xL T) rep k := fun k hk => pl_stt_eq k (fun j hj => er j (by omega))
    have es1 : pl_stt (pl_xL T) (pl_rup rep m t) (m + 1) = pl_stt (pl_xL T) rep m + pl_xL T t := by
      show pl_stt (pl_xL T) (pl_rup rep m t) m + pl_xL T (pl_rup rep m t m) = _
      rw [es m (Nat.le_refl _), em]
    refine ⟨m, m + 1, pl_rup rep m t, τ', by rw [← w1]; exact h2, w2, ⟨w3, fun k hk => ?_, fun k hk i hi => ?_, fun j k hj hk => ?_, ⟨by rw [es1]; omega, by rw [es1]; omega⟩, fun t' q1 q2 q3 => ?_⟩, by omega, by rw [em]; exact pl_sn.rf, by omega, er⟩
    · rw [w4]
      by_cases hkm : k = m + 1
      · rw [hkm, pk_us, es1]
      · rw [pk_un hkm, es k (by omega)]; exact n2 k (by omega)
    · by_cases hkm : k = m
      · subst hkm
        rw [em] at hi
        rw [es k (Nat.le_refl _), em, w5, if_pos (by omega), show pl_stt (pl_xL T) rep k + i - pl_stt (pl_xL T) rep k = i by omega]
      · rw [er k (by omega)] at hi
        have hmono := pl_stt_mono (L := pl_xL T) (rep := rep) (m - (k + 1)) (k + 1)
        rw [show k + 1 + (m - (k + 1)) = m by omega] at hmono
        have est : pl_stt (pl_xL T) rep (k + 1) = pl_stt (pl_xL T) rep k + pl_xL T (rep k) := rfl
        rw [es k (by omega), er k (by omega), w5, if_neg (by omega)]
        exact n3 k (by omega) i hi
    · by_cases hkm : k = m
      · rw [hkm, em, er j (by omega)]; exact h1 j (by omega)
      · rw [er j (by omega), er k (by omega)]; exact n4 j k hj (by omega)
    · rw [es1]
      have := pl_Pname h (show t < t' by omega) q2 hk2 q3
      omega
