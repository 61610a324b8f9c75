/-! KEEPING: the walk over the drafts -/
def pl_FK (o k : Nat) : Bool := o == 0 && (k == 24 || k == 27)
def pl_GK (a : Nat) : Bool := a == 12 || a == 13 || a == 14 || a == 15 || a == 16 || a == 17 || a == 18 || a == 19
theorem pl_FA_FK : ∀ o k, pl_FK o k = false → pl_FA o k = false := by
  intro o k h
  unfold pl_FK at h
  unfold pl_FA
  cases ho : (o == 0) with
  | false => rfl
  | true => rw [ho] at h; simp only [Bool.true_and, Bool.or_eq_false_iff] at h ⊢; exact h.1
theorem pl_FN_FK : ∀ o k, pl_FK o k = false → pl_FN o k = false := by
  intro o k h
  unfold pl_FK at h
  unfold pl_FN
  cases ho : (o == 0) with
  | false => rfl
  | true => rw [ho] at h; simp only [Bool.true_and, Bool.or_eq_false_iff] at h ⊢; exact h.2
theorem pl_GA_GK : ∀ r, pl_GK r = false → pl_GA r = false := by
  intro r h
  unfold pl_GK at h
  unfold pl_GA
  simp only [Bool.or_eq_false_iff] at h ⊢
  exact ⟨⟨⟨⟨h.1.1.1.1.1.1.2, h.1.1.1.1.1.2⟩, h.1.1.1.1.2⟩, h.1.1.1.2⟩, h.1.1.2⟩
theorem pl_GN_GK : ∀ r, pl_GK r = false → pl_GN r = false := by
  intro r h
  unfold pl_GK at h
  unfold pl_GN
  simp only [Bool.or_eq_false_iff] at h ⊢
  exact ⟨h.1.2, h.2⟩
theorem pl_fr.wk {F F' : Nat → Nat → Bool} {G G' : Nat → Bool} {a b : pr_St} (h : pl_fr F G a b) (hF : ∀ o k, F' o k = false → F o k = false) (hG : ∀ r, G' r = false → G r = false) : pl_fr F' G' a b :=
  ⟨fun o k hk => h.1 o k (hF o k hk), fun r hr => h.2.1 r (hG r hr), h.2.2⟩
/-- a 13 node has its token as value -/
def pl_v13 (T : pl_Tx) (F : List pl_N) : Prop := ∀ e, e ∈ F → e.1 < 64 ∧ (e.1 = 13 → e.2.2.1 = nI e.2.1 ∧ pl_xK T e.2.1 = 2)
/-- what a part of keeping leaves -/
def pl_KR (T : pl_Tx) (σ τ τ' : pr_St) (n n' m m' : Nat) (rep rep' : Nat → Nat) (top : Nat) (A : List Nat) : Prop :=
  pl_tt T σ τ' ∧ τ'.1 0 24 = nI n' ∧ n ≤ n' ∧ m ≤ m' ∧ (∀ j, j < m → rep' j = rep j) ∧ pl_fr pl_FK pl_GK τ τ' ∧ (∀ z, z < top → τ'.2.1 12 z = τ.2.1 12 z) ∧ (∀ r z, 13 ≤ r → r ≤ 16 → z < n → τ'.2.1 r z = τ.2.1 r z) ∧ (∀ j, j < n → τ'.2.1 17 j = if j ∈ A then τ.2.1 17 j + nI (n' - n) else τ.2.1 17 j)
theorem pl_KR.tr {T : pl_Tx} {σ τ τ1 τ2 : pr_St} {n n1 n2 m m1 m2 top top1 : Nat} {rep rep1 rep2 : Nat → Nat} {A : List Nat} (h1 : pl_KR T σ τ τ1 n n1 m m1 rep rep1 top A) (h2 : pl_KR T σ τ1 τ2 n1 n2 m1 m2 rep1 rep2 top1 A) (ht : top ≤ top1) : pl_KR T σ τ τ2 n n2 m m2 rep rep2 top A := by
  obtain ⟨a1, a2, a3, a4, a5, a6, a7, a8, a9⟩ := h1
  obtain ⟨b1, b2, b3, b4, b5, b6, b7, b8, b9⟩ := h2
  refine ⟨b1, b2, by omega, by omega, fun j hj => (b5 j (by omega)).trans (a5 j hj), a6.tr b6, fun z hz => (b7 z (by omega)).trans (a7 z hz), fun r z h1 h2 hz => (b8 r z h1 h2 (by omega)).trans (a8 r z h1 h2 hz), fun j hj => ?_⟩
  rw [b9 j (by omega), a9 j hj]
  by_cases hA : j ∈ A
  · rw [if_pos hA, if_pos hA, if_pos hA, Int32.add_assoc, nI_add, show n1 - n + (n2 - n1) = n2 - n by omega]
  · rw [if_neg hA, if_neg hA, if_neg hA]
def pl_cont (g : Nat) (τ : pr_St) (x1 top : Nat) : Option pr_St := if top = 0 then some τ else prf_X_keep_7 g τ (nI x1) (nI (top - 2)) (τ.2.1 12 (top - 2)) (τ.2.1 12 (top - 1))
/-- what is put on the pile -/
def pl_pile (τ : pr_St) (top : Nat) (v : Int32) (o : Nat) : pr_St := pr_sA (pr_sA τ 12 (upd (τ.2.1 12) top v)) 12 (upd (upd (τ.2.1 12) top v) (top + 1) (nI o))
theorem pl_nI2 {n : Nat} (h : 2 ≤ n) : nI n + (-2) = nI (n - 2) := by
  obtain ⟨k, rfl⟩ : ∃ k, n = k + 2 := ⟨n - 2, by omega⟩
  have e : nI (k + 2) = nI k + 2 := (nI_add k 2).symm
  rw [e, Int32.add_assoc, show k + 2 - 2 = k by omega]
  have e2 : (2 : Int32) + -2 = 0 := by decide
  rw [e2, Int32.add_zero]
/-- one draft -/
theorem pl_keep1 {T : pl_Tx} {σ τ : pr_St} {x1 y k t o top n m lo : Nat} {v : Int32} {rep : Nat → Nat} {A : List Nat} (h : pl_tt T σ τ) (hy : y < 26000) (r6 : τ.2.1 6 y = nI k) (r7 : τ.2.1 7 y = nI (pl_xP T t)) (r8 : τ.2.1 8 y = v) (hk : k < 64) (h13 : k = 13 → v = nI t ∧ pl_xK T t = 2 ∧ lo ≤ t ∧ t < pl_xc T) (hn : τ.1 0 24 = nI n) (hN : pl_NT T τ m rep lo) (hn13 : n < 12900) (htop : top ≤ 2 * n) (ho : o < n) (hp : pl_pa τ o A) :
    ∃ (τ1 : pr_St) (m' : Nat) (rep' : Nat → Nat), (∀ F, prf_X_keep_7 (F + 1) τ (nI x1) (nI top) (nI y) (nI o) = if τ.2.1 11 y = -1 then prf_X_keep_102 (prf_X_keep_7 F) τ1 (nI x1) (nI top) (nI y) (nI o) (nI n) else if nI y = nI x1 then prf_X_keep_102 (prf_X_keep_7 F) τ1 (nI x1) (nI top) (nI y) (nI o) (nI n) else prf_X_keep_102 (prf_X_keep_7 F) (pl_pile τ1 top (τ.2.1 11 y) o) (nI x1) (nI (top + 2)) (nI y) (nI o) (nI n)) ∧ pl_KR T σ τ τ1 n (n + 1) m m' rep rep' top A ∧ pl_NT T τ1 m' rep' (if k = 13 then t + 1 else lo) ∧ (τ1.2.1 13 n = nI k ∧ τ1.2.1 14 n = nI (pl_xP T t) ∧ (k = 13 → ∃ id, τ1.2.1 15 n = nI id ∧ id < m' ∧ pl_sn T (rep' id) t) ∧ (¬ k = 13 → τ1.2.1 15 n = v)) ∧ τ1.2.1 16 n = nI o ∧ τ1.2.1 17 n = nI 1 ∧ τ1.2.1 12 = τ.2.1 12 := by
  have hym : ¬ nI y = -1 := pl_nIm1 (by omega)
  have e2 : nI top + 1 = nI (top + 1) := nI_1 top
  have e3 : nI top + 2 = nI (top + 2) := nI_add top 2
  by_cases k13 : k = 13
  · obtain ⟨hv, hK, hlo, htc⟩ := h13 k13
    obtain ⟨id, m', rep', τ0, w1, w2, w3, w4, w5, w6, w7⟩ := pl_nameOf h hN hlo htc hK
    have hn0 : τ0.1 0 24 = nI n := by rw [w2.1 0 24 rfl]; exact hn
    have hp0 : pl_pa τ0 o A := pl_pa_eq A o (fun z _ => by rw [w2.2.1 16 rfl]) hp
    obtain ⟨τ1, a1, a2, a3, a13, a14, a15, a16, a17, a18⟩ := pl_addN hn0 (by omega) ho hp0 (nI k) (nI (pl_xP T t)) (nI id)
    have h11 : τ1.2.1 11 = τ.2.1 11 := by rw [a3.2.1 11 rfl, w2.2.1 11 rfl]
    refine ⟨τ1, m', rep', fun F => ?_, ⟨?_, a2, by omega, w6, w7, (w2.wk pl_FN_FK pl_GN_GK).tr (a3.wk pl_FA_FK pl_GA_GK), fun z _ => by rw [a3.2.1 12 rfl, w2.2.1 12 rfl], fun r z h1 h2 hz => ?_, fun j hj => ?_⟩, ?_, ⟨by rw [a13, pk_us], by rw [a14, pk_us], fun _ => ⟨id, by rw [a15, pk_us], w4, w5⟩, fun q => absurd k13 q⟩, by rw [a16, pk_us], a17, by rw [a3.2.1 12 rfl, w2.2.1 12 rfl]⟩
    · rw [prf_X_keep_7, if_neg hym, pl_ck hy (by omega), pl_ck hy (by omega), pl_ck hy (by omega), nI_clamp (by omega), r6, if_pos (show nI k = 13 by rw [k13]; rfl), pl_ck hy (by omega), r8, hv, w1, pl_sb, r7, a1, pl_sb, pl_ck hy (by omega)]
      show (if τ1.2.1 11 y = -1 then _ else _) = _
      rw [h11, pl_ck hy (by omega), pl_ck (show top < 26000 by omega) (by omega), e2, pl_ck (show top + 1 < 26000 by omega) (by omega), e3, nI_clamp (by omega), nI_clamp (by omega)]
      rfl
    · exact pl_tt_fr h (pl_fr.rf (F := pl_FC) (G := pl_GC)) ((w2.wk pl_FN_FK pl_GN_GK).tr (a3.wk pl_FA_FK pl_GA_GK)) ⟨rfl, rfl, rfl, rfl, rfl, rfl⟩ ⟨rfl, rfl, rfl, rfl, rfl, rfl⟩
    · have hr : r = 13 ∨ r = 14 ∨ r = 15 ∨ r = 16 := by omega
      have hne : z ≠ n := by omega
      rcases hr with rfl | rfl | rfl | rfl
      · rw [a13, pk_un hne, w2.2.1 13 rfl]
      · rw [a14, pk_un hne, w2.2.1 14 rfl]
      · rw [a15, pk_un hne, w2.2.1 15 rfl]
      · rw [a16, pk_un hne, w2.2.1 16 rfl]
    · rw [a18 j (by omega), w2.2.1 17 rfl, show n + 1 - n = 1 by omega]
      rfl
    · rw [if_pos k13]
      obtain ⟨q1, q2, q3, q4, q5, q6⟩ := w3
      exact ⟨by rw [a3.1 0 27 rfl]; exact q1, fun j hj => by rw [a3.2.1 19 rfl]; exact q2 j hj, fun j hj i hi => by rw [a3.2.1 18 rfl]; exact q3 j hj i hi, q4, q5, q6⟩
  · obtain ⟨τ1, a1, a2, a3, a13, a14, a15, a16, a17, a18⟩ := pl_addN hn (by omega) ho hp (nI k) (nI (pl_xP T t)) v
    have h11 : τ1.2.1 11 = τ.2.1 11 := a3.2.1 11 rfl
    refine ⟨τ1, m, rep, fun F => ?_, ⟨?_, a2, by omega, Nat.le_refl _, fun _ _ => rfl, a3.wk pl_FA_FK pl_GA_GK, fun z _ => by rw [a3.2.1 12 rfl], fun r z h1 h2 hz => ?_, fun j hj => ?_⟩, ?_, ⟨by rw [a13, pk_us], by rw [a14, pk_us], fun q => absurd q k13, fun _ => by rw [a15, pk_us]⟩, by rw [a16, pk_us], a17, a3.2.1 12 rfl⟩
    · rw [prf_X_keep_7, if_neg hym, pl_ck hy (by omega), pl_ck hy (by omega), pl_ck hy (by omega), nI_clamp (by omega), r6, if_neg (show ¬ nI k = 13 from fun q => k13 ((nI_eq (b := 13) (by omega) (by omega)).mp q)), pl_ck hy (by omega), r8, r7, a1, pl_sb, pl_ck hy (by omega)]
      show (if τ1.2.1 11 y = -1 then _ else _) = _
      rw [h11, pl_ck hy (by omega), pl_ck (show top < 26000 by omega) (by omega), e2, pl_ck (show top + 1 < 26000 by omega) (by omega), e3, nI_clamp (by omega), nI_clamp (by omega)]
      rfl
    · exact pl_tt_fr h (pl_fr.rf (F := pl_FC) (G := pl_GC)) (a3.wk pl_FA_FK pl_GA_GK) ⟨rfl, rfl, rfl, rfl, rfl, rfl⟩ ⟨rfl, rfl, rfl, rfl, rfl, rfl⟩
    · have hr : r = 13 ∨ r = 14 ∨ r = 15 ∨ r = 16 := by omega
      have hne : z ≠ n := by omega
      rcases hr with rfl | rfl | rfl | rfl
      · rw [a13, pk_un hne]
      · rw [a14, pk_un hne]
      · rw [a15, pk_un hne]
      · rw [a16, pk_un hne]
    · rw [a18 j (by omega), show n + 1 - n = 1 by omega]
      rfl
    · rw [if_neg k13]
      obtain ⟨q1, q2, q3, q4, q5, q6⟩ := hN
      exact ⟨by rw [a3.1 0 27 rfl]; exact q1, fun j hj => by rw [a3.2.1 19 rfl]; exact q2 j hj, fun j hj i hi => by rw [a3.2.1 18 rfl]; exact q3 j hj i hi, q4, q5, q6⟩
