/-! THE TOKENS: letters, digits, runs of them -/
/-- the text: n bytes B, the same on both sides -/
def pl_TX (n : Nat) (B : Nat → Nat) (σ τ : pr_St) : Prop := n ≤ 8000 ∧ (∀ j, B j < 256) ∧ σ.1 1 5 = nI n ∧ τ.1 0 3 = nI n ∧ ∀ j, j < n → σ.2.1 8 j &&& 255 = nI (B j) ∧ τ.2.1 2 j = nI (B j)
theorem pl_TX.tb {n : Nat} {B : Nat → Nat} {σ τ : pr_St} (h : pl_TX n B σ τ) : pl_TB n σ τ := ⟨h.1, h.2.2.1, h.2.2.2.1, fun j hj => (h.2.2.2.2 j hj).1.trans (h.2.2.2.2 j hj).2.symm⟩
theorem pl_m255 (x : Int32) : ∃ k : Nat, k < 256 ∧ x &&& 255 = nI k := by
  refine ⟨x.toBitVec.toNat % 256, Nat.mod_lt _ (by decide), ?_⟩
  apply Int32.toBitVec_inj.mp
  rw [Int32.toBitVec_and]
  apply BitVec.eq_of_toNat_eq
  rw [BitVec.toNat_and]
  show x.toBitVec.toNat &&& 255 = (BitVec.ofNat 32 (x.toBitVec.toNat % 256)).toNat
  rw [BitVec.toNat_ofNat, Nat.and_two_pow_sub_one_eq_mod x.toBitVec.toNat 8]
  omega
theorem pl_TX_of {n : Nat} {σ τ : pr_St} (h : pl_TB n σ τ) : ∃ B, pl_TX n B σ τ := by
  obtain ⟨h1, h2, h3, h4⟩ := h
  obtain ⟨B, hB⟩ := Classical.axiomOfChoice (fun j => pl_m255 (σ.2.1 8 j))
  exact ⟨B, h1, fun j => (hB j).1, h2, h3, fun j hj => ⟨(hB j).2, by rw [← h4 j hj]; exact (hB j).2⟩⟩
/-- the byte at i, 0 behind the end -/
def pl_bn (n : Nat) (B : Nat → Nat) (i : Nat) : Nat := if i < n then B i else 0
theorem pl_bn_lt {n : Nat} {B : Nat → Nat} (h : ∀ j, B j < 256) (i : Nat) : pl_bn n B i < 256 := by
  unfold pl_bn
  by_cases hi : i < n
  · rw [if_pos hi]; exact h i
  · rw [if_neg hi]; decide
theorem pl_byX {n : Nat} {B : Nat → Nat} {σ τ : pr_St} (h : pl_TX n B σ τ) {i : Nat} (hi : i < 2 ^ 30) : prf_T_byteAt σ (nI i) = some (nI (pl_bn n B i)) := by
  rw [pl_byteAt h.tb hi]
  unfold pl_by pl_bn
  by_cases hn : i < n
  · rw [if_pos hn, if_pos hn, (h.2.2.2.2 i hn).2]
  · rw [if_neg hn, if_neg hn]; rfl
def pl_let (c : Nat) : Bool := (decide (97 ≤ c) && decide (c ≤ 122)) || ((decide (65 ≤ c) && decide (c ≤ 90)) || decide (c = 95))
def pl_dig (c : Nat) : Bool := decide (48 ≤ c) && decide (c ≤ 57)
def pl_wc (c : Nat) : Bool := pl_let c || pl_dig c
def pl_01 (b : Bool) : Int32 := if b then 1 else 0
theorem pl_digT {σ : pr_St} {c : Nat} (h : c < 256) : prf_T_isDigit σ (nI c) = some (pl_01 (pl_dig c)) :=
  (by decide +kernel : ∀ c, c < 256 → prf_T_isDigit prIs_C (nI c) = some (pl_01 (pl_dig c))) c h
theorem pl_digX {σ : pr_St} {c : Nat} (h : c < 256) : prf_X_isDigit σ (nI c) = some (pl_01 (pl_dig c)) :=
  (by decide +kernel : ∀ c, c < 256 → prf_X_isDigit prIs_C (nI c) = some (pl_01 (pl_dig c))) c h
theorem pl_letX {σ : pr_St} {c : Nat} (h : c < 256) : prf_X_isLetter σ (nI c) = some (pl_01 (pl_let c)) :=
  (by decide +kernel : ∀ c, c < 256 → prf_X_isLetter prIs_C (nI c) = some (pl_01 (pl_let c))) c h
theorem pl_wcT {σ : pr_St} {c : Nat} (h : c < 256) : prf_T_isInName σ (nI c) = some (pl_01 (pl_wc c)) :=
  (by decide +kernel : ∀ c, c < 256 → prf_T_isInName prIs_C (nI c) = some (pl_01 (pl_wc c))) c h
theorem pl_01t {b : Bool} (h : b = true) : ¬ pl_01 b = 0 := by rw [h]; decide
theorem pl_01f {b : Bool} (h : b = false) : pl_01 b = 0 := by rw [h]; rfl
theorem pl_wcX {n : Nat} {B : Nat → Nat} {σ τ : pr_St} (h : pl_TX n B σ τ) {i : Nat} (hi : i < 2 ^ 30) : prf_X_isWord τ (nI i) = some (pl_01 (pl_wc (pl_bn n B i))) := by
  obtain ⟨h1, h2, h3, h4, h5⟩ := h
  unfold prf_X_isWord
  rw [h4]
  by_cases hn : i < n
  · have e : pl_bn n B i = B i := if_pos hn
    rw [if_neg (nI_ge hn (by omega)), pl_ck (by omega) (by omega), nI_clamp (by omega), (h5 i hn).2, pl_letX (h2 i), pl_sb, pl_ck (by omega) (by omega), pl_digX (h2 i), pl_sb, e]
    unfold pl_wc
    cases hl : pl_let (B i) with
    | true => rw [if_neg (pl_01t rfl)]; rfl
    | false =>
      rw [if_pos (pl_01f rfl)]
      cases hd : pl_dig (B i) with
      | true => rw [if_neg (pl_01t rfl)]; rfl
      | false => rw [if_pos (pl_01f rfl)]; rfl
  · have e : pl_bn n B i = 0 := if_neg hn
    rw [if_pos (nI_le (by omega) (by omega)), e]
    rfl
/-- how many bytes from i on, m of them looked at, are of a kind -/
def pl_run (p : Nat → Bool) (B : Nat → Nat) : Nat → Nat → Nat
  | 0, _ => 0
  | m + 1, i => if p (B i) then pl_run p B m (i + 1) + 1 else 0
theorem pl_run_le {p : Nat → Bool} {B : Nat → Nat} : ∀ m i : Nat, pl_run p B m i ≤ m := by
  intro m
  induction m with
  | zero => intro i; exact Nat.le_refl _
  | succ m ih =>
    intro i
    show (if p (B i) then pl_run p B m (i + 1) + 1 else 0) ≤ m + 1
    by_cases h : p (B i) = true
    · rw [if_pos h]; exact Nat.succ_le_succ (ih (i + 1))
    · rw [if_neg h]; exact Nat.zero_le _
theorem pl_nameT {n : Nat} {B : Nat → Nat} {σ τ : pr_St} (h : pl_TX n B σ τ) (i0 : Nat) : ∀ m i k f : Nat, i + m = n → i0 + k = i → m + 1 ≤ f → prf_T_readName_4 f σ (nI i0) (nI k) (nI i) = prf_T_readName_32 σ (nI i0) (nI (k + pl_run pl_wc B m i)) := by
  obtain ⟨h1, h2, h3, h4, h5⟩ := id h
  intro m
  induction m with
  | zero =>
    intro i k f hi hk hf
    obtain ⟨f, rfl⟩ : ∃ z, f = z + 1 := ⟨f - 1, by omega⟩
    rw [prf_T_readName_4, h3, if_pos (nI_le (by omega) (by omega))]
    rfl
  | succ m ih =>
    intro i k f hi hk hf
    obtain ⟨f, rfl⟩ : ∃ z, f = z + 1 := ⟨f - 1, by omega⟩
    have e : pl_bn n B i = B i := if_pos (by omega)
    rw [prf_T_readName_4, h3, if_neg (nI_ge (by omega) (by omega)), pl_byX h (by omega), pl_sb, e, pl_wcT (h2 i), pl_sb, nI_1, nI_1]
    have er : pl_run pl_wc B (m + 1) i = if pl_wc (B i) then pl_run pl_wc B m (i + 1) + 1 else 0 := rfl
    rw [er]
    cases hw : pl_wc (B i) with
    | true =>
      rw [if_neg (pl_01t rfl), if_pos rfl, ih (i + 1) (k + 1) f (by omega) (by omega) (by omega)]
      rw [show k + 1 + pl_run pl_wc B m (i + 1) = k + (pl_run pl_wc B m (i + 1) + 1) by omega]
    | false =>
      rw [if_pos (pl_01f rfl), if_neg (by decide)]
      rfl
theorem pl_nameX {n : Nat} {B : Nat → Nat} {σ τ : pr_St} (h : pl_TX n B σ τ) (i0 : Nat) (kk : pr_St → Int32 → Int32 → Option pr_St) : ∀ m i k f : Nat, i + m = n → i0 + k = i → m + 1 ≤ f → prf_X_scan_66 kk f τ (nI i0) (nI k) = (prf_X_wordOf τ (nI i0) (nI (k + pl_run pl_wc B m i))).bind fun r => prf_X_scan_420 kk τ (nI i0) (nI (k + pl_run pl_wc B m i)) r := by
  obtain ⟨h1, h2, h3, h4, h5⟩ := id h
  intro m
  induction m with
  | zero =>
    intro i k f hi hk hf
    obtain ⟨f, rfl⟩ : ∃ z, f = z + 1 := ⟨f - 1, by omega⟩
    have e : pl_bn n B i = 0 := if_neg (by omega)
    rw [prf_X_scan_66, nI_add, hk, pl_wcX h (by omega), pl_sb, e, if_pos (by decide)]
    rfl
  | succ m ih =>
    intro i k f hi hk hf
    obtain ⟨f, rfl⟩ : ∃ z, f = z + 1 := ⟨f - 1, by omega⟩
    have e : pl_bn n B i = B i := if_pos (by omega)
    rw [prf_X_scan_66, nI_add, hk, pl_wcX h (by omega), pl_sb, e, nI_1]
    have er : pl_run pl_wc B (m + 1) i = if pl_wc (B i) then pl_run pl_wc B m (i + 1) + 1 else 0 := rfl
    rw [er]
    cases hw : pl_wc (B i) with
    | true =>
      rw [if_neg (pl_01t rfl), if_pos rfl, ih (i + 1) (k + 1) f (by omega) (by omega) (by omega)]
      rw [show k + 1 + pl_run pl_wc B m (i + 1) = k + (pl_run pl_wc B m (i + 1) + 1) by omega]
    | false =>
      rw [if_pos (pl_01f rfl), if_neg (by decide)]
      rfl
theorem pl_digsX {n : Nat} {B : Nat → Nat} {σ τ : pr_St} (h : pl_TX n B σ τ) (i0 : Nat) (kk : pr_St → Int32 → Int32 → Option pr_St) : ∀ m i k f : Nat, i + m = n → i0 + k = i → m + 1 ≤ f → prf_X_scan_101 kk f τ (nI i0) (nI k) = prf_X_scan_131 kk τ (nI i0) (nI (k + pl_run pl_dig B m i)) := by
  obtain ⟨h1, h2, h3, h4, h5⟩ := id h
  intro m
  induction m with
  | zero =>
    intro i k f hi hk hf
    obtain ⟨f, rfl⟩ : ∃ z, f = z + 1 := ⟨f - 1, by omega⟩
    rw [prf_X_scan_101, h4, nI_add, hk, if_pos (nI_le (by omega) (by omega))]
    rfl
  | succ m ih =>
    intro i k f hi hk hf
    obtain ⟨f, rfl⟩ : ∃ z, f = z + 1 := ⟨f - 1, by omega⟩
    rw [prf_X_scan_101, h4, nI_add, hk, if_neg (nI_ge (by omega) (by omega)), pl_ck (by omega) (by omega), nI_clamp (by omega), (h5 i (by omega)).2, pl_digX (h2 i), pl_sb, nI_1]
    have er : pl_run pl_dig B (m + 1) i = if pl_dig (B i) then pl_run pl_dig B m (i + 1) + 1 else 0 := rfl
    rw [er]
    cases hw : pl_dig (B i) with
    | true =>
      rw [if_neg (pl_01t rfl), if_pos rfl, ih (i + 1) (k + 1) f (by omega) (by omega) (by omega)]
      rw [show k + 1 + pl_run pl_dig B m (i + 1) = k + (pl_run pl_dig B m (i + 1) + 1) by omega]
    | false =>
      rw [if_pos (pl_01f rfl), if_neg (by decide)]
      rfl
