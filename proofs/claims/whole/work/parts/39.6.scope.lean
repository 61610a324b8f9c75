/-! THE LAYOUT: what is there, and names looked up -/
def pl_cnt (b : Bool) : List (Nat × Bool) → Nat
  | [] => 0
  | e :: l => (if e.2 = b then 1 else 0) + pl_cnt b l
theorem pl_cnt_app {b : Bool} : ∀ A C : List (Nat × Bool), pl_cnt b (A ++ C) = pl_cnt b A + pl_cnt b C := by
  intro A
  induction A with
  | nil => intro C; show pl_cnt b C = 0 + pl_cnt b C; omega
  | cons e l ih => intro C; show _ + pl_cnt b (l ++ C) = _ + pl_cnt b l + pl_cnt b C; rw [ih]; omega
theorem pl_cnt_len : ∀ A : List (Nat × Bool), pl_cnt false A + pl_cnt true A = A.length := by
  intro A
  induction A with
  | nil => rfl
  | cons e l ih =>
    show (if e.2 = false then 1 else 0) + pl_cnt false l + ((if e.2 = true then 1 else 0) + pl_cnt true l) = l.length + 1
    cases e.2 with
    | false => simp; omega
    | true => simp; omega
/-- what the class' rows hold: token, whether an array; what the reference's hold besides: the number of the name, the size -/
def pl_rm (T : pl_Tx) (e : Nat × Bool) : Int32 := if e.2 = true then nI (pl_vt T (e.1 + 2)) else 0
/-- the variables that are there -/
def pl_scp (T : pl_Tx) (m : Nat) (rep : Nat → Nat) (σ τ : pr_St) (V : List (Nat × Bool)) : Prop :=
  σ.1 5 4 = nI (pl_cnt false V) ∧ σ.1 5 5 = nI (pl_cnt true V) ∧ τ.1 0 42 = nI V.length ∧ τ.1 0 45 = nI (pl_cnt false V) ∧ τ.1 0 46 = nI (pl_cnt true V) ∧ pl_cnt false V ≤ 12 ∧ pl_cnt true V ≤ 6 ∧
  ∀ v e, V[v]? = some e → σ.2.1 39 v = nI e.1 ∧ σ.2.1 40 v = nI (pl_cnt e.2 (V.take v)) ∧ σ.2.1 41 v = (if e.2 = true then 1 else 0) ∧ (∃ id, τ.2.1 29 v = nI id ∧ id < m ∧ pl_sn T (rep id) e.1) ∧ τ.2.1 30 v = nI (pl_cnt e.2 (V.take v)) ∧ τ.2.1 31 v = pl_rm T e ∧ pl_xK T e.1 = 2 ∧ e.1 < pl_xc T ∧ (e.2 = true → 1 ≤ pl_vt T (e.1 + 2) ∧ pl_vt T (e.1 + 2) ≤ 64)
theorem pl_scp_len {T : pl_Tx} {m : Nat} {rep : Nat → Nat} {σ τ : pr_St} {V : List (Nat × Bool)} (h : pl_scp T m rep σ τ V) : V.length ≤ 18 := by
  have := pl_cnt_len V
  have := h.2.2.2.2.2.1
  have := h.2.2.2.2.2.2.1
  omega
/-- bytes are kept with their sign -/
def pl_by8 (σ : pr_St) : Prop := ∀ j, (σ.2.1 8 j).toInt8.toInt32 = σ.2.1 8 j
theorem pl_by8_eq {σ : pr_St} (h : pl_by8 σ) {i j a b : Nat} (ha : a < 256) (hb : b < 256) (hi : σ.2.1 8 i &&& 255 = nI a) (hj : σ.2.1 8 j &&& 255 = nI b) : σ.2.1 8 i = σ.2.1 8 j ↔ a = b := by
  have key : ∀ x : Int32, (x &&& 255).toInt8 = x.toInt8 := by
    intro x
    apply Int8.toBitVec_inj.mp
    rw [Int32.toBitVec_toInt8, Int32.toBitVec_toInt8, Int32.toBitVec_and]
    apply BitVec.eq_of_getLsbD_eq
    intro k hk
    rw [BitVec.getLsbD_signExtend, BitVec.getLsbD_signExtend]
    have hk32 : k < 32 := by omega
    have e255 : (255 : Int32).toBitVec = BitVec.ofNat 32 255 := rfl
    have hb : (255 : Int32).toBitVec.getLsbD k = true := by
      rw [e255, BitVec.getLsbD_ofNat]
      have : Nat.testBit 255 k = true := (by decide : ∀ k, k < 8 → Nat.testBit 255 k = true) k hk
      rw [this]; simp [hk32]
    simp only [hk, decide_true, Bool.true_and]
    rw [if_pos hk32, if_pos hk32, BitVec.getLsbD_and, hb, Bool.and_true]
  constructor
  · intro q
    rw [q, hj] at hi
    exact ((nI_eq (by omega) (by omega)).mp hi).symm
  · intro q
    rw [← h i, ← h j, ← key (σ.2.1 8 i), ← key (σ.2.1 8 j), hi, hj, q]
theorem pl_valG {T : pl_Tx} {σ τ : pr_St} (h : pl_tt T σ τ) {t : Nat} (ht : t < pl_xc T) : prf_T_valueAt σ (nI t) = some (nI (pl_vt T t)) := by
  have c8 := pl_c8 h
  obtain ⟨z1, z2, zX, zT, _⟩ := h
  unfold prf_T_valueAt
  rw [if_neg (nI_pos (by omega)), zT.1, if_neg (nI_ge ht (by omega)), pl_ck (by omega) (by omega), nI_clamp (by omega), (zT.2.2 t ht).2.2.2.1]
  rfl
theorem pl_plcG {T : pl_Tx} {σ τ : pr_St} (h : pl_tt T σ τ) {t : Nat} (ht : t < pl_xc T) : prf_T_placeAt σ (nI t) = some (nI (pl_xP T t)) := by
  have c8 := pl_c8 h
  obtain ⟨z1, z2, zX, zT, _⟩ := h
  unfold prf_T_placeAt
  rw [if_neg (nI_pos (by omega)), zT.1, if_neg (nI_ge ht (by omega)), pl_ck (by omega) (by omega), nI_clamp (by omega), (zT.2.2 t ht).2.2.1]
/-- the class compares two NAMEs -/
theorem pl_same {T : pl_Tx} {σ τ : pr_St} (h : pl_tt T σ τ) (h8 : pl_by8 σ) {t u : Nat} (ht : t < pl_xc T) (hu : u < pl_xc T) (kt : pl_xK T t = 2) (ku : pl_xK T u = 2) : (pl_sn T t u → prf_T_sameName σ (nI t) (nI u) = some 1) ∧ (¬ pl_sn T t u → prf_T_sameName σ (nI t) (nI u) = some 0) := by
  obtain ⟨p1, p2, p3⟩ := pl_PL h ht (by omega)
  obtain ⟨q1, q2, q3⟩ := pl_PL h hu (by omega)
  have vt : pl_vt T t = pl_xL T t := by unfold pl_vt pl_vl; rw [kt, if_neg (by decide), if_pos (Or.inl rfl)]
  have vu : pl_vt T u = pl_xL T u := by unfold pl_vt pl_vl; rw [ku, if_neg (by decide), if_pos (Or.inl rfl)]
  have hF : pr_FU = 100000 := rfl
  obtain ⟨z1, z2, zX, zT, zR⟩ := id h
  have zero : ∀ f i, prf_T_sameName_63 (f + 1) σ (nI (pl_xL T t)) (nI (pl_xP T t)) (nI (pl_xP T u)) 0 (nI i) = some 0 := by
    intro f i
    rw [prf_T_sameName_63, if_pos rfl]
    by_cases q : nI (pl_xL T t) ≤ nI i
    · rw [if_pos q]; rfl
    · rw [if_neg q]; rfl
  have loop : ∀ r i f, i + r = pl_xL T t → r + 2 ≤ f → pl_xL T t = pl_xL T u → (∀ j, j < i → pl_xB T (pl_xP T t + j) = pl_xB T (pl_xP T u + j)) → (pl_sn T t u → prf_T_sameName_63 f σ (nI (pl_xL T t)) (nI (pl_xP T t)) (nI (pl_xP T u)) 1 (nI i) = some 1) ∧ (¬ pl_sn T t u → prf_T_sameName_63 f σ (nI (pl_xL T t)) (nI (pl_xP T t)) (nI (pl_xP T u)) 1 (nI i) = some 0) := by
    intro r
    induction r with
    | zero =>
      intro i f hi hf hL hall
      obtain ⟨f, rfl⟩ : ∃ z, f = z + 1 := ⟨f - 1, by omega⟩
      have hs : pl_sn T t u := ⟨hL, fun j hj => hall j (by omega)⟩
      refine ⟨fun _ => ?_, fun q => absurd hs q⟩
      rw [prf_T_sameName_63, if_pos (show nI (pl_xL T t) ≤ nI i by rw [show i = pl_xL T t by omega]; exact Int32.le_refl _)]
      rfl
    | succ r ih =>
      intro i f hi hf hL hall
      obtain ⟨f, rfl⟩ : ∃ z, f = z + 1 := ⟨f - 1, by omega⟩
      have e := pl_by8_eq h8 (zX.2.1 (pl_xP T t + i)) (zX.2.1 (pl_xP T u + i)) (zX.2.2.2.2 (pl_xP T t + i) (by omega)).1 (zX.2.2.2.2 (pl_xP T u + i) (by omega)).1
      rw [prf_T_sameName_63, if_neg (nI_ge (by omega) (by omega)), if_neg pl_10, nI_add, nI_add, pl_ck (by omega) (by omega), pl_ck (by omega) (by omega), nI_clamp (by omega), nI_clamp (by omega), nI_1]
      by_cases q : pl_xB T (pl_xP T t + i) = pl_xB T (pl_xP T u + i)
      · rw [if_pos (e.mpr q)]
        exact ih (i + 1) f (by omega) (by omega) hL (fun j hj => by
          by_cases z : j = i
          · rw [z]; exact q
          · exact hall j (by omega))
      · rw [if_neg (fun z => q (e.mp z))]
        obtain ⟨f, rfl⟩ : ∃ z, f = z + 1 := ⟨f - 1, by omega⟩
        rw [zero]
        exact ⟨fun z => absurd (z.2 i (by omega)) q, fun _ => rfl⟩
  have start : prf_T_sameName σ (nI t) (nI u) = if nI (pl_xL T t) = nI (pl_xL T u) then prf_T_sameName_63 pr_FU σ (nI (pl_xL T t)) (nI (pl_xP T t)) (nI (pl_xP T u)) 1 0 else prf_T_sameName_63 pr_FU σ (nI (pl_xL T t)) (nI (pl_xP T t)) (nI (pl_xP T u)) 0 0 := by
    unfold prf_T_sameName
    rw [pl_valG h ht, pl_sb, pl_plcG h ht, pl_sb, pl_plcG h hu, pl_sb, pl_valG h hu, pl_sb, vt, vu]
    by_cases q : nI (pl_xL T t) = nI (pl_xL T u)
    · have qL := (nI_eq (by omega) (by omega)).mp q
      rw [if_pos q, if_pos q, nI_add, if_neg (show ¬ (8000 : Int32) < nI (pl_xP T t + pl_xL T t) from nI_nlt (a := 8000) (by omega) (by omega)), nI_add, if_neg (show ¬ (8000 : Int32) < nI (pl_xP T u + pl_xL T t) from nI_nlt (a := 8000) (by omega) (by omega))]
    · rw [if_neg q, if_neg q]
  rw [start]
  by_cases hL : pl_xL T t = pl_xL T u
  · rw [if_pos (by rw [hL])]
    exact loop (pl_xL T t) 0 pr_FU (by omega) (by rw [hF]; omega) hL (fun j hj => absurd hj (Nat.not_lt_zero _))
  · rw [if_neg (fun q => hL ((nI_eq (by omega) (by omega)).mp q))]
    have e0 : prf_T_sameName_63 pr_FU σ (nI (pl_xL T t)) (nI (pl_xP T t)) (nI (pl_xP T u)) 0 0 = some 0 := zero 99999 0
    rw [e0]
    exact ⟨fun q => absurd q.1 hL, fun _ => rfl⟩
theorem pl_dn (j : Nat) : nI (j + 1) + (-1) = nI j := by
  have := nI_pred j
  rw [Int32.sub_eq_add_neg] at this
  exact this
/-- the latest one of a name in V from base on -/
def pl_lst (T : pl_Tx) (V : List (Nat × Bool)) (base t v : Nat) (e : Nat × Bool) : Prop := base ≤ v ∧ V[v]? = some e ∧ pl_sn T e.1 t ∧ ∀ j x, v < j → V[j]? = some x → ¬ pl_sn T x.1 t
theorem pl_ltm1 (x : Nat) (h : x < 2 ^ 31) : (-1 : Int32) < nI x := by
  rw [Int32.lt_iff_toInt_lt, nI_toInt h]
  have : (-1 : Int32).toInt = -1 := rfl
  omega
theorem pl_find {T : pl_Tx} {m : Nat} {rep : Nat → Nat} {σ τ : pr_St} {V : List (Nat × Bool)} (h : pl_tt T σ τ) (h8 : pl_by8 σ) (hs : pl_scp T m rep σ τ V) {t base : Nat} (ht : t < pl_xc T) (kt : pl_xK T t = 2) (hb : base ≤ V.length) : (∃ v e, pl_lst T V base t v e ∧ prf_S_find σ (nI t) (nI base) = some (nI v)) ∨ ((∀ j x, base ≤ j → V[j]? = some x → ¬ pl_sn T x.1 t) ∧ prf_S_find σ (nI t) (nI base) = some (-1)) := by
  have hV := pl_scp_len hs
  have hF : pr_FU = 100000 := rfl
  have main : ∀ j f, j ≤ V.length → j + 1 ≤ f → (∀ i x, j ≤ i → V[i]? = some x → ¬ pl_sn T x.1 t) → (∃ v e, pl_lst T V base t v e ∧ prf_S_find_12 f σ (nI t) (nI base) (nI j + (-1)) = some (nI v)) ∨ ((∀ i x, base ≤ i → V[i]? = some x → ¬ pl_sn T x.1 t) ∧ prf_S_find_12 f σ (nI t) (nI base) (nI j + (-1)) = some (-1)) := by
    intro j
    induction j with
    | zero =>
      intro f _ hf hall
      obtain ⟨f, rfl⟩ : ∃ z, f = z + 1 := ⟨f - 1, by omega⟩
      refine Or.inr ⟨fun i x _ hx => hall i x (by omega) hx, ?_⟩
      have e0 : nI 0 + (-1) = (-1 : Int32) := by decide
      rw [e0, prf_S_find_12, if_pos (pl_ltm1 base (by omega))]
    | succ j ih =>
      intro f hj hf hall
      obtain ⟨f, rfl⟩ : ∃ z, f = z + 1 := ⟨f - 1, by omega⟩
      rw [pl_dn]
      by_cases hjb : j < base
      · refine Or.inr ⟨fun i x hi hx => hall i x (by omega) hx, ?_⟩
        rw [prf_S_find_12, if_pos (nI_lt hjb (by omega))]
      · obtain ⟨e, he⟩ : ∃ e, V[j]? = some e := ⟨V[j], List.getElem?_eq_getElem (by omega)⟩
        obtain ⟨r39, _, _, _, _, _, ek, ec, _⟩ := hs.2.2.2.2.2.2.2 j e he
        obtain ⟨s1, s2⟩ := pl_same h h8 ec ht ek kt
        have step : prf_S_find_12 (f + 1) σ (nI t) (nI base) (nI j) = (prf_T_sameName σ (nI e.1) (nI t)).bind fun r11 => if r11 = 0 then prf_S_find_12 f σ (nI t) (nI base) (nI j + (-1)) else some (nI j) := by
          rw [prf_S_find_12, if_neg (nI_nlt (by omega) (by omega))]
          unfold prf_S_isVariable
          rw [if_neg (nI_pos (by omega)), if_neg (show ¬ (18 : Int32) ≤ nI j from nI_ge (b := 18) (by omega) (by omega)), pl_sb, if_neg pl_10, pl_ck (by omega) (by omega), nI_clamp (by omega), r39]
        rw [step]
        by_cases q : pl_sn T e.1 t
        · rw [s1 q, pl_sb, if_neg pl_10]
          exact Or.inl ⟨j, e, ⟨by omega, he, q, fun i x hi hx => hall i x (by omega) hx⟩, rfl⟩
        · rw [s2 q, pl_sb, if_pos rfl]
          exact ih f (by omega) (by omega) (fun i x hi hx => by
            by_cases z : i = j
            · subst z
              rw [he] at hx
              rw [← Option.some.inj hx]
              exact q
            · exact hall i x (by omega) hx)
  have e : prf_S_find σ (nI t) (nI base) = prf_S_find_12 pr_FU σ (nI t) (nI base) (nI V.length + (-1)) := by
    unfold prf_S_find
    rw [hs.1, hs.2.1, nI_add, pl_cnt_len, Int32.sub_eq_add_neg]
  rw [e]
  exact main V.length pr_FU (Nat.le_refl _) (by rw [hF]; omega) (fun i x hi hx => by
    rw [List.getElem?_eq_none hi] at hx
    cases hx)
/-- the numbers of names tell them apart -/
theorem pl_ids {T : pl_Tx} {m : Nat} {rep : Nat → Nat} (hr : ∀ j k, j < k → k < m → ¬ pl_sn T (rep j) (rep k)) {i j t u : Nat} (hi : i < m) (hj : j < m) (hti : pl_sn T (rep i) t) (huj : pl_sn T (rep j) u) : i = j ↔ pl_sn T t u := by
  constructor
  · intro q
    subst q
    exact hti.sy.tr huj
  · intro q
    have z : pl_sn T (rep i) (rep j) := (hti.tr q).tr huj.sy
    by_cases h1 : i < j
    · exact absurd z (hr i j h1 hj)
    · by_cases h2 : j < i
      · exact absurd z.sy (hr j i h2 hi)
      · omega
theorem pl_meantN {T : pl_Tx} {m : Nat} {rep : Nat → Nat} {σ τ : pr_St} {V : List (Nat × Bool)} (hs : pl_scp T m rep σ τ V) (hr : ∀ j k, j < k → k < m → ¬ pl_sn T (rep j) (rep k)) (hm : m ≤ 8000) {t base id : Nat} (hid : id < m) (hsn : pl_sn T (rep id) t) (hb : base ≤ V.length) (hbase : τ.1 0 43 = nI base) : (∃ v e, pl_lst T V base t v e ∧ prf_X_meantNow τ (nI id) = some (nI v)) ∨ ((∀ j x, base ≤ j → V[j]? = some x → ¬ pl_sn T x.1 t) ∧ prf_X_meantNow τ (nI id) = some (-1)) := by
  have hV := pl_scp_len hs
  have hF : pr_FU = 100000 := rfl
  have main : ∀ j f, j ≤ V.length → j + 1 ≤ f → (∀ i x, j ≤ i → V[i]? = some x → ¬ pl_sn T x.1 t) → (∃ v e, pl_lst T V base t v e ∧ prf_X_meantNow_7 f τ (nI id) (nI j + (-1)) = some (nI v)) ∨ ((∀ i x, base ≤ i → V[i]? = some x → ¬ pl_sn T x.1 t) ∧ prf_X_meantNow_7 f τ (nI id) (nI j + (-1)) = some (-1)) := by
    intro j
    induction j with
    | zero =>
      intro f _ hf hall
      obtain ⟨f, rfl⟩ : ∃ z, f = z + 1 := ⟨f - 1, by omega⟩
      refine Or.inr ⟨fun i x _ hx => hall i x (by omega) hx, ?_⟩
      have e0 : nI 0 + (-1) = (-1 : Int32) := by decide
      rw [e0, prf_X_meantNow_7, hbase, if_pos (pl_ltm1 base (by omega))]
    | succ j ih =>
      intro f hj hf hall
      obtain ⟨f, rfl⟩ : ∃ z, f = z + 1 := ⟨f - 1, by omega⟩
      rw [pl_dn]
      by_cases hjb : j < base
      · refine Or.inr ⟨fun i x hi hx => hall i x (by omega) hx, ?_⟩
        rw [prf_X_meantNow_7, hbase, if_pos (nI_lt hjb (by omega))]
      · obtain ⟨e, he⟩ : ∃ e, V[j]? = some e := ⟨V[j], List.getElem?_eq_getElem (by omega)⟩
        obtain ⟨_, _, _, ⟨iv, r29, hiv, hsv⟩, _⟩ := hs.2.2.2.2.2.2.2 j e he
        have step : prf_X_meantNow_7 (f + 1) τ (nI id) (nI j) = if nI iv = nI id then some (nI j) else prf_X_meantNow_7 f τ (nI id) (nI j + (-1)) := by
          rw [prf_X_meantNow_7, hbase, if_neg (nI_nlt (by omega) (by omega)), pl_ck (by omega) (by omega), nI_clamp (by omega), r29]
        rw [step]
        by_cases q : pl_sn T e.1 t
        · rw [if_pos (by rw [(pl_ids hr hiv hid hsv hsn).mpr q])]
          exact Or.inl ⟨j, e, ⟨by omega, he, q, fun i x hi hx => hall i x (by omega) hx⟩, rfl⟩
        · rw [if_neg (fun z => q ((pl_ids hr hiv hid hsv hsn).mp ((nI_eq (by omega) (by omega)).mp z)))]
          exact ih f (by omega) (by omega) (fun i x hi hx => by
            by_cases z : i = j
            · subst z
              rw [he] at hx
              rw [← Option.some.inj hx]
              exact q
            · exact hall i x (by omega) hx)
  have e : prf_X_meantNow τ (nI id) = prf_X_meantNow_7 pr_FU τ (nI id) (nI V.length + (-1)) := by
    unfold prf_X_meantNow
    rw [hs.2.2.1, Int32.sub_eq_add_neg]
  rw [e]
  exact main V.length pr_FU (Nat.le_refl _) (by rw [hF]; omega) (fun i x hi hx => by
    rw [List.getElem?_eq_none hi] at hx
    cases hx)
theorem pl_lst_u {T : pl_Tx} {V : List (Nat × Bool)} {base t v v' : Nat} {e e' : Nat × Bool} (h : pl_lst T V base t v e) (h' : pl_lst T V base t v' e') : v = v' ∧ e = e' := by
  obtain ⟨_, h2, h3, h4⟩ := h
  obtain ⟨_, g2, g3, g4⟩ := h'
  by_cases q1 : v < v'
  · exact absurd g3 (h4 v' e' q1 g2)
  · by_cases q2 : v' < v
    · exact absurd h3 (g4 v e q2 h2)
    · have : v = v' := by omega
      subst this
      rw [h2] at g2
      exact ⟨rfl, Option.some.inj g2⟩
/-! a name that a statement needs -/
def pl_wC (T : pl_Tx) (σ : pr_St) (w : Int32) (t : Nat) : pr_St := pr_sI (pr_sI σ 6 14 w) 6 15 (nI (pl_xP T t))
def pl_wX (T : pl_Tx) (τ : pr_St) (w : Int32) (t : Nat) : pr_St := pr_sI (pr_sI τ 0 47 w) 0 48 (nI (pl_xP T t))
theorem pl_isW {T : pl_Tx} {σ τ : pr_St} (h : pl_tt T σ τ) {t : Nat} (ht : t < pl_xc T) (w : Int32) : prf_Y_isWrong σ w (nI t) = some (0, pl_wC T σ w t) := by
  unfold prf_Y_isWrong pl_wC
  have h' : pl_tt T (pr_sI σ 6 14 w) τ := pl_tt_fr h (pl_sI_fr (F := fun o k => o == 6 && k == 14) (G := fun _ => false) rfl) (pl_fr.rf (F := pl_FQ) (G := pl_GD)) ⟨rfl, rfl, rfl, rfl, rfl, rfl⟩ ⟨rfl, rfl, rfl, rfl, rfl, rfl⟩
  rw [pl_plcG h' ht, pl_sb]
theorem pl_wrX {T : pl_Tx} {τ : pr_St} {x t : Nat} (h0 : τ.1 0 47 = 0) (hx : x < 13000) (h14 : τ.2.1 14 x = nI (pl_xP T t)) (w : Int32) : prf_X_wrong τ w (nI x) = some (0, pl_wX T τ w t) := by
  unfold prf_X_wrong pl_wX
  rw [if_pos h0, pl_ck hx (by omega), nI_clamp (by omega), h14]
/-- what is asked of a name, or of limits: it holds -/
def pl_yes (T : pl_Tx) (E : List (Nat × Bool)) (c : Nat × Bool) : Prop := if pl_xK T c.1 = 2 then ∃ i e, pl_lst T E 0 c.1 i e ∧ e.2 = c.2 else pl_lim T (c.1 + 2) ≤ pl_lim T (pl_sec T (c.1 + 2))
/-- or it does not: the reason, and the token -/
def pl_no (T : pl_Tx) (E : List (Nat × Bool)) (c : Nat × Bool) (w : Int32) (pt : Nat) : Prop := if pl_xK T c.1 = 2 then pt = c.1 ∧ (((∀ (j : Nat) (x : Nat × Bool), E[j]? = some x → ¬ pl_sn T x.1 c.1) ∧ w = 1) ∨ (∃ i e, pl_lst T E 0 c.1 i e ∧ ¬ e.2 = c.2 ∧ w = 3)) else pt = c.1 + 2 ∧ w = 8 ∧ ¬ pl_lim T (c.1 + 2) ≤ pl_lim T (pl_sec T (c.1 + 2))
