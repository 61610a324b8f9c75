/-! THE STATE OF A FIXED GRAPH OF OBJECTS: int fields by (cell, slot), arrays by cell; a layout says which cell is what. -/
abbrev pr_St : Type := (Nat → Nat → Int32) × (Nat → Nat → Int32) × (Nat → Nat → Int64)
def pr_sI (σ : pr_St) (o k : Nat) (v : Int32) : pr_St := (fun a b => if a = o then (if b = k then v else σ.1 a b) else σ.1 a b, σ.2)
def pr_sA (σ : pr_St) (o : Nat) (f : Nat → Int32) : pr_St := (σ.1, fun a => if a = o then f else σ.2.1 a, σ.2.2)
def pr_sL (σ : pr_St) (o : Nat) (f : Nat → Int64) : pr_St := (σ.1, σ.2.1, fun a => if a = o then f else σ.2.2 a)
/-- a layout: objects, cells, class of an object, its fields, where a reference field points, an array's length, its type -/
abbrev pr_L : Type := Nat × Nat × (Nat → Nat) × (Nat → Nat) × (Nat → Nat → Option Nat) × (Nat → Nat) × (Nat → FieldType)
abbrev pr_nO (L : pr_L) : Nat := L.1
abbrev pr_n (L : pr_L) : Nat := L.2.1
abbrev pr_cls (L : pr_L) : Nat → Nat := L.2.2.1
abbrev pr_nf (L : pr_L) : Nat → Nat := L.2.2.2.1
abbrev pr_rf (L : pr_L) : Nat → Nat → Option Nat := L.2.2.2.2.1
abbrev pr_ln (L : pr_L) : Nat → Nat := L.2.2.2.2.2.1
abbrev pr_ty (L : pr_L) : Nat → FieldType := L.2.2.2.2.2.2
def pr_fV (L : pr_L) (ad : Nat → Nat) (σ : pr_St) (o k : Nat) : Value := match pr_rf L o k with
  | some t => .ref (ad t)
  | none => .int (σ.1 o k)
def pr_fs (L : pr_L) (ad : Nat → Nat) (σ : pr_St) (o : Nat) : List Value := (List.range (pr_nf L o)).map (pr_fV L ad σ o)
/-- what an array holds: 0 ints, 1 longs, 2 the texts at ad 1000, ad 1001 .. -/
def pr_ik (L : pr_L) (j : Nat) : Nat := match pr_ty L j with
  | .long => 1
  | .object _ => 2
  | _ => 0
def pr_E (L : pr_L) (ad : Nat → Nat) (dA : Nat → ClassId) (σ : pr_St) (j : Nat) : va_E := if j < pr_nO L then .inr (pr_cls L j, pr_fs L ad σ j) else if pr_ik L j = 0 then .inl (dA j, pr_ln L j, .inl (σ.2.1 j)) else if pr_ik L j = 1 then .inl (dA j, pr_ln L j, .inr (.inl (σ.2.2 j))) else .inl (dA j, pr_ln L j, .inr (.inr (.inr (.inr (fun k => some (ad (1000 + k)))))))
def pr_w (L : pr_L) (ad : Nat → Nat) (dA : Nat → ClassId) (σ : pr_St) : va_W := (List.range (pr_n L)).map (fun j => (ad j, pr_E L ad dA σ j))
def pr_t (L : pr_L) (dA : Nat → ClassId) : List (ClassId × FieldType) := (List.range (pr_n L - pr_nO L)).map (fun j => (dA (pr_nO L + j), pr_ty L (pr_nO L + j)))
theorem pr_w_get {L : pr_L} {ad : Nat → Nat} {dA : Nat → ClassId} {σ : pr_St} {j : Nat} (h : j < pr_n L) : (pr_w L ad dA σ)[j]? = some (ad j, pr_E L ad dA σ j) := by
  unfold pr_w
  rw [List.getElem?_map, List.getElem?_range h]
  rfl
theorem pr_w_inv {L : pr_L} {ad : Nat → Nat} {dA : Nat → ClassId} {σ : pr_St} {j : Nat} {x : Nat × va_E} (h : (pr_w L ad dA σ)[j]? = some x) : j < pr_n L ∧ x = (ad j, pr_E L ad dA σ j) := by
  have hj : j < pr_n L := by
    have h1 := (List.getElem?_eq_some_iff.mp h).1
    unfold pr_w at h1
    rw [List.length_map, List.length_range] at h1
    exact h1
  rw [pr_w_get hj] at h
  exact ⟨hj, (Option.some.inj h).symm⟩
theorem pr_w_obj {L : pr_L} {ad : Nat → Nat} {dA : Nat → ClassId} {σ : pr_St} {j : Nat} (h : j < pr_n L) (ho : j < pr_nO L) : (pr_w L ad dA σ)[j]? = some (ad j, .inr (pr_cls L j, pr_fs L ad σ j)) := by
  rw [pr_w_get h]; unfold pr_E; rw [if_pos ho]
theorem pr_w_arr {L : pr_L} {ad : Nat → Nat} {dA : Nat → ClassId} {σ : pr_St} {j : Nat} (h : j < pr_n L) (ho : ¬ j < pr_nO L) (hk : pr_ik L j = 0) : (pr_w L ad dA σ)[j]? = some (ad j, .inl (dA j, pr_ln L j, .inl (σ.2.1 j))) := by
  rw [pr_w_get h]; unfold pr_E; rw [if_neg ho, if_pos hk]
theorem pr_w_arl {L : pr_L} {ad : Nat → Nat} {dA : Nat → ClassId} {σ : pr_St} {j : Nat} (h : j < pr_n L) (ho : ¬ j < pr_nO L) (hk : pr_ik L j = 1) : (pr_w L ad dA σ)[j]? = some (ad j, .inl (dA j, pr_ln L j, .inr (.inl (σ.2.2 j)))) := by
  rw [pr_w_get h]; unfold pr_E; rw [if_neg ho, if_neg (by omega), if_pos hk]
theorem pr_w_art {L : pr_L} {ad : Nat → Nat} {dA : Nat → ClassId} {σ : pr_St} {j : Nat} (h : j < pr_n L) (ho : ¬ j < pr_nO L) (hk : pr_ik L j = 2) : (pr_w L ad dA σ)[j]? = some (ad j, .inl (dA j, pr_ln L j, .inr (.inr (.inr (.inr (fun k => some (ad (1000 + k)))))))) := by
  rw [pr_w_get h]; unfold pr_E; rw [if_neg ho, if_neg (by omega), if_neg (by omega)]
theorem pr_w_any {L : pr_L} {ad : Nat → Nat} {dA : Nat → ClassId} {σ : pr_St} {j : Nat} (h : j < pr_n L) (ho : ¬ j < pr_nO L) : ∃ x : vp_A, x.1 = pr_ln L j ∧ (pr_w L ad dA σ)[j]? = some (ad j, .inl (dA j, x)) := by
  rw [pr_w_get h]; unfold pr_E; rw [if_neg ho]
  by_cases h0 : pr_ik L j = 0
  · rw [if_pos h0]; exact ⟨_, rfl, rfl⟩
  · rw [if_neg h0]
    by_cases h1 : pr_ik L j = 1
    · rw [if_pos h1]; exact ⟨_, rfl, rfl⟩
    · rw [if_neg h1]; exact ⟨_, rfl, rfl⟩
theorem pr_fs_get {L : pr_L} {ad : Nat → Nat} {σ : pr_St} {o k : Nat} (h : k < pr_nf L o) : (pr_fs L ad σ o)[k]? = some (pr_fV L ad σ o k) := by
  unfold pr_fs
  rw [List.getElem?_map, List.getElem?_range h]
  rfl
theorem pr_fs_len {L : pr_L} {ad : Nat → Nat} {σ : pr_St} {o : Nat} : (pr_fs L ad σ o).length = pr_nf L o := by
  unfold pr_fs; rw [List.length_map, List.length_range]
theorem pr_w_len {L : pr_L} {ad : Nat → Nat} {dA : Nat → ClassId} {σ : pr_St} : (pr_w L ad dA σ).length = pr_n L := by
  unfold pr_w; rw [List.length_map, List.length_range]
theorem pr_t_get {L : pr_L} {dA : Nat → ClassId} {a : Nat} (h : a < pr_n L) (ho : ¬ a < pr_nO L) : (pr_t L dA)[a - pr_nO L]? = some (dA a, pr_ty L a) := by
  unfold pr_t
  rw [List.getElem?_map, List.getElem?_range (by omega)]
  have e : pr_nO L + (a - pr_nO L) = a := by omega
  show some (dA (pr_nO L + (a - pr_nO L)), pr_ty L (pr_nO L + (a - pr_nO L))) = _
  rw [e]
theorem pr_w_D {L : pr_L} {ad : Nat → Nat} {dA : Nat → ClassId} {σ τ : pr_St} {A : Nat → Prop} (h : va_D A (pr_w L ad dA σ)) : va_D A (pr_w L ad dA τ) := by
  refine ⟨fun i j x y hi hj e => ?_, fun k x hk => ?_⟩
  · obtain ⟨hi, rfl⟩ := pr_w_inv hi
    obtain ⟨hj, rfl⟩ := pr_w_inv hj
    rename_i h1 h2
    exact h.1 i j (ad i, pr_E L ad dA σ i) (ad j, pr_E L ad dA σ j) (pr_w_get (by assumption)) (pr_w_get (by assumption)) e
  · obtain ⟨hk, rfl⟩ := pr_w_inv hk
    exact h.2 k (ad k, pr_E L ad dA σ k) (pr_w_get (by assumption))
theorem pr_sI_same {σ : pr_St} {o k : Nat} {v : Int32} : (pr_sI σ o k v).1 o k = v := by simp [pr_sI]
theorem pr_sI_ne {σ : pr_St} {o k a b : Nat} {v : Int32} (h : ¬ (a = o ∧ b = k)) : (pr_sI σ o k v).1 a b = σ.1 a b := by
  unfold pr_sI
  by_cases h1 : a = o
  · have h2 : ¬ b = k := fun q => h ⟨h1, q⟩
    simp [h1, h2]
  · simp [h1]
theorem pr_w_setI {L : pr_L} {ad : Nat → Nat} {dA : Nat → ClassId} {σ : pr_St} {o k : Nat} {v : Int32} (h : o < pr_n L) (ho : o < pr_nO L) (hr : pr_rf L o k = none) :
    (pr_w L ad dA σ).set o (ad o, .inr (pr_cls L o, (pr_fs L ad σ o).set k (.int v))) = pr_w L ad dA (pr_sI σ o k v) := by
  apply List.ext_getElem?
  intro i
  rw [List.getElem?_set]
  by_cases e : o = i
  · subst e
    rw [if_pos rfl, if_pos (by rw [pr_w_len]; exact h), pr_w_obj h ho]
    refine congrArg (fun z => some (ad o, (Sum.inr (pr_cls L o, z) : va_E))) ?_
    apply List.ext_getElem?
    intro j
    rw [List.getElem?_set]
    by_cases hj : j < pr_nf L o
    · rw [pr_fs_get hj, pr_fs_get hj]
      by_cases e2 : k = j
      · subst e2
        rw [if_pos rfl, if_pos (by rw [pr_fs_len]; exact hj)]
        unfold pr_fV
        rw [hr]
        show some (Value.int v) = some (Value.int ((pr_sI σ o k v).1 o k))
        rw [pr_sI_same]
      · rw [if_neg e2]
        unfold pr_fV
        cases pr_rf L o j with
        | some t => rfl
        | none => show some (Value.int (σ.1 o j)) = some (Value.int ((pr_sI σ o k v).1 o j)); rw [pr_sI_ne (fun q => e2 q.2.symm)]
    · have n1 : (pr_fs L ad σ o)[j]? = none := List.getElem?_eq_none (by rw [pr_fs_len]; omega)
      have n2 : (pr_fs L ad (pr_sI σ o k v) o)[j]? = none := List.getElem?_eq_none (by rw [pr_fs_len]; omega)
      rw [n1, n2]
      by_cases e2 : k = j
      · rw [if_pos e2, if_neg (by rw [pr_fs_len]; omega)]
      · rw [if_neg e2]
  · rw [if_neg e]
    by_cases hi : i < pr_n L
    · rw [pr_w_get hi, pr_w_get hi]
      unfold pr_E
      by_cases hio : i < pr_nO L
      · rw [if_pos hio, if_pos hio]
        have : pr_fs L ad σ i = pr_fs L ad (pr_sI σ o k v) i := by
          unfold pr_fs
          refine List.map_congr_left (fun j _ => ?_)
          unfold pr_fV
          cases pr_rf L i j with
          | some t => rfl
          | none => show Value.int (σ.1 i j) = Value.int ((pr_sI σ o k v).1 i j); rw [pr_sI_ne (fun q => e q.1.symm)]
        rw [this]
      · rw [if_neg hio, if_neg hio]
        rfl
    · rw [List.getElem?_eq_none (by rw [pr_w_len]; omega), List.getElem?_eq_none (by rw [pr_w_len]; omega)]
theorem pr_w_setA {L : pr_L} {ad : Nat → Nat} {dA : Nat → ClassId} {σ : pr_St} {o : Nat} {f : Nat → Int32} (h : o < pr_n L) (ho : ¬ o < pr_nO L) (hk : pr_ik L o = 0) :
    (pr_w L ad dA σ).set o (ad o, .inl (dA o, pr_ln L o, .inl f)) = pr_w L ad dA (pr_sA σ o f) := by
  apply List.ext_getElem?
  intro i
  rw [List.getElem?_set]
  by_cases e : o = i
  · subst e
    rw [if_pos rfl, if_pos (by rw [pr_w_len]; exact h), pr_w_arr h ho hk]
    unfold pr_sA
    simp
  · rw [if_neg e]
    by_cases hi : i < pr_n L
    · rw [pr_w_get hi, pr_w_get hi]
      have e2 : (pr_sA σ o f).2.1 i = σ.2.1 i := by
        unfold pr_sA
        exact if_neg (fun q => e q.symm)
      unfold pr_E
      rw [e2]
      rfl
    · rw [List.getElem?_eq_none (by rw [pr_w_len]; omega), List.getElem?_eq_none (by rw [pr_w_len]; omega)]
theorem pr_w_setL {L : pr_L} {ad : Nat → Nat} {dA : Nat → ClassId} {σ : pr_St} {o : Nat} {f : Nat → Int64} (h : o < pr_n L) (ho : ¬ o < pr_nO L) (hk : pr_ik L o = 1) :
    (pr_w L ad dA σ).set o (ad o, .inl (dA o, pr_ln L o, .inr (.inl f))) = pr_w L ad dA (pr_sL σ o f) := by
  apply List.ext_getElem?
  intro i
  rw [List.getElem?_set]
  by_cases e : o = i
  · subst e
    rw [if_pos rfl, if_pos (by rw [pr_w_len]; exact h), pr_w_arl h ho hk]
    unfold pr_sL
    simp
  · rw [if_neg e]
    by_cases hi : i < pr_n L
    · rw [pr_w_get hi, pr_w_get hi]
      have e2 : (pr_sL σ o f).2.2 i = σ.2.2 i := by
        unfold pr_sL
        exact if_neg (fun q => e q.symm)
      unfold pr_E
      rw [e2]
      rfl
    · rw [List.getElem?_eq_none (by rw [pr_w_len]; omega), List.getElem?_eq_none (by rw [pr_w_len]; omega)]
/-! what an unfinished run is: none -/
def pr_ck {α : Type} (i : Int32) (n : Nat) (k : Option α) : Option α := if i < 0 ∨ n ≤ i.toNatClampNeg then none else k
def pr_z {α : Type} (x : Int32) (k : Option α) : Option α := if x = 0 ∨ x = 1 then k else none
def pr_nz {α : Type} (x : Int32) (k : Option α) : Option α := if x = 0 then none else k
def pr_nzl {α : Type} (x : Int64) (k : Option α) : Option α := if x = 0 then none else k
theorem pr_ck_in {α : Type} {i : Int32} {n : Nat} {k : Option α} {r : α} (h : some r = pr_ck i n k) : vp_in i n ∧ some r = k := by
  unfold pr_ck at h
  by_cases c : i < 0 ∨ n ≤ i.toNatClampNeg
  · rw [if_pos c] at h; cases h
  · rw [if_neg c] at h; exact ⟨c, h⟩
theorem pr_z_in {α : Type} {x : Int32} {k : Option α} {r : α} (h : some r = pr_z x k) : (x = 0 ∨ x = 1) ∧ some r = k := by
  unfold pr_z at h
  by_cases c : x = 0 ∨ x = 1
  · rw [if_pos c] at h; exact ⟨c, h⟩
  · rw [if_neg c] at h; cases h
theorem pr_nz_in {α : Type} {x : Int32} {k : Option α} {r : α} (h : some r = pr_nz x k) : (¬ x = 0) ∧ some r = k := by
  unfold pr_nz at h
  by_cases c : x = 0
  · rw [if_pos c] at h; cases h
  · rw [if_neg c] at h; exact ⟨c, h⟩
theorem pr_nzl_in {α : Type} {x : Int64} {k : Option α} {r : α} (h : some r = pr_nzl x k) : (¬ x = 0) ∧ some r = k := by
  unfold pr_nzl at h
  by_cases c : x = 0
  · rw [if_pos c] at h; cases h
  · rw [if_neg c] at h; exact ⟨c, h⟩
theorem pr_bi {α β : Type} {x : Option α} {k : α → Option β} {r : β} (h : some r = x.bind k) : ∃ y, x = some y ∧ some r = k y := by
  cases x with
  | none => cases h
  | some y => exact ⟨y, rfl, h⟩
theorem pr_it {α : Type} {c : Prop} [Decidable c] {x a b : α} (hc : c) (h : x = if c then a else b) : x = a := by rw [if_pos hc] at h; exact h
theorem pr_ie {α : Type} {c : Prop} [Decidable c] {x a b : α} (hc : ¬ c) (h : x = if c then a else b) : x = b := by rw [if_neg hc] at h; exact h
theorem pr_zn {x : Int32} (h : x = 0 ∨ x = 1) : narrow .boolean (.int x) = .int x := by rcases h with rfl | rfl <;> decide
theorem pr_zf {x : Int32} (h : x = 0 ∨ x = 1) : fits .boolean (.int x) = true := by rcases h with rfl | rfl <;> decide
/-! the reference's eight words: their lengths and letters -/
def prs_len : List Nat := [3, 3, 2, 4, 5, 6, 6, 3]
def prs_byt : List (List Int32) := [[102, 117, 110], [118, 97, 114], [105, 102], [101, 108, 115, 101], [119, 104, 105, 108, 101], [97, 115, 115, 101, 114, 116], [114, 101, 116, 117, 114, 110], [97, 110, 121]]
def prs_ln (k : Nat) : Nat := prs_len.getD k 0
def prs_ch (k j : Nat) : Int32 := (prs_byt.getD k []).getD j 0
/-- turns that a loop is given -/
def pr_FU : Nat := 100000
/-- the letters of the words, as the class' static row has them -/
def pr_wdl : List Int32 := [102, 117, 110, 32, 118, 97, 114, 32, 105, 102, 32, 101, 108, 115, 101, 32, 119, 104, 105, 108, 101, 32, 97, 115, 115, 101, 114, 116, 32, 114, 101, 116, 117, 114, 110, 32, 97, 110, 121, 32]
def pr_wd (j : Nat) : Int32 := pr_wdl.getD j 0
