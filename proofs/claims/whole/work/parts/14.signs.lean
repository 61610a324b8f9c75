/-! THE TOKENS: signs -/
/-- the reference's sign: how many bytes, which token; (1, 1) when there is none -/
def pl_sx (c d : Int32) : Int32 × Int32 :=
  if c = 60 ∧ d = 61 then (2, 256) else if c = 62 ∧ d = 61 then (2, 257) else if c = 61 ∧ d = 61 then (2, 258) else if c = 33 ∧ d = 61 then (2, 259) else if c = 38 ∧ d = 38 then (2, 260) else if c = 124 ∧ d = 124 then (2, 261) else
  if c = 40 then (1, c) else if c = 41 then (1, c) else if c = 123 then (1, c) else if c = 125 then (1, c) else if c = 91 then (1, c) else if c = 93 then (1, c) else if c = 44 then (1, c) else if c = 59 then (1, c) else if c = 61 then (1, c) else if c = 43 then (1, c) else if c = 45 then (1, c) else if c = 42 then (1, c) else if c = 47 then (1, c) else if c = 37 then (1, c) else if c = 60 then (1, c) else if c = 62 then (1, c) else if c = 33 then (1, c) else (1, 1)
/-- the class' sign: how many bytes, which kind; 0 bytes when there is none -/
def pl_sc (c d : Int32) : Int32 × Int32 :=
  let t := (prf_T_signOfTwo prIs_C c d).getD 1
  let o := (prf_T_signOfOne prIs_C c).getD 1
  if t = 1 then (if o = 1 then (0, 1) else (1, o)) else (2, t)
/-- the reference's token of a kind of the class -/
def pl_km (k : Nat) : Nat := ([0, 1, 2, 3, 300, 301, 302, 303, 304, 305, 306, 307, 40, 41, 123, 125, 91, 93, 44, 59, 61, 43, 45, 42, 47, 37, 60, 256, 62, 257, 258, 259, 260, 261, 33] : List Nat).getD k 1
/-- how the two signs agree -/
def pl_sgok (c d : Int32) : Bool := if (pl_sc c d).1 = 0 then decide (pl_sx c d = (1, 1)) else decide ((pl_sx c d).1 = (pl_sc c d).1) && decide (12 ≤ (pl_sc c d).2.toNatClampNeg) && decide ((pl_sc c d).2.toNatClampNeg < 35) && decide ((pl_sx c d).2 = nI (pl_km (pl_sc c d).2.toNatClampNeg)) && decide (nI (pl_sc c d).2.toNatClampNeg = (pl_sc c d).2)
theorem pl_sgok0 : ∀ a, a < 256 → (pl_sgok (nI a) 0 = true ∧ pl_sgok (nI a) 61 = true ∧ pl_sgok (nI a) 38 = true ∧ pl_sgok (nI a) 124 = true) := by decide +kernel
theorem pl_two0 {c d : Int32} (h1 : ¬ d = 61) (h2 : ¬ d = 38) (h3 : ¬ d = 124) : prf_T_signOfTwo prIs_C c d = prf_T_signOfTwo prIs_C c 0 := by
  unfold prf_T_signOfTwo
  rw [if_neg h1, if_neg h2, if_neg h3, if_neg (show ¬ (0 : Int32) = 61 by decide), if_neg (show ¬ (0 : Int32) = 38 by decide), if_neg (show ¬ (0 : Int32) = 124 by decide)]
theorem pl_sx0 {c d : Int32} (h1 : ¬ d = 61) (h2 : ¬ d = 38) (h3 : ¬ d = 124) : pl_sx c d = pl_sx c 0 := by
  unfold pl_sx
  rw [if_neg (show ¬ (c = 60 ∧ d = 61) from fun q => h1 q.2), if_neg (show ¬ (c = 62 ∧ d = 61) from fun q => h1 q.2), if_neg (show ¬ (c = 61 ∧ d = 61) from fun q => h1 q.2), if_neg (show ¬ (c = 33 ∧ d = 61) from fun q => h1 q.2), if_neg (show ¬ (c = 38 ∧ d = 38) from fun q => h2 q.2), if_neg (show ¬ (c = 124 ∧ d = 124) from fun q => h3 q.2)]
  rw [if_neg (show ¬ (c = 60 ∧ (0 : Int32) = 61) from fun q => absurd q.2 (by decide)), if_neg (show ¬ (c = 62 ∧ (0 : Int32) = 61) from fun q => absurd q.2 (by decide)), if_neg (show ¬ (c = 61 ∧ (0 : Int32) = 61) from fun q => absurd q.2 (by decide)), if_neg (show ¬ (c = 33 ∧ (0 : Int32) = 61) from fun q => absurd q.2 (by decide)), if_neg (show ¬ (c = 38 ∧ (0 : Int32) = 38) from fun q => absurd q.2 (by decide)), if_neg (show ¬ (c = 124 ∧ (0 : Int32) = 124) from fun q => absurd q.2 (by decide))]
theorem pl_sgok_all {a : Nat} (ha : a < 256) (d : Int32) : pl_sgok (nI a) d = true := by
  obtain ⟨q0, q1, q2, q3⟩ := pl_sgok0 a ha
  by_cases h1 : d = 61
  · rw [h1]; exact q1
  by_cases h2 : d = 38
  · rw [h2]; exact q2
  by_cases h3 : d = 124
  · rw [h3]; exact q3
  have e : pl_sgok (nI a) d = pl_sgok (nI a) 0 := by
    unfold pl_sgok pl_sc
    rw [pl_two0 h1 h2 h3, pl_sx0 h1 h2 h3]
  rw [e]
  exact q0
