/-! THE PARSER: statements. Records, frames, what is kept of a statement -/
/-- a statement: kind, first token, first operation, detail, end, what is there (token of the name, whether an array) -/
abbrev pl_S : Type := Nat × Nat × Nat × Nat × Nat × List (Nat × Bool) × Nat
def pl_sts (σ : pr_St) : Nat → List pl_S → Prop
  | _, [] => True
  | s, r :: l => (σ.2.1 17 s = nI r.1 ∧ σ.2.1 18 s = nI r.2.1 ∧ σ.2.1 19 s = nI r.2.2.1 ∧ σ.2.1 20 s = nI r.2.2.2.1 ∧ σ.2.1 21 s = nI r.2.2.2.2.1) ∧ pl_sts σ (s + 1) l
theorem pl_sts_app {σ : pr_St} : ∀ (a b : List pl_S) (s : Nat), pl_sts σ s a → pl_sts σ (s + a.length) b → pl_sts σ s (a ++ b) := by
  intro a
  induction a with
  | nil => intro b s _ h; exact h
  | cons r l ih =>
    intro b s h1 h2
    refine ⟨h1.1, ih b (s + 1) h1.2 ?_⟩
    rw [List.length_cons] at h2
    rw [show s + 1 + l.length = s + (l.length + 1) by omega]
    exact h2
theorem pl_sts_eq {σ σ' : pr_St} : ∀ (a : List pl_S) (s : Nat), (∀ r z, 17 ≤ r → r ≤ 21 → s ≤ z → z < s + a.length → σ'.2.1 r z = σ.2.1 r z) → pl_sts σ s a → pl_sts σ' s a := by
  intro a
  induction a with
  | nil => intro s _ _; trivial
  | cons r l ih =>
    intro s h h1
    rw [List.length_cons] at h
    refine ⟨?_, ih (s + 1) (fun r z h2 h3 h4 h5 => h r z h2 h3 (by omega) (by omega)) h1.2⟩
    rw [h 17 s (by decide) (by decide) (Nat.le_refl _) (by omega), h 18 s (by decide) (by decide) (Nat.le_refl _) (by omega), h 19 s (by decide) (by decide) (Nat.le_refl _) (by omega), h 20 s (by decide) (by decide) (Nat.le_refl _) (by omega), h 21 s (by decide) (by decide) (Nat.le_refl _) (by omega)]
    exact h1.1
def pl_FS (o k : Nat) : Bool := (o == 3 && (k == 2 || k == 3)) || (o == 2 && (k == 14 || k == 11))
def pl_GS (a : Nat) : Bool := a == 17 || a == 18 || a == 19 || a == 20 || a == 21 || a == 22 || a == 23
/-- what the class may change while it reads statements: operations from q on, statements from s on -/
def pl_fs (q s : Nat) (σ σ' : pr_St) : Prop := pl_fr pl_FS pl_GS σ σ' ∧ (∀ r z, 22 ≤ r → r ≤ 23 → z < q → σ'.2.1 r z = σ.2.1 r z) ∧ (∀ r z, 17 ≤ r → r ≤ 21 → z < s → σ'.2.1 r z = σ.2.1 r z)
theorem pl_fs.rf {q s : Nat} {σ : pr_St} : pl_fs q s σ σ := ⟨pl_fr.rf, fun _ _ _ _ _ => rfl, fun _ _ _ _ _ => rfl⟩
theorem pl_fs.tr {q s q1 s1 : Nat} {a b c : pr_St} (h1 : pl_fs q s a b) (h2 : pl_fs q1 s1 b c) (hq : q ≤ q1) (hs : s ≤ s1) : pl_fs q s a c :=
  ⟨h1.1.tr h2.1, fun r z h3 h4 h5 => (h2.2.1 r z h3 h4 (by omega)).trans (h1.2.1 r z h3 h4 h5), fun r z h3 h4 h5 => (h2.2.2 r z h3 h4 (by omega)).trans (h1.2.2 r z h3 h4 h5)⟩
theorem pl_FC_FS : ∀ o k, pl_FS o k = false → pl_FC o k = false := by
  intro o k h
  unfold pl_FS at h
  unfold pl_FC
  simp only [Bool.or_eq_false_iff, Bool.and_eq_false_iff] at h ⊢
  refine ⟨?_, ?_⟩
  · rcases h.1 with h1 | h1
    · exact Or.inl h1
    · exact Or.inr h1.1
  · rcases h.2 with h1 | h1
    · exact Or.inl h1
    · exact Or.inr h1.1
theorem pl_GC_GS : ∀ r, pl_GS r = false → pl_GC r = false := by
  intro r h
  unfold pl_GS at h
  unfold pl_GC
  simp only [Bool.or_eq_false_iff] at h ⊢
  exact ⟨h.1.2, h.2⟩
theorem pl_fc.fs {q s : Nat} {σ σ' : pr_St} (h : pl_fc q σ σ') : pl_fs q s σ σ' := by
  refine ⟨⟨fun o k hk => h.1.1 o k (pl_FC_FS o k hk), fun r hr => h.1.2.1 r (pl_GC_GS r hr), h.1.2.2⟩, fun r z _ _ hz => h.2 r z hz, fun r z h1 h2 _ => ?_⟩
  rw [h.1.2.1 r (by unfold pl_GC; simp only [Bool.or_eq_false_iff, beq_eq_false_iff_ne]; omega)]
/-- rows of statements stay where only operations are added -/
theorem pl_fc.st {q : Nat} {σ σ' : pr_St} (h : pl_fc q σ σ') {r : Nat} (h1 : 17 ≤ r) (h2 : r ≤ 21) : σ'.2.1 r = σ.2.1 r := h.1.2.1 r (by unfold pl_GC; simp only [Bool.or_eq_false_iff, beq_eq_false_iff_ne]; omega)
theorem pl_ops_fs {σ σ' : pr_St} {q s : Nat} (h : pl_fs q s σ σ') : ∀ (a : List pl_O) (p : Nat), p + a.length ≤ q → pl_ops σ p a → pl_ops σ' p a := by
  intro a
  induction a with
  | nil => intro p _ _; trivial
  | cons o l ih =>
    intro p hp h1
    rw [List.length_cons] at hp
    exact ⟨by rw [h.2.1 22 p (by decide) (by decide) (by omega)]; exact h1.1, by rw [h.2.1 23 p (by decide) (by decide) (by omega)]; exact h1.2.1, ih (p + 1) (by omega) h1.2.2⟩
/-- good, with s statements -/
def pl_gs (T : pl_Tx) (a q d s : Nat) (σ τ : pr_St) : Prop := pl_gd T a q d σ τ ∧ σ.1 2 11 = nI s
/-- an open statement's record, but for its end -/
def pl_op (σ : pr_St) (s k a q det : Nat) : Prop := σ.2.1 17 s = nI k ∧ σ.2.1 18 s = nI a ∧ σ.2.1 19 s = nI q ∧ σ.2.1 20 s = nI det
theorem pl_op_fc {σ σ' : pr_St} {s k a q det x : Nat} (h : pl_op σ s k a q det) (hf : pl_fc x σ σ') : pl_op σ' s k a q det := by
  unfold pl_op
  rw [hf.st (by decide) (by decide), hf.st (by decide) (by decide), hf.st (by decide) (by decide), hf.st (by decide) (by decide)]
  exact h
theorem pl_op_fs {σ σ' : pr_St} {s k a q det x y : Nat} (h : pl_op σ s k a q det) (hf : pl_fs x y σ σ') (hy : s < y) : pl_op σ' s k a q det := by
  unfold pl_op
  rw [hf.2.2 17 s (by decide) (by decide) hy, hf.2.2 18 s (by decide) (by decide) hy, hf.2.2 19 s (by decide) (by decide) hy, hf.2.2 20 s (by decide) (by decide) hy]
  exact h
/-- names lie in the order of their tokens, in [lo, hi) -/
def pl_ni : List pl_N → Nat → Nat → Prop
  | [], lo, hi => lo ≤ hi
  | e :: l, lo, hi => if e.1 = 13 then lo ≤ e.2.1 ∧ pl_ni l (e.2.1 + 1) hi else pl_ni l lo hi
theorem pl_ni_le : ∀ (A : List pl_N) (lo hi : Nat), pl_ni A lo hi → lo ≤ hi := by
  intro A
  induction A with
  | nil => intro lo hi h; exact h
  | cons e l ih =>
    intro lo hi h
    unfold pl_ni at h
    by_cases q : e.1 = 13
    · rw [if_pos q] at h
      have := ih _ _ h.2
      have := h.1
      omega
    · rw [if_neg q] at h
      exact ih _ _ h
theorem pl_ni_lo : ∀ (A : List pl_N) (lo lo' hi : Nat), lo' ≤ lo → pl_ni A lo hi → pl_ni A lo' hi := by
  intro A
  induction A with
  | nil => intro lo lo' hi h1 h; exact Nat.le_trans h1 h
  | cons e l ih =>
    intro lo lo' hi h1 h
    unfold pl_ni at h ⊢
    by_cases q : e.1 = 13
    · rw [if_pos q] at h ⊢
      exact ⟨by have := h.1; omega, h.2⟩
    · rw [if_neg q] at h ⊢
      exact ih _ _ _ h1 h
theorem pl_ni_app : ∀ (A C : List pl_N) (lo m hi : Nat), pl_ni A lo m → pl_ni C m hi → pl_ni (A ++ C) lo hi := by
  intro A
  induction A with
  | nil => intro C lo m hi h1 h2; exact pl_ni_lo C m lo hi h1 h2
  | cons e l ih =>
    intro C lo m hi h1 h2
    rw [List.cons_append]
    unfold pl_ni at h1 ⊢
    by_cases q : e.1 = 13
    · rw [if_pos q] at h1 ⊢
      exact ⟨h1.1, ih C _ m hi h1.2 h2⟩
    · rw [if_neg q] at h1 ⊢
      exact ih C _ m hi h1 h2
theorem pl_ni_hi {A : List pl_N} {lo hi hi' : Nat} (h : pl_ni A lo hi) (hh : hi ≤ hi') : pl_ni A lo hi' := by
  have := pl_ni_app A [] lo hi hi' h hh
  rw [List.append_nil] at this
  exact this
theorem pl_ct_head {K : Nat → Nat} : ∀ (m a : Nat) (x : Nat × Bool) (r : List (Nat × Bool)), pl_ct K a m = x :: r → a ≤ x.1 ∧ x.1 < a + m ∧ r = pl_ct K (x.1 + 1) (a + m - (x.1 + 1)) := by
  intro m
  induction m with
  | zero => intro a x r h; cases h
  | succ m ih =>
    intro a x r h
    have h' : pl_ct1 K a ++ pl_ct K (a + 1) m = x :: r := h
    have step : ∀ b : Bool, pl_ct1 K a = [(a, b)] → a ≤ x.1 ∧ x.1 < a + (m + 1) ∧ r = pl_ct K (x.1 + 1) (a + (m + 1) - (x.1 + 1)) := by
      intro b hb
      rw [hb] at h'
      have e1 : (a, b) = x := (List.cons.inj h').1
      have e2 : pl_ct K (a + 1) m = r := (List.cons.inj h').2
      rw [← e1]
      refine ⟨Nat.le_refl _, by show a < a + (m + 1); omega, ?_⟩
      show r = pl_ct K (a + 1) (a + (m + 1) - (a + 1))
      rw [← e2, show a + (m + 1) - (a + 1) = m by omega]
    by_cases k2 : K a = 2
    · exact step _ (by unfold pl_ct1; rw [if_pos k2])
    · by_cases k11 : K a = 11 ∧ K (a + 1) = 12
      · exact step false (by unfold pl_ct1; rw [if_neg k2, if_pos k11])
      · have e : pl_ct1 K a = [] := by unfold pl_ct1; rw [if_neg k2, if_neg k11]
        rw [e, List.nil_append] at h'
        obtain ⟨i1, i2, i3⟩ := ih (a + 1) x r h'
        exact ⟨by omega, by omega, by rw [i3, show a + 1 + m - (x.1 + 1) = a + (m + 1) - (x.1 + 1) by omega]⟩
theorem pl_cl_ni {K : Nat → Nat} : ∀ (F : List pl_N) (b : Bool) (a m : Nat), pl_cl b F = pl_ct K a m → pl_ni F a (a + m) := by
  intro F
  induction F with
  | nil => intro b a m _; show a ≤ a + m; omega
  | cons e l ih =>
    intro b a m h
    have h' : (if e.1 = 13 then [(e.2.1, b)] else if e.1 = 16 ∧ e.2.2.2 ≠ 1 then [(e.2.1, false)] else []) ++ pl_cl (e.1 == 14) l = pl_ct K a m := h
    unfold pl_ni
    by_cases q : e.1 = 13
    · rw [if_pos q] at h' ⊢
      obtain ⟨i1, i2, i3⟩ := pl_ct_head m a (e.2.1, b) _ h'.symm
      refine ⟨i1, ?_⟩
      have := ih _ _ _ i3
      have i1' : a ≤ e.2.1 := i1
      have i2' : e.2.1 < a + m := i2
      rw [show (e.2.1, b).1 + 1 + (a + m - ((e.2.1, b).1 + 1)) = a + m by show e.2.1 + 1 + (a + m - (e.2.1 + 1)) = a + m; omega] at this
      exact this
    · rw [if_neg q] at h' ⊢
      by_cases q6 : e.1 = 16 ∧ e.2.2.2 ≠ 1
      · rw [if_pos q6] at h'
        obtain ⟨i1, i2, i3⟩ := pl_ct_head m a (e.2.1, false) _ h'.symm
        have := ih _ _ _ i3
        have i1' : a ≤ e.2.1 := i1
        have i2' : e.2.1 < a + m := i2
        rw [show (e.2.1, false).1 + 1 + (a + m - ((e.2.1, false).1 + 1)) = a + m by show e.2.1 + 1 + (a + m - (e.2.1 + 1)) = a + m; omega] at this
        exact pl_ni_lo _ _ _ _ (by show a ≤ e.2.1 + 1; omega) this
      · rw [if_neg q6, List.nil_append] at h'
        exact ih _ _ _ h'
theorem pl_cm.ni {K : Nat → Nat} {a b : Nat} {F : List pl_N} (h : pl_cm K a b F) : pl_ni F a b := by
  obtain ⟨h1, h2, h3, h4⟩ := h
  have := pl_cl_ni F false a (b - a) h3
  rw [show a + (b - a) = b by omega] at this
  exact this
/-- records in the order of their tokens: each has its own ones from its first on, up to the last number of its record -/
def pl_od : List pl_S → Nat → Nat → Prop
  | [], a, b => a ≤ b
  | r :: l, a, b => (a ≤ r.2.1 ∧ r.2.1 ≤ r.2.2.2.2.2.2) ∧ pl_od l r.2.2.2.2.2.2 b
theorem pl_od_le : ∀ (A : List pl_S) (a b : Nat), pl_od A a b → a ≤ b := by
  intro A
  induction A with
  | nil => intro a b h; exact h
  | cons r l ih => intro a b h; have := ih _ _ h.2; have := h.1; omega
theorem pl_od_lo : ∀ (A : List pl_S) (a a' b : Nat), a' ≤ a → pl_od A a b → pl_od A a' b := by
  intro A
  cases A with
  | nil => intro a a' b h1 h; exact Nat.le_trans h1 h
  | cons r l => intro a a' b h1 h; exact ⟨⟨by have := h.1.1; omega, h.1.2⟩, h.2⟩
theorem pl_od_app : ∀ (A C : List pl_S) (a m b : Nat), pl_od A a m → pl_od C m b → pl_od (A ++ C) a b := by
  intro A
  induction A with
  | nil => intro C a m b h1 h2; exact pl_od_lo C m a b h1 h2
  | cons r l ih => intro C a m b h1 h2; exact ⟨h1.1, ih C _ m b h1.2 h2⟩
theorem pl_od_hi {A : List pl_S} {a b b' : Nat} (h : pl_od A a b) (hh : b ≤ b') : pl_od A a b' := by
  have := pl_od_app A [] a b b' h hh
  rw [List.append_nil] at this
  exact this
/-- each token has a byte at least -/
theorem pl_Pm {T : pl_Tx} {σ τ : pr_St} (h : pl_tt T σ τ) : ∀ m t : Nat, t + m < pl_xc T → pl_xP T t + m ≤ pl_xP T (t + m) := by
  obtain ⟨_, _, _, _, ⟨w1, w2, w3, w4⟩, _⟩ := h
  intro m
  induction m with
  | zero => intro t _; exact Nat.le_refl _
  | succ m ih =>
    intro t ht
    have a := ih t (by omega)
    have b := w3 (t + m) (by omega)
    rw [show t + (m + 1) = t + m + 1 by omega]
    omega
/-- a word has two bytes at least -/
theorem pl_P2 {T : pl_Tx} {σ τ : pr_St} (h : pl_tt T σ τ) {t : Nat} (ht : t + 1 < pl_xc T) (h4 : 4 ≤ pl_xK T t) (h11 : pl_xK T t ≤ 11) : pl_xP T t + 2 ≤ pl_xP T (t + 1) := by
  obtain ⟨_, _, _, _, ⟨w1, w2, w3, w4⟩, wF⟩ := h
  have a := (wF t (by omega)).2.2.1 h4 h11
  have b := (w3 t ht).2.2
  omega
theorem pl_P8 {T : pl_Tx} {σ τ : pr_St} (h : pl_tt T σ τ) {t : Nat} (ht : t < pl_xc T) : pl_xP T t ≤ 8000 := by
  obtain ⟨n1, _, _, _, nW, _⟩ := h
  have := pl_Pn nW (pl_xc T - (t + 1)) t (by omega)
  omega
/-- opening a statement -/
theorem pl_openS {T : pl_Tx} {a q d s : Nat} {σ τ : pr_St} (g : pl_gs T a q d s σ τ) (hs : s ≤ 2000) {k : Nat} (hk : k < 64) : ∃ σ1, prf_G_openStatement σ (nI k) (σ.1 3 2) = some (nI s, σ1) ∧ pl_gs T a q d (s + 1) σ1 τ ∧ pl_fs q s σ σ1 ∧ pl_op σ1 s k a q 0 ∧ (∀ z, σ1.2.1 22 z = σ.2.1 22 z ∧ σ1.2.1 23 z = σ.2.1 23 z) := by
  obtain ⟨⟨g1, g2, g3, g4, g5, g6⟩, gs⟩ := g
  have hfr : pl_fr pl_FS pl_GS σ (pr_sI (pr_sA (pr_sA (pr_sA (pr_sA σ 17 (upd (σ.2.1 17) s (nI k))) 18 (upd (σ.2.1 18) s (nI a))) 19 (upd (σ.2.1 19) s (nI q))) 20 (upd (σ.2.1 20) s 0)) 2 11 (nI (s + 1))) :=
    ((((pl_sA_fr (o := 17) rfl).tr (pl_sA_fr (o := 18) rfl)).tr (pl_sA_fr (o := 19) rfl)).tr (pl_sA_fr (o := 20) rfl)).tr (pl_sI_fr (o := 2) (k := 11) rfl)
  have e17 : (pr_sI (pr_sA (pr_sA (pr_sA (pr_sA σ 17 (upd (σ.2.1 17) s (nI k))) 18 (upd (σ.2.1 18) s (nI a))) 19 (upd (σ.2.1 19) s (nI q))) 20 (upd (σ.2.1 20) s 0)) 2 11 (nI (s + 1))).2.1 17 = upd (σ.2.1 17) s (nI k) := rfl
  have e18 : (pr_sI (pr_sA (pr_sA (pr_sA (pr_sA σ 17 (upd (σ.2.1 17) s (nI k))) 18 (upd (σ.2.1 18) s (nI a))) 19 (upd (σ.2.1 19) s (nI q))) 20 (upd (σ.2.1 20) s 0)) 2 11 (nI (s + 1))).2.1 18 = upd (σ.2.1 18) s (nI a) := rfl
  have e19 : (pr_sI (pr_sA (pr_sA (pr_sA (pr_sA σ 17 (upd (σ.2.1 17) s (nI k))) 18 (upd (σ.2.1 18) s (nI a))) 19 (upd (σ.2.1 19) s (nI q))) 20 (upd (σ.2.1 20) s 0)) 2 11 (nI (s + 1))).2.1 19 = upd (σ.2.1 19) s (nI q) := rfl
  have e20 : (pr_sI (pr_sA (pr_sA (pr_sA (pr_sA σ 17 (upd (σ.2.1 17) s (nI k))) 18 (upd (σ.2.1 18) s (nI a))) 19 (upd (σ.2.1 19) s (nI q))) 20 (upd (σ.2.1 20) s 0)) 2 11 (nI (s + 1))).2.1 20 = upd (σ.2.1 20) s 0 := rfl
  have hfs : pl_fs q s σ (pr_sI (pr_sA (pr_sA (pr_sA (pr_sA σ 17 (upd (σ.2.1 17) s (nI k))) 18 (upd (σ.2.1 18) s (nI a))) 19 (upd (σ.2.1 19) s (nI q))) 20 (upd (σ.2.1 20) s 0)) 2 11 (nI (s + 1))) := by
    refine ⟨hfr, fun r z h1 h2 _ => ?_, fun r z h1 h2 hz => ?_⟩
    · have hr : r = 22 ∨ r = 23 := by omega
      rcases hr with rfl | rfl <;> rfl
    · have hr : r = 17 ∨ r = 18 ∨ r = 19 ∨ r = 20 ∨ r = 21 := by omega
      have hne : z ≠ s := by omega
      rcases hr with rfl | rfl | rfl | rfl | rfl
      · rw [e17, pk_un hne]
      · rw [e18, pk_un hne]
      · rw [e19, pk_un hne]
      · rw [e20, pk_un hne]
      · rfl
  refine ⟨_, ?_, ⟨⟨pl_tt_fr g1 hfr (pl_fr.rf (F := pl_FQ) (G := pl_GD)) ⟨rfl, rfl, rfl, rfl, rfl, rfl⟩ ⟨rfl, rfl, rfl, rfl, rfl, rfl⟩, ⟨?_, g2.2⟩, g3, g4, ?_, g6⟩, pr_sI_same⟩, hfs, ⟨?_, ?_, ?_, ?_⟩, fun z => ⟨rfl, rfl⟩⟩
  · unfold prf_G_openStatement
    rw [gs, g2.1, g5, if_pos (show nI s < 2001 from nI_lt (b := 2001) (by omega) (by omega)), pl_ck (by omega) (by omega), pl_ck (by omega) (by omega), pl_ck (by omega) (by omega), pl_ck (by omega) (by omega), nI_clamp (by omega), pl_k8b k hk, nI_1]
  · rw [pr_sI_ne (by omega)]; exact g2.1
  · rw [pr_sI_ne (by omega)]; exact g5
  · rw [e17, pk_us]
  · rw [e18, pk_us]
  · rw [e19, pk_us]
  · rw [e20, pk_us]; rfl
/-- closing a statement -/
theorem pl_closeS {σ : pr_St} {s s2 : Nat} (hc : σ.1 2 11 = nI s2) (h : s < s2) (h2 : s2 ≤ 2001) (v : Int32) : ∃ σc, (∀ x : Int32, ((prf_G_closeStatement σ (nI s)).bind fun r => some (x, pr_sI r 3 3 v)) = some (x, σc)) ∧ σc.1 3 3 = v ∧ σc.2.1 21 s = nI s2 ∧ (∀ r z, ¬ (r = 21 ∧ z = s) → σc.2.1 r z = σ.2.1 r z) ∧ (∀ o k, ¬ (o = 3 ∧ k = 3) → σc.1 o k = σ.1 o k) ∧ σc.2.2 = σ.2.2 := by
  refine ⟨pr_sI (pr_sA σ 21 (upd (σ.2.1 21) s (nI s2))) 3 3 v, fun x => ?_, pr_sI_same, ?_, fun r z hrz => ?_, fun o k hok => ?_, rfl⟩
  · unfold prf_G_closeStatement prf_G_isStatement
    rw [if_neg (nI_pos (by omega)), hc, if_neg (nI_ge h (by omega)), pl_sb, if_neg pl_10, pl_ck (by omega) (by omega), nI_clamp (by omega), pl_sb]
  · show upd (σ.2.1 21) s (nI s2) s = _
    rw [pk_us]
  · show (pr_sA σ 21 (upd (σ.2.1 21) s (nI s2))).2.1 r z = _
    by_cases hr : r = 21
    · subst hr
      rw [pl_sA_same, pk_un (fun q => hrz ⟨rfl, q⟩)]
    · rw [pl_sA_ne hr]
  · rw [pr_sI_ne hok]; rfl
theorem pl_close_fs {σ σc : pr_St} {s q : Nat} (hr : ∀ r z, ¬ (r = 21 ∧ z = s) → σc.2.1 r z = σ.2.1 r z) (ho : ∀ o k, ¬ (o = 3 ∧ k = 3) → σc.1 o k = σ.1 o k) (hl : σc.2.2 = σ.2.2) : pl_fs q s σ σc := by
  refine ⟨⟨fun o k h => ho o k (fun q => ?_), fun r h => funext (fun z => hr r z (fun q => ?_)), hl⟩, fun r z h1 h2 _ => hr r z (fun q => by omega), fun r z h1 h2 hz => hr r z (fun q => by omega)⟩
  · rw [q.1, q.2] at h; cases h
  · rw [q.1] at h; cases h
theorem pl_close_gs {T : pl_Tx} {a q d s2 s : Nat} {σ σc τ : pr_St} (g : pl_gs T a q d s2 σ τ) (hr : ∀ r z, ¬ (r = 21 ∧ z = s) → σc.2.1 r z = σ.2.1 r z) (ho : ∀ o k, ¬ (o = 3 ∧ k = 3) → σc.1 o k = σ.1 o k) (hl : σc.2.2 = σ.2.2) : pl_gs T a q d s2 σc τ := by
  obtain ⟨⟨g1, g2, g3, g4, g5, g6⟩, gs⟩ := g
  have hf := pl_close_fs (q := 0) hr ho hl
  exact ⟨⟨pl_tt_fr g1 hf.1 (pl_fr.rf (F := pl_FQ) (G := pl_GD)) ⟨rfl, rfl, rfl, rfl, rfl, rfl⟩ ⟨rfl, rfl, rfl, rfl, rfl, rfl⟩, ⟨by rw [ho 3 2 (by omega)]; exact g2.1, g2.2⟩, g3, g4, by rw [ho 2 14 (by omega)]; exact g5, g6⟩, by rw [ho 2 11 (by omega)]; exact gs⟩
theorem pl_close_bd {T : pl_Tx} {a d0 m s : Nat} {σ σc τ : pr_St} (b : pl_bd T a d0 m σ τ) (hr : ∀ r z, ¬ (r = 21 ∧ z = s) → σc.2.1 r z = σ.2.1 r z) (ho : ∀ o k, ¬ (o = 3 ∧ k = 3) → σc.1 o k = σ.1 o k) (hl : σc.2.2 = σ.2.2) : pl_bd T a d0 m σc τ := by
  obtain ⟨b1, b2, b3, b4, b5, b6⟩ := b
  have hf := pl_close_fs (q := 0) hr ho hl
  exact ⟨pl_tt_fr b1 hf.1 (pl_fr.rf (F := pl_FQ) (G := pl_GD)) ⟨rfl, rfl, rfl, rfl, rfl, rfl⟩ ⟨rfl, rfl, rfl, rfl, rfl, rfl⟩, ⟨by rw [ho 3 2 (by omega)]; exact b2.1, b2.2⟩, b3, b4, b5, b6⟩
/-- a phrase of statements on both sides -/
def pl_phS (T : pl_Tx) (Φ : Nat → Nat → List pl_N → List pl_S → List pl_O → Int32 → Prop) (a q d s : Nat) (σ τ : pr_St) (rC rX : Option (Int32 × pr_St)) : Prop :=
  ∃ (a' : Nat) (σ' τ' : pr_St), a ≤ a' ∧ pl_fs q s σ σ' ∧ pl_fx d τ τ' ∧
    ((∃ (y d' : Nat) (F : List pl_N) (S : List pl_S) (O : List pl_O), rC = some (1, σ') ∧ rX = some (nI y, τ') ∧ pl_gs T a' (q + O.length) d' (s + S.length) σ' τ' ∧ O.length + a ≤ a' ∧ 5 * d' + 8 * a + 3 ≤ 5 * d + 8 * a' ∧ 4 * S.length + pl_xP T a ≤ pl_xP T a' ∧ pl_tr τ' (pl_xP T) d d' y F ∧ pl_ops σ' q O ∧ pl_sts σ' s S ∧ (pl_ni F a a' ∧ pl_od S a a') ∧ Φ s q F S O (σ'.1 3 3)) ∨
     (rC = some (0, σ') ∧ ∃ v, rX = some (v, τ') ∧ pl_bd T a' d 5 σ' τ' ∧ pl_vi d v))
def pl_spS (T : pl_Tx) (Φ : Nat → Nat → List pl_N → List pl_S → List pl_O → Int32 → Prop) (fC fX : pr_St → Option (Int32 × pr_St)) : Prop :=
  ∀ (a q d s : Nat) (σ τ : pr_St), pl_gs T a q d s σ τ → q ≤ a → d ≤ 2 * a → 4 * s ≤ pl_xP T a → pl_phS T Φ a q d s σ τ (fC σ) (fX τ)
/-- the end of a statement without BLOCKs: its semicolon -/
theorem pl_semiS {T : pl_Tx} {a q d s b q' d' y kd det : Nat} {σ τ σb τb : pr_St} {F : List pl_N} {O : List pl_O} {E : List (Nat × Bool)} {rC rX : Option (Int32 × pr_St)} {Φ : Nat → Nat → List pl_N → List pl_S → List pl_O → Int32 → Prop} (hs : s ≤ 2000) (g : pl_gs T b q' d' (s + 1) σb τb) (hle : a ≤ b) (fs : pl_fs q s σ σb) (fx : pl_fx d τ τb) (hq' : q' = q + O.length) (hO : O.length + a ≤ b) (hd' : 5 * d' + 8 * a ≤ 5 * d + 8 * b + 5) (hd2 : d' ≤ 2 * b + 5) (hP : pl_xP T a + 3 ≤ pl_xP T b) (tr : pl_tr τb (pl_xP T) d d' y F) (ops : pl_ops σb q O) (op : pl_op σb s kd a q det) (ni : pl_ni F a b) (hΦ : pl_xK T b = 19 → Φ s q F [(kd, a, q, det, s + 1, E, b + 1)] O (nI kd))
    (eC : rC = (prf_R_take σb 19).bind fun r => if r.1 = 0 then (prf_G_closeStatement r.2 (nI s)).bind fun r' => some (0, pr_sI r' 3 3 (nI kd)) else (prf_G_closeStatement r.2 (nI s)).bind fun r' => some (1, pr_sI r' 3 3 (nI kd)))
    (eX : rX = (prf_X_take τb 59).bind fun r => some (nI y, r)) : pl_phS T Φ a q d s σ τ rC rX := by
  have h8 := pl_gd8 g.1
  have ivt := tr.iv
  by_cases k19 : pl_xK T b = 19
  · obtain ⟨σ1, τ1, c1, c1', x1, g1, fc1, fx1, s1, r1⟩ := pl_takeA g.1 k19 (by decide)
    have gs1 : pl_gs T (b + 1) q' d' (s + 1) σ1 τ1 := ⟨g1, by rw [← c1', pr_sI_ne (by omega)]; exact g.2⟩
    obtain ⟨σ2, e2, v2, r21, rr, oo, ll⟩ := pl_closeS (s := s) gs1.2 (by omega) (by omega) (nI kd)
    have c1'' : prf_R_take σb 19 = some (1, σ1) := c1
    have x1'' : prf_X_take τb 59 = some τ1 := x1
    rw [c1'', pl_sb, if_neg (show ¬ ((1 : Int32), σ1).1 = 0 from pl_10), e2] at eC
    rw [x1'', pl_sb] at eX
    have hP1 := pl_Pm g.1.1 1 b (by have := g1.2.2.1; omega)
    refine ⟨b + 1, σ2, τ1, by omega, (fs.tr (fc1 q).fs (Nat.le_refl _) (Nat.le_refl _)).tr (pl_close_fs rr oo ll) (Nat.le_refl _) (Nat.le_refl _), fx.tr (fx1 d) (Nat.le_refl _), Or.inl ⟨y, d', F, [(kd, a, q, det, s + 1, E, b + 1)], O, eC, eX, ?_, by omega, by omega, ?_, tr.fx (fx1 d') (Nat.le_refl _), ?_, ?_, ⟨pl_ni_hi ni (by omega), ⟨Nat.le_refl _, by show a ≤ b + 1; omega⟩, Nat.le_refl _⟩, by rw [v2]; exact hΦ k19⟩⟩
    · rw [← hq']
      exact pl_close_gs gs1 rr oo ll
    · show 4 * 1 + pl_xP T a ≤ _
      omega
    · refine pl_ops_fs (q := q + O.length) (s := 0) (pl_fs.tr (fc1 _).fs (⟨(pl_close_fs (q := q + O.length) rr oo ll).1, (pl_close_fs (q := q + O.length) rr oo ll).2.1, fun r z _ _ hz => absurd hz (Nat.not_lt_zero _)⟩) (Nat.le_refl _) (Nat.le_refl _)) O q (Nat.le_refl _) ops
    · have op1 := pl_op_fc op (fc1 0)
      refine ⟨⟨?_, ?_, ?_, ?_, r21⟩, trivial⟩
      · rw [rr 17 s (by omega)]; exact op1.1
      · rw [rr 18 s (by omega)]; exact op1.2.1
      · rw [rr 19 s (by omega)]; exact op1.2.2.1
      · rw [rr 20 s (by omega)]; exact op1.2.2.2
  · obtain ⟨c1, τ1, x1, b1, fx1⟩ := pl_takeZ g.1 (k := 19) (by decide) k19
    obtain ⟨σ2, e2, v2, r21, rr, oo, ll⟩ := pl_closeS (s := s) g.2 (by omega) (by omega) (nI kd)
    have c1'' : prf_R_take σb 19 = some (0, σb) := c1
    have x1'' : prf_X_take τb 59 = some τ1 := x1
    rw [c1'', pl_sb, if_pos rfl, e2] at eC
    rw [x1'', pl_sb] at eX
    exact ⟨b, σ2, τ1, hle, fs.tr (pl_close_fs rr oo ll) (Nat.le_refl _) (Nat.le_refl _), fx.tr (fx1 d) (Nat.le_refl _), Or.inr ⟨eC, nI y, eX, pl_close_bd (b1 d 5 (by omega) hd2) rr oo ll, pl_vi1 (by omega) (by omega)⟩⟩
/-- a statement that fails -/
theorem pl_failS {T : pl_Tx} {a q d s s2 b : Nat} {σ τ σb τb : pr_St} {v kd : Int32} {rC rX : Option (Int32 × pr_St)} {Φ : Nat → Nat → List pl_N → List pl_S → List pl_O → Int32 → Prop} (hc : σb.1 2 11 = nI s2) (hs : s < s2) (hs2 : s2 ≤ 2001) (hle : a ≤ b) (fs : pl_fs q s σ σb) (fx : pl_fx d τ τb) (bd : pl_bd T b d 5 σb τb) (vi : pl_vi d v) (eC : rC = (prf_G_closeStatement σb (nI s)).bind fun r' => some (0, pr_sI r' 3 3 kd)) (eX : rX = some (v, τb)) : pl_phS T Φ a q d s σ τ rC rX := by
  obtain ⟨σ2, e2, v2, r21, rr, oo, ll⟩ := pl_closeS (s := s) hc hs hs2 kd
  rw [e2] at eC
  exact ⟨b, σ2, τb, hle, fs.tr (pl_close_fs rr oo ll) (Nat.le_refl _) (Nat.le_refl _), fx, Or.inr ⟨eC, v, eX, pl_close_bd bd rr oo ll, vi⟩⟩
