/-! THE PARSER: flat lists of nodes, trees of drafts -/
/-- a node: kind, token, value, size -/
abbrev pl_N : Type := Nat × Nat × Int32 × Nat
/-- an operation and its operand -/
abbrev pl_O : Type := Nat × Int32
def pl_cat : List (Nat × List pl_N) → List pl_N
  | [] => []
  | e :: l => e.2 ++ pl_cat l
theorem pl_cat_app : ∀ a b : List (Nat × List pl_N), pl_cat (a ++ b) = pl_cat a ++ pl_cat b := by
  intro a
  induction a with
  | nil => intro b; rfl
  | cons e l ih => intro b; show e.2 ++ pl_cat (l ++ b) = e.2 ++ pl_cat l ++ pl_cat b; rw [ih, List.append_assoc]
/-- the chain of the parts of a draft -/
def pl_ch (R : Nat → Nat → Int32) : Int32 → List (Nat × List pl_N) → Prop
  | v, [] => v = -1
  | v, e :: l => v = nI e.1 ∧ pl_ch R (R 11 e.1) l
/-- parts that lie apart from each other in S -/
def pl_ks (Q : (Nat → Prop) → Nat → List pl_N → Prop) : (Nat → Prop) → List (Nat × List pl_N) → Prop
  | _, [] => True
  | S, e :: l => ∃ S1 : Nat → Prop, (∀ z, S1 z → S z) ∧ Q S1 e.1 e.2 ∧ pl_ks Q (fun z => S z ∧ ¬ S1 z) l
/-- the draft y is the root of the tree F, all of it lies in S -/
def pl_fl (R : Nat → Nat → Int32) (P : Nat → Nat) : Nat → (Nat → Prop) → Nat → List pl_N → Prop
  | 0 => fun _ _ _ => False
  | f + 1 => fun S y F => S y ∧ ∃ (k t : Nat) (v : Int32) (cs : List (Nat × List pl_N)), F = (k, t, v, 1 + (pl_cat cs).length) :: pl_cat cs ∧ R 6 y = nI k ∧ R 7 y = nI (P t) ∧ R 8 y = v ∧ pl_ch R (R 9 y) cs ∧ pl_ks (pl_fl R P f) (fun z => S z ∧ z ≠ y) cs
theorem pl_ks_S {Q : (Nat → Prop) → Nat → List pl_N → Prop} : ∀ (cs : List (Nat × List pl_N)) (S S' : Nat → Prop), (∀ z, S z → S' z) → pl_ks Q S cs → pl_ks Q S' cs := by
  intro cs
  induction cs with
  | nil => intro S S' _ _; trivial
  | cons e l ih =>
    intro S S' hS h
    obtain ⟨S1, h1, h2, h3⟩ := h
    exact ⟨S1, fun z hz => hS z (h1 z hz), h2, ih _ _ (fun z hz => ⟨hS z hz.1, hz.2⟩) h3⟩
theorem pl_ks_Q {Q Q' : (Nat → Prop) → Nat → List pl_N → Prop} : ∀ (cs : List (Nat × List pl_N)) (S : Nat → Prop), (∀ S1 y F, (∀ z, S1 z → S z) → Q S1 y F → Q' S1 y F) → pl_ks Q S cs → pl_ks Q' S cs := by
  intro cs
  induction cs with
  | nil => intro S _ _; trivial
  | cons e l ih =>
    intro S hQ h
    obtain ⟨S1, h1, h2, h3⟩ := h
    exact ⟨S1, h1, hQ S1 _ _ h1 h2, ih _ (fun S2 y F hs => hQ S2 y F (fun z hz => (hs z hz).1)) h3⟩
theorem pl_ks_in {Q : (Nat → Prop) → Nat → List pl_N → Prop} (hQ : ∀ S y F, Q S y F → S y) : ∀ (cs : List (Nat × List pl_N)) (S : Nat → Prop), pl_ks Q S cs → ∀ e, e ∈ cs → S e.1 := by
  intro cs
  induction cs with
  | nil => intro S _ e he; cases he
  | cons x l ih =>
    intro S h e he
    obtain ⟨S1, h1, h2, h3⟩ := h
    rcases List.mem_cons.mp he with rfl | he
    · exact h1 _ (hQ _ _ _ h2)
    · exact (ih _ h3 e he).1
theorem pl_ks_app {Q : (Nat → Prop) → Nat → List pl_N → Prop} {S' : Nat → Prop} {y : Nat} {F : List pl_N} (hy : Q S' y F) : ∀ (cs : List (Nat × List pl_N)) (S : Nat → Prop), (∀ z, S z → ¬ S' z) → pl_ks Q S cs → pl_ks Q (fun z => S z ∨ S' z) (cs ++ [(y, F)]) := by
  intro cs
  induction cs with
  | nil => intro S _ _; exact ⟨S', fun z hz => Or.inr hz, hy, trivial⟩
  | cons e l ih =>
    intro S hd h
    obtain ⟨S1, h1, h2, h3⟩ := h
    refine ⟨S1, fun z hz => Or.inl (h1 z hz), h2, ?_⟩
    refine pl_ks_S _ _ _ ?_ (ih _ (fun z hz => hd z hz.1) h3)
    intro z hz
    rcases hz with hz | hz
    · exact ⟨Or.inl hz.1, hz.2⟩
    · exact ⟨Or.inr hz, fun q => hd z (h1 z q) hz⟩
theorem pl_fl_in {R : Nat → Nat → Int32} {P : Nat → Nat} {f : Nat} {S : Nat → Prop} {y : Nat} {F : List pl_N} (h : pl_fl R P f S y F) : S y := by
  cases f with
  | zero => exact h.elim
  | succ f => exact h.1
theorem pl_fl_S {R : Nat → Nat → Int32} {P : Nat → Nat} {f : Nat} {S S' : Nat → Prop} {y : Nat} {F : List pl_N} (hS : ∀ z, S z → S' z) (h : pl_fl R P f S y F) : pl_fl R P f S' y F := by
  cases f with
  | zero => exact h
  | succ f =>
    obtain ⟨h0, k, t, v, cs, h1, h2, h3, h4, h5, h6⟩ := h
    exact ⟨hS y h0, k, t, v, cs, h1, h2, h3, h4, h5, pl_ks_S _ _ _ (fun z hz => ⟨hS z hz.1, hz.2⟩) h6⟩
theorem pl_fl_f {R : Nat → Nat → Int32} {P : Nat → Nat} : ∀ (f : Nat) (S : Nat → Prop) (y : Nat) (F : List pl_N), pl_fl R P f S y F → pl_fl R P (f + 1) S y F := by
  intro f
  induction f with
  | zero => intro S y F h; exact h.elim
  | succ f ih =>
    intro S y F h
    obtain ⟨h0, k, t, v, cs, h1, h2, h3, h4, h5, h6⟩ := h
    exact ⟨h0, k, t, v, cs, h1, h2, h3, h4, h5, pl_ks_Q _ _ (fun S1 z G _ hz => ih S1 z G hz) h6⟩
theorem pl_fl_ff {R : Nat → Nat → Int32} {P : Nat → Nat} {S : Nat → Prop} {y : Nat} {F : List pl_N} {f : Nat} (h : pl_fl R P f S y F) : ∀ g : Nat, f ≤ g → pl_fl R P g S y F := by
  intro g hg
  obtain ⟨m, rfl⟩ : ∃ m, g = f + m := ⟨g - f, by omega⟩
  clear hg
  induction m with
  | zero => exact h
  | succ m ih => exact pl_fl_f _ _ _ _ ih
theorem pl_ch_eq {R R' : Nat → Nat → Int32} : ∀ (cs : List (Nat × List pl_N)) (v : Int32), (∀ e, e ∈ cs → R' 11 e.1 = R 11 e.1) → pl_ch R v cs → pl_ch R' v cs := by
  intro cs
  induction cs with
  | nil => intro v _ h; exact h
  | cons e l ih =>
    intro v hR h
    refine ⟨h.1, ?_⟩
    rw [hR e (List.mem_cons_self ..)]
    exact ih _ (fun x hx => hR x (List.mem_cons_of_mem _ hx)) h.2
/-- what a tree reads: the rows of its drafts, but not which part comes behind its root -/
theorem pl_fl_eq {R R' : Nat → Nat → Int32} {P : Nat → Nat} : ∀ (f : Nat) (S : Nat → Prop) (y : Nat) (F : List pl_N), (∀ z, S z → R' 6 z = R 6 z ∧ R' 7 z = R 7 z ∧ R' 8 z = R 8 z ∧ R' 9 z = R 9 z) → (∀ z, S z → z ≠ y → R' 11 z = R 11 z) → pl_fl R P f S y F → pl_fl R' P f S y F := by
  intro f
  induction f with
  | zero => intro S y F _ _ h; exact h
  | succ f ih =>
    intro S y F e1 e2 h
    obtain ⟨h0, k, t, v, cs, h1, h2, h3, h4, h5, h6⟩ := h
    obtain ⟨r6, r7, r8, r9⟩ := e1 y h0
    refine ⟨h0, k, t, v, cs, h1, by rw [r6]; exact h2, by rw [r7]; exact h3, by rw [r8]; exact h4, ?_, ?_⟩
    · rw [r9]
      exact pl_ch_eq cs _ (fun e he => e2 e.1 (pl_ks_in (fun _ _ _ => pl_fl_in) _ _ h6 e he).1 (pl_ks_in (fun _ _ _ => pl_fl_in) _ _ h6 e he).2) h5
    · exact pl_ks_Q _ _ (fun S1 z G hs hz => ih S1 z G (fun w hw => e1 w (hs w hw).1) (fun w hw _ => e2 w (hs w hw).1 (hs w hw).2) hz) h6
theorem pl_ks_join {R R' : Nat → Nat → Int32} {P : Nat → Nat} {f y : Nat} {F : List pl_N} : ∀ (cs : List (Nat × List pl_N)) (S : Nat → Prop) (v : Int32) (z : Nat × List pl_N), pl_ks (pl_fl R P f) S cs → pl_ch R v cs → cs.getLast? = some z → (∀ w, S w → R' 6 w = R 6 w ∧ R' 7 w = R 7 w ∧ R' 8 w = R 8 w ∧ R' 9 w = R 9 w) → (∀ w, S w → w ≠ z.1 → R' 11 w = R 11 w) → R' 11 z.1 = nI y → R' 11 y = -1 → pl_ks (pl_fl R' P f) S cs ∧ pl_ch R' v (cs ++ [(y, F)]) := by
  intro cs
  induction cs with
  | nil => intro S v z _ _ hz; cases hz
  | cons e l ih =>
    intro S v z h hc hz e1 e2 e3 e4
    obtain ⟨S1, h1, h2, h3⟩ := h
    cases l with
    | nil =>
      have ez : e = z := by simpa using hz
      subst ez
      refine ⟨⟨S1, h1, pl_fl_eq f S1 _ _ (fun w hw => e1 w (h1 w hw)) (fun w hw => e2 w (h1 w hw)) h2, trivial⟩, hc.1, ?_⟩
      rw [e3]
      exact ⟨rfl, e4⟩
    | cons e' l' =>
      have hz' : (e' :: l').getLast? = some z := by simpa using hz
      have hm : z ∈ e' :: l' := List.mem_of_getLast? hz'
      have hz1 := pl_ks_in (fun _ _ _ => pl_fl_in) _ _ h3 z hm
      have hne : ∀ w, S1 w → w ≠ z.1 := fun w hw q => hz1.2 (q ▸ hw)
      obtain ⟨i1, i2⟩ := ih _ _ z h3 hc.2 hz' (fun w hw => e1 w hw.1) (fun w hw => e2 w hw.1) e3 e4
      refine ⟨⟨S1, h1, pl_fl_eq f S1 _ _ (fun w hw => e1 w (h1 w hw)) (fun w hw _ => e2 w (h1 w hw) (hne w hw)) h2, i1⟩, hc.1, ?_⟩
      rw [e2 e.1 (h1 _ (pl_fl_in h2)) (hne _ (pl_fl_in h2))]
      exact i2
/-- a draft s with its parts, as far as they are joined -/
def pl_kd (R : Nat → Nat → Int32) (P : Nat → Nat) (f : Nat) (S : Nat → Prop) (s : Nat) (cs : List (Nat × List pl_N)) : Prop := S s ∧ pl_ch R (R 9 s) cs ∧ (∀ e, cs.getLast? = some e → R 10 s = nI e.1) ∧ pl_ks (pl_fl R P f) (fun z => S z ∧ z ≠ s) cs
theorem pl_kd_f {R : Nat → Nat → Int32} {P : Nat → Nat} {f : Nat} {S : Nat → Prop} {s : Nat} {cs : List (Nat × List pl_N)} (h : pl_kd R P f S s cs) {g : Nat} (hg : f ≤ g) : pl_kd R P g S s cs :=
  ⟨h.1, h.2.1, h.2.2.1, pl_ks_Q _ _ (fun _ _ _ _ hz => pl_fl_ff hz g hg) h.2.2.2⟩
theorem pl_kd_S {R : Nat → Nat → Int32} {P : Nat → Nat} {f : Nat} {S S' : Nat → Prop} {s : Nat} {cs : List (Nat × List pl_N)} (h : pl_kd R P f S s cs) (hS : ∀ z, S z → S' z) : pl_kd R P f S' s cs :=
  ⟨hS _ h.1, h.2.1, h.2.2.1, pl_ks_S _ _ _ (fun z hz => ⟨hS z hz.1, hz.2⟩) h.2.2.2⟩
theorem pl_kd_eq {R R' : Nat → Nat → Int32} {P : Nat → Nat} {f : Nat} {S : Nat → Prop} {s : Nat} {cs : List (Nat × List pl_N)} (h : pl_kd R P f S s cs) (hR : ∀ z, S z → R' 6 z = R 6 z ∧ R' 7 z = R 7 z ∧ R' 8 z = R 8 z ∧ R' 9 z = R 9 z ∧ R' 10 z = R 10 z ∧ R' 11 z = R 11 z) : pl_kd R' P f S s cs := by
  obtain ⟨h0, h1, h2, h3⟩ := h
  obtain ⟨_, _, _, r9, r10, _⟩ := hR s h0
  refine ⟨h0, ?_, fun e he => by rw [r10]; exact h2 e he, ?_⟩
  · rw [r9]
    exact pl_ch_eq cs _ (fun e he => (hR e.1 (pl_ks_in (fun _ _ _ => pl_fl_in) _ _ h3 e he).1).2.2.2.2.2) h1
  · exact pl_ks_Q _ _ (fun S1 z G hs hz => pl_fl_eq f S1 z G (fun w hw => ⟨(hR w (hs w hw).1).1, (hR w (hs w hw).1).2.1, (hR w (hs w hw).1).2.2.1, (hR w (hs w hw).1).2.2.2.1⟩) (fun w hw _ => (hR w (hs w hw).1).2.2.2.2.2) hz) h3
/-- a draft without parts -/
theorem pl_kd0 {R : Nat → Nat → Int32} {P : Nat → Nat} {S : Nat → Prop} {s : Nat} (hs : S s) (h : R 9 s = -1) : pl_kd R P 0 S s [] :=
  ⟨hs, h, fun e he => (by cases he), trivial⟩
/-- the whole draft is a tree -/
theorem pl_kd_fl {R : Nat → Nat → Int32} {P : Nat → Nat} {f : Nat} {S : Nat → Prop} {s : Nat} {cs : List (Nat × List pl_N)} (h : pl_kd R P f S s cs) {k t : Nat} {v : Int32} (h6 : R 6 s = nI k) (h7 : R 7 s = nI (P t)) (h8 : R 8 s = v) : pl_fl R P (f + 1) S s ((k, t, v, 1 + (pl_cat cs).length) :: pl_cat cs) :=
  ⟨h.1, k, t, v, cs, rfl, h6, h7, h8, h.2.1, h.2.2.2⟩
/-- what a joining changes -/
def pl_jn (S : Nat → Prop) (τ τ' : pr_St) : Prop := τ'.1 = τ.1 ∧ τ'.2.2 = τ.2.2 ∧ (∀ r, ¬ r = 9 → ¬ r = 10 → ¬ r = 11 → τ'.2.1 r = τ.2.1 r) ∧ ∀ r z, ¬ S z → τ'.2.1 r z = τ.2.1 r z
/-- one more part joins -/
theorem pl_joinK {τ : pr_St} {P : Nat → Nat} {f s y : Nat} {S S' : Nat → Prop} {cs : List (Nat × List pl_N)} {F : List pl_N} (h26 : ∀ z, S z → z < 26000) (hk : pl_kd τ.2.1 P f S s cs) (hy : pl_fl τ.2.1 P f S' y F) (h11 : τ.2.1 11 y = -1) (hy26 : y < 26000) (hd : ∀ z, S z → ¬ S' z) : ∃ τ', prf_X_join τ (nI s) (nI y) = some τ' ∧ pl_jn S τ τ' ∧ pl_kd τ'.2.1 P f (fun z => S z ∨ S' z) s (cs ++ [(y, F)]) ∧ τ'.2.1 11 s = τ.2.1 11 s := by
  obtain ⟨k0, k1, k2, k3⟩ := hk
  have hs := h26 s k0
  have hyS : S' y := pl_fl_in hy
  have hys : ¬ y = s := fun q => hd s k0 (q ▸ hyS)
  cases hcs : cs with
  | nil =>
    subst hcs
    refine ⟨_, pl_join1 hs hy26 k1, ⟨rfl, rfl, fun r a b d => ?_, fun r z hz => ?_⟩, ?_, rfl⟩
    · rw [pl_sA_ne b, pl_sA_ne a]
    · have hzs : z ≠ s := fun q => hz (q ▸ k0)
      by_cases r10 : r = 10
      · subst r10; rw [pl_sA_same, pk_un hzs]
      · rw [pl_sA_ne r10]
        by_cases r9 : r = 9
        · subst r9; rw [pl_sA_same, pk_un hzs]
        · rw [pl_sA_ne r9]
    · have q9 : (pr_sA (pr_sA τ 9 (upd (τ.2.1 9) s (nI y))) 10 (upd (τ.2.1 10) s (nI y))).2.1 9 = upd (τ.2.1 9) s (nI y) := rfl
      have q10 : (pr_sA (pr_sA τ 9 (upd (τ.2.1 9) s (nI y))) 10 (upd (τ.2.1 10) s (nI y))).2.1 10 = upd (τ.2.1 10) s (nI y) := rfl
      have q11 : (pr_sA (pr_sA τ 9 (upd (τ.2.1 9) s (nI y))) 10 (upd (τ.2.1 10) s (nI y))).2.1 11 = τ.2.1 11 := rfl
      refine ⟨Or.inl k0, ?_, ?_, ?_⟩
      · rw [q9, pk_us]
        refine ⟨rfl, ?_⟩
        show _ = _
        rw [q11]; exact h11
      · intro e he
        have : (y, F) = e := by simpa using he
        rw [← this, q10, pk_us]
      · refine ⟨S', fun z hz => ⟨Or.inr hz, fun q => hd s k0 (q ▸ hz)⟩, ?_, trivial⟩
        refine pl_fl_eq (R := τ.2.1) f S' y F (fun z hz => ⟨rfl, rfl, rfl, ?_⟩) (fun z _ _ => rfl) hy
        have hzs : z ≠ s := fun q => hd s k0 (q ▸ hz)
        rw [q9, pk_un hzs]
  | cons e0 l0 =>
    rw [← hcs]
    obtain ⟨z, hz⟩ : ∃ z, cs.getLast? = some z := by
      rw [hcs]; exact ⟨_, List.getLast?_eq_getLast (by simp)⟩
    have hzm : z ∈ cs := List.mem_of_getLast? hz
    have hzS := pl_ks_in (fun _ _ _ => pl_fl_in) _ _ k3 z hzm
    have h9 : ¬ τ.2.1 9 s = -1 := by
      rw [hcs] at k1 k3
      rw [k1.1]
      exact pl_nIm1 (by have := h26 e0.1 (pl_ks_in (fun _ _ _ => pl_fl_in) _ _ k3 e0 (List.mem_cons_self ..)).1; omega)
    refine ⟨_, pl_join2 hs hy26 (h26 z.1 hzS.1) h9 (k2 z hz), ⟨rfl, rfl, fun r a b d => ?_, fun r w hw => ?_⟩, ?_, ?_⟩
    · rw [pl_sA_ne b, pl_sA_ne d]
    · have hws : w ≠ s := fun q => hw (q ▸ k0)
      have hwz : w ≠ z.1 := fun q => hw (q ▸ hzS.1)
      by_cases r10 : r = 10
      · subst r10; rw [pl_sA_same, pk_un hws]
      · rw [pl_sA_ne r10]
        by_cases r11 : r = 11
        · subst r11; rw [pl_sA_same, pk_un hwz]
        · rw [pl_sA_ne r11]
    · generalize hT : pr_sA (pr_sA τ 11 (upd (τ.2.1 11) z.1 (nI y))) 10 (upd (τ.2.1 10) s (nI y)) = T
      have q6 : T.2.1 6 = τ.2.1 6 := by rw [← hT]; rfl
      have q7 : T.2.1 7 = τ.2.1 7 := by rw [← hT]; rfl
      have q8 : T.2.1 8 = τ.2.1 8 := by rw [← hT]; rfl
      have q9 : T.2.1 9 = τ.2.1 9 := by rw [← hT]; rfl
      have q10 : T.2.1 10 = upd (τ.2.1 10) s (nI y) := by rw [← hT]; rfl
      have q11 : T.2.1 11 = upd (τ.2.1 11) z.1 (nI y) := by rw [← hT]; rfl
      have hyz : ¬ y = z.1 := fun q => hd z.1 hzS.1 (q ▸ hyS)
      obtain ⟨i1, i2⟩ := pl_ks_join (R' := T.2.1) (y := y) (F := F) cs _ _ z k3 k1 hz (fun w _ => ⟨by rw [q6], by rw [q7], by rw [q8], by rw [q9]⟩) (fun w _ hw => by rw [q11, pk_un hw]) (by rw [q11, pk_us]) (by rw [q11, pk_un hyz]; exact h11)
      refine ⟨Or.inl k0, ?_, ?_, ?_⟩
      · rw [q9]; exact i2
      · intro e he
        have : (y, F) = e := by simpa using he
        rw [← this, q10, pk_us]
      · have hy' : pl_fl T.2.1 P f S' y F := pl_fl_eq f S' y F (fun w _ => ⟨by rw [q6], by rw [q7], by rw [q8], by rw [q9]⟩) (fun w hw _ => by
          have hwz : w ≠ z.1 := fun q => hd z.1 hzS.1 (q ▸ hw)
          rw [q11, pk_un hwz]) hy
        refine pl_ks_S _ _ _ ?_ (pl_ks_app hy' cs _ (fun w hw => hd w hw.1) i1)
        intro w hw
        rcases hw with hw | hw
        · exact ⟨Or.inl hw.1, hw.2⟩
        · exact ⟨Or.inr hw, fun q => hd s k0 (q ▸ hw)⟩
    · show upd (τ.2.1 11) z.1 (nI y) s = _
      rw [pk_un (fun q => hzS.2 q.symm)]
/-- joining while bad, or a part that counts no more: the rows stay in bounds -/
def pl_jb (d0 : Nat) (R : Nat → Nat → Int32) (s : Nat) : Prop := d0 ≤ s ∧ s < 26000 ∧ (R 9 s = -1 ∨ (¬ R 9 s = -1 ∧ ∃ z, d0 ≤ z ∧ z < 26000 ∧ R 10 s = nI z))
def pl_vi (d0 : Nat) (v : Int32) : Prop := v = -1 ∨ ∃ y, d0 ≤ y ∧ y < 26000 ∧ v = nI y
theorem pl_kd_jb {R : Nat → Nat → Int32} {P : Nat → Nat} {f s d0 : Nat} {S : Nat → Prop} {cs : List (Nat × List pl_N)} (hS : ∀ z, S z → d0 ≤ z ∧ z < 26000) (hk : pl_kd R P f S s cs) : pl_jb d0 R s := by
  obtain ⟨k0, k1, k2, k3⟩ := hk
  refine ⟨(hS s k0).1, (hS s k0).2, ?_⟩
  cases hcs : cs with
  | nil => rw [hcs] at k1; exact Or.inl k1
  | cons e0 l0 =>
    obtain ⟨z, hz⟩ : ∃ z, cs.getLast? = some z := by
      rw [hcs]; exact ⟨_, List.getLast?_eq_getLast (by simp)⟩
    have hzm : z ∈ cs := List.mem_of_getLast? hz
    have hzS := hS _ (pl_ks_in (fun _ _ _ => pl_fl_in) _ _ k3 z hzm).1
    refine Or.inr ⟨?_, z.1, hzS.1, hzS.2, k2 z hz⟩
    rw [hcs] at k1 k3
    rw [k1.1]
    exact pl_nIm1 (by have := (hS e0.1 (pl_ks_in (fun _ _ _ => pl_fl_in) _ _ k3 e0 (List.mem_cons_self ..)).1).2; omega)
theorem pl_joinB {τ : pr_St} {d0 s : Nat} {v : Int32} (j : pl_jb d0 τ.2.1 s) (hv : pl_vi d0 v) : ∃ τ', prf_X_join τ (nI s) v = some τ' ∧ pl_jn (fun z => d0 ≤ z) τ τ' ∧ pl_jb d0 τ'.2.1 s := by
  obtain ⟨hs0, hs, hj⟩ := j
  rcases hv with rfl | ⟨y, hy0, hy, rfl⟩
  · exact ⟨τ, pl_join0, ⟨rfl, rfl, fun _ _ _ _ => rfl, fun _ _ _ => rfl⟩, hs0, hs, hj⟩
  rcases hj with h9 | ⟨h9, z, hz0, hz, h10⟩
  · refine ⟨_, pl_join1 hs hy h9, ⟨rfl, rfl, fun r a b d => ?_, fun r z hz => ?_⟩, hs0, hs, Or.inr ⟨?_, y, hy0, hy, ?_⟩⟩
    · rw [pl_sA_ne b, pl_sA_ne a]
    · have hzs : z ≠ s := fun q => hz (by omega)
      by_cases r10 : r = 10
      · subst r10; rw [pl_sA_same, pk_un hzs]
      · rw [pl_sA_ne r10]
        by_cases r9 : r = 9
        · subst r9; rw [pl_sA_same, pk_un hzs]
        · rw [pl_sA_ne r9]
    · show ¬ upd (τ.2.1 9) s (nI y) s = -1
      rw [pk_us]
      exact pl_nIm1 (by omega)
    · show upd (τ.2.1 10) s (nI y) s = _
      rw [pk_us]
  · refine ⟨_, pl_join2 hs hy hz h9 h10, ⟨rfl, rfl, fun r a b d => ?_, fun r w hw => ?_⟩, hs0, hs, Or.inr ⟨h9, y, hy0, hy, ?_⟩⟩
    · rw [pl_sA_ne b, pl_sA_ne d]
    · have hws : w ≠ s := fun q => hw (by omega)
      have hwz : w ≠ z := fun q => hw (by omega)
      by_cases r10 : r = 10
      · subst r10; rw [pl_sA_same, pk_un hws]
      · rw [pl_sA_ne r10]
        by_cases r11 : r = 11
        · subst r11; rw [pl_sA_same, pk_un hwz]
        · rw [pl_sA_ne r11]
    · show upd (τ.2.1 10) s (nI y) s = _
      rw [pk_us]
