/-! THE LAYOUT: what stands when it begins, and stays -/
def pl_FL (o _k : Nat) : Bool := o == 4 || o == 5 || o == 6
def pl_GL (a : Nat) : Bool := Nat.ble 24 a && Nat.ble a 46
def pl_FM (o k : Nat) : Bool := o == 0 && (k == 33 || (Nat.ble 42 k && Nat.ble k 48))
def pl_GM (a : Nat) : Bool := Nat.ble 20 a && Nat.ble a 32
theorem pl_GL_lo {a : Nat} (h : a < 24) : pl_GL a = false := by
  unfold pl_GL
  have : Nat.ble 24 a = false := by
    cases q : Nat.ble 24 a with
    | false => rfl
    | true => exact absurd (Nat.le_of_ble_eq_true q) (by omega)
  rw [this]; rfl
theorem pl_GM_lo {a : Nat} (h : a < 20) : pl_GM a = false := by
  unfold pl_GM
  have : Nat.ble 20 a = false := by
    cases q : Nat.ble 20 a with
    | false => rfl
    | true => exact absurd (Nat.le_of_ble_eq_true q) (by omega)
  rw [this]; rfl
def pl_bs (T : pl_Tx) (m : Nat) (rep : Nat → Nat) (Ps : List pl_En) (σ τ : pr_St) : Prop :=
  pl_tt T σ τ ∧ pl_by8 σ ∧ (∀ j k, j < k → k < m → ¬ pl_sn T (rep j) (rep k)) ∧ m ≤ 8000 ∧ ¬ Ps = [] ∧ Ps.length ≤ 889 ∧ pl_tS Ps ≤ 2000 ∧ pl_tO Ps ≤ 8000 ∧ pl_tF Ps ≤ 12850 ∧ σ.1 2 5 = nI Ps.length ∧ σ.1 2 11 = nI (pl_tS Ps) ∧ σ.1 2 14 = nI (pl_tO Ps) ∧ τ.1 0 24 = nI (1 + pl_tF Ps) ∧ pl_od (pl_aS Ps) 0 (pl_xc T) ∧ pl_pgs T σ τ m rep 0 1 0 0 Ps
theorem pl_bs_fr {T : pl_Tx} {m : Nat} {rep : Nat → Nat} {Ps : List pl_En} {σ τ σ' τ' : pr_St} (h : pl_bs T m rep Ps σ τ) (f1 : pl_fr pl_FL pl_GL σ σ') (f2 : pl_fr pl_FM pl_GM τ τ') : pl_bs T m rep Ps σ' τ' := by
  obtain ⟨h1, h2, h3, h4, h5, h6, h7, h8, h9, h10, h11, h12, h13, h14, h15⟩ := h
  refine ⟨pl_tt_fr h1 f1 f2 ⟨rfl, rfl, rfl, rfl, rfl, rfl⟩ ⟨rfl, rfl, rfl, rfl, rfl, rfl⟩, ?_, h3, h4, h5, h6, h7, h8, h9, ?_, ?_, ?_, ?_, h14, ?_⟩
  · intro j
    rw [f1.2.1 8 rfl]
    exact h2 j
  · rw [f1.1 2 5 rfl]; exact h10
  · rw [f1.1 2 11 rfl]; exact h11
  · rw [f1.1 2 14 rfl]; exact h12
  · rw [f2.1 0 24 rfl]; exact h13
  · exact pl_pgs_eq (Nat.le_refl _) (fun _ _ => rfl) Ps 0 1 0 0 (fun r z _ hr _ => by rw [f1.2.1 r (pl_GL_lo (by omega))]) (fun r z _ hr _ => by rw [f1.2.1 r (pl_GL_lo (by omega))]) (fun r z _ hr _ => by rw [f1.2.1 r (pl_GL_lo (by omega))]) (fun r z _ hr _ _ => by rw [f2.2.1 r (pl_GM_lo (by omega))]) h15
/-- a statement in its place -/
def pl_is (T : pl_Tx) (m : Nat) (rep : Nat → Nat) (Ps : List pl_En) (σ τ : pr_St) (f b k s q : Nat) (E : List (Nat × Bool)) (F : List pl_N) (S : List pl_S) (O : List pl_O) : Prop :=
  pl_sT T f s q E F S O ∧ pl_nd T τ m rep k F ∧ pl_wh τ k (nI b) F ∧ pl_sts σ s S ∧ pl_ops σ q O ∧ pl_sl (pl_aS Ps) s S ∧ (b < k ∧ k + F.length ≤ 12860 ∧ s + S.length ≤ 2000 ∧ q + O.length ≤ 8000) ∧ pl_nq σ (s + S.length) (q + O.length)
def pl_il (T : pl_Tx) (m : Nat) (rep : Nat → Nat) (Ps : List pl_En) (σ τ : pr_St) (f b : Nat) : Nat → Nat → Nat → List (Nat × Bool) → List (List pl_N × List pl_S × List pl_O) → Prop
  | _, _, _, _, [] => True
  | k, s, q, E, e :: l => pl_is T m rep Ps σ τ f b k s q E e.1 e.2.1 e.2.2 ∧ pl_il T m rep Ps σ τ f b (k + e.1.length) (s + e.2.1.length) (q + e.2.2.length) (pl_ex (pl_xK T) E e.2.1) l
theorem pl_ops_fr {σ σ' : pr_St} (h22 : σ'.2.1 22 = σ.2.1 22) (h23 : σ'.2.1 23 = σ.2.1 23) : ∀ (a : List pl_O) (q : Nat), pl_ops σ q a → pl_ops σ' q a := by
  intro a
  induction a with
  | nil => intro q _; trivial
  | cons e l ih =>
    intro q h
    exact ⟨by rw [h22]; exact h.1, by rw [h23]; exact h.2.1, ih _ h.2.2⟩
theorem pl_sts_l {σ : pr_St} : ∀ (a b : List pl_S) (s : Nat), pl_sts σ s (a ++ b) → pl_sts σ s a ∧ pl_sts σ (s + a.length) b := by
  intro a
  induction a with
  | nil => intro b s h; exact ⟨trivial, h⟩
  | cons e l ih =>
    intro b s h
    obtain ⟨h1, h2⟩ := ih b (s + 1) h.2
    refine ⟨⟨h.1, h1⟩, ?_⟩
    rw [List.length_cons, show s + (l.length + 1) = s + 1 + l.length by omega]
    exact h2
theorem pl_nq_fr {σ σ' : pr_St} {s q : Nat} (h : pl_nq σ s q) (f1 : pl_fr pl_FL pl_GL σ σ') : pl_nq σ' s q := by
  unfold pl_nq prf_G_firstOperationOf prf_G_isStatement at *
  rw [f1.1 2 11 rfl, f1.1 2 14 rfl, f1.2.1 19 rfl]
  exact h
theorem pl_is_fr {T : pl_Tx} {m : Nat} {rep : Nat → Nat} {Ps : List pl_En} {σ τ σ' τ' : pr_St} {f b k s q : Nat} {E : List (Nat × Bool)} {F : List pl_N} {S : List pl_S} {O : List pl_O} (h : pl_is T m rep Ps σ τ f b k s q E F S O) (f1 : pl_fr pl_FL pl_GL σ σ') (f2 : pl_fr pl_FM pl_GM τ τ') : pl_is T m rep Ps σ' τ' f b k s q E F S O := by
  obtain ⟨h1, h2, h3, h4, h5, h6, h7, h8⟩ := h
  refine ⟨h1, pl_nd_eq (Nat.le_refl _) (fun _ _ => rfl) _ _ (fun r z _ hr _ _ _ => by rw [f2.2.1 r (pl_GM_lo (by omega))]) h2, pl_wh_eq h3 (fun z _ _ => by rw [f2.2.1 16 rfl]), pl_sts_eq _ _ (fun r z _ hr _ _ => by rw [f1.2.1 r (pl_GL_lo (by omega))]) h4, ?_, h6, h7, pl_nq_fr h8 f1⟩
  exact pl_ops_fr (f1.2.1 22 rfl) (f1.2.1 23 rfl) _ _ h5
theorem pl_il_fr {T : pl_Tx} {m : Nat} {rep : Nat → Nat} {Ps : List pl_En} {σ τ σ' τ' : pr_St} {f b : Nat} (f1 : pl_fr pl_FL pl_GL σ σ') (f2 : pl_fr pl_FM pl_GM τ τ') : ∀ (Ls : List (List pl_N × List pl_S × List pl_O)) (k s q : Nat) (E : List (Nat × Bool)), pl_il T m rep Ps σ τ f b k s q E Ls → pl_il T m rep Ps σ' τ' f b k s q E Ls := by
  intro Ls
  induction Ls with
  | nil => intro k s q E _; trivial
  | cons e l ih => intro k s q E h; exact ⟨pl_is_fr h.1 f1 f2, ih _ _ _ _ h.2⟩
/-- a statement's own record -/
theorem pl_sT_hd {T : pl_Tx} {f s q : Nat} {E : List (Nat × Bool)} {F : List pl_N} {S : List pl_S} {O : List pl_O} (h : pl_sT T f s q E F S O) : ∃ r S', S = r :: S' ∧ r.2.2.1 = q ∧ r.2.2.2.2.1 = s + S.length ∧ r.2.2.2.2.2.1 = E := by
  cases f with
  | zero => exact h.elim
  | succ f =>
    rcases h with (⟨_, _, _, _, _, rfl, _⟩ | ⟨_, _, G, _, _, _, _, _, _, _, rfl⟩ | ⟨_, _, _, _, _, _, _, _, rfl, _⟩ | ⟨_, _, G, _, _, _, _, _, _, _, rfl⟩ | ⟨_, _, _, G, H, _, _, _, _, _, _, _, _, _, _, _, _, _, rfl⟩ | ⟨_, _, _, _, Gs, _, _, _, _, _, _, _, rfl, _⟩ | ⟨_, _, C, _, _, _, _, _, _, _, rfl⟩ | ⟨_, _, G, _, _, _, _, _, rfl⟩) | ⟨k, t, b, C, Qc, B1, S1, O1, B2, S2, O2, h1, h2, h3, h4, h5, h6, h7, h8, _, rfl, _⟩
    all_goals first | exact ⟨_, _, rfl, rfl, rfl, rfl⟩ | exact ⟨_, _, rfl, rfl, by show s + 1 + S1.length + S2.length = s + _; rw [List.length_cons, List.length_append]; omega, rfl⟩
/-- the statements of a BLOCK in their places -/
theorem pl_il_mk {T : pl_Tx} {m : Nat} {rep : Nat → Nat} {Ps : List pl_En} {σ τ : pr_St} {f b kk t : Nat} {o v : Int32} (hb : 0 < b) (h11 : σ.1 2 11 = nI (pl_tS Ps)) (h2000 : pl_tS Ps ≤ 2000) : ∀ (Ls : List (List pl_N × List pl_S × List pl_O)) (A : List pl_N) (k s q : Nat) (E : List (Nat × Bool)), k = b + 1 + A.length → pl_ns A → pl_wh τ b o ((kk, t, v, 1 + (A ++ pl_b1 Ls).length) :: (A ++ pl_b1 Ls)) → pl_bl (pl_xK T) (pl_sT T f) s q E Ls → pl_nd T τ m rep k (pl_b1 Ls) → pl_sts σ s (pl_b2 Ls) → pl_ops σ q (pl_b3 Ls) → pl_sl (pl_aS Ps) s (pl_b2 Ls) → k + (pl_b1 Ls).length ≤ 12860 → s + (pl_b2 Ls).length ≤ pl_tS Ps → q + (pl_b3 Ls).length ≤ 8000 → pl_nq σ (s + (pl_b2 Ls).length) (q + (pl_b3 Ls).length) → pl_il T m rep Ps σ τ f b k s q E Ls := by
  intro Ls
  induction Ls with
  | nil => intro A k s q E _ _ _ _ _ _ _ _ _ _ _ _; trivial
  | cons e l ih =>
    intro A k s q E hk hA hw hbl hnd hst hop hsl h1 h2 h3 hnq
    have e1 : pl_b1 (e :: l) = e.1 ++ pl_b1 l := rfl
    have e2 : pl_b2 (e :: l) = e.2.1 ++ pl_b2 l := rfl
    have e3 : pl_b3 (e :: l) = e.2.2 ++ pl_b3 l := rfl
    rw [e1] at hnd h1 hw
    rw [e2] at hst hsl h2 hnq
    rw [e3] at hop h3 hnq
    rw [List.length_append] at h1 h2 h3 hnq
    rw [List.length_append] at hnq
    obtain ⟨n1, n2⟩ := pl_nd_l _ _ _ hnd
    obtain ⟨s1, s2⟩ := pl_sts_l _ _ _ hst
    obtain ⟨o1, o2⟩ := pl_ops_l _ _ _ hop
    obtain ⟨l1, l2⟩ := pl_sl_app hsl
    obtain ⟨b1, b2⟩ := hbl
    have hns : pl_ns e.1 := (pl_sT_vn _ _ _ _ _ _ _ b1).2
    have hw2 : pl_wh τ b o ((kk, t, v, 1 + ((A ++ e.1) ++ pl_b1 l).length) :: ((A ++ e.1) ++ pl_b1 l)) := by rw [List.append_assoc]; exact hw
    have hwe : pl_wh τ k (nI b) e.1 := by
      rw [hk]
      exact pl_wh_part hw2 hA (pl_sT_ro b1)
    have hrest := ih (A ++ e.1) (k + e.1.length) (s + e.2.1.length) (q + e.2.2.length) (pl_ex (pl_xK T) E e.2.1) (by rw [hk, List.length_append]; omega) (pl_ns_app _ _ hA hns) hw2 b2 n2 s2 o2 l2 (by omega) (by omega) (by omega) (by rw [Nat.add_assoc, Nat.add_assoc q]; exact hnq)
    refine ⟨⟨b1, n1, hwe, s1, o1, l1, ⟨by omega, by omega, by omega, by omega⟩, ?_⟩, hrest⟩
    cases l with
    | nil => simpa [pl_b2, pl_b3] using hnq
    | cons x l =>
      obtain ⟨r, S', er, hq, _⟩ := pl_sT_hd b2.1
      have s2' : pl_sts σ (s + e.2.1.length) (x.2.1 ++ pl_b2 l) := s2
      rw [er] at s2'
      have hl : (pl_b2 (x :: l)).length = S'.length + 1 + (pl_b2 l).length := by show (x.2.1 ++ pl_b2 l).length = _; rw [List.length_append, er, List.length_cons]
      exact pl_nq_st h11 h2000 (by omega) (by rw [s2'.1.2.2.1, hq])
