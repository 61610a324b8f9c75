/-! THE LAYOUT: functions -/
theorem pl_pgs_r {T : pl_Tx} {σ τ : pr_St} {m : Nat} {rep : Nat → Nat} : ∀ (a b : List pl_En) (fn n s q : Nat), pl_pgs T σ τ m rep fn n s q (a ++ b) → pl_pgs T σ τ m rep (fn + a.length) (n + pl_tF a) (s + pl_tS a) (q + pl_tO a) b := by
  intro a
  induction a with
  | nil => intro b fn n s q h; exact h
  | cons e l ih =>
    intro b fn n s q h
    have h2 := ih b _ _ _ _ h.2
    have e1 : fn + (e :: l).length = fn + 1 + l.length := by rw [List.length_cons]; omega
    have e2 : n + pl_tF (e :: l) = n + (pl_eF e).length + pl_tF l := by show n + ((pl_eF e).length + pl_tF l) = _; omega
    have e3 : s + pl_tS (e :: l) = s + (pl_b2 e.2.2.2).length + pl_tS l := by show s + ((pl_b2 e.2.2.2).length + pl_tS l) = _; omega
    have e4 : q + pl_tO (e :: l) = q + (pl_b3 e.2.2.2).length + pl_tO l := by show q + ((pl_b3 e.2.2.2).length + pl_tO l) = _; omega
    rw [e1, e2, e3, e4]
    exact h2
theorem pl_aS_len : ∀ Ps : List pl_En, (pl_aS Ps).length = pl_tS Ps := by
  intro Ps
  induction Ps with
  | nil => rfl
  | cons e l ih => show (pl_b2 e.2.2.2 ++ pl_aS l).length = _ + pl_tS l; rw [List.length_append, ih]
/-- where the operations of the next function begin -/
theorem pl_pgs_nq {T : pl_Tx} {σ τ : pr_St} {m S O : Nat} {rep : Nat → Nat} (h11 : σ.1 2 11 = nI S) (hS : S ≤ 2000) (h14 : σ.1 2 14 = nI O) : ∀ (l : List pl_En) (fn n s q : Nat), pl_pgs T σ τ m rep fn n s q l → s + pl_tS l = S → q + pl_tO l = O → pl_nq σ s q := by
  intro l
  induction l with
  | nil =>
    intro fn n s q _ h1 h2
    have h1' : s = S := h1
    have h2' : q = O := h2
    rw [h1', h2']
    exact pl_nq_end h11 hS h14
  | cons e l ih =>
    intro fn n s q h h1 h2
    have h1' : s + ((pl_b2 e.2.2.2).length + pl_tS l) = S := h1
    have h2' : q + ((pl_b3 e.2.2.2).length + pl_tO l) = O := h2
    obtain ⟨⟨_, hst, _, _, _, hK⟩, hr⟩ := h
    cases eL : e.2.2.2 with
    | nil =>
      rw [eL] at hr h1' h2'
      exact ih _ _ _ _ hr (by show s + 0 + pl_tS l = S; simp only [pl_b2, List.length_nil] at h1'; omega) (by show q + 0 + pl_tO l = O; simp only [pl_b3, List.length_nil] at h2'; omega)
    | cons x L =>
      have hbl := hK.2.2.2
      rw [eL] at hbl hst h1'
      obtain ⟨r, S', er, hq, _⟩ := pl_sT_hd hbl.1
      have hst' : pl_sts σ s (x.2.1 ++ pl_b2 L) := hst
      rw [er] at hst'
      have hl : (pl_b2 (x :: L)).length = S'.length + 1 + (pl_b2 L).length := by show (x.2.1 ++ pl_b2 L).length = _; rw [List.length_append, er, List.length_cons]
      exact pl_nq_st h11 hS (by omega) (by rw [hst'.1.2.2.1, hq])
/-- a function in its place -/
def pl_fn (T : pl_Tx) (m : Nat) (rep : Nat → Nat) (Ps : List pl_En) (σ τ : pr_St) (fi nf sf qf : Nat) (e : pl_En) : Prop :=
  Ps[fi]? = some e ∧ nf = 1 + pl_tF (Ps.take fi) ∧ pl_pg1 T σ τ m rep fi nf sf qf e ∧ nf + (pl_eF e).length ≤ 1 + pl_tF Ps ∧ fi < Ps.length ∧ pl_il T m rep Ps σ τ 60 (nf + 2 + e.2.1) (nf + 3 + e.2.1) sf qf (pl_pe (e.1 + 3) e.2.1) e.2.2.2 ∧ sf + (pl_b2 e.2.2.2).length ≤ pl_tS Ps ∧ (nf + (pl_eF e).length = 1 + pl_tF Ps ↔ fi + 1 = Ps.length)
theorem pl_eF_len (e : pl_En) : (pl_eF e).length = 3 + e.2.1 + (pl_b1 e.2.2.2).length := by
  unfold pl_eF pl_eB
  rw [List.length_cons, List.length_cons, List.length_append, pl_par_len, List.length_cons]
  omega
theorem pl_tF_pos : ∀ l : List pl_En, l.length ≤ pl_tF l := by
  intro l
  induction l with
  | nil => exact Nat.le_refl _
  | cons e l ih => show l.length + 1 ≤ (pl_eF e).length + pl_tF l; rw [pl_eF_len]; omega
theorem pl_fn_get {T : pl_Tx} {m : Nat} {rep : Nat → Nat} {Ps : List pl_En} {σ τ : pr_St} (h : pl_bs T m rep Ps σ τ) {fi : Nat} {e : pl_En} (hf : Ps[fi]? = some e) : ∃ sf qf, pl_fn T m rep Ps σ τ fi (1 + pl_tF (Ps.take fi)) sf qf e := by
  obtain ⟨h1, h2, h3, h4, h5, h6, h7, h8, h9, h10, h11, h12, h13, h14, h15⟩ := h
  have hfl : fi < Ps.length := by
    by_cases q : fi < Ps.length
    · exact q
    · rw [List.getElem?_eq_none (by omega)] at hf; cases hf
  have eP : Ps = Ps.take fi ++ e :: Ps.drop (fi + 1) := by
    have := List.take_append_drop fi Ps
    rw [← List.getElem_cons_drop hfl] at this
    rw [List.getElem?_eq_getElem hfl] at hf
    rw [Option.some.inj hf] at this
    exact this.symm
  obtain ⟨A, hA⟩ : ∃ A, A = Ps.take fi := ⟨_, rfl⟩
  obtain ⟨C, hC⟩ : ∃ C, C = Ps.drop (fi + 1) := ⟨_, rfl⟩
  have hlA : A.length = fi := by rw [hA, List.length_take]; omega
  rw [← hA, ← hC] at eP
  have hlC : fi + 1 + C.length = Ps.length := by rw [eP, List.length_append, List.length_cons]; omega
  have hpg := h15
  rw [eP] at hpg
  have hpg := pl_pgs_r _ _ _ _ _ _ hpg
  obtain ⟨g1, g2⟩ := hpg
  have eF : pl_tF Ps = pl_tF A + ((pl_eF e).length + pl_tF C) := by rw [eP, pl_tF_app]; rfl
  have eS : pl_tS Ps = pl_tS A + ((pl_b2 e.2.2.2).length + pl_tS C) := by rw [eP, pl_tS_app]; rfl
  have eO : pl_tO Ps = pl_tO A + ((pl_b3 e.2.2.2).length + pl_tO C) := by rw [eP, pl_tO_app]; rfl
  have enf : 1 + pl_tF (Ps.take fi) = 1 + pl_tF A := by rw [hA]
  rw [enf]
  rw [hlA, show 0 + fi = fi by omega] at g1
  refine ⟨0 + pl_tS A, 0 + pl_tO A, hf, by rw [← hA], g1, by omega, hfl, ?_, by omega, ?_⟩
  · obtain ⟨_, p2, p3, p4, p5, p6⟩ := g1
    have elen := pl_eF_len e
    obtain ⟨n1, n2⟩ : pl_nd T τ m rep (1 + pl_tF A) ((1, e.1, 0, 2 + e.2.1 + (pl_eB e).length) :: (13, e.1 + 1, nI (e.1 + 1), 1) :: pl_par (e.1 + 3) e.2.1) ∧ pl_nd T τ m rep (1 + pl_tF A + (2 + e.2.1)) (pl_eB e) := by
      have := pl_nd_l ((1, e.1, 0, 2 + e.2.1 + (pl_eB e).length) :: (13, e.1 + 1, nI (e.1 + 1), 1) :: pl_par (e.1 + 3) e.2.1) (pl_eB e) (1 + pl_tF A) p4
      refine ⟨this.1, ?_⟩
      have h2 := this.2
      rw [List.length_cons, List.length_cons, pl_par_len] at h2
      rw [show 2 + e.2.1 = e.2.1 + 1 + 1 by omega]
      exact h2
    have hB : (pl_eB e).length = 1 + (pl_b1 e.2.2.2).length := by unfold pl_eB; rw [List.length_cons]; omega
    have hwB : pl_wh τ (1 + pl_tF A + 1 + (1 + e.2.1)) (nI (1 + pl_tF A)) (pl_eB e) := by
      have hw : pl_wh τ (1 + pl_tF A) (nI 0) ((1, e.1, 0, 1 + (((13, e.1 + 1, nI (e.1 + 1), 1) :: pl_par (e.1 + 3) e.2.1) ++ pl_eB e ++ []).length) :: (((13, e.1 + 1, nI (e.1 + 1), 1) :: pl_par (e.1 + 3) e.2.1) ++ pl_eB e ++ [])) := by
        have ee : (1 + (((13, e.1 + 1, nI (e.1 + 1), 1) :: pl_par (e.1 + 3) e.2.1) ++ pl_eB e ++ []).length) = 2 + e.2.1 + (pl_eB e).length := by
          rw [List.append_nil, List.length_append, List.length_cons, pl_par_len]; omega
        rw [ee, List.append_nil]
        exact p5
      have := pl_wh_part hw (pl_vn_name p6.1 (pl_par_vn e.2.1 (e.1 + 3) p6.2.1)).2 (by unfold pl_eB; exact pl_ro_cons rfl)
      rw [List.length_cons, pl_par_len] at this
      rw [show 1 + pl_tF A + 1 + (1 + e.2.1) = 1 + pl_tF A + 1 + (e.2.1 + 1) by omega]
      exact this
    have hnq : pl_nq σ (0 + pl_tS A + (pl_b2 e.2.2.2).length) (0 + pl_tO A + (pl_b3 e.2.2.2).length) := pl_pgs_nq h11 h7 h12 C _ _ _ _ g2 (by omega) (by omega)
    have eb : 1 + pl_tF A + 1 + (1 + e.2.1) = 1 + pl_tF A + 2 + e.2.1 := by omega
    rw [eb] at hwB
    have n2' : pl_nd T τ m rep (1 + pl_tF A + 2 + e.2.1) ((2, e.2.2.1, 0, 1 + (pl_b1 e.2.2.2).length) :: pl_b1 e.2.2.2) := by
      rw [show 1 + pl_tF A + 2 + e.2.1 = 1 + pl_tF A + (2 + e.2.1) by omega]
      exact n2
    refine pl_il_mk (t := e.2.2.1) (kk := 2) (v := 0) (o := nI (1 + pl_tF A)) (by omega) h11 h7 e.2.2.2 [] _ _ _ _ (by show _ = _ + 1 + 0; omega) trivial hwB p6.2.2.2 ?_ p2 p3 ?_ (by omega) (by omega) (by omega) hnq
    · rw [show 1 + pl_tF A + 3 + e.2.1 = 1 + pl_tF A + 2 + e.2.1 + 1 by omega]
      exact n2'.2
    · have ea : pl_aS Ps = pl_aS A ++ pl_b2 e.2.2.2 ++ pl_aS C := by rw [eP, pl_aS_app]; show pl_aS A ++ (pl_b2 e.2.2.2 ++ pl_aS C) = _; rw [List.append_assoc]
      rw [ea, show 0 + pl_tS A = (pl_aS A).length by rw [pl_aS_len]; omega]
      exact pl_sl_mid
  · have := pl_tF_pos C
    constructor
    · intro q
      omega
    · intro q
      have : C = [] := List.length_eq_zero_iff.mp (by omega)
      rw [this] at eF
      have e0 : pl_tF ([] : List pl_En) = 0 := rfl
      omega
/-- the nodes of the names, then the BLOCK's -/
theorem pl_blkX {T : pl_Tx} {m : Nat} {rep : Nat → Nat} {τ : pr_St} {nf : Nat} {e : pl_En} (h : pl_nd T τ m rep nf (pl_eF e)) (hn : nf + (pl_eF e).length ≤ 12860) : prf_X_blockOf τ (nI nf) = some (nI (nf + 2 + e.2.1)) := by
  have elen := pl_eF_len e
  have key : ∀ (n t k f : Nat) (l : List pl_N), pl_nd T τ m rep k (pl_par t n ++ (2, e.2.2.1, 0, 1 + (pl_b1 e.2.2.2).length) :: l) → n + 2 ≤ f → k + n < 13000 → prf_X_blockOf_4 f τ (nI k) = some (nI (k + n)) := by
    intro n
    induction n with
    | zero =>
      intro t k f l hnd hf hk
      obtain ⟨f, rfl⟩ : ∃ z, f = z + 1 := ⟨f - 1, by omega⟩
      have h13 : τ.2.1 13 k = nI 2 := hnd.1.1
      rw [prf_X_blockOf_4, pl_ck (by omega) (by omega), nI_clamp (by omega), h13, if_neg (by decide)]
      rfl
    | succ n ih =>
      intro t k f l hnd hf hk
      obtain ⟨f, rfl⟩ : ∃ z, f = z + 1 := ⟨f - 1, by omega⟩
      have h13 : τ.2.1 13 k = nI 13 := hnd.1.1
      rw [prf_X_blockOf_4, pl_ck (by omega) (by omega), nI_clamp (by omega), h13, if_pos (by rfl), nI_1, ih (t + 2) (k + 1) f l hnd.2 (by omega) (by omega), show k + 1 + n = k + (n + 1) by omega]
  unfold prf_X_blockOf
  have h13 : τ.2.1 13 (nf + 1) = nI 13 := h.2.1.1
  rw [nI_1, show pr_FU = 99999 + 1 from rfl, prf_X_blockOf_4, pl_ck (by omega) (by omega), nI_clamp (by omega), h13, if_pos (by rfl), nI_1, key e.2.1 (e.1 + 3) (nf + 1 + 1) 99999 (pl_b1 e.2.2.2) h.2.2 (by omega) (by omega), show nf + 1 + 1 + e.2.1 = nf + 2 + e.2.1 by omega]
/-- in which function a node lies -/
theorem pl_whF {τ : pr_St} {nf : Nat} {F : List pl_N} (h : pl_wh τ nf (nI 0) F) (hn : nf + F.length ≤ 12860) (h0 : 0 < nf) : ∀ (M i f : Nat), i ≤ M → i < F.length → i + 1 ≤ f → prf_X_whichFunction_2 f τ (nI (nf + i)) = some (nI nf) := by
  intro M
  induction M with
  | zero =>
    intro i f hi hl hf
    obtain ⟨f, rfl⟩ : ∃ z, f = z + 1 := ⟨f - 1, by omega⟩
    have e0 : i = 0 := by omega
    subst e0
    rcases h 0 hl with ⟨_, e⟩ | ⟨w, hw, _⟩
    · rw [prf_X_whichFunction_2, Nat.add_zero, pl_ck (by omega) (by omega), nI_clamp (by omega), e, if_pos (by rfl)]
    · omega
  | succ M ih =>
    intro i f hi hl hf
    obtain ⟨f, rfl⟩ : ∃ z, f = z + 1 := ⟨f - 1, by omega⟩
    rcases h i hl with ⟨e1, e⟩ | ⟨w, hw, e, _⟩
    · subst e1
      rw [prf_X_whichFunction_2, Nat.add_zero, pl_ck (by omega) (by omega), nI_clamp (by omega), e, if_pos (by rfl)]
    · rw [prf_X_whichFunction_2, pl_ck (by omega) (by omega), nI_clamp (by omega), e, if_neg (show ¬ nI (nf + w) = 0 from fun q => by have := (nI_eq (b := 0) (by omega) (by omega)).mp q; omega), pl_ck (by omega) (by omega)]
      exact ih w f (by omega) (by omega) (by omega)
