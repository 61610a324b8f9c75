/-! THE LAYOUT: the state between statements -/
abbrev pl_Wt : Type := Nat → List (Nat × Bool) × List (Nat × Bool)
/-- all variables at a point -/
def pl_wv (W : pl_Wt) (z : Nat) : List (Nat × Bool) := (W z).1 ++ (W z).2
/-- the point in which a BLOCK lies -/
def pl_pf (n : Nat) (W : pl_Wt) (A E : List (Nat × Bool)) (p bb fi b bF : Nat) (par : Int32) (σ : pr_St) : Prop :=
  (par = -1 ∧ A = [] ∧ bb = 0 ∧ fi + 1 = n ∧ b = bF) ∨
  (∃ pp, par = nI pp ∧ pp < p ∧ (σ.2.1 28 pp = nI (pl_cnt false (pl_wv W pp)) ∧ σ.2.1 29 pp = nI (pl_cnt true (pl_wv W pp)) ∧ σ.2.1 30 pp = nI (pl_cnt false (W pp).1) ∧ σ.2.1 31 pp = nI (pl_cnt true (W pp).1) ∧ bb = (pl_wv W pp).length) ∧
    ((σ.2.1 25 pp = 4 ∧ A = pl_wv W pp ∧ fi + 1 < n ∧ b = bF) ∨
     (¬ σ.2.1 25 pp = 4 ∧ A = (W pp).1 ∧ (∃ X, E = (W pp).2 ++ X) ∧ ¬ b = bF ∧ ¬ σ.2.1 25 pp = 1)))
def pl_Z (T : pl_Tx) (m : Nat) (rep : Nat → Nat) (Ps : List pl_En) (W : pl_Wt) (A E : List (Nat × Bool)) (d p id nb bb fi send b bF : Nat) (par : Int32) (σ τ : pr_St) : Prop :=
  pl_bs T m rep Ps σ τ ∧ pl_scp T m rep σ τ (A ++ E) ∧ (τ.1 0 43 = nI A.length ∧ τ.1 0 47 = 0) ∧
  (σ.1 4 14 = nI p ∧ τ.1 0 33 = nI p ∧ p ≤ 249 ∧ σ.1 6 9 = nI (d + 1) ∧ d ≤ p) ∧
  (σ.2.1 43 d = nI send ∧ σ.2.1 45 d = par ∧ σ.2.1 46 d = nI fi ∧ send ≤ pl_tS Ps ∧ fi < Ps.length) ∧
  (τ.1 0 44 = nI nb ∧ nb ≤ 2 * p ∧ id ≤ nb ∧ A.length ≤ bb ∧ bb ≤ (A ++ E).length ∧ ∀ v, v < (A ++ E).length → ∃ j, τ.2.1 32 v = nI j ∧ j ≤ nb ∧ (j = id ↔ bb ≤ v)) ∧
  pl_pf Ps.length W A E p bb fi b bF par σ
theorem pl_pnt {σ : pr_St} {p pp : Nat} (h : σ.1 4 14 = nI p) (hp : p ≤ 250) (hpp : pp < p) : prf_O_isPoint σ (nI pp) = some 1 ∧ prf_O_kindOf σ (nI pp) = some (σ.2.1 25 pp) ∧ prf_O_numbersAt σ (nI pp) = some (σ.2.1 28 pp) ∧ prf_O_arraysAt σ (nI pp) = some (σ.2.1 29 pp) ∧ prf_O_foreignNumbersAt σ (nI pp) = some (σ.2.1 30 pp) ∧ prf_O_foreignArraysAt σ (nI pp) = some (σ.2.1 31 pp) := by
  have e : prf_O_isPoint σ (nI pp) = some 1 := by
    unfold prf_O_isPoint
    rw [h, if_neg (nI_pos (by omega)), if_neg (nI_ge hpp (by omega))]
  unfold prf_O_kindOf prf_O_numbersAt prf_O_arraysAt prf_O_foreignNumbersAt prf_O_foreignArraysAt
  rw [e, pl_sb, pl_sb, pl_sb, pl_sb, pl_sb, if_neg pl_10, if_neg pl_10, if_neg pl_10, if_neg pl_10, if_neg pl_10, pl_ck (by omega) (by omega), pl_ck (by omega) (by omega), pl_ck (by omega) (by omega), pl_ck (by omega) (by omega), pl_ck (by omega) (by omega), nI_clamp (by omega)]
  exact ⟨rfl, rfl, rfl, rfl, rfl, rfl⟩
theorem pl_pn1 {σ : pr_St} : prf_O_isPoint σ (-1) = some 0 ∧ prf_O_kindOf σ (-1) = some 0 ∧ prf_O_numbersAt σ (-1) = some 0 ∧ prf_O_arraysAt σ (-1) = some 0 ∧ prf_O_foreignNumbersAt σ (-1) = some 0 ∧ prf_O_foreignArraysAt σ (-1) = some 0 := ⟨rfl, rfl, rfl, rfl, rfl, rfl⟩
/-- the foreign variables of a BLOCK's statements -/
theorem pl_forC {n p bb fi b bF d : Nat} {W : pl_Wt} {A E : List (Nat × Bool)} {par : Int32} {σ : pr_St} (hf : pl_pf n W A E p bb fi b bF par σ) (ho : pl_opn d σ) (h45 : σ.2.1 45 d = par) (h14 : σ.1 4 14 = nI p) (hp : p ≤ 249) : prf_Y_findForeign σ = some (pr_sI (pr_sI σ 6 11 (nI (pl_cnt false A))) 6 12 (nI (pl_cnt true A))) ∧ prf_Y_blockBegin σ = some (nI bb) := by
  have hpar := (pl_opC ho).1
  rw [h45] at hpar
  unfold prf_Y_findForeign prf_Y_blockBegin
  rcases hf with ⟨rfl, rfl, rfl, _, _⟩ | ⟨pp, rfl, hpp, ⟨r28, r29, r30, r31, ebb⟩, hc⟩
  · rw [hpar, pl_sb, pl_sb]
    exact ⟨rfl, rfl⟩
  · obtain ⟨z1, z2, z3, z4, z5, z6⟩ := pl_pnt h14 (by omega) hpp
    have hl := pl_cnt_len (pl_wv W pp)
    constructor
    · rw [hpar, pl_sb, z2, pl_sb]
      rcases hc with ⟨k4, rfl, _⟩ | ⟨k4, rfl, _⟩
      · have e3 := pl_pnt (σ := pr_sI σ 6 11 (σ.2.1 28 pp)) (p := p) (pp := pp) h14 (by omega) hpp
        rw [if_pos k4, if_neg pl_10, z3, pl_sb, if_neg pl_10, e3.2.2.2.1, pl_sb, r28]
        show some (pr_sI (pr_sI σ 6 11 _) 6 12 (σ.2.1 29 pp)) = _
        rw [r29]
      · have e3 := pl_pnt (σ := pr_sI σ 6 11 (σ.2.1 30 pp)) (p := p) (pp := pp) h14 (by omega) hpp
        rw [if_neg k4, if_pos rfl, z5, pl_sb, if_pos rfl, e3.2.2.2.2.2, pl_sb, r30]
        show some (pr_sI (pr_sI σ 6 11 _) 6 12 (σ.2.1 31 pp)) = _
        rw [r31]
    · rw [hpar, pl_sb, z3, pl_sb, pl_sb, z4, pl_sb, r28, r29, nI_add, hl, ebb]
theorem pl_pf_eq {n p p' bb fi b bF : Nat} {W W' : pl_Wt} {A E X : List (Nat × Bool)} {par : Int32} {σ σ' : pr_St} (h : pl_pf n W A E p bb fi b bF par σ) (hr : ∀ r z, 25 ≤ r → r ≤ 31 → z < p → σ'.2.1 r z = σ.2.1 r z) (hW : ∀ z, z < p → W' z = W z) (hp : p ≤ p') : pl_pf n W' A (E ++ X) p' bb fi b bF par σ' := by
  rcases h with h | ⟨pp, h1, h2, ⟨h3, h4, h5, h6, h7⟩, h8⟩
  · exact Or.inl h
  · refine Or.inr ⟨pp, h1, by omega, ?_, ?_⟩
    · unfold pl_wv at *
      rw [hr 28 pp (by decide) (by decide) h2, hr 29 pp (by decide) (by decide) h2, hr 30 pp (by decide) (by decide) h2, hr 31 pp (by decide) (by decide) h2, hW pp h2]
      exact ⟨h3, h4, h5, h6, h7⟩
    · unfold pl_wv at *
      rw [hr 25 pp (by decide) (by decide) h2, hW pp h2]
      rcases h8 with h8 | ⟨g1, g2, ⟨Y, g3⟩, g4⟩
      · exact Or.inl h8
      · exact Or.inr ⟨g1, g2, ⟨Y ++ X, by rw [g3, List.append_assoc]⟩, g4⟩
/-- the state in which a statement is held against the rules -/
def pl_s2 (σ : pr_St) (d e : Nat) (A : List (Nat × Bool)) : pr_St := pr_sI (pr_sI (pr_sI (pl_s1 σ d e) 6 13 (-1)) 6 11 (nI (pl_cnt false A))) 6 12 (nI (pl_cnt true A))
theorem pl_s1_fr {σ : pr_St} {d e : Nat} : pl_fr pl_FL pl_GL σ (pl_s1 σ d e) := (pl_sI_fr (o := 6) (k := 10) rfl).tr (pl_sA_fr (o := 42) rfl)
theorem pl_s2_fr {σ : pr_St} {d e : Nat} {A : List (Nat × Bool)} : pl_fr pl_FL pl_GL σ (pl_s2 σ d e A) := ((pl_s1_fr.tr (pl_sI_fr (o := 6) (k := 13) rfl)).tr (pl_sI_fr (o := 6) (k := 11) rfl)).tr (pl_sI_fr (o := 6) (k := 12) rfl)
/-- a statement in its BLOCK -/
theorem pl_hold {T : pl_Tx} {m : Nat} {rep : Nat → Nat} {Ps : List pl_En} {W : pl_Wt} {A E : List (Nat × Bool)} {d p id nb bb fi send b bF s : Nat} {par : Int32} {σ τ : pr_St} {r : pl_S} {S : List pl_S} (h : pl_Z T m rep Ps W A E d p id nb bb fi send b bF par σ τ) (hs : s < pl_tS Ps) (hst : pl_sts σ s (r :: S)) (hc : r.2.1 < pl_xc T) :
    (p = 249 → prf_Y_holds (pl_s1 σ d r.2.2.2.2.1) (nI s) = some (0, pl_wC T (pl_s1 σ d r.2.2.2.2.1) 11 r.2.1)) ∧
    (p < 249 → prf_Y_holds (pl_s1 σ d r.2.2.2.2.1) (nI s) = if nI r.1 = 8 then (prf_Y_returnHolds (pl_s2 σ d r.2.2.2.2.1 A) (nI s) (nI r.2.1)).bind fun r49 => if r49.1 = 0 then some (0, r49.2) else prf_Y_holds_67 r49.2 (nI s) (nI r.1) (nI r.2.1) else prf_Y_holds_67 (pl_s2 σ d r.2.2.2.2.1 A) (nI s) (nI r.1) (nI r.2.1)) := by
  obtain ⟨z1, z2, z3, ⟨z41, z42, z43, z44, z45⟩, ⟨z51, z52, z53, z54, _⟩, z6, z7⟩ := h
  have h7 := z1.2.2.2.2.2.2.1
  have h11 := z1.2.2.2.2.2.2.2.2.2.2.1
  have b1 : pl_bs T m rep Ps (pl_s1 σ d r.2.2.2.2.1) τ := pl_bs_fr z1 pl_s1_fr pl_fr.rf
  have hrec := pl_rec (σ := pl_s1 σ d r.2.2.2.2.1) h11 h7 hs (pl_sts_eq (σ := σ) (r :: S) s (fun q z h1 h2 _ _ => by show (pl_s1 σ d r.2.2.2.2.1).2.1 q z = _; rw [pl_s1_fr.2.1 q (pl_GL_lo (by omega))]) hst)
  have hp0 : (pl_s1 σ d r.2.2.2.2.1).1 4 14 = nI p := by show (pr_sI σ 6 10 (nI d)).1 4 14 = _; rw [pr_sI_ne (by omega)]; exact z41
  have hcnt : prf_O_count (pl_s1 σ d r.2.2.2.2.1) = some (nI p) := by unfold prf_O_count; rw [hp0]
  have hpre : prf_Y_holds (pl_s1 σ d r.2.2.2.2.1) (nI s) = if nI (p + 2) ≤ 250 then ((prf_Y_findForeign (pr_sI (pl_s1 σ d r.2.2.2.2.1) 6 13 (-1))).bind fun r47 => if nI r.1 = 8 then (prf_Y_returnHolds r47 (nI s) (nI r.2.1)).bind fun r49 => if r49.1 = 0 then some (0, r49.2) else prf_Y_holds_67 r49.2 (nI s) (nI r.1) (nI r.2.1) else prf_Y_holds_67 r47 (nI s) (nI r.1) (nI r.2.1)) else (prf_Y_isWrong (pl_s1 σ d r.2.2.2.2.1) 11 (nI r.2.1)).bind fun r51 => pr_z r51.1 <| some (r51.1, r51.2) := by
    unfold prf_Y_holds
    rw [hrec.1, pl_sb, hrec.2.1, pl_sb, hcnt, pl_sb, pl_n2]
  constructor
  · intro hp
    rw [hpre, if_neg (show ¬ nI (p + 2) ≤ 250 from nI_ge (a := 250) (b := p + 2) (by omega) (by omega)), pl_isW b1.1 hc, pl_sb]
    rfl
  · intro hp
    have ho : pl_opn d (pr_sI (pl_s1 σ d r.2.2.2.2.1) 6 13 (-1)) := by
      refine ⟨?_, ?_, by omega⟩
      · show (pr_sI (pr_sI σ 6 10 (nI d)) 6 13 (-1)).1 6 9 = _
        rw [pr_sI_ne (by omega), pr_sI_ne (by omega)]; exact z44
      · show (pr_sI (pr_sI σ 6 10 (nI d)) 6 13 (-1)).1 6 10 = _
        rw [pr_sI_ne (by omega), pr_sI_same]
    have hpf : pl_pf Ps.length W A E p bb fi b bF par (pr_sI (pl_s1 σ d r.2.2.2.2.1) 6 13 (-1)) := by
      have := pl_pf_eq (X := []) (W' := W) (p' := p) (σ' := pr_sI (pl_s1 σ d r.2.2.2.2.1) 6 13 (-1)) z7 (fun q z h1 h2 _ => by show (pr_sA (pr_sI σ 6 10 (nI d)) 42 _).2.1 q z = _; rw [pl_sA_ne (by omega)]; rfl) (fun _ _ => rfl) (Nat.le_refl _)
      rw [List.append_nil] at this
      exact this
    have hfor := (pl_forC hpf ho (by show (pr_sA (pr_sI σ 6 10 (nI d)) 42 _).2.1 45 d = _; rw [pl_sA_ne (by decide)]; exact z52) (by show (pr_sI (pr_sI σ 6 10 (nI d)) 6 13 (-1)).1 4 14 = _; rw [pr_sI_ne (by omega), pr_sI_ne (by omega)]; exact z41) z43).1
    rw [hpre, if_pos (show nI (p + 2) ≤ 250 from nI_le (b := 250) (by omega) (by omega)), hfor, pl_sb]
    rfl
