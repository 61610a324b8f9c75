/-! THE LAYOUT: a point is laid -/
/-- what the class does behind a point's rows, kind by kind -/
def pl_layK (r42 : pr_St) (x1 p r32 r43 : Int32) : Option pr_St :=
  if r43 = 1 then
   (prf_T_kindAt r42 (r32 + 2)).bind fun r45 =>
   if r45 = 16 then
    (prf_S_add r42 (r32 + 1) 1).bind fun r48 =>
    some r48
   else
    (prf_S_add r42 (r32 + 1) 0).bind fun r47 =>
    some r47
  else
    if r43 = 2 then
     some r42
    else
      if r43 = 3 then
       some r42
      else
        if r43 = 4 then
         (prf_Y_layCall r42 p r32).bind fun r52 =>
         some r52
        else
          if r43 = 5 then
           (prf_Y_function r42).bind fun r54 =>
           (prf_G_detailOf r42 x1).bind fun r55 =>
           (prf_G_behind r42 x1).bind fun r56 =>
           (prf_Y_openBlock r42 p r54 (x1 + 1) r55 r56).bind fun r57 =>
           some r57
          else
            if r43 = 6 then
             (prf_Y_function r42).bind fun r59 =>
             (prf_G_behind r42 x1).bind fun r60 =>
             (prf_G_behind r42 x1).bind fun r61 =>
             (prf_Y_openBlock r42 p r59 (x1 + 1) r60 r61).bind fun r62 =>
             some r62
            else
              some r42
/-- the class' rows of a point that was just laid -/
def pl_pC (T : pl_Tx) (p s : Nat) (r : pl_S) (V A : List (Nat × Bool)) (par last : Int32) (σ σA : pr_St) : Prop :=
  σA.1 4 14 = nI (p + 1) ∧ (∀ o k, ¬ (o = 4 ∧ k = 14) → σA.1 o k = σ.1 o k) ∧ (∀ q, ¬ (25 ≤ q ∧ q ≤ 37) → σA.2.1 q = σ.2.1 q) ∧ (∀ q z, ¬ z = p → σA.2.1 q z = σ.2.1 q z) ∧ σA.2.2 = σ.2.2 ∧
  (σA.2.1 25 p = nI r.1 ∧ σA.2.1 26 p = nI (pl_xP T r.2.1) ∧ σA.2.1 27 p = nI s ∧ σA.2.1 28 p = nI (pl_cnt false V) ∧ σA.2.1 29 p = nI (pl_cnt true V) ∧ σA.2.1 30 p = nI (pl_cnt false A) ∧ σA.2.1 31 p = nI (pl_cnt true A) ∧ σA.2.1 32 p = par ∧ σA.2.1 33 p = last) ∧
  (σA.2.1 34 p = -1 ∧ σA.2.1 35 p = nI (p + 1) ∧ σA.2.1 36 p = -1 ∧ σA.2.1 37 p = -1)
theorem pl_pC_fr {T : pl_Tx} {p s : Nat} {r : pl_S} {V A : List (Nat × Bool)} {par last : Int32} {σ σA : pr_St} (h : pl_pC T p s r V A par last σ σA) : pl_fr pl_FL pl_GL σ σA := by
  obtain ⟨_, h2, h3, _, h5, _⟩ := h
  refine ⟨fun o k hok => h2 o k (fun q => ?_), fun a ha => h3 a (fun q => ?_), h5⟩
  · rw [q.1] at hok
    cases hok
  · unfold pl_GL at ha
    rw [Nat.ble_eq_true_of_le (show 24 ≤ a by omega), Nat.ble_eq_true_of_le (show a ≤ 46 by omega)] at ha
    cases ha
theorem pl_lay {T : pl_Tx} {m : Nat} {rep : Nat → Nat} {Ps : List pl_En} {σ τ : pr_St} (hb : pl_bs T m rep Ps σ τ) {d p s send : Nat} {r : pl_S} {S : List pl_S} {V A : List (Nat × Bool)} {par : Int32} (hs : s < pl_tS Ps) (hst : pl_sts σ s (r :: S)) (hc : r.2.1 < pl_xc T) (hk : r.1 < 64) (he : r.2.2.2.2.1 ≤ 2000) (hse : send ≤ 2000) (ho : pl_opn d σ) (h14 : σ.1 4 14 = nI p) (hp : p < 249) (h45 : σ.2.1 45 d = par) (h43 : σ.2.1 43 d = nI send) (h54 : σ.1 5 4 = nI (pl_cnt false V)) (h55 : σ.1 5 5 = nI (pl_cnt true V)) (h611 : σ.1 6 11 = nI (pl_cnt false A)) (h612 : σ.1 6 12 = nI (pl_cnt true A)) : ∃ σA, prf_Y_layStatement σ (nI s) = pl_layK σA (nI s) (nI p) (nI r.2.1) (nI r.1) ∧ pl_pC T p s r V A par (if r.2.2.2.2.1 = send then 1 else 0) σ σA := by
  have h7 := hb.2.2.2.2.2.2.1
  have h11 := hb.2.2.2.2.2.2.2.2.2.2.1
  have hrec := pl_rec h11 h7 hs hst
  have hpl := pl_plcG hb.1 hc
  obtain ⟨σ0, e0⟩ : ∃ σ0, σ0 = pr_sI (pr_sA (pr_sA (pr_sA (pr_sA (pr_sA (pr_sA (pr_sA σ 25 (upd (σ.2.1 25) p (nI r.1))) 26 (upd (σ.2.1 26) p (nI (pl_xP T r.2.1)))) 27 (upd (σ.2.1 27) p (nI s))) 34 (upd (σ.2.1 34) p (-1))) 35 (upd (σ.2.1 35) p (nI (p + 1)))) 36 (upd (σ.2.1 36) p (-1))) 37 (upd (σ.2.1 37) p (-1))) 4 14 (nI (p + 1)) := ⟨_, rfl⟩
  have eadd : prf_O_add σ (nI r.1) (nI (pl_xP T r.2.1)) (nI s) = some (nI p, σ0) := by
    unfold prf_O_add
    rw [h14, if_pos (show nI p < 250 from nI_lt (b := 250) (by omega) (by omega)), pl_ck (by omega) (by omega), pl_ck (by omega) (by omega), pl_ck (by omega) (by omega), pl_ck (by omega) (by omega), pl_ck (by omega) (by omega), pl_ck (by omega) (by omega), pl_ck (by omega) (by omega), nI_clamp (by omega), pl_k8b r.1 hk, nI_1, e0]
  have f0 : pl_fr pl_FL pl_GL σ σ0 := by
    rw [e0]
    exact (((((((pl_sA_fr (o := 25) rfl).tr (pl_sA_fr (o := 26) rfl)).tr (pl_sA_fr (o := 27) rfl)).tr (pl_sA_fr (o := 34) rfl)).tr (pl_sA_fr (o := 35) rfl)).tr (pl_sA_fr (o := 36) rfl)).tr (pl_sA_fr (o := 37) rfl)).tr (pl_sI_fr (o := 4) (k := 14) rfl)
  have c0 : σ0.1 4 14 = nI (p + 1) := by rw [e0]; exact pr_sI_same
  have fne : ∀ o k, ¬ (o = 4 ∧ k = 14) → σ0.1 o k = σ.1 o k := by intro o k hq; rw [e0, pr_sI_ne hq]; rfl
  have o0 : pl_opn d σ0 := ⟨by rw [fne 6 9 (by omega)]; exact ho.1, by rw [fne 6 10 (by omega)]; exact ho.2.1, ho.2.2⟩
  have hrec0 := pl_rec (σ := σ0) (by rw [fne 2 11 (by omega)]; exact h11) h7 hs (pl_sts_eq (σ := σ) (r :: S) s (fun q z h1 h2 _ _ => by rw [f0.2.1 q (pl_GL_lo (by omega))]) hst)
  have r45 : σ0.2.1 45 d = par := by rw [e0]; exact h45
  have r43 : σ0.2.1 43 d = nI send := by rw [e0]; exact h43
  have epar := (pl_opC o0).1
  rw [r45] at epar
  obtain ⟨last, hlast⟩ : ∃ last : Int32, last = if r.2.2.2.2.1 = send then 1 else 0 := ⟨_, rfl⟩
  have elast : prf_Y_isLast σ0 (nI s) = some last := by
    unfold prf_Y_isLast
    rw [pl_isO o0, pl_sb, if_neg pl_10, hrec0.2.2.2, pl_sb, o0.2.1, pl_ck o0.2.2 (by omega), nI_clamp (by have := o0.2.2; omega), r43, hlast]
    by_cases q : r.2.2.2.2.1 = send
    · rw [if_pos (by rw [q]), if_pos q]
    · rw [if_neg (fun z => q ((nI_eq (by omega) (by omega)).mp z)), if_neg q]
  have isP : ∀ σx : pr_St, σx.1 4 14 = nI (p + 1) → prf_O_isPoint σx (nI p) = some 1 := fun σx hx => (pl_pnt hx (by omega) (by omega)).1
  obtain ⟨σ1, e1⟩ : ∃ σ1, σ1 = pr_sA (pr_sA σ0 32 (upd (σ0.2.1 32) p par)) 33 (upd (σ0.2.1 33) p last) := ⟨_, rfl⟩
  have hz : last = 0 ∨ last = 1 := by
    rw [hlast]
    by_cases q : r.2.2.2.2.1 = send
    · rw [if_pos q]; exact Or.inr rfl
    · rw [if_neg q]; exact Or.inl rfl
  have ez : ∀ {α : Type} {k : Option α}, pr_z last k = k := by
    intro α k
    rcases hz with e | e
    · rw [e]; rfl
    · rw [e]; rfl
  have eset1 : prf_O_setParent σ0 (nI p) par last = some σ1 := by
    unfold prf_O_setParent
    rw [isP σ0 c0, pl_sb, if_neg pl_10, pl_ck (by omega) (by omega), pl_ck (by omega) (by omega), ez, nI_clamp (by omega), e1]
  have c1 : σ1.1 4 14 = nI (p + 1) := by rw [e1]; exact c0
  obtain ⟨σ2, e2⟩ : ∃ σ2, σ2 = pr_sA (pr_sA σ1 28 (upd (σ1.2.1 28) p (nI (pl_cnt false V)))) 29 (upd (σ1.2.1 29) p (nI (pl_cnt true V))) := ⟨_, rfl⟩
  have eset2 : prf_O_setThere σ1 (nI p) (nI (pl_cnt false V)) (nI (pl_cnt true V)) = some σ2 := by
    unfold prf_O_setThere
    rw [isP σ1 c1, pl_sb, if_neg pl_10, pl_ck (by omega) (by omega), pl_ck (by omega) (by omega), nI_clamp (by omega), e2]
  have c2 : σ2.1 4 14 = nI (p + 1) := by rw [e2]; exact c1
  obtain ⟨σ3, e3⟩ : ∃ σ3, σ3 = pr_sA (pr_sA σ2 30 (upd (σ2.2.1 30) p (nI (pl_cnt false A)))) 31 (upd (σ2.2.1 31) p (nI (pl_cnt true A))) := ⟨_, rfl⟩
  have eset3 : prf_O_setForeign σ2 (nI p) (nI (pl_cnt false A)) (nI (pl_cnt true A)) = some σ3 := by
    unfold prf_O_setForeign
    rw [isP σ2 c2, pl_sb, if_neg pl_10, pl_ck (by omega) (by omega), pl_ck (by omega) (by omega), nI_clamp (by omega), e3]
  have ef : σ3.1 = σ0.1 := by rw [e3, e2, e1]; rfl
  have f3 : pl_fr pl_FL pl_GL σ0 σ3 := by
    rw [e3, e2, e1]
    exact (((((pl_sA_fr (o := 32) rfl).tr (pl_sA_fr (o := 33) rfl)).tr (pl_sA_fr (o := 28) rfl)).tr (pl_sA_fr (o := 29) rfl)).tr (pl_sA_fr (o := 30) rfl)).tr (pl_sA_fr (o := 31) rfl)
  have hrec3 := pl_rec (σ := σ3) (by rw [ef, fne 2 11 (by omega)]; exact h11) h7 hs (pl_sts_eq (σ := σ) (r :: S) s (fun q z h1 h2 _ _ => by rw [(f0.tr f3).2.1 q (pl_GL_lo (by omega))]) hst)
  have n1 : prf_S_numbers σ1 = some (nI (pl_cnt false V)) := by
    unfold prf_S_numbers
    rw [show σ1.1 5 4 = nI (pl_cnt false V) by rw [e1]; show σ0.1 5 4 = _; rw [fne 5 4 (by omega)]; exact h54]
  have n2 : prf_S_arrays σ1 = some (nI (pl_cnt true V)) := by
    unfold prf_S_arrays
    rw [show σ1.1 5 5 = nI (pl_cnt true V) by rw [e1]; show σ0.1 5 5 = _; rw [fne 5 5 (by omega)]; exact h55]
  refine ⟨σ3, ?_, ?_⟩
  · unfold prf_Y_layStatement
    rw [hrec.2.1, pl_sb, hrec.1, pl_sb, hpl, pl_sb, eadd, pl_sb]
    dsimp only
    rw [epar, pl_sb, elast, pl_sb, eset1, pl_sb, n1, pl_sb, n2, pl_sb, eset2, pl_sb, show σ2.1 6 11 = nI (pl_cnt false A) by rw [e2, e1]; show σ0.1 6 11 = _; rw [fne 6 11 (by omega)]; exact h611, show σ2.1 6 12 = nI (pl_cnt true A) by rw [e2, e1]; show σ0.1 6 12 = _; rw [fne 6 12 (by omega)]; exact h612, eset3, pl_sb, hrec3.1, pl_sb]
    rfl
  · rw [← hlast]
    refine ⟨by rw [ef]; exact c0, fun o k hq => by rw [ef]; exact fne o k hq, fun q hq => ?_, fun q z hz => ?_, by rw [e3, e2, e1, e0]; rfl, ⟨?_, ?_, ?_, ?_, ?_, ?_, ?_, ?_, ?_⟩, ?_, ?_, ?_, ?_⟩
    · rw [e3, pl_sA_ne (by omega), pl_sA_ne (by omega), e2, pl_sA_ne (by omega), pl_sA_ne (by omega), e1, pl_sA_ne (by omega), pl_sA_ne (by omega), e0]
      show (pr_sA _ 37 _).2.1 q = _
      rw [pl_sA_ne (by omega), pl_sA_ne (by omega), pl_sA_ne (by omega), pl_sA_ne (by omega), pl_sA_ne (by omega), pl_sA_ne (by omega), pl_sA_ne (by omega)]
    · have key : ∀ (σx : pr_St) (a : Nat) (v : Int32), (pr_sA σx a (upd (σx.2.1 a) p v)).2.1 q z = σx.2.1 q z := by
        intro σx a v
        by_cases hqa : q = a
        · subst hqa; rw [pl_sA_same, pk_un hz]
        · rw [pl_sA_ne hqa]
      have k1 : σ3.2.1 q z = σ2.2.1 q z := by rw [e3]; exact (key (pr_sA σ2 30 _) 31 _).trans (key σ2 30 _)
      have k2 : σ2.2.1 q z = σ1.2.1 q z := by rw [e2]; exact (key (pr_sA σ1 28 _) 29 _).trans (key σ1 28 _)
      have k3 : σ1.2.1 q z = σ0.2.1 q z := by rw [e1]; exact (key (pr_sA σ0 32 _) 33 _).trans (key σ0 32 _)
      rw [k1, k2, k3, e0]
      show (pr_sA _ 37 _).2.1 q z = _
      exact (key _ 37 _).trans ((key _ 36 _).trans ((key _ 35 _).trans ((key _ 34 _).trans ((key _ 27 _).trans ((key _ 26 _).trans (key _ 25 _))))))
    · rw [e3, e2, e1, e0]; exact pk_us
    · rw [e3, e2, e1, e0]; exact pk_us
    · rw [e3, e2, e1, e0]; exact pk_us
    · rw [e3, e2, e1, e0]; exact pk_us
    · rw [e3, e2, e1, e0]; exact pk_us
    · rw [e3, e2, e1, e0]; exact pk_us
    · rw [e3, e2, e1, e0]; exact pk_us
    · rw [e3, e2, e1, e0]; exact pk_us
    · rw [e3, e2, e1, e0]; exact pk_us
    · rw [e3, e2, e1, e0]; exact pk_us
    · rw [e3, e2, e1, e0]; exact pk_us
    · rw [e3, e2, e1, e0]; exact pk_us
    · rw [e3, e2, e1, e0]; exact pk_us
