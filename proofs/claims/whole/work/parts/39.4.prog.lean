/-! THE PROGRAM: its functions, one behind the other -/
/-- a BLOCK that is read has two tokens at least -/
theorem pl_blockA {T : pl_Tx} {a q d s : Nat} {σ τ σ' : pr_St} (g : pl_gs T a q d s σ τ) (hq : q ≤ a) (hd : d ≤ 2 * a) (h4 : 4 * s ≤ pl_xP T a) (hC : prf_R_readBlock (prF_R_readStatement 70) σ 1 = some (1, σ')) : ∃ a', σ'.1 3 2 = nI a' ∧ a + 2 ≤ a' ∧ a' ≤ 8000 := by
  have h8 := pl_gd8 g.1
  have hF : pr_FU = 99999 + 1 := rfl
  obtain ⟨τ1, e1, g1, fx1, t1⟩ := pl_draftG g.1 (by omega) 2 a 0
  have n60 : ¬ (60 : Int32) < 1 := by decide
  by_cases k14 : pl_xK T a = 14
  · obtain ⟨σ2, τ2, c2, c2', x2, g2, fc2, fx2, s2, r2⟩ := pl_takeA g1 k14 (by decide)
    have c2'' : prf_R_take σ 14 = some (1, σ2) := c2
    have t2 := t1.fx (fx2 (d + 1)) (Nat.le_refl _)
    have eC0 : prf_R_readBlock (prF_R_readStatement 70) σ 1 = prf_R_readBlock_19 (prF_R_readStatement 70) pr_FU σ2 (nI 1) (nI 0) := by
      unfold prf_R_readBlock
      rw [if_neg n60, c2'', pl_sb, if_neg (show ¬ ((1 : Int32), σ2).1 = 0 from pl_10)]
      rfl
    have c8 := pl_c8 g2.1
    have hP1 := pl_Pm g.1.1 1 a (by have := g2.2.2.1; omega)
    obtain ⟨a', σ2', τ', hle, fs', fx', hr⟩ := pl_kloop (T := T) 1 60 _ _ (fun E => pl_stmtN 59 1 70 E (by decide) (by decide)) d d q s (a + 1) a [] (σ.1 3 3) 8001 (a + 1) 0 q (d + 1) s pr_FU pr_FU σ2 τ2 [] [] (by omega) (by rw [hF]; omega) (by rw [hF]; omega) (by omega) (pl_gs_fc g g2 (fc2 0)) (by omega) (by omega) (by omega) (by omega) t2 rfl (Nat.le_refl _) (Nat.le_refl _) rfl rfl (by show 0 + (a + 1) ≤ a + 1; omega) (by show 4 * 0 + _ ≤ _; omega) trivial trivial trivial (by rw [(fc2 q).1.1 3 3 rfl]; rfl)
    rw [eC0] at hC
    rcases hr with ⟨d', Ls, w1, w2, w3, w4, w5, w6, w7, w8⟩ | ⟨w1, w2, w3⟩
    · rw [w1] at hC
      have e : σ2' = σ' := congrArg Prod.snd (Option.some.inj hC)
      rw [← e]
      have iv := w7.iv
      exact ⟨a', w3.1.2.1.1, by omega, pl_gd8 w3.1⟩
    · rw [w1] at hC
      exact absurd (congrArg Prod.fst (Option.some.inj hC)) (show ¬ (0 : Int32) = 1 by decide)
  · exfalso
    have c2 : prf_R_take σ 14 = some (0, σ) := (pl_takeZ g1 (k := 14) (by decide) k14).1
    unfold prf_R_readBlock at hC
    rw [if_neg n60, c2, pl_sb, if_pos rfl] at hC
    exact absurd (congrArg Prod.fst (Option.some.inj hC)) (show ¬ (0 : Int32) = 1 by decide)
/-- a function: token of its fun, parameters, token of its BLOCK, statements -/
abbrev pl_En : Type := Nat × Nat × Nat × List (List pl_N × List pl_S × List pl_O)
def pl_eB (e : pl_En) : List pl_N := (2, e.2.2.1, 0, 1 + (pl_b1 e.2.2.2).length) :: pl_b1 e.2.2.2
def pl_eF (e : pl_En) : List pl_N := (1, e.1, 0, 2 + e.2.1 + (pl_eB e).length) :: (13, e.1 + 1, nI (e.1 + 1), 1) :: (pl_par (e.1 + 3) e.2.1 ++ pl_eB e)
def pl_eR (e : pl_En) : Int32 := if pl_lv 0 e.2.2.2 = 8 then 1 else 0
/-- what is known of a function's text -/
def pl_eK (T : pl_Tx) (s q : Nat) (e : pl_En) : Prop := pl_xK T (e.1 + 1) = 2 ∧ (∀ j, j < e.2.1 → pl_xK T (e.1 + 3 + 2 * j) = 2) ∧ e.1 + 3 + 2 * e.2.1 ≤ pl_xc T ∧ pl_bl (pl_xK T) (pl_sT T 60) s q (pl_pe (e.1 + 3) e.2.1) e.2.2.2
def pl_FV (o k : Nat) : Bool := (o == 3 && (k == 2 || k == 3)) || (o == 2 && (k == 14 || k == 11 || k == 5))
def pl_GV (a : Nat) : Bool := a == 12 || a == 13 || a == 14 || a == 15 || a == 16 || a == 17 || a == 18 || a == 19 || a == 20 || a == 21 || a == 22 || a == 23
def pl_fv (fn s q : Nat) (σ σ' : pr_St) : Prop := pl_fr pl_FV pl_GV σ σ' ∧ (∀ r z, 12 ≤ r → r ≤ 16 → z < fn → σ'.2.1 r z = σ.2.1 r z) ∧ (∀ r z, 17 ≤ r → r ≤ 21 → z < s → σ'.2.1 r z = σ.2.1 r z) ∧ (∀ r z, 22 ≤ r → r ≤ 23 → z < q → σ'.2.1 r z = σ.2.1 r z)
theorem pl_fv.tr {fn s q fn1 s1 q1 : Nat} {a b c : pr_St} (h1 : pl_fv fn s q a b) (h2 : pl_fv fn1 s1 q1 b c) (hf : fn ≤ fn1) (hs : s ≤ s1) (hq : q ≤ q1) : pl_fv fn s q a c :=
  ⟨h1.1.tr h2.1, fun r z h3 h4 h5 => (h2.2.1 r z h3 h4 (by omega)).trans (h1.2.1 r z h3 h4 h5), fun r z h3 h4 h5 => (h2.2.2.1 r z h3 h4 (by omega)).trans (h1.2.2.1 r z h3 h4 h5), fun r z h3 h4 h5 => (h2.2.2.2 r z h3 h4 (by omega)).trans (h1.2.2.2 r z h3 h4 h5)⟩
theorem pl_fv.rf {fn s q : Nat} {a : pr_St} : pl_fv fn s q a a := ⟨pl_fr.rf, fun _ _ _ _ _ => rfl, fun _ _ _ _ _ => rfl, fun _ _ _ _ _ => rfl⟩
theorem pl_FHV : ∀ o k, pl_FV o k = false → pl_FH o k = false := by
  intro o k h
  unfold pl_FV at h
  unfold pl_FH
  simp only [Bool.or_eq_false_iff, Bool.and_eq_false_iff] at h ⊢
  refine ⟨?_, ?_⟩
  · rcases h.1 with h1 | h1
    · exact Or.inl h1
    · exact Or.inr h1.1
  · rcases h.2 with h1 | h1
    · exact Or.inl h1
    · exact Or.inr h1.2
theorem pl_FSV : ∀ o k, pl_FV o k = false → pl_FS o k = false := by
  intro o k h
  unfold pl_FV at h
  unfold pl_FS
  simp only [Bool.or_eq_false_iff, Bool.and_eq_false_iff] at h ⊢
  refine ⟨?_, ?_⟩
  · rcases h.1 with h1 | h1
    · exact Or.inl h1
    · exact Or.inr h1
  · rcases h.2 with h1 | h1
    · exact Or.inl h1
    · exact Or.inr h1.1
theorem pl_GHV : ∀ r, pl_GV r = false → pl_GH r = false := by
  intro r h
  unfold pl_GV at h
  unfold pl_GH
  simp only [Bool.or_eq_false_iff, beq_eq_false_iff_ne] at h ⊢
  omega
theorem pl_GSV : ∀ r, pl_GV r = false → pl_GS r = false := by
  intro r h
  unfold pl_GV at h
  unfold pl_GS
  simp only [Bool.or_eq_false_iff, beq_eq_false_iff_ne] at h ⊢
  omega
theorem pl_fh.fv {fn s q : Nat} {σ σ' : pr_St} (h : pl_fh fn σ σ') : pl_fv fn s q σ σ' := by
  have hr : ∀ r, 15 ≤ r → σ'.2.1 r = σ.2.1 r := fun r hr => h.1.2.1 r (by unfold pl_GH; simp only [Bool.or_eq_false_iff, beq_eq_false_iff_ne]; omega)
  exact ⟨h.1.wk pl_FHV pl_GHV, fun r z _ _ hz => h.2 r z hz, fun r z h1 _ _ => by rw [hr r (by omega)], fun r z h1 _ _ => by rw [hr r (by omega)]⟩
theorem pl_fs.fv {fn s q : Nat} {σ σ' : pr_St} (h : pl_fs q s σ σ') : pl_fv fn s q σ σ' := by
  have hr : ∀ r, r ≤ 16 → σ'.2.1 r = σ.2.1 r := fun r hr => h.1.2.1 r (by unfold pl_GS; simp only [Bool.or_eq_false_iff, beq_eq_false_iff_ne]; omega)
  exact ⟨h.1.wk pl_FSV pl_GSV, fun r z _ h2 _ => by rw [hr r h2], h.2.2, h.2.1⟩
/-- fun and its name stand apart -/
theorem pl_Pfun {T : pl_Tx} {σ τ : pr_St} (h : pl_tt T σ τ) {t : Nat} (ht : t + 1 < pl_xc T) (hk : pl_xK T t = 4) (hk' : pl_xK T (t + 1) = 2) : pl_xP T t + 4 ≤ pl_xP T (t + 1) := by
  obtain ⟨z1, z2, zX, zT, zW, zF⟩ := id h
  have a := (zW.2.2.1 t ht).2.2
  have hL := (zF t (by omega)).2.2.2 hk
  by_cases q2 : pl_xP T (t + 1) = pl_xP T t + pl_xL T t
  · exfalso
    have w1 := ((zF t (by omega)).2.1 (Or.inr ⟨by omega, by omega⟩)).2
    have w2 := ((zF (t + 1) ht).2.1 (Or.inl hk')).1
    obtain ⟨p1, p2, p3⟩ := pl_PL h ht (by omega)
    rw [← q2] at w1
    have w3 := w1 (by omega)
    unfold pl_wc at w3
    rw [w2] at w3
    cases w3
  · omega
/-- a function on both sides -/
theorem pl_func {T : pl_Tx} {a q s fn : Nat} {σ τ : pr_St} (g : pl_gs T a q 0 s σ τ) (hf : σ.1 2 5 = nI fn) (h33 : σ.1 3 3 = 0) (h9 : 9 * fn ≤ pl_xP T a) (hq : q ≤ a) (h4 : 4 * s ≤ pl_xP T a) : ∃ (a' : Nat) (σ' τ' : pr_St), a ≤ a' ∧ pl_fv fn s q σ σ' ∧ pl_fx 0 τ τ' ∧
    ((∃ (d' : Nat) (σh : pr_St) (e : pl_En), prf_R_readHead σ = some (1, σh) ∧ prf_R_readBlock (prF_R_readStatement 70) σh 1 = some (1, σ') ∧ prf_X_function τ = some (nI 0, τ') ∧ pl_gs T a' (q + (pl_b3 e.2.2.2).length) d' (s + (pl_b2 e.2.2.2).length) σ' τ' ∧ pl_tr τ' (pl_xP T) 0 d' 0 (pl_eF e) ∧ pl_ops σ' q (pl_b3 e.2.2.2) ∧ pl_sts σ' s (pl_b2 e.2.2.2) ∧ pl_eK T s q e ∧ (pl_ni (pl_eF e) a a' ∧ pl_od (pl_b2 e.2.2.2) a a') ∧ σ'.1 2 5 = nI (fn + 1) ∧ σ'.2.1 12 fn = nI (e.1 + 1) ∧ σ'.2.1 13 fn = nI e.2.1 ∧ σ'.2.1 14 fn = nI s ∧ σ'.1 3 3 = pl_lv 0 e.2.2.2 ∧ pl_xP T a + 9 ≤ pl_xP T a' ∧ 4 * (pl_b2 e.2.2.2).length + pl_xP T a ≤ pl_xP T a' ∧ (pl_b3 e.2.2.2).length + a ≤ a' ∧ 5 * d' + 8 * a ≤ 8 * a') ∨
     ((prf_R_readHead σ = some (0, σ') ∨ ∃ σh, prf_R_readHead σ = some (1, σh) ∧ prf_R_readBlock (prF_R_readStatement 70) σh 1 = some (0, σ')) ∧ ∃ v, prf_X_function τ = some (v, τ') ∧ pl_bd T a' 0 5 σ' τ')) := by
  have h8 := pl_gd8 g.1
  have hP8 := pl_P8 g.1.1 g.1.2.2.1
  obtain ⟨a1, σ1, τ1, hle1, fh1, fx1, hr1⟩ := pl_head g hf (by omega) (by omega)
  rcases hr1 with ⟨d1, np, cs, w1, w2, w3, w4, w5, w6, w7, w8, w9, w10, w11, w12, w13, w14, w15⟩ | ⟨w1, w2, w3⟩
  · have h81 := pl_gd8 w3.1
    have iv1 := w9.iv
    have hm := pl_more g.1.1 g.1.2.2.1 (by omega)
    have hPf := pl_Pfun g.1.1 hm w4 w5
    have hP1 := pl_Pm g.1.1 (a1 - (a + 1)) (a + 1) (by have := w3.1.2.2.1; omega)
    rw [show a + 1 + (a1 - (a + 1)) = a1 by omega] at hP1
    obtain ⟨a2, σ2, τ2, hle2, fs2, fx2, hr2⟩ := pl_blockN (T := T) (pl_pe (a + 3) np) w3 (by omega) w7 (by omega)
    have t2 := w9.fx fx2 (Nat.le_refl _)
    have fvA : pl_fv fn s q σ σ2 := (fh1.fv).tr (fs2.fv) (Nat.le_refl _) (Nat.le_refl _) (Nat.le_refl _)
    rcases hr2 with ⟨y2, d2, B, S, O, hC2, hX2, g2, hO2, hD2, hP2, tr2, ops2, sts2, ni2, bk2⟩ | ⟨hC2, v2, hX2, b2, vi2⟩
    · have h82 := pl_gd8 g2.1
      have iv2 := tr2.iv
      obtain ⟨a3, ea3, ha3, hb3⟩ := pl_blockA w3 (by omega) w7 (by omega) hC2
      have e32 : a3 = a2 := (nI_eq (by omega) (by omega)).mp (ea3.symm.trans g2.1.2.1.1)
      subst e32
      obtain ⟨τ3, e3, g3, fx3, t3⟩ := pl_joinG (l := 0) (h := d2) g2.1 t2 tr2 (by omega) (Or.inl (Nat.le_refl _)) (by omega) (by omega) (by omega) (by omega)
      obtain ⟨Ls, k14, rfl, rfl, rfl, hbl, hlv⟩ := bk2
      have hP2m := pl_Pm g.1.1 (a3 - a1) a1 (by have := g2.1.2.2.1; omega)
      rw [show a1 + (a3 - a1) = a3 by omega] at hP2m
      have eF : ((1, a, (0 : Int32), 1 + (pl_cat (cs ++ [(y2, (2, a1, 0, 1 + (pl_b1 Ls).length) :: pl_b1 Ls)])).length) :: pl_cat (cs ++ [(y2, (2, a1, 0, 1 + (pl_b1 Ls).length) :: pl_b1 Ls)]) : List pl_N) = pl_eF (a, np, a1, Ls) := by
        rw [pl_cat_app, w10]
        unfold pl_eF pl_eB
        simp [pl_cat, pl_par_len] <;> omega
      have t4 : pl_tr τ3 (pl_xP T) 0 d2 0 (pl_eF (a, np, a1, Ls)) := by rw [← eF]; exact t3.tr
      refine ⟨a3, σ2, τ3, by omega, fvA, (fx1.tr fx2 (by omega)).tr fx3 (Nat.le_refl _), Or.inl ⟨d2, σ1, (a, np, a1, Ls), w1, hC2, ?_, ⟨g3, g2.2⟩, t4, ops2, sts2, ⟨w5, w11, by have := w3.1.2.2.1; show a + 3 + 2 * np ≤ pl_xc T; omega, hbl⟩, ⟨?_, pl_od_lo _ _ _ _ (by omega) ni2.2⟩, ?_, ?_, ?_, ?_, ?_, by omega, by show 4 * (pl_b2 Ls).length + _ ≤ _; omega, by show (pl_b3 Ls).length + a ≤ _; omega, by omega⟩⟩
      · rw [w2, hX2, pl_sb, e3, pl_sb]
      · show pl_ni ((1, a, 0, _) :: (13, a + 1, nI (a + 1), 1) :: (pl_par (a + 3) np ++ pl_eB (a, np, a1, Ls))) a a3
        show a ≤ a + 1 ∧ pl_ni (pl_par (a + 3) np ++ pl_eB (a, np, a1, Ls)) (a + 1 + 1) a3
        refine ⟨by omega, pl_ni_app _ _ _ a1 _ (pl_ni_lo _ (a + 3) _ _ (by omega) (pl_par_ni np (a + 3) a1 (by omega) (by omega))) ni2.1⟩
      · rw [fs2.1.1 2 5 rfl]; exact w12
      · rw [fs2.1.2.1 12 rfl]; exact w13
      · rw [fs2.1.2.1 13 rfl]; exact w14
      · rw [fs2.1.2.1 14 rfl]; exact w15
      · rw [hlv, fh1.1.1 3 3 rfl, h33]
    · obtain ⟨τ3, e3, b3, fx3, j3⟩ := pl_joinW (d0 := 0) b2 (t2.jb (Nat.le_refl _) (by omega)) (vi2.le (by omega))
      exact ⟨a2, σ2, τ3, by omega, fvA, (fx1.tr fx2 (by omega)).tr fx3 (Nat.le_refl _), Or.inr ⟨Or.inr ⟨σ1, w1, hC2⟩, nI 0, by rw [w2, hX2, pl_sb, e3, pl_sb], b3.le (by omega) (Nat.le_refl _)⟩⟩
  · exact ⟨a1, σ1, τ1, hle1, fh1.fv, fx1, Or.inr ⟨Or.inl w1, nI 0, w2, w3⟩⟩
