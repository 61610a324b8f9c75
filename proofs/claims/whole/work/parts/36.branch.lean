/-! THE PARSER: if and while, statements of every kind -/
def pl_brC (rc : pr_St → Int32 → Option (Int32 × pr_St)) (D1 x3 x : Int32) (σ : pr_St) : Option (Int32 × pr_St) := if x3 = 302 then (prf_X_look σ).bind fun r231 => if r231 = 303 then (prf_X_take σ 303).bind fun r233 => if (r233.1 0 9) = 0 then (prf_X_block1 rc r233 D1).bind fun r235 => (prf_X_join r235.2 x r235.1).bind fun r236 => some (x, r236) else (prf_X_join r233 x (-1)).bind fun r237 => some (x, r237) else some (x, σ) else some (x, σ)
def pl_brB (rc : pr_St → Int32 → Option (Int32 × pr_St)) (D1 x3 x : Int32) (σ : pr_St) : Option (Int32 × pr_St) := if (σ.1 0 9) = 0 then (prf_X_block1 rc σ D1).bind fun r228 => (prf_X_join r228.2 x r228.1).bind fun r229 => pl_brC rc D1 x3 x r229 else (prf_X_join σ x (-1)).bind fun r238 => pl_brC rc D1 x3 x r238
def pl_brA (rc : pr_St → Int32 → Option (Int32 × pr_St)) (D1 x3 x : Int32) (σ : pr_St) : Option (Int32 × pr_St) := if (σ.1 0 9) = 0 then (prf_X_cond (prF_X_test 200) σ D1).bind fun r224 => (prf_X_join r224.2 x r224.1).bind fun r225 => (prf_X_take r225 41).bind fun r226 => pl_brB rc D1 x3 x r226 else (prf_X_join σ x (-1)).bind fun r247 => (prf_X_take r247 41).bind fun r248 => pl_brB rc D1 x3 x r248
theorem pl_187if (rc : pr_St → Int32 → Option (Int32 × pr_St)) (σ : pr_St) (D p : Int32) : prf_X_statement1_187 rc σ D p 302 = (prf_X_draft σ 8 p 0).bind fun r => (prf_X_take r.2 302).bind fun r1 => (prf_X_take r1 40).bind fun r2 => pl_brA rc (D + 1) 302 r.1 r2 := by
  unfold prf_X_statement1_187
  rw [if_pos rfl]
  rfl
theorem pl_187wh (rc : pr_St → Int32 → Option (Int32 × pr_St)) (σ : pr_St) (D p : Int32) : prf_X_statement1_187 rc σ D p 304 = (prf_X_draft σ 9 p 0).bind fun r => (prf_X_take r.2 304).bind fun r1 => (prf_X_take r1 40).bind fun r2 => pl_brA rc (D + 1) 304 r.1 r2 := by
  unfold prf_X_statement1_187
  rw [if_neg (show ¬ (304 : Int32) = 302 by decide)]
  rfl
theorem pl_brCW {T : pl_Tx} {a d0 m : Nat} {σ τ : pr_St} (b : pl_bd T a d0 m σ τ) (rc : pr_St → Int32 → Option (Int32 × pr_St)) (D1 x3 x : Int32) : pl_brC rc D1 x3 x τ = some (x, τ) := by
  unfold pl_brC
  by_cases h : x3 = 302
  · rw [if_pos h, pl_lookW b, pl_sb, if_neg (show ¬ (1 : Int32) = 303 by decide)]
  · rw [if_neg h]
theorem pl_brBW {T : pl_Tx} {a d0 m : Nat} {σ τ : pr_St} (b : pl_bd T a d0 m σ τ) (rc : pr_St → Int32 → Option (Int32 × pr_St)) (D1 x3 x : Int32) : pl_brB rc D1 x3 x τ = some (x, τ) := by
  unfold pl_brB
  rw [if_neg (pl_nbW b), pl_join0, pl_sb, pl_brCW b]
theorem pl_brAW {T : pl_Tx} {a d0 m : Nat} {σ τ : pr_St} (b : pl_bd T a d0 m σ τ) (rc : pr_St → Int32 → Option (Int32 × pr_St)) (D1 x3 x : Int32) : pl_brA rc D1 x3 x τ = some (x, τ) := by
  unfold pl_brA
  rw [if_neg (pl_nbW b), pl_join0, pl_sb, pl_takeW b, pl_sb, pl_brBW b]
/-- the end of a statement with BLOCKs -/
theorem pl_endB {T : pl_Tx} {a q d s b q' d' s2 y kd det oe : Nat} {σ τ σb τb : pr_St} {F : List pl_N} {S' : List pl_S} {O : List pl_O} {E : List (Nat × Bool)} {rC rX : Option (Int32 × pr_St)} {Φ : Nat → Nat → List pl_N → List pl_S → List pl_O → Int32 → Prop} (hs2 : s2 = s + 1 + S'.length) (h2 : s2 ≤ 2001) (g : pl_gs T b q' d' s2 σb τb) (hle : a ≤ b) (fs : pl_fs q s σ σb) (fx : pl_fx d τ τb) (hq' : q' = q + O.length) (hO : O.length + a ≤ b) (hd' : 5 * d' + 8 * a + 3 ≤ 5 * d + 8 * b) (hP : 4 * (S'.length + 1) + pl_xP T a ≤ pl_xP T b) (tr : pl_tr τb (pl_xP T) d d' y F) (ops : pl_ops σb q O) (op : pl_op σb s kd a q det) (sts : pl_sts σb (s + 1) S') (ni : pl_ni F a b) (hoe : a ≤ oe) (od : pl_od S' oe b) (hΦ : Φ s q F ((kd, a, q, det, s2, E, oe) :: S') O (nI kd))
    (eC : rC = (prf_G_closeStatement σb (nI s)).bind fun r' => some (1, pr_sI r' 3 3 (nI kd))) (eX : rX = some (nI y, τb)) : pl_phS T Φ a q d s σ τ rC rX := by
  obtain ⟨σ2, e2, v2, r21, rr, oo, ll⟩ := pl_closeS (s := s) g.2 (by omega) h2 (nI kd)
  rw [e2] at eC
  refine ⟨b, σ2, τb, hle, fs.tr (pl_close_fs rr oo ll) (Nat.le_refl _) (Nat.le_refl _), fx, Or.inl ⟨y, d', F, (kd, a, q, det, s2, E, oe) :: S', O, eC, eX, ?_, hO, hd', ?_, tr, ?_, ?_, ⟨ni, ⟨Nat.le_refl _, hoe⟩, od⟩, by rw [v2]; exact hΦ⟩⟩
  · rw [← hq', List.length_cons, show s + (S'.length + 1) = s2 by omega]
    exact pl_close_gs g rr oo ll
  · rw [List.length_cons]; omega
  · exact pl_ops_fs (q := q + O.length) (s := 0) (⟨(pl_close_fs (q := q + O.length) rr oo ll).1, (pl_close_fs (q := q + O.length) rr oo ll).2.1, fun r z _ _ hz => absurd hz (Nat.not_lt_zero _)⟩) O q (Nat.le_refl _) ops
  · refine ⟨⟨?_, ?_, ?_, ?_, r21⟩, pl_sts_eq S' (s + 1) (fun r z h3 h4 h5 h6 => rr r z (by omega)) sts⟩
    · rw [rr 17 s (by omega)]; exact op.1
    · rw [rr 18 s (by omega)]; exact op.2.1
    · rw [rr 19 s (by omega)]; exact op.2.2.1
    · rw [rr 20 s (by omega)]; exact op.2.2.2
/-- closing where the count of statements is not known -/
theorem pl_closeF {σ : pr_St} {s : Nat} (h2 : s ≤ 2000) (v : Int32) : ∃ σc, (∀ x : Int32, ((prf_G_closeStatement σ (nI s)).bind fun r => some (x, pr_sI r 3 3 v)) = some (x, σc)) ∧ (∀ r z, ¬ (r = 21 ∧ z = s) → σc.2.1 r z = σ.2.1 r z) ∧ (∀ o k, ¬ (o = 3 ∧ k = 3) → σc.1 o k = σ.1 o k) ∧ σc.2.2 = σ.2.2 := by
  by_cases h : σ.1 2 11 ≤ nI s
  · refine ⟨pr_sI σ 3 3 v, fun x => ?_, fun r z _ => rfl, fun o k hok => pr_sI_ne hok, rfl⟩
    unfold prf_G_closeStatement prf_G_isStatement
    rw [if_neg (nI_pos (by omega)), if_pos h, pl_sb, if_pos rfl, pl_sb]
  · refine ⟨pr_sI (pr_sA σ 21 (upd (σ.2.1 21) s (σ.1 2 11))) 3 3 v, fun x => ?_, fun r z hrz => ?_, fun o k hok => ?_, rfl⟩
    · unfold prf_G_closeStatement prf_G_isStatement
      rw [if_neg (nI_pos (by omega)), if_neg h, pl_sb, if_neg pl_10, pl_ck (by omega) (by omega), nI_clamp (by omega), pl_sb]
    · show (pr_sA σ 21 (upd (σ.2.1 21) s (σ.1 2 11))).2.1 r z = _
      by_cases hr : r = 21
      · subst hr
        rw [pl_sA_same, pk_un (fun q => hrz ⟨rfl, q⟩)]
      · rw [pl_sA_ne hr]
    · rw [pr_sI_ne hok]; rfl
theorem pl_failS2 {T : pl_Tx} {a q d s b : Nat} {σ τ σb τb : pr_St} {v kd : Int32} {rC rX : Option (Int32 × pr_St)} {Φ : Nat → Nat → List pl_N → List pl_S → List pl_O → Int32 → Prop} (hs2 : s ≤ 2000) (hle : a ≤ b) (fs : pl_fs q s σ σb) (fx : pl_fx d τ τb) (bd : pl_bd T b d 5 σb τb) (vi : pl_vi d v) (eC : rC = (prf_G_closeStatement σb (nI s)).bind fun r' => some (0, pr_sI r' 3 3 kd)) (eX : rX = some (v, τb)) : pl_phS T Φ a q d s σ τ rC rX := by
  obtain ⟨σ2, e2, rr, oo, ll⟩ := pl_closeF (σ := σb) hs2 kd
  rw [e2] at eC
  exact ⟨b, σ2, τb, hle, fs.tr (pl_close_fs rr oo ll) (Nat.le_refl _) (Nat.le_refl _), fx, Or.inr ⟨eC, v, eX, pl_close_bd bd rr oo ll, vi⟩⟩
/-- if and while -/
theorem pl_stBranch {T : pl_Tx} {a q d s : Nat} {σ τ : pr_St} (g : pl_gs T a q d s σ τ) (hq : q ≤ a) (hd : d ≤ 2 * a) (h4 : 4 * s ≤ pl_xP T a) (kk kd nk x3 : Nat) (hkk : (kk = 6 ∧ kd = 5 ∧ nk = 8 ∧ x3 = 302) ∨ (kk = 8 ∧ kd = 6 ∧ nk = 9 ∧ x3 = 304)) (hk : pl_xK T a = kk) (rc rcX : pr_St → Int32 → Option (Int32 × pr_St)) (D f : Nat) (hD : D < 900) (H : D + 1 ≤ 60 → ∀ E, pl_spS T (pl_Φs T f E) (fun σ => rc σ (nI (D + 1))) (fun τ => rcX τ (nI (D + 1)))) (E : List (Nat × Bool)) : pl_phS T (pl_Φs T (f + 1) E) a q d s σ τ (prf_R_readStatement rc σ (nI D)) (prf_X_statement1 rcX τ (nI D)) := by
  have h8 := pl_gd8 g.1
  have hs := pl_s2000 g h4
  obtain ⟨σ1, eo, g1, fs1, op1, o1⟩ := pl_openS g hs (k := kd) (by omega)
  obtain ⟨τ2, e2, g2, fx2, t2⟩ := pl_draftG g1.1 (by omega) nk a 0
  obtain ⟨σ3, τ3, c3, c3', x3e, g3, fc3, fx3, s3, r3⟩ := pl_takeA g2 hk (by omega)
  have hn1 : ¬ nI s = -1 := pl_nIm1 (by omega)
  have h83 := pl_gd8 g3
  have t3 := t2.fx (fx3 (d + 1)) (Nat.le_refl _)
  have fxA : pl_fx d τ τ3 := fx2.tr (fx3 d) (Nat.le_refl _)
  have eC0 : prf_R_readStatement rc σ (nI D) = (prf_R_readBranch rc σ1 (nI s) (nI kd) (nI D)).bind fun r203 => (prf_G_closeStatement r203.2 (nI s)).bind fun r204 => pr_z r203.1 (some (r203.1, pr_sI r204 3 3 (nI kd))) := by
    rcases hkk with ⟨rfl, rfl, rfl, rfl⟩ | ⟨rfl, rfl, rfl, rfl⟩
    · have ek : prf_R_statementKind σ = some (nI 5) := by
        unfold prf_R_statementKind
        rw [pl_nowG g.1, pl_sb, hk, if_neg (show ¬ nI 6 = 2 by decide), if_neg (show ¬ nI 6 = 3 by decide), if_neg (show ¬ nI 6 = 4 by decide), if_neg (show ¬ nI 6 = 5 by decide), if_pos (show nI 6 = 6 from rfl)]
        rfl
      unfold prf_R_readStatement
      rw [ek, pl_sb, if_neg (show ¬ nI 5 = 0 by decide), eo, pl_sb, if_neg hn1, if_neg (show ¬ nI 5 = 1 by decide), if_neg (show ¬ nI 5 = 2 by decide), if_neg (show ¬ nI 5 = 3 by decide), if_neg (show ¬ nI 5 = 4 by decide), if_pos (show nI 5 = 5 from rfl)]
    · have ek : prf_R_statementKind σ = some (nI 6) := by
        unfold prf_R_statementKind
        rw [pl_nowG g.1, pl_sb, hk, if_neg (show ¬ nI 8 = 2 by decide), if_neg (show ¬ nI 8 = 3 by decide), if_neg (show ¬ nI 8 = 4 by decide), if_neg (show ¬ nI 8 = 5 by decide), if_neg (show ¬ nI 8 = 6 by decide), if_neg (show ¬ nI 8 = 7 by decide), if_pos (show nI 8 = 8 from rfl)]
        rfl
      unfold prf_R_readStatement
      rw [ek, pl_sb, if_neg (show ¬ nI 6 = 0 by decide), eo, pl_sb, if_neg hn1, if_neg (show ¬ nI 6 = 1 by decide), if_neg (show ¬ nI 6 = 2 by decide), if_neg (show ¬ nI 6 = 3 by decide), if_neg (show ¬ nI 6 = 4 by decide), if_neg (show ¬ nI 6 = 5 by decide), if_pos (show nI 6 = 6 from rfl)]
  have eX0 : prf_X_statement1 rcX τ (nI D) = (prf_X_take τ3 40).bind fun r2 => pl_brA rcX (nI (D + 1)) (nI x3) (nI d) r2 := by
    rcases hkk with ⟨rfl, rfl, rfl, rfl⟩ | ⟨rfl, rfl, rfl, rfl⟩
    · have e2' : prf_X_draft τ 8 (nI (pl_xP T a)) 0 = some (nI d, τ2) := e2
      have x3' : prf_X_take τ2 302 = some τ3 := x3e
      unfold prf_X_statement1
      rw [(pl_placeG g.1).1, pl_lookG g.1, pl_sb, hk, if_neg (show ¬ nI (pl_km 6) = 301 by decide), if_neg (show ¬ nI (pl_km 6) = 2 by decide), if_pos (show nI (pl_km 6) = 302 from rfl), show nI (pl_km 6) = 302 from rfl, pl_187if, (pl_placeG (α := Nat) (k := none) g.1).2, e2', pl_sb, x3', pl_sb, nI_1]
      rfl
    · have e2' : prf_X_draft τ 9 (nI (pl_xP T a)) 0 = some (nI d, τ2) := e2
      have x3' : prf_X_take τ2 304 = some τ3 := x3e
      unfold prf_X_statement1
      rw [(pl_placeG g.1).1, pl_lookG g.1, pl_sb, hk, if_neg (show ¬ nI (pl_km 8) = 301 by decide), if_neg (show ¬ nI (pl_km 8) = 2 by decide), if_neg (show ¬ nI (pl_km 8) = 302 by decide), if_pos (show nI (pl_km 8) = 304 from rfl), show nI (pl_km 8) = 304 from rfl, pl_187wh, (pl_placeG (α := Nat) (k := none) g.1).2, e2', pl_sb, x3', pl_sb, nI_1]
      rfl
  have eB0 : prf_R_readBranch rc σ1 (nI s) (nI kd) (nI D) = (prf_R_take σ3 12).bind fun r15 => if r15.1 = 0 then some (0, r15.2) else (prf_R_readCond (prF_R_readTest 70) r15.2 (nI (D + 1))).bind fun r17 => if r17.1 = 0 then some (0, r17.2) else (prf_R_take r17.2 13).bind fun r19 => if r19.1 = 0 then some (0, r19.2) else (prf_R_readBlock rc r19.2 (nI (D + 1))).bind fun r21 => if r21.1 = 0 then some (0, r21.2) else (prf_G_closeFirstBlock r21.2 (nI s)).bind fun r23 => if nI kd = 6 then some (1, r23) else (prf_R_take r23 7).bind fun r25 => if r25.1 = 0 then some (1, r25.2) else (prf_R_readBlock rc r25.2 (nI (D + 1))).bind fun r27 => if r27.1 = 0 then some (0, r27.2) else some (1, r27.2) := by
    unfold prf_R_readBranch
    rw [c3', nI_1]
  -- a failure inside: the statement is closed, and fails
  have fail : ∀ (b : Nat) (σb τb : pr_St), a ≤ b → pl_fs q s σ σb → pl_fx d τ τb → pl_bd T b d 5 σb τb → prf_R_readBranch rc σ1 (nI s) (nI kd) (nI D) = some (0, σb) → prf_X_statement1 rcX τ (nI D) = some (nI d, τb) → pl_phS T (pl_Φs T (f + 1) E) a q d s σ τ (prf_R_readStatement rc σ (nI D)) (prf_X_statement1 rcX τ (nI D)) := by
    intro b σb τb w4 w5 w6 w7 w8 w9
    refine pl_failS2 (b := b) (kd := nI kd) hs w4 w5 w6 w7 (pl_vi1 (Nat.le_refl _) (by omega)) ?_ w9
    rw [eC0, w8, pl_sb]
    rfl
  by_cases k12 : pl_xK T (a + 1) = 12
  · obtain ⟨σ4, τ4, c4, c4', x4, g4, fc4, fx4, s4, r4⟩ := pl_takeA g3 k12 (by decide)
    have c4'' : prf_R_take σ3 12 = some (1, σ4) := c4
    have x4'' : prf_X_take τ3 40 = some τ4 := x4
    have t4 := t3.fx (fx4 (d + 1)) (Nat.le_refl _)
    rw [c4'', pl_sb, if_neg (show ¬ ((1 : Int32), σ4).1 = 0 from pl_10)] at eB0
    rw [x4'', pl_sb, pl_brA, if_pos g4.2.2.2.1] at eX0
    obtain ⟨a5, σ5, τ5, hle5, fc5, fx5, hr5⟩ := pl_condN (T := T) (D + 1) (by omega) (by omega) (a + 2) q (d + 1) σ4 τ4 g4 (by omega) (by omega)
    have fcC : pl_fc q σ1 σ5 := ((fc3 q).tr (fc4 q) (Nat.le_refl _)).tr fc5 (Nat.le_refl _)
    have fxC : pl_fx d τ τ5 := (fxA.tr (fx4 d) (Nat.le_refl _)).tr fx5 (by omega)
    have t5 := t4.fx fx5 (Nat.le_refl _)
    rcases hr5 with ⟨y, d5, C, Qc, hC, hX, g5, hO, hD5, tr5, ops5, cm5, cd5⟩ | ⟨hC, v, hX, b5, vi5⟩
    · have h85 := pl_gd8 g5
      have iv5 := tr5.iv
      have hC' : prf_R_readCond (prF_R_readTest 70) σ4 (nI (D + 1)) = some (1, σ5) := hC
      have hX' : prf_X_cond (prF_X_test 200) τ4 (nI (D + 1)) = some (nI y, τ5) := hX
      obtain ⟨τ6, e6, g6, fx6, t6⟩ := pl_joinG (l := d) (h := d5) g5 t5 tr5 (by omega) (Or.inl (Nat.le_refl _)) (by omega) (by omega) (by omega) (by omega)
      rw [hC', pl_sb, if_neg (show ¬ ((1 : Int32), σ5).1 = 0 from pl_10)] at eB0
      rw [hX', pl_sb, e6, pl_sb] at eX0
      have fxD : pl_fx d τ τ6 := fxC.tr fx6 (Nat.le_refl _)
      by_cases k13 : pl_xK T a5 = 13
      · obtain ⟨σ7, τ7, c7, c7', x7, g7, fc7, fx7, s7, r7⟩ := pl_takeA g6 k13 (by decide)
        have c7'' : prf_R_take σ5 13 = some (1, σ7) := c7
        have x7'' : prf_X_take τ6 41 = some τ7 := x7
        rw [c7'', pl_sb, if_neg (show ¬ ((1 : Int32), σ7).1 = 0 from pl_10)] at eB0
        rw [x7'', pl_sb, pl_brB, if_pos g7.2.2.2.1] at eX0
        have fcE : pl_fc q σ1 σ7 := fcC.tr (fc7 q) (Nat.le_refl _)
        have fxE : pl_fx d τ τ7 := fxD.tr (fx7 d) (Nat.le_refl _)
        have t7 := t6.fx (fx7 d5) (Nat.le_refl _)
        have gs7 : pl_gs T (a5 + 1) (q + Qc.length) d5 (s + 1) σ7 τ7 := pl_gs_fc g1 g7 fcE
        have c51 := cm5.1
        have hP7 := pl_Pm g.1.1 (a5 + 1 - a) a (by have := g7.2.2.1; omega)
        rw [show a + (a5 + 1 - a) = a5 + 1 by omega] at hP7
        have h87 := pl_gd8 g7
        obtain ⟨a8, σ8, τ8, hle8, fs8, fx8, hr8⟩ := pl_block (T := T) (D + 1) f (by omega) rc rcX H E gs7 (by omega) (by omega) (by omega)
        have fsF : pl_fs q s σ σ8 := (fs1.tr fcE.fs (Nat.le_refl _) (Nat.le_refl _)).tr fs8 (by omega) (by omega)
        have fxF : pl_fx d τ τ8 := fxE.tr fx8 (by omega)
        have t8 := t7.fx fx8 (Nat.le_refl _)
        have op8 := pl_op_fs (pl_op_fc op1 fcE) fs8 (Nat.lt_succ_self s)
        rcases hr8 with ⟨y8, d8, B1, S1, O1, hC8, hX8, g8, hO8, hD8, hP8, tr8, ops8, sts8, ni8, bk8⟩ | ⟨hC8, v8, hX8, b8, vi8⟩
        · have h88 := pl_gd8 g8.1
          have iv8 := tr8.iv
          obtain ⟨τ9, e9, g9, fx9, t9⟩ := pl_joinG (l := d) (h := d8) g8.1 t8 tr8 (by omega) (Or.inl (Nat.le_refl _)) (by omega) (by omega) (by omega) (by omega)
          have hPle := pl_P8 g8.1.1 g8.1.2.2.1
          obtain ⟨σ9, ed, g9', fs9, r20, rr9, rf9⟩ := pl_detS (s := s) ⟨g9, g8.2⟩ (by omega) (by omega) (nI (s + 1 + S1.length))
          have ecf : prf_G_closeFirstBlock σ8 (nI s) = some σ9 := by
            unfold prf_G_closeFirstBlock
            rw [g8.2, ed, pl_sb]
          rw [hC8, pl_sb, if_neg (show ¬ ((1 : Int32), σ8).1 = 0 from pl_10), ecf, pl_sb] at eB0
          rw [hX8, pl_sb, e9, pl_sb] at eX0
          have op9 : pl_op σ9 s kd a q (s + 1 + S1.length) := ⟨by rw [rr9 17 s (by omega)]; exact op8.1, by rw [rr9 18 s (by omega)]; exact op8.2.1, by rw [rr9 19 s (by omega)]; exact op8.2.2.1, r20⟩
          have fsG : pl_fs q s σ σ9 := fsF.tr fs9 (by omega) (Nat.le_refl _)
          have fxG : pl_fx d τ τ9 := fxF.tr fx9 (Nat.le_refl _)
          have sts9 : pl_sts σ9 (s + 1) S1 := pl_sts_eq S1 (s + 1) (fun r z w1 w2 w3 w4 => rr9 r z (by omega)) sts8
          have opsQ : pl_ops σ9 q Qc := pl_ops_fs fs9 _ _ (by omega) (pl_ops_fs fs8 _ _ (Nat.le_refl _) (pl_ops_eq (fc7 (q + Qc.length)).2 _ _ (Nat.le_refl _) ops5))
          have ops9 : pl_ops σ9 (q + Qc.length) O1 := pl_ops_fs fs9 _ _ (Nat.le_refl _) ops8
          have bkf := pl_Φb_bk bk8
          obtain ⟨Ls8, k14, _⟩ := bk8
          have niA : pl_ni (C ++ B1) a a8 := pl_ni_app C B1 a a5 a8 (pl_ni_lo _ _ _ _ (by omega) cm5.ni) (pl_ni_lo _ _ _ _ (by omega) ni8.1)
          -- without another BLOCK
          have one : prf_R_readBranch rc σ1 (nI s) (nI kd) (nI D) = some (1, σ9) → prf_X_statement1 rcX τ (nI D) = some (nI d, τ9) → pl_phS T (pl_Φs T (f + 1) E) a q d s σ τ (prf_R_readStatement rc σ (nI D)) (prf_X_statement1 rcX τ (nI D)) := by
            intro w1 w2
            have eF : ((nk, a, (0 : Int32), 1 + (pl_cat ([] ++ [(y, C)] ++ [(y8, B1)])).length) :: pl_cat ([] ++ [(y, C)] ++ [(y8, B1)]) : List pl_N) = (nk, a, 0, 1 + (C ++ B1 ++ []).length) :: (C ++ B1 ++ []) := by
              simp [pl_cat]
            have t10 : pl_tr τ9 (pl_xP T) d d8 d ((nk, a, 0, 1 + (C ++ B1 ++ []).length) :: (C ++ B1 ++ [])) := by rw [← eF]; exact t9.tr
            refine pl_endB (s2 := s + 1 + S1.length) (S' := S1 ++ []) (O := Qc ++ O1 ++ []) (E := E) (kd := kd) (det := s + 1 + S1.length) (y := d) (by rw [List.append_nil]) (by omega) g9' (by omega) fsG fxG (by simp <;> omega) (by simp <;> omega) (by omega) (by rw [List.append_nil]; omega) t10 (by rw [List.append_nil]; exact pl_ops_app Qc O1 q opsQ ops9) op9 (by rw [List.append_nil]; exact sts9) ?_ (oe := a5 + 1) (by omega) (by rw [List.append_nil]; exact ni8.2) ⟨Or.inr ⟨nk, a, a5, C, Qc, B1, S1, O1, [], [], [], by rcases hkk with ⟨z1, z2, z3, z4⟩ | ⟨z1, z2, z3, z4⟩; exact Or.inl ⟨z3, by rw [hk]; exact z1⟩; exact Or.inr ⟨z3, by rw [hk]; exact z1, rfl, rfl, rfl⟩, k12, k13, k14, cm5, pl_cd_ff cd5 (by decide), bkf, Or.inl ⟨rfl, rfl, rfl⟩, rfl, by rw [show nk - 3 = kd by omega]; rfl, rfl⟩, _, _, rfl, rfl⟩ (by rw [eC0, w1, pl_sb]; rfl) w2
            show (if nk = 13 then _ else pl_ni (C ++ B1 ++ []) a a8)
            rw [if_neg (by omega), List.append_nil]
            exact niA
          rcases hkk with hif | hwh
          · rw [if_neg (show ¬ nI kd = 6 by rw [hif.2.1]; decide)] at eB0
            rw [pl_brC, if_pos (show nI x3 = 302 by rw [hif.2.2.2]; rfl), pl_lookG g9'.1, pl_sb] at eX0
            by_cases k7 : pl_xK T a8 = 7
            · obtain ⟨σ10, τ10, c10, c10', x10, g10, fc10, fx10, s10, r10⟩ := pl_takeA g9'.1 k7 (by decide)
              have c10'' : prf_R_take σ9 7 = some (1, σ10) := c10
              have x10'' : prf_X_take τ9 303 = some τ10 := x10
              rw [c10'', pl_sb, if_neg (show ¬ ((1 : Int32), σ10).1 = 0 from pl_10)] at eB0
              rw [k7, if_pos (show nI (pl_km 7) = 303 from rfl), x10'', pl_sb, if_pos g10.2.2.2.1] at eX0
              have t10 := t9.fx (fx10 d8) (Nat.le_refl _)
              have gs10 : pl_gs T (a8 + 1) (q + Qc.length + O1.length) d8 (s + 1 + S1.length) σ10 τ10 := pl_gs_fc g9' g10 (fc10 0)
              have hP10 := pl_Pm g.1.1 1 a8 (by have := g10.2.2.1; omega)
              have h810 := pl_gd8 g10
              obtain ⟨a11, σ11, τ11, hle11, fs11, fx11, hr11⟩ := pl_block (T := T) (D + 1) f (by omega) rc rcX H E gs10 (by omega) (by omega) (by omega)
              have fsH : pl_fs q s σ σ11 := (fsG.tr (fc10 q).fs (Nat.le_refl _) (Nat.le_refl _)).tr fs11 (by omega) (by omega)
              have fxH : pl_fx d τ τ11 := (fxG.tr (fx10 d) (Nat.le_refl _)).tr fx11 (by omega)
              have t11 := t10.fx fx11 (Nat.le_refl _)
              rcases hr11 with ⟨y11, d11, B2, S2, O2, hC11, hX11, g11, hO11, hD11, hP11, tr11, ops11, sts11, ni11, bk11⟩ | ⟨hC11, v11, hX11, b11, vi11⟩
              · have h811 := pl_gd8 g11.1
                have iv11 := tr11.iv
                obtain ⟨τ12, e12, g12, fx12, t12⟩ := pl_joinG (l := d) (h := d11) g11.1 t11 tr11 (by omega) (Or.inl (Nat.le_refl _)) (by omega) (by omega) (by omega) (by omega)
                rw [hC11, pl_sb, if_neg (show ¬ ((1 : Int32), σ11).1 = 0 from pl_10)] at eB0
                rw [hX11, pl_sb, e12, pl_sb] at eX0
                have hPle2 := pl_P8 g11.1.1 g11.1.2.2.1
                have eF : ((nk, a, (0 : Int32), 1 + (pl_cat ([] ++ [(y, C)] ++ [(y8, B1)] ++ [(y11, B2)])).length) :: pl_cat ([] ++ [(y, C)] ++ [(y8, B1)] ++ [(y11, B2)]) : List pl_N) = (nk, a, 0, 1 + (C ++ B1 ++ B2).length) :: (C ++ B1 ++ B2) := by
                  simp [pl_cat]
                have t13 : pl_tr τ12 (pl_xP T) d d11 d ((nk, a, 0, 1 + (C ++ B1 ++ B2).length) :: (C ++ B1 ++ B2)) := by rw [← eF]; exact t12.tr
                have fcs : pl_fs (q + Qc.length + O1.length) (s + 1 + S1.length) σ9 σ11 := ((fc10 _).fs).tr fs11 (Nat.le_refl _) (Nat.le_refl _)
                refine pl_endB (s2 := s + 1 + S1.length + S2.length) (S' := S1 ++ S2) (O := Qc ++ O1 ++ O2) (E := E) (kd := kd) (det := s + 1 + S1.length) (y := d) (by rw [List.length_append]; omega) (by omega) ⟨g12, g11.2⟩ (by omega) fsH (fxH.tr fx12 (Nat.le_refl _)) (by simp <;> omega) (by simp <;> omega) (by omega) (by rw [List.length_append]; omega) t13 ?_ (pl_op_fs op9 fcs (by omega)) (pl_sts_app S1 S2 (s + 1) (pl_sts_fs fcs _ _ (Nat.le_refl _) sts9) sts11) ?_ (oe := a5 + 1) (by omega) (pl_od_app S1 S2 _ a8 _ ni8.2 (pl_od_lo _ _ _ _ (by omega) ni11.2)) ⟨Or.inr ⟨nk, a, a5, C, Qc, B1, S1, O1, B2, S2, O2, Or.inl ⟨hif.2.2.1, by rw [hk]; exact hif.1⟩, k12, k13, k14, cm5, pl_cd_ff cd5 (by decide), bkf, Or.inr (pl_Φb_bk bk11), rfl, by rw [show nk - 3 = kd by omega], rfl⟩, _, _, rfl, rfl⟩ (by rw [eC0, eB0, pl_sb]; rfl) eX0
                · refine pl_ops_app (Qc ++ O1) O2 q (pl_ops_fs fcs _ _ (by rw [List.length_append]; omega) (pl_ops_app Qc O1 q opsQ ops9)) ?_
                  rw [List.length_append, ← Nat.add_assoc]
                  exact ops11
                · show (if nk = 13 then _ else pl_ni (C ++ B1 ++ B2) a a11)
                  rw [if_neg (by omega)]
                  exact pl_ni_app _ _ _ _ _ niA (pl_ni_lo _ _ _ _ (by omega) ni11.1)
              · obtain ⟨τ12, e12, b12, fx12, j12⟩ := pl_joinW (d0 := d) b11 (t11.jb (Nat.le_refl _) (by omega)) (vi11.le (by omega))
                rw [hC11, pl_sb, if_pos rfl] at eB0
                rw [hX11, pl_sb, e12, pl_sb] at eX0
                exact fail a11 σ11 τ12 (by omega) fsH (fxH.tr fx12 (Nat.le_refl _)) (b12.le (by omega) (Nat.le_refl _)) eB0 eX0
            · have c10 : prf_R_take σ9 7 = some (0, σ9) := (pl_takeZ g9'.1 (k := 7) (by decide) k7).1
              rw [c10, pl_sb, if_pos rfl] at eB0
              rw [if_neg (pl_kn (pl_gdK g9'.1) (j := 7) (v := 303) (by decide) rfl k7)] at eX0
              exact one eB0 eX0
          · rw [if_pos (show nI kd = 6 by rw [hwh.2.1]; rfl)] at eB0
            rw [pl_brC, if_neg (show ¬ nI x3 = 302 by rw [hwh.2.2.2]; decide)] at eX0
            exact one eB0 eX0
        · obtain ⟨τ9, e9, b9, fx9, j9⟩ := pl_joinW (d0 := d) b8 (t8.jb (Nat.le_refl _) (by omega)) (vi8.le (by omega))
          rw [hC8, pl_sb, if_pos rfl] at eB0
          rw [hX8, pl_sb, e9, pl_sb, pl_brCW b9] at eX0
          exact fail a8 σ8 τ9 (by omega) fsF (fxF.tr fx9 (Nat.le_refl _)) (b9.le (by omega) (Nat.le_refl _)) eB0 eX0
      · obtain ⟨c7, τ7, x7, b7, fx7⟩ := pl_takeZ g6 (k := 13) (by decide) k13
        have b7' := b7 d 5 (by omega) (by omega)
        have c7'' : prf_R_take σ5 13 = some (0, σ5) := c7
        have x7'' : prf_X_take τ6 41 = some τ7 := x7
        rw [c7'', pl_sb, if_pos rfl] at eB0
        rw [x7'', pl_sb, pl_brBW b7'] at eX0
        exact fail a5 σ5 τ7 (by omega) (fs1.tr fcC.fs (Nat.le_refl _) (Nat.le_refl _)) (fxD.tr (fx7 d) (Nat.le_refl _)) b7' eB0 eX0
    · have hC' : prf_R_readCond (prF_R_readTest 70) σ4 (nI (D + 1)) = some (0, σ5) := hC
      have hX' : prf_X_cond (prF_X_test 200) τ4 (nI (D + 1)) = some (v, τ5) := hX
      obtain ⟨τ6, e6, b6, fx6, j6⟩ := pl_joinW (d0 := d) b5 (t5.jb (Nat.le_refl _) (by omega)) (vi5.le (by omega))
      rw [hC', pl_sb, if_pos rfl] at eB0
      rw [hX', pl_sb, e6, pl_sb, pl_takeW b6, pl_sb, pl_brBW b6] at eX0
      exact fail a5 σ5 τ6 (by omega) (fs1.tr fcC.fs (Nat.le_refl _) (Nat.le_refl _)) (fxC.tr fx6 (Nat.le_refl _)) (b6.le (by omega) (by omega)) eB0 eX0
  · obtain ⟨c4, τ4, x4, b4, fx4⟩ := pl_takeZ g3 (k := 12) (by decide) k12
    have b4' := b4 d 5 (by omega) (by omega)
    have c4'' : prf_R_take σ3 12 = some (0, σ3) := c4
    have x4'' : prf_X_take τ3 40 = some τ4 := x4
    rw [c4'', pl_sb, if_pos rfl] at eB0
    rw [x4'', pl_sb, pl_brAW b4'] at eX0
    exact fail (a + 1) σ3 τ4 (by omega) (fs1.tr (fc3 q).fs (Nat.le_refl _) (Nat.le_refl _)) (fxA.tr (fx4 d) (Nat.le_refl _)) b4' eB0 eX0
/-- no statement begins here -/
theorem pl_stNo {T : pl_Tx} {a q d s : Nat} {σ τ : pr_St} (g : pl_gs T a q d s σ τ) (hd : d ≤ 2 * a) (k2 : ¬ pl_xK T a = 2) (k5 : ¬ pl_xK T a = 5) (k6 : ¬ pl_xK T a = 6) (k8 : ¬ pl_xK T a = 8) (k9 : ¬ pl_xK T a = 9) (k10 : ¬ pl_xK T a = 10) (rc rcX : pr_St → Int32 → Option (Int32 × pr_St)) (D : Int32) (Φ : Nat → Nat → List pl_N → List pl_S → List pl_O → Int32 → Prop) : pl_phS T Φ a q d s σ τ (prf_R_readStatement rc σ D) (prf_X_statement1 rcX τ D) := by
  have hK := pl_gdK g.1
  have h8 := pl_gd8 g.1
  obtain ⟨c1, τ1, x1, b1, fx1⟩ := pl_takeZ g.1 (k := 10) (by decide) k10
  have b1' := b1 d 0 (Nat.le_refl _) (by omega)
  obtain ⟨y2, τ2, e2, y2a, y2b, b2, fx2, j2⟩ := pl_draftW b1' (by decide) 11 (nI (pl_xP T a)) 0
  have ek : prf_R_statementKind σ = some 0 := by
    unfold prf_R_statementKind
    rw [pl_nowG g.1, pl_sb, if_neg (pl_cn hK (j := 2) (v := 2) (by decide) rfl k2), if_neg (pl_cn hK (j := 5) (v := 5) (by decide) rfl k5), if_neg (pl_cn hK (j := 6) (v := 6) (by decide) rfl k6), if_neg (pl_cn hK (j := 8) (v := 8) (by decide) rfl k8), if_neg (pl_cn hK (j := 9) (v := 9) (by decide) rfl k9), if_neg (pl_cn hK (j := 10) (v := 10) (by decide) rfl k10)]
    repeat' split <;> try rfl
  have eC : prf_R_readStatement rc σ D = some (0, σ) := by
    unfold prf_R_readStatement
    rw [ek, pl_sb, if_pos rfl, if_pos rfl]
  have eX : prf_X_statement1 rcX τ D = some (nI y2, τ2) := by
    have x1' : prf_X_take τ 306 = some τ1 := x1
    unfold prf_X_statement1
    rw [(pl_placeG g.1).1, pl_lookG g.1, pl_sb, if_neg (pl_kn hK (j := 5) (v := 301) (by decide) rfl k5), if_neg (pl_kn hK (j := 2) (v := 2) (by decide) rfl k2), if_neg (pl_kn hK (j := 6) (v := 302) (by decide) rfl k6), if_neg (pl_kn hK (j := 8) (v := 304) (by decide) rfl k8), if_neg (pl_kn hK (j := 9) (v := 305) (by decide) rfl k9), x1', pl_sb, (pl_placeG (α := Nat) (k := none) g.1).2, e2, pl_sb, if_neg (pl_nbW b2), pl_join0, pl_sb, pl_takeW b2, pl_sb]
  exact ⟨a, σ, τ2, Nat.le_refl _, pl_fs.rf, (fx1 d).tr fx2 (Nat.le_refl _), Or.inr ⟨eC, nI y2, eX, b2.le (by omega) (by omega), pl_vi1 y2a y2b⟩⟩
theorem pl_phS_mono {T : pl_Tx} {Φ Φ' : Nat → Nat → List pl_N → List pl_S → List pl_O → Int32 → Prop} {a q d s : Nat} {σ τ : pr_St} {rC rX : Option (Int32 × pr_St)} (h : pl_phS T Φ a q d s σ τ rC rX) (hm : ∀ s q F S O v, Φ s q F S O v → Φ' s q F S O v) : pl_phS T Φ' a q d s σ τ rC rX := by
  obtain ⟨a', σ', τ', h1, h2, h3, hr⟩ := h
  refine ⟨a', σ', τ', h1, h2, h3, ?_⟩
  rcases hr with ⟨y, d', F, S, O, w1, w2, w3, w4, w5, w6, w7, w8, w9, w10, w11⟩ | w
  · exact Or.inl ⟨y, d', F, S, O, w1, w2, w3, w4, w5, w6, w7, w8, w9, w10, hm _ _ _ _ _ _ w11⟩
  · exact Or.inr w
theorem pl_Φls {T : pl_Tx} {E : List (Nat × Bool)} {f s q : Nat} {F : List pl_N} {S : List pl_S} {O : List pl_O} {v : Int32} (h : pl_Φl T E s q F S O v) : pl_Φs T (f + 1) E s q F S O v := ⟨Or.inl h.1, h.2⟩
/-- a statement -/
theorem pl_stmt {T : pl_Tx} (rc rcX : pr_St → Int32 → Option (Int32 × pr_St)) (D f : Nat) (hD : D < 900) (H : D + 1 ≤ 60 → ∀ E, pl_spS T (pl_Φs T f E) (fun σ => rc σ (nI (D + 1))) (fun τ => rcX τ (nI (D + 1)))) (E : List (Nat × Bool)) : pl_spS T (pl_Φs T (f + 1) E) (fun σ => prf_R_readStatement rc σ (nI D)) (fun τ => prf_X_statement1 rcX τ (nI D)) := by
  intro a q d s σ τ g hq hd h4
  by_cases k5 : pl_xK T a = 5
  · exact pl_phS_mono (pl_stVar g hq hd h4 k5 rc rcX D hD E) (fun _ _ _ _ _ _ => pl_Φls)
  by_cases k2 : pl_xK T a = 2
  · by_cases k12 : pl_xK T (a + 1) = 12
    · exact pl_phS_mono (pl_stCall g hq hd h4 k2 k12 rc rcX D hD E) (fun _ _ _ _ _ _ => pl_Φls)
    by_cases k16 : pl_xK T (a + 1) = 16
    · exact pl_phS_mono (pl_stPlace g hq hd h4 k2 k16 rc rcX D hD E) (fun _ _ _ _ _ _ => pl_Φls)
    by_cases kc : pl_xK T (a + 1) = 20 ∧ pl_xK T (a + 2) = 2 ∧ pl_xK T (a + 3) = 12
    · exact pl_phS_mono (pl_stCallT g hq hd h4 k2 kc.1 kc.2.1 kc.2.2 rc rcX D hD E) (fun _ _ _ _ _ _ => pl_Φls)
    · exact pl_phS_mono (pl_stSet g hq hd h4 k2 k12 k16 kc rc rcX D hD E) (fun _ _ _ _ _ _ => pl_Φls)
  by_cases k6 : pl_xK T a = 6
  · exact pl_stBranch g hq hd h4 6 5 8 302 (Or.inl ⟨rfl, rfl, rfl, rfl⟩) k6 rc rcX D f hD H E
  by_cases k8 : pl_xK T a = 8
  · exact pl_stBranch g hq hd h4 8 6 9 304 (Or.inr ⟨rfl, rfl, rfl, rfl⟩) k8 rc rcX D f hD H E
  by_cases k9 : pl_xK T a = 9
  · exact pl_phS_mono (pl_stAssert g hq hd h4 k9 rc rcX D hD E) (fun _ _ _ _ _ _ => pl_Φls)
  by_cases k10 : pl_xK T a = 10
  · exact pl_phS_mono (pl_stReturn g hq hd h4 k10 rc rcX D hD E) (fun _ _ _ _ _ _ => pl_Φls)
  exact pl_stNo g hd k2 k5 k6 k8 k9 k10 rc rcX (nI D) _
/-- the recursion is tied -/
theorem pl_stmtN {T : pl_Tx} : ∀ (m D h : Nat) (E : List (Nat × Bool)), D + m = 60 → m < h → pl_spS T (pl_Φs T (m + 1) E) (fun σ => prF_R_readStatement h σ (nI D)) (fun τ => prF_X_statement1 h τ (nI D)) := by
  intro m
  induction m with
  | zero =>
    intro D h E hD hh
    obtain ⟨h, rfl⟩ : ∃ z, h = z + 1 := ⟨h - 1, by omega⟩
    exact pl_stmt (prF_R_readStatement h) (prF_X_statement1 h) D 0 (by omega) (fun q => absurd q (by omega)) E
  | succ m ih =>
    intro D h E hD hh
    obtain ⟨h, rfl⟩ : ∃ z, h = z + 1 := ⟨h - 1, by omega⟩
    exact pl_stmt (prF_R_readStatement h) (prF_X_statement1 h) D (m + 1) (by omega) (fun _ E => ih (D + 1) h E (by omega) (by omega)) E
/-- the BLOCK of a function -/
theorem pl_blockN {T : pl_Tx} (E : List (Nat × Bool)) {a q d s : Nat} {σ τ : pr_St} (g : pl_gs T a q d s σ τ) (hq : q ≤ a) (hd : d ≤ 2 * a) (h4 : 4 * s ≤ pl_xP T a) : pl_phS T (pl_Φb T 60 E (σ.1 3 3) a) a q d s σ τ (prf_R_readBlock (prF_R_readStatement 70) σ 1) (prf_X_block1 (prF_X_statement1 70) τ 1) :=
  pl_block 1 60 (by decide) _ _ (fun _ E => pl_stmtN 59 1 70 E (by decide) (by decide)) E g hq hd h4
