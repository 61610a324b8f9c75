/-! THE PARSER: statements without BLOCKs -/
def pl_catP : List (List pl_N × List pl_O) → List pl_O
  | [] => []
  | e :: l => e.2 ++ pl_catP l
theorem pl_catP_app : ∀ a b : List (List pl_N × List pl_O), pl_catP (a ++ b) = pl_catP a ++ pl_catP b := by
  intro a
  induction a with
  | nil => intro b; rfl
  | cons e l ih => intro b; show e.2 ++ pl_catP (l ++ b) = e.2 ++ pl_catP l ++ pl_catP b; rw [ih, List.append_assoc]
def pl_st1 (T : pl_Tx) (s q : Nat) (E : List (Nat × Bool)) (F : List pl_N) (S : List pl_S) (O : List pl_O) : Prop := ∃ t, pl_xK T t = 5 ∧ pl_xK T (t + 1) = 2 ∧ pl_xK T (t + 2) = 19 ∧ F = [(3, t, 0, 2), (13, t + 1, nI (t + 1), 1)] ∧ S = [(1, t, q, 0, s + 1, E, t + 3)] ∧ O = []
def pl_st2 (T : pl_Tx) (s q : Nat) (E : List (Nat × Bool)) (F : List pl_N) (S : List pl_S) (O : List pl_O) : Prop := ∃ t b G, pl_xK T t = 5 ∧ pl_xK T (t + 1) = 2 ∧ pl_xK T (t + 2) = 20 ∧ pl_xK T b = 19 ∧ pl_cm (pl_xK T) (t + 3) b G ∧ pl_sm T 190 G O ∧ F = (3, t, 0, 2 + G.length) :: (13, t + 1, nI (t + 1), 1) :: G ∧ S = [(1, t, q, 0, s + 1, E, b + 1)]
def pl_st3 (T : pl_Tx) (s q : Nat) (E : List (Nat × Bool)) (F : List pl_N) (S : List pl_S) (O : List pl_O) : Prop := ∃ t, pl_xK T t = 5 ∧ pl_xK T (t + 1) = 2 ∧ pl_xK T (t + 2) = 16 ∧ pl_xK T (t + 3) = 3 ∧ pl_xK T (t + 4) = 17 ∧ pl_xK T (t + 5) = 19 ∧ F = [(4, t, 0, 3), (13, t + 1, nI (t + 1), 1), (12, t + 3, nI (pl_vt T (t + 3)), 1)] ∧ S = [(1, t, q, 0, s + 1, E, t + 6)] ∧ O = []
def pl_st4 (T : pl_Tx) (s q : Nat) (E : List (Nat × Bool)) (F : List pl_N) (S : List pl_S) (O : List pl_O) : Prop := ∃ t b G, pl_xK T t = 2 ∧ pl_xK T (t + 1) = 20 ∧ ¬ (pl_xK T (t + 2) = 2 ∧ pl_xK T (t + 3) = 12) ∧ pl_xK T b = 19 ∧ pl_cm (pl_xK T) (t + 2) b G ∧ pl_sm T 190 G O ∧ F = (5, t, 0, 2 + G.length) :: (13, t, nI t, 1) :: G ∧ S = [(2, t, q, 0, s + 1, E, b + 1)]
def pl_st5 (T : pl_Tx) (s q : Nat) (E : List (Nat × Bool)) (F : List pl_N) (S : List pl_S) (O : List pl_O) : Prop := ∃ t b e G H Q R, pl_xK T t = 2 ∧ pl_xK T (t + 1) = 16 ∧ pl_xK T b = 17 ∧ pl_xK T (b + 1) = 20 ∧ pl_xK T e = 19 ∧ pl_cm (pl_xK T) (t + 2) b G ∧ pl_cm (pl_xK T) (b + 2) e H ∧ pl_sm T 190 G Q ∧ pl_sm T 190 H R ∧ F = (6, t, 0, 2 + (G ++ H).length) :: (13, t, nI t, 1) :: (G ++ H) ∧ O = ((36, nI t) :: (Q ++ [(37, -1)])) ++ R ∧ S = [(3, t, q, 0, s + 1, E, e + 1)]
def pl_st6 (T : pl_Tx) (s q : Nat) (E : List (Nat × Bool)) (F : List pl_N) (S : List pl_S) (O : List pl_O) : Prop := ∃ (t n0 e : Nat) (h0 : pl_N) (Gs : List (List pl_N × List pl_O)), pl_xK T t = 2 ∧ ((n0 = t ∧ pl_xK T (t + 1) = 12 ∧ h0 = (33, t, 0, 1)) ∨ (n0 = t + 2 ∧ pl_xK T (t + 1) = 20 ∧ pl_xK T (t + 2) = 2 ∧ pl_xK T (t + 3) = 12 ∧ h0 = (13, t, nI t, 1))) ∧ ((Gs = [] ∧ e = n0 + 2) ∨ pl_cm (pl_xK T) (n0 + 2) e (pl_catF Gs)) ∧ pl_xK T e = 13 ∧ pl_xK T (e + 1) = 19 ∧ F = (7, t, 0, 3 + (pl_catF Gs).length) :: h0 :: (13, n0, nI n0, 1) :: pl_catF Gs ∧ O = pl_catP Gs ∧ S = [(4, t, q, Gs.length, s + 1, E, e + 2)] ∧ ∀ x, x ∈ Gs → pl_sm T 190 x.1 x.2
def pl_st9 (T : pl_Tx) (s q : Nat) (E : List (Nat × Bool)) (F : List pl_N) (S : List pl_S) (O : List pl_O) : Prop := ∃ t b C, pl_xK T t = 9 ∧ pl_xK T (t + 1) = 12 ∧ pl_xK T b = 13 ∧ pl_xK T (b + 1) = 19 ∧ pl_cm (pl_xK T) (t + 2) b C ∧ pl_cd T 190 q C O ∧ F = (10, t, 0, 1 + C.length) :: C ∧ S = [(7, t, q, 0, s + 1, E, b + 2)]
def pl_st0 (T : pl_Tx) (s q : Nat) (E : List (Nat × Bool)) (F : List pl_N) (S : List pl_S) (O : List pl_O) : Prop := ∃ t b G, pl_xK T t = 10 ∧ pl_xK T b = 19 ∧ pl_cm (pl_xK T) (t + 1) b G ∧ pl_sm T 190 G O ∧ F = (11, t, 0, 1 + G.length) :: G ∧ S = [(8, t, q, 0, s + 1, E, b + 1)]
/-- a statement without BLOCKs -/
def pl_lf (T : pl_Tx) (s q : Nat) (E : List (Nat × Bool)) (F : List pl_N) (S : List pl_S) (O : List pl_O) : Prop := pl_st1 T s q E F S O ∨ pl_st2 T s q E F S O ∨ pl_st3 T s q E F S O ∨ pl_st4 T s q E F S O ∨ pl_st5 T s q E F S O ∨ pl_st6 T s q E F S O ∨ pl_st9 T s q E F S O ∨ pl_st0 T s q E F S O
/-- what is asked of a statement, and of what stands as the latest one -/
def pl_Φl (T : pl_Tx) (E : List (Nat × Bool)) (s q : Nat) (F : List pl_N) (S : List pl_S) (O : List pl_O) (v : Int32) : Prop := pl_lf T s q E F S O ∧ ∃ r S', S = r :: S' ∧ v = nI r.1
theorem pl_gs_fc {T : pl_Tx} {a q d s a' q' d' x : Nat} {σ τ σ' τ' : pr_St} (g : pl_gs T a q d s σ τ) (g' : pl_gd T a' q' d' σ' τ') (hf : pl_fc x σ σ') : pl_gs T a' q' d' s σ' τ' := ⟨g', by rw [hf.1.1 2 11 rfl]; exact g.2⟩
theorem pl_numZ {T : pl_Tx} {a q d m : Nat} {σ τ : pr_St} (g : pl_gd T a q d σ τ) (hk : ¬ pl_xK T a = 3) (hd : d ≤ 2 * a + m) (hm : m ≤ 50) : prf_R_take σ 3 = some (0, σ) ∧ ∃ y τ1, prf_X_number τ 0 = some (nI y, τ1) ∧ d ≤ y ∧ y < 26000 ∧ pl_bd T a (y + 1) (m + 1) σ τ1 ∧ pl_fx d τ τ1 := by
  obtain ⟨c1, τ1, x1, b1, fx1⟩ := pl_takeZ g (k := 3) (by decide) hk
  obtain ⟨y, τ2, e1, e2, e3, e4, e5, e6⟩ := pl_draftW (b1 d m (Nat.le_refl _) hd) (by omega) 12 (nI (pl_xP T a)) (1 * 0)
  refine ⟨c1, y, τ2, ?_, e2, e3, e4, (fx1 d).tr e5 (Nat.le_refl _)⟩
  have x1' : prf_X_take τ 3 = some τ1 := x1
  unfold prf_X_number prf_X_number_33
  rw [(pl_placeG g).1, if_pos rfl, pl_lookG g, pl_sb, if_neg (pl_kn (pl_gdK g) (j := 3) (v := 3) (by decide) rfl hk), x1', pl_sb, (pl_placeG (α := Nat) (k := none) g).2, e1, pl_sb]
theorem pl_nameZ {T : pl_Tx} {a q d m : Nat} {σ τ : pr_St} (g : pl_gd T a q d σ τ) (hk : ¬ pl_xK T a = 2) (hd : d ≤ 2 * a + m) (hm : m ≤ 50) : prf_R_take σ 2 = some (0, σ) ∧ ∃ τ1, prf_X_name τ = some (nI d, τ1) ∧ d < 26000 ∧ pl_bd T a (d + 1) (m + 1) σ τ1 ∧ pl_fx d τ τ1 := by
  have h8 := pl_gd8 g
  obtain ⟨τ1, e1, g1, f1, t1⟩ := pl_draftG g (by omega) 13 a (nI a)
  obtain ⟨c1, τ2, x2, b2, fx2⟩ := pl_takeZ g1 (k := 2) (by decide) hk
  refine ⟨c1, τ2, ?_, by omega, b2 (d + 1) (m + 1) (Nat.le_refl _) (by omega), f1.tr (fx2 d) (Nat.le_refl _)⟩
  have e1' : prf_X_draft τ 13 (nI (pl_xP T a)) (nI a) = some (nI d, τ1) := e1
  have x2' : prf_X_take τ1 2 = some τ2 := x2
  unfold prf_X_name
  rw [(pl_placeG g).1, (pl_placeG (α := Nat) (k := none) g).2, g.2.1.2, e1', pl_sb, x2', pl_sb]
theorem pl_s2000 {T : pl_Tx} {a q d s : Nat} {σ τ : pr_St} (g : pl_gs T a q d s σ τ) (h4 : 4 * s ≤ pl_xP T a) : s ≤ 2000 := by
  have := pl_P8 g.1.1 g.1.2.2.1
  omega
/-- var -/
theorem pl_stVar {T : pl_Tx} {a q d s : Nat} {σ τ : pr_St} (g : pl_gs T a q d s σ τ) (hq : q ≤ a) (hd : d ≤ 2 * a) (h4 : 4 * s ≤ pl_xP T a) (hk : pl_xK T a = 5) (rc rcX : pr_St → Int32 → Option (Int32 × pr_St)) (D : Nat) (hD : D < 900) (E : List (Nat × Bool)) : pl_phS T (pl_Φl T E) a q d s σ τ (prf_R_readStatement rc σ (nI D)) (prf_X_statement1 rcX τ (nI D)) := by
  have h8 := pl_gd8 g.1
  have hs := pl_s2000 g h4
  obtain ⟨σ1, eo, g1, fs1, op1, o1⟩ := pl_openS g hs (k := 1) (by decide)
  obtain ⟨σ2, τ2, c2, c2', x2, g2, fc2, fx2, s2, r2⟩ := pl_takeA g1.1 hk (by decide)
  have c2'' : prf_R_take σ1 5 = some (1, σ2) := c2
  have x2'' : prf_X_take τ 301 = some τ2 := x2
  have hP1 := pl_P2 g.1.1 (pl_more g.1.1 g.1.2.2.1 (by omega)) (show 4 ≤ pl_xK T a by omega) (by omega)
  have hn1 : ¬ nI s = -1 := pl_nIm1 (by omega)
  have eC0 : prf_R_readStatement rc σ (nI D) = (prf_R_readVar σ1 (nI D)).bind fun r165 => if r165.1 = 0 then (prf_G_closeStatement r165.2 (nI s)).bind fun r167 => some (0, (pr_sI r167 3 3 (nI 1))) else (prf_R_take r165.2 19).bind fun r168 => if r168.1 = 0 then (prf_G_closeStatement r168.2 (nI s)).bind fun r170 => some (0, (pr_sI r170 3 3 (nI 1))) else (prf_G_closeStatement r168.2 (nI s)).bind fun r171 => some (1, (pr_sI r171 3 3 (nI 1))) := by
    have ek : prf_R_statementKind σ = some (nI 1) := by
      unfold prf_R_statementKind
      rw [pl_nowG g.1, pl_sb, hk, if_neg (show ¬ nI 5 = 2 by decide), if_neg (show ¬ nI 5 = 3 by decide), if_neg (show ¬ nI 5 = 4 by decide), if_pos (show nI 5 = 5 from rfl)]
      rfl
    unfold prf_R_readStatement
    rw [ek, pl_sb, if_neg (show ¬ nI 1 = 0 by decide), eo, pl_sb, if_neg hn1, if_pos (show nI 1 = 1 from rfl)]
  have hlook : nI (pl_km (pl_xK T a)) = 301 := by rw [hk]; rfl
  by_cases k2 : pl_xK T (a + 1) = 2
  · obtain ⟨σ3, τ3, c3, c3', x3, g3, fc3, fx3, s3, t3⟩ := pl_nameG g2 k2 (by omega)
    have h83 := pl_gd8 g3
    have hP2 := pl_Pm g.1.1 1 (a + 1) (by have := g3.2.2.1; omega)
    by_cases k16 : pl_xK T (a + 2) = 16
    · obtain ⟨τ4, e4, g4, fx4, t4⟩ := pl_draftG g3 (by omega) 4 a 0
      obtain ⟨τ5, e5, g5, fx5, t5⟩ := pl_joinG (l := d) (h := d + 2) g4 t4 (t3.fx fx4 (Nat.le_refl _)).tr (by omega) (Or.inr (Nat.le_refl _)) (by omega) (by omega) (by omega) (by omega)
      obtain ⟨σ6, τ6, c6, c6', x6, g6, fc6, fx6, s6, r6⟩ := pl_takeA g5 k16 (by decide)
      have c6'' : prf_R_take σ3 16 = some (1, σ6) := c6
      have x6'' : prf_X_take τ5 91 = some τ6 := x6
      have e4' : prf_X_draft τ3 4 (nI (pl_xP T a)) 0 = some (nI (d + 1), τ4) := e4
      have h86 := pl_gd8 g6
      have t6 := t5.fx (fx6 (d + 2)) (Nat.le_refl _)
      have fcA : pl_fc q σ1 σ6 := ((fc2 q).tr (fc3 q) (Nat.le_refl _)).tr (fc6 q) (Nat.le_refl _)
      have fxA : pl_fx d τ τ6 := ((((fx2 d).tr fx3 (Nat.le_refl _)).tr fx4 (by omega)).tr fx5 (by omega)).tr (fx6 d) (Nat.le_refl _)
      have eV0 : prf_R_readVar σ1 (nI D) = (prf_R_take σ6 3).bind fun r25 => if r25.1 = 0 then some (0, r25.2) else (prf_R_take r25.2 17).bind fun r27 => if r27.1 = 0 then some (0, r27.2) else some (1, r27.2) := by
        unfold prf_R_readVar
        rw [c2'', pl_sb, if_neg (show ¬ ((1 : Int32), σ2).1 = 0 from pl_10), c3, pl_sb, if_neg (show ¬ ((1 : Int32), σ3).1 = 0 from pl_10), c6'', pl_sb, if_neg (show ¬ ((1 : Int32), σ6).1 = 0 from pl_10)]
      have eX0 : prf_X_statement1 rcX τ (nI D) = (prf_X_number τ6 0).bind fun r335 => (prf_X_join r335.2 (nI (d + 1)) r335.1).bind fun r336 => (prf_X_take r336 93).bind fun r337 => (prf_X_take r337 59).bind fun r338 => some (nI (d + 1), r338) := by
        unfold prf_X_statement1
        rw [(pl_placeG g.1).1, pl_lookG g.1, pl_sb, if_pos hlook, x2'', pl_sb, x3, pl_sb, pl_lookG g3, pl_sb, if_pos (show nI (pl_km (pl_xK T (a + 1 + 1))) = 91 by rw [show a + 1 + 1 = a + 2 from rfl, k16]; rfl), (pl_placeG (α := Nat) (k := none) g.1).2, e4', pl_sb, e5, pl_sb, pl_lookG g5, pl_sb, if_pos (show nI (pl_km (pl_xK T (a + 1 + 1))) = 91 by rw [show a + 1 + 1 = a + 2 from rfl, k16]; rfl), x6'', pl_sb]
      by_cases k3 : pl_xK T (a + 3) = 3
      · obtain ⟨σ7, τ7, c7, c7', x7, g7, fc7, fx7, s7, t7⟩ := pl_numG g6 k3 (by omega) (nI (pl_xP T (a + 3))) 1 (a + 3) rfl
        have h87 := pl_gd8 g7
        have x7' : prf_X_number τ6 0 = some (nI (d + 2), τ7) := by
          unfold prf_X_number
          rw [(pl_placeG g6).1, if_pos rfl, (pl_placeG (α := Nat) (k := none) g6).2]
          exact x7
        rw [Int32.one_mul] at t7
        obtain ⟨τ8, e8, g8, fx8, t8⟩ := pl_joinG (l := d) (h := d + 3) g7 (t6.fx fx7 (Nat.le_refl _)) t7.tr (by omega) (Or.inl (Nat.le_refl _)) (by omega) (by omega) (by omega) (by omega)
        have fcB : pl_fc q σ1 σ7 := fcA.tr (fc7 q) (Nat.le_refl _)
        have fxB : pl_fx d τ τ8 := (fxA.tr fx7 (by omega)).tr fx8 (Nat.le_refl _)
        rw [c7, pl_sb, if_neg (show ¬ ((1 : Int32), σ7).1 = 0 from pl_10)] at eV0
        rw [x7', pl_sb, e8, pl_sb] at eX0
        by_cases k17 : pl_xK T (a + 4) = 17
        · obtain ⟨σ9, τ9, c9, c9', x9, g9, fc9, fx9, s9, r9⟩ := pl_takeA g8 k17 (by decide)
          have c9'' : prf_R_take σ7 17 = some (1, σ9) := c9
          have x9'' : prf_X_take τ8 93 = some τ9 := x9
          rw [c9'', pl_sb, if_neg (show ¬ ((1 : Int32), σ9).1 = 0 from pl_10)] at eV0
          rw [x9'', pl_sb] at eX0
          rw [eV0, pl_sb, if_neg (show ¬ ((1 : Int32), σ9).1 = 0 from pl_10)] at eC0
          have fcC := fcB.tr (fc9 q) (Nat.le_refl _)
          have hP3 := pl_Pm g.1.1 3 (a + 2) (by have := g9.2.2.1; omega)
          have t9 := (t8.fx (fx9 (d + 3)) (Nat.le_refl _)).tr
          refine pl_semiS (b := a + 5) (y := d + 1) (F := [(4, a, 0, 3), (13, a + 1, nI (a + 1), 1), (12, a + 3, nI (pl_vt T (a + 3)), 1)]) (O := []) (E := E) hs (pl_gs_fc g1 g9 fcC) (by omega) (fs1.tr fcC.fs (Nat.le_refl _) (Nat.le_refl _)) (fxB.tr (fx9 d) (Nat.le_refl _)) rfl (by show 0 + a ≤ _; omega) (by omega) (by omega) (by have e5 : pl_xP T (a + 2 + 3) = pl_xP T (a + 5) := rfl; have e2 : pl_xP T (a + 1 + 1) = pl_xP T (a + 2) := rfl; omega) t9 trivial (pl_op_fc op1 fcC) ?_ (fun k19 => ⟨?_, _, _, rfl, rfl⟩) eC0 eX0
          · show a ≤ a + 1 ∧ a + 1 + 1 ≤ a + 5
            omega
          · exact Or.inr (Or.inr (Or.inl ⟨a, hk, k2, k16, k3, k17, k19, rfl, rfl, rfl⟩))
        · obtain ⟨c9, τ9, x9, b9, fx9⟩ := pl_takeZ g8 (k := 17) (by decide) k17
          have b9' := b9 d 5 (by omega) (by omega)
          have c9'' : prf_R_take σ7 17 = some (0, σ7) := c9
          have x9'' : prf_X_take τ8 93 = some τ9 := x9
          rw [c9'', pl_sb, if_pos rfl] at eV0
          rw [x9'', pl_sb, pl_takeW b9', pl_sb] at eX0
          rw [eV0, pl_sb, if_pos rfl] at eC0
          exact pl_failS (b := a + 4) (pl_gs_fc g1 g8 fcB).2 (Nat.lt_succ_self s) (by omega) (by omega) (fs1.tr fcB.fs (Nat.le_refl _) (Nat.le_refl _)) (fxB.tr (fx9 d) (Nat.le_refl _)) b9' (pl_vi1 (by omega) (by omega)) eC0 eX0
      · obtain ⟨c7, y7, τ7, x7, y7a, y7b, b7, fx7⟩ := pl_numZ (m := 0) g6 k3 (by omega) (by omega)
        obtain ⟨τ8, e8, b8, fx8, j8⟩ := pl_joinW (d0 := d) b7 ((t6.fx fx7 (Nat.le_refl _)).jb (Nat.le_refl _) (by omega)) (pl_vi1 (by omega) y7b)
        rw [c7, pl_sb, if_pos rfl] at eV0
        rw [x7, pl_sb, e8, pl_sb, pl_takeW b8, pl_sb, pl_takeW b8, pl_sb] at eX0
        rw [eV0, pl_sb, if_pos rfl] at eC0
        exact pl_failS (b := a + 3) (pl_gs_fc g1 g6 fcA).2 (Nat.lt_succ_self s) (by omega) (by omega) (fs1.tr fcA.fs (Nat.le_refl _) (Nat.le_refl _)) ((fxA.tr fx7 (by omega)).tr fx8 (Nat.le_refl _)) (b8.le (by omega) (by omega)) (pl_vi1 (by omega) (by omega)) eC0 eX0
    · obtain ⟨τ4, e4, g4, fx4, t4⟩ := pl_draftG g3 (by omega) 3 a 0
      obtain ⟨τ5, e5, g5, fx5, t5⟩ := pl_joinG (l := d) (h := d + 2) g4 t4 (t3.fx fx4 (Nat.le_refl _)).tr (by omega) (Or.inr (Nat.le_refl _)) (by omega) (by omega) (by omega) (by omega)
      have e4' : prf_X_draft τ3 3 (nI (pl_xP T a)) 0 = some (nI (d + 1), τ4) := e4
      have n91 : ¬ nI (pl_km (pl_xK T (a + 1 + 1))) = 91 := pl_kn (pl_gdK g3) (j := 16) (v := 91) (by decide) rfl k16
      have c4 : prf_R_take σ3 16 = some (0, σ3) := (pl_takeZ g3 (k := 16) (by decide) k16).1
      have fcA : pl_fc q σ1 σ3 := (fc2 q).tr (fc3 q) (Nat.le_refl _)
      have fxA : pl_fx d τ τ5 := (((fx2 d).tr fx3 (Nat.le_refl _)).tr fx4 (by omega)).tr fx5 (by omega)
      by_cases k20 : pl_xK T (a + 2) = 20
      · obtain ⟨σ6, τ6, c6, c6', x6, g6, fc6, fx6, s6, r6⟩ := pl_takeA g5 k20 (by decide)
        have c6'' : prf_R_take σ3 20 = some (1, σ6) := c6
        have x6'' : prf_X_take τ5 61 = some τ6 := x6
        have t6 := t5.fx (fx6 (d + 2)) (Nat.le_refl _)
        have fcB : pl_fc q σ1 σ6 := fcA.tr (fc6 q) (Nat.le_refl _)
        have fxB : pl_fx d τ τ6 := fxA.tr (fx6 d) (Nat.le_refl _)
        have eV0 : prf_R_readVar σ1 (nI D) = (prf_R_readSum (prF_R_readFactor 70) σ6 (nI (D + 1))).bind fun r23 => if r23.1 = 0 then some (0, r23.2) else some (1, r23.2) := by
          unfold prf_R_readVar
          rw [c2'', pl_sb, if_neg (show ¬ ((1 : Int32), σ2).1 = 0 from pl_10), c3, pl_sb, if_neg (show ¬ ((1 : Int32), σ3).1 = 0 from pl_10), c4, pl_sb, if_pos rfl, c6'', pl_sb, if_neg (show ¬ ((1 : Int32), σ6).1 = 0 from pl_10), nI_1]
        have eX0 : prf_X_statement1 rcX τ (nI D) = (prf_X_sum (prF_X_factor 70) τ6 (nI (D + 1))).bind fun r310 => (prf_X_join r310.2 (nI (d + 1)) r310.1).bind fun r311 => (prf_X_take r311 59).bind fun r312 => some (nI (d + 1), r312) := by
          unfold prf_X_statement1
          rw [(pl_placeG g.1).1, pl_lookG g.1, pl_sb, if_pos hlook, x2'', pl_sb, x3, pl_sb, pl_lookG g3, pl_sb, if_neg n91, (pl_placeG (α := Nat) (k := none) g.1).2, e4', pl_sb, e5, pl_sb, pl_lookG g5, pl_sb, if_neg n91, pl_sb, if_pos (show nI (pl_km (pl_xK T (a + 1 + 1))) = 61 by rw [show a + 1 + 1 = a + 2 from rfl, k20]; rfl), x6'', pl_sb, if_pos g6.2.2.2.1, nI_1]
        obtain ⟨a7, σ7, τ7, hle7, fc7, fx7, hr7⟩ := pl_sumN (T := T) (D + 1) (by omega) (by omega) (a + 3) q (d + 2) σ6 τ6 g6 (by omega) (by omega)
        have fcC : pl_fc q σ1 σ7 := fcB.tr fc7 (Nat.le_refl _)
        have fxC : pl_fx d τ τ7 := fxB.tr fx7 (by omega)
        have t7 := t6.fx fx7 (Nat.le_refl _)
        rcases hr7 with ⟨y, d7, G, Q, hC, hX, g7, hO, hD7, tr7, ops7, cm7, sm7⟩ | ⟨hC, v, hX, b7, vi7⟩
        · have h87 := pl_gd8 g7
          have iv7 := tr7.iv
          have hC' : prf_R_readSum (prF_R_readFactor 70) σ6 (nI (D + 1)) = some (1, σ7) := hC
          have hX' : prf_X_sum (prF_X_factor 70) τ6 (nI (D + 1)) = some (nI y, τ7) := hX
          obtain ⟨τ8, e8, g8, fx8, t8⟩ := pl_joinG (l := d) (h := d7) g7 t7 tr7 (by omega) (Or.inl (Nat.le_refl _)) (by omega) (by omega) (by omega) (by omega)
          rw [hC', pl_sb, if_neg (show ¬ ((1 : Int32), σ7).1 = 0 from pl_10)] at eV0
          rw [hX', pl_sb, e8, pl_sb] at eX0
          rw [eV0, pl_sb, if_neg (show ¬ ((1 : Int32), σ7).1 = 0 from pl_10)] at eC0
          have c71 := cm7.1
          have hP3 := pl_Pm g.1.1 (a7 - (a + 2)) (a + 2) (by have := g7.2.2.1; omega)
          rw [show a + 2 + (a7 - (a + 2)) = a7 by omega] at hP3
          have e2 : pl_xP T (a + 1 + 1) = pl_xP T (a + 2) := rfl
          have eF : ((3, a, (0 : Int32), 1 + (pl_cat ([] ++ [(d, [(13, a + 1, nI (a + 1), 1 + (pl_cat []).length)] ++ pl_cat [])] ++ [(y, G)])).length) :: pl_cat ([] ++ [(d, [(13, a + 1, nI (a + 1), 1 + (pl_cat []).length)] ++ pl_cat [])] ++ [(y, G)]) : List pl_N) = (3, a, 0, 2 + G.length) :: (13, a + 1, nI (a + 1), 1) :: G := by
            simp [pl_cat] <;> omega
          have t9 : pl_tr τ8 (pl_xP T) d d7 (d + 1) ((3, a, 0, 2 + G.length) :: (13, a + 1, nI (a + 1), 1) :: G) := by rw [← eF]; exact t8.tr
          refine pl_semiS (b := a7) (y := d + 1) (F := (3, a, 0, 2 + G.length) :: (13, a + 1, nI (a + 1), 1) :: G) (O := Q) (E := E) hs (pl_gs_fc g1 g8 fcC) (by omega) (fs1.tr fcC.fs (Nat.le_refl _) (Nat.le_refl _)) (fxC.tr fx8 (Nat.le_refl _)) rfl (by omega) (by omega) (by omega) (by omega) t9 ops7 (pl_op_fc op1 fcC) ?_ (fun k19 => ⟨?_, _, _, rfl, rfl⟩) eC0 eX0
          · show a ≤ a + 1 ∧ pl_ni G (a + 1 + 1) a7
            exact ⟨by omega, pl_ni_lo _ _ _ _ (by omega) cm7.ni⟩
          · exact Or.inr (Or.inl ⟨a, a7, G, hk, k2, k20, k19, cm7, pl_sm_ff sm7 (by omega), rfl, rfl⟩)
        · have hC' : prf_R_readSum (prF_R_readFactor 70) σ6 (nI (D + 1)) = some (0, σ7) := hC
          have hX' : prf_X_sum (prF_X_factor 70) τ6 (nI (D + 1)) = some (v, τ7) := hX
          obtain ⟨τ8, e8, b8, fx8, j8⟩ := pl_joinW (d0 := d) b7 (t7.jb (Nat.le_refl _) (by omega)) (vi7.le (by omega))
          rw [hC', pl_sb, if_pos rfl] at eV0
          rw [hX', pl_sb, e8, pl_sb, pl_takeW b8, pl_sb] at eX0
          rw [eV0, pl_sb, if_pos rfl] at eC0
          exact pl_failS (b := a7) (by rw [fcC.1.1 2 11 rfl]; exact g1.2) (Nat.lt_succ_self s) (by omega) (by omega) (fs1.tr fcC.fs (Nat.le_refl _) (Nat.le_refl _)) (fxC.tr fx8 (Nat.le_refl _)) (b8.le (by omega) (by omega)) (pl_vi1 (by omega) (by omega)) eC0 eX0
      · have c5 : prf_R_take σ3 20 = some (0, σ3) := (pl_takeZ g3 (k := 20) (by decide) k20).1
        have eV : prf_R_readVar σ1 (nI D) = some (1, σ3) := by
          unfold prf_R_readVar
          rw [c2'', pl_sb, if_neg (show ¬ ((1 : Int32), σ2).1 = 0 from pl_10), c3, pl_sb, if_neg (show ¬ ((1 : Int32), σ3).1 = 0 from pl_10), c4, pl_sb, if_pos rfl, c5, pl_sb, if_pos rfl]
        have eX0 : prf_X_statement1 rcX τ (nI D) = (prf_X_take τ5 59).bind fun r307 => some (nI (d + 1), r307) := by
          unfold prf_X_statement1
          rw [(pl_placeG g.1).1, pl_lookG g.1, pl_sb, if_pos hlook, x2'', pl_sb, x3, pl_sb, pl_lookG g3, pl_sb, if_neg n91, (pl_placeG (α := Nat) (k := none) g.1).2, e4', pl_sb, e5, pl_sb, pl_lookG g5, pl_sb, if_neg n91, pl_sb, if_neg (pl_kn (pl_gdK g3) (j := 20) (v := 61) (by decide) rfl k20)]
        rw [eV, pl_sb, if_neg (show ¬ ((1 : Int32), σ3).1 = 0 from pl_10)] at eC0
        have e2 : pl_xP T (a + 1 + 1) = pl_xP T (a + 2) := rfl
        refine pl_semiS (b := a + 2) (y := d + 1) (F := [(3, a, 0, 2), (13, a + 1, nI (a + 1), 1)]) (O := []) (E := E) hs (pl_gs_fc g1 g5 fcA) (by omega) (fs1.tr fcA.fs (Nat.le_refl _) (Nat.le_refl _)) fxA rfl (by show 0 + a ≤ _; omega) (by omega) (by omega) (by omega) t5.tr trivial (pl_op_fc op1 fcA) ?_ (fun k19 => ⟨?_, _, _, rfl, rfl⟩) eC0 eX0
        · show a ≤ a + 1 ∧ a + 1 + 1 ≤ a + 2
          omega
        · exact Or.inl ⟨a, hk, k2, k19, rfl, rfl, rfl⟩
  · obtain ⟨c3, τ3, x3, hd3, b3, fx3⟩ := pl_nameZ (m := 0) g2 k2 (by omega) (by omega)
    obtain ⟨y4, τ4, e4, y4a, y4b, b4, fx4, j4⟩ := pl_draftW b3 (by omega) 3 (nI (pl_xP T a)) 0
    obtain ⟨τ5, e5, b5, fx5, j5⟩ := pl_joinW (d0 := d) b4 (by obtain ⟨q1, q2, q3⟩ := j4; exact ⟨by omega, q2, by rcases q3 with q3 | ⟨q3, z, z1, z2, z3⟩; exact Or.inl q3; exact Or.inr ⟨q3, z, by omega, z2, z3⟩⟩) (pl_vi1 (Nat.le_refl _) hd3)
    have eV : prf_R_readVar σ1 (nI D) = some (0, σ2) := by
      unfold prf_R_readVar
      rw [c2'', pl_sb, if_neg (show ¬ ((1 : Int32), σ2).1 = 0 from pl_10), c3, pl_sb, if_pos rfl]
    have eX0 : prf_X_statement1 rcX τ (nI D) = some (nI y4, τ5) := by
      unfold prf_X_statement1
      rw [(pl_placeG g.1).1, pl_lookG g.1, pl_sb, if_pos hlook, x2'', pl_sb, x3, pl_sb, pl_lookW b3, pl_sb, if_neg (show ¬ (1 : Int32) = 91 by decide), (pl_placeG (α := Nat) (k := none) g.1).2, e4, pl_sb, e5, pl_sb, pl_lookW b5, pl_sb, if_neg (show ¬ (1 : Int32) = 91 by decide), pl_sb, if_neg (show ¬ (1 : Int32) = 61 by decide), pl_takeW b5, pl_sb]
    rw [eV, pl_sb, if_pos rfl] at eC0
    exact pl_failS (b := a + 1) (pl_gs_fc g1 g2 (fc2 0)).2 (Nat.lt_succ_self s) (by omega) (by omega) (fs1.tr (fc2 q).fs (Nat.le_refl _) (Nat.le_refl _)) ((((fx2 d).tr fx3 (Nat.le_refl _)).tr fx4 (by omega)).tr fx5 (Nat.le_refl _)) (b5.le (by omega) (by omega)) (pl_vi1 (by omega) y4b) eC0 eX0
