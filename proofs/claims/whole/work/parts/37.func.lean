/-! THE PARSER: functions -/
theorem pl_nameW {T : pl_Tx} {a d1 m : Nat} {σ τ : pr_St} (b : pl_bd T a d1 m σ τ) (hm : m ≤ 100) : ∃ y τ1, prf_X_name τ = some (nI y, τ1) ∧ d1 ≤ y ∧ y < 26000 ∧ pl_bd T a (y + 1) (m + 1) σ τ1 ∧ pl_fx d1 τ τ1 := by
  obtain ⟨y, τ1, e1, e2, e3, e4, e5, e6⟩ := pl_draftW b hm 13 (nI (pl_xP T a)) (τ.1 0 8)
  refine ⟨y, τ1, ?_, e2, e3, e4, e5⟩
  unfold prf_X_name
  rw [(pl_placeW b).1, (pl_placeW (α := Nat) (k := none) b).2, e1, pl_sb, pl_takeW e4, pl_sb]
theorem pl_83W {T : pl_Tx} {a d1 m : Nat} {σ τ : pr_St} (b : pl_bd T a d1 m σ τ) (x : Int32) : prf_X_function_83 τ x = some (x, τ) := by
  unfold prf_X_function_83
  rw [pl_takeW b, pl_sb, if_neg (pl_nbW b), pl_join0, pl_sb]
theorem pl_56W {T : pl_Tx} {a d1 m : Nat} {σ τ : pr_St} (b : pl_bd T a d1 m σ τ) (n : Nat) (x : Int32) : prf_X_function_56 (n + 1) τ x = some (x, τ) := by
  rw [prf_X_function_56, pl_lookW b, pl_sb, if_neg (show ¬ (1 : Int32) = 44 by decide), pl_83W b]
/-- what comes behind ( while bad -/
theorem pl_fnW {T : pl_Tx} {a d0 d1 m x : Nat} {σ τ : pr_St} (b : pl_bd T a d1 m σ τ) (hm : m ≤ 50) (h01 : d0 ≤ d1) (hx : x < d1) (j : pl_jb d0 τ.2.1 x) : ∃ τ1, ((prf_X_look τ).bind fun r37 => if r37 = 41 then prf_X_function_83 τ (nI x) else (prf_X_name τ).bind fun r39 => (prf_X_join r39.2 (nI x) r39.1).bind fun r40 => prf_X_function_56 pr_FU r40 (nI x)) = some (nI x, τ1) ∧ pl_bd T a d1 (m + 1) σ τ1 ∧ pl_fx d0 τ τ1 := by
  obtain ⟨y, τ1, e1, e2, e3, e4, e5⟩ := pl_nameW b (by omega)
  obtain ⟨τ2, f1, f2, f3, f4⟩ := pl_joinW (d0 := d0) e4 (j.fx e5 hx) (pl_vi1 (by omega) e3)
  refine ⟨τ2, ?_, f2.le (by omega) (Nat.le_refl _), (e5.le h01).tr f3 (Nat.le_refl _)⟩
  rw [pl_lookW b, pl_sb, if_neg (show ¬ (1 : Int32) = 41 by decide), e1, pl_sb, f1, pl_sb, show pr_FU = 99999 + 1 from rfl, pl_56W f2]
/-- parameters, as nodes and as what is there -/
def pl_par : Nat → Nat → List pl_N
  | _, 0 => []
  | t, n + 1 => (13, t, nI t, 1) :: pl_par (t + 2) n
def pl_pe : Nat → Nat → List (Nat × Bool)
  | _, 0 => []
  | t, n + 1 => (t, false) :: pl_pe (t + 2) n
theorem pl_par_app : ∀ n t : Nat, pl_par t (n + 1) = pl_par t n ++ [(13, t + 2 * n, nI (t + 2 * n), 1)] := by
  intro n
  induction n with
  | zero => intro t; rfl
  | succ n ih =>
    intro t
    show (13, t, nI t, 1) :: pl_par (t + 2) (n + 1) = (13, t, nI t, 1) :: (pl_par (t + 2) n ++ _)
    rw [ih, show t + 2 + 2 * n = t + 2 * (n + 1) by omega]
theorem pl_par_len : ∀ n t : Nat, (pl_par t n).length = n := by
  intro n
  induction n with
  | zero => intro t; rfl
  | succ n ih => intro t; show (pl_par (t + 2) n).length + 1 = n + 1; rw [ih]
theorem pl_par_ni : ∀ n t hi : Nat, t + 2 * n ≤ hi + 1 → t ≤ hi → pl_ni (pl_par t n) t hi := by
  intro n
  induction n with
  | zero => intro t hi _ h; exact h
  | succ n ih =>
    intro t hi h1 h2
    show t ≤ t ∧ pl_ni (pl_par (t + 2) n) (t + 1) hi
    refine ⟨Nat.le_refl _, ?_⟩
    cases n with
    | zero => show t + 1 ≤ hi; omega
    | succ n => exact pl_ni_lo _ _ _ _ (by omega) (ih (t + 2) hi (by omega) (by omega))
/-- what the class may change in a head: at, functions from fn on -/
def pl_FH (o k : Nat) : Bool := (o == 3 && k == 2) || (o == 2 && k == 5)
def pl_GH (a : Nat) : Bool := a == 12 || a == 13 || a == 14
def pl_fh (n : Nat) (σ σ' : pr_St) : Prop := pl_fr pl_FH pl_GH σ σ' ∧ ∀ r z, z < n → σ'.2.1 r z = σ.2.1 r z
theorem pl_fc0_fh {n : Nat} {σ σ' : pr_St} (h : σ' = pr_sI σ 3 2 (σ.1 3 2 + 1)) : pl_fh n σ σ' := by
  subst h
  exact ⟨pl_sI_fr rfl, fun _ _ _ => rfl⟩
theorem pl_fh.rf {n : Nat} {σ : pr_St} : pl_fh n σ σ := ⟨pl_fr.rf, fun _ _ _ => rfl⟩
theorem pl_fh.tr {n m : Nat} {a b c : pr_St} (h1 : pl_fh n a b) (h2 : pl_fh m b c) (h : n ≤ m) : pl_fh n a c :=
  ⟨h1.1.tr h2.1, fun r z hz => (h2.2 r z (by omega)).trans (h1.2 r z hz)⟩
/-- ) and the function's record -/
theorem pl_hend {T : pl_Tx} {a q d s fn nm np : Nat} {σ τ : pr_St} (g : pl_gs T a q d s σ τ) (hf : σ.1 2 5 = nI fn) (hfn : fn ≤ 888) (hnp : np ≤ 8000) (hd : d ≤ 2 * a + 4) (x : Int32) : ∃ a' σ' τ', a ≤ a' ∧ pl_fh fn σ σ' ∧ (∀ z, pl_fx z τ τ') ∧
    ((prf_R_readHead_50 σ (nI nm) (nI np) = some (1, σ') ∧ prf_X_function_83 τ x = ((prf_X_block1 (prF_X_statement1 70) τ' 1).bind fun r23 => (prf_X_join r23.2 x r23.1).bind fun r24 => some (x, r24)) ∧ pl_gs T a' q d s σ' τ' ∧ a' = a + 1 ∧ pl_xK T a = 13 ∧ σ'.1 2 5 = nI (fn + 1) ∧ σ'.2.1 12 fn = nI nm ∧ σ'.2.1 13 fn = nI np ∧ σ'.2.1 14 fn = nI s) ∨
     (prf_R_readHead_50 σ (nI nm) (nI np) = some (0, σ') ∧ prf_X_function_83 τ x = some (x, τ') ∧ ∀ d0, d0 ≤ d → pl_bd T a' d0 5 σ' τ')) := by
  have h8 := pl_gd8 g.1
  have hn1 : ¬ nI np = -1 := pl_nIm1 (by omega)
  by_cases k13 : pl_xK T a = 13
  · obtain ⟨σ1, τ1, c1, c1', x1, g1, fc1, fx1, s1, r1⟩ := pl_takeA g.1 k13 (by decide)
    have c1'' : prf_R_take σ 13 = some (1, σ1) := c1
    have x1'' : prf_X_take τ 41 = some τ1 := x1
    have f5 : σ1.1 2 5 = nI fn := by rw [(fc1 0).1.1 2 5 rfl]; exact hf
    have f11 : σ1.1 2 11 = nI s := by rw [(fc1 0).1.1 2 11 rfl]; exact g.2
    have e12 : (pr_sI (pr_sA (pr_sA (pr_sA σ1 12 (upd (σ1.2.1 12) fn (nI nm))) 13 (upd (σ1.2.1 13) fn (nI np))) 14 (upd (σ1.2.1 14) fn (nI s))) 2 5 (nI (fn + 1))).2.1 12 = upd (σ1.2.1 12) fn (nI nm) := rfl
    have e13 : (pr_sI (pr_sA (pr_sA (pr_sA σ1 12 (upd (σ1.2.1 12) fn (nI nm))) 13 (upd (σ1.2.1 13) fn (nI np))) 14 (upd (σ1.2.1 14) fn (nI s))) 2 5 (nI (fn + 1))).2.1 13 = upd (σ1.2.1 13) fn (nI np) := rfl
    have e14 : (pr_sI (pr_sA (pr_sA (pr_sA σ1 12 (upd (σ1.2.1 12) fn (nI nm))) 13 (upd (σ1.2.1 13) fn (nI np))) 14 (upd (σ1.2.1 14) fn (nI s))) 2 5 (nI (fn + 1))).2.1 14 = upd (σ1.2.1 14) fn (nI s) := rfl
    have hfr : pl_fr pl_FH pl_GH σ1 (pr_sI (pr_sA (pr_sA (pr_sA σ1 12 (upd (σ1.2.1 12) fn (nI nm))) 13 (upd (σ1.2.1 13) fn (nI np))) 14 (upd (σ1.2.1 14) fn (nI s))) 2 5 (nI (fn + 1))) := (((pl_sA_fr (o := 12) rfl).tr (pl_sA_fr (o := 13) rfl)).tr (pl_sA_fr (o := 14) rfl)).tr (pl_sI_fr (o := 2) (k := 5) rfl)
    have hfh : pl_fh fn σ1 (pr_sI (pr_sA (pr_sA (pr_sA σ1 12 (upd (σ1.2.1 12) fn (nI nm))) 13 (upd (σ1.2.1 13) fn (nI np))) 14 (upd (σ1.2.1 14) fn (nI s))) 2 5 (nI (fn + 1))) := by
      refine ⟨hfr, fun r z hz => ?_⟩
      by_cases r12 : r = 12
      · subst r12; rw [e12, pk_un (by omega)]
      by_cases r13 : r = 13
      · subst r13; rw [e13, pk_un (by omega)]
      by_cases r14 : r = 14
      · subst r14; rw [e14, pk_un (by omega)]
      rw [hfr.2.1 r (by unfold pl_GH; simp only [Bool.or_eq_false_iff, beq_eq_false_iff_ne]; exact ⟨⟨r12, r13⟩, r14⟩)]
    obtain ⟨⟨q1, q2, q3, q4, q5, q6⟩, _⟩ := (⟨g1, f11⟩ : pl_gs T (a + 1) q d s σ1 τ1)
    refine ⟨a + 1, _, τ1, by omega, (pl_fc0_fh c1'.symm).tr hfh (Nat.le_refl _), fx1, Or.inl ⟨?_, ?_, ⟨⟨pl_tt_fr q1 hfr (pl_fr.rf (F := pl_FQ) (G := pl_GD)) ⟨rfl, rfl, rfl, rfl, rfl, rfl⟩ ⟨rfl, rfl, rfl, rfl, rfl, rfl⟩, ⟨?_, q2.2⟩, q3, q4, ?_, q6⟩, ?_⟩, rfl, k13, pr_sI_same, ?_, ?_, ?_⟩⟩
    · unfold prf_R_readHead_50 prf_G_openFunction
      rw [if_neg hn1, c1'', pl_sb, if_neg (show ¬ ((1 : Int32), σ1).1 = 0 from pl_10), f5, f11, if_pos (show nI fn < 889 from nI_lt (b := 889) (by omega) (by omega)), pl_ck (by omega) (by omega), pl_ck (by omega) (by omega), pl_ck (by omega) (by omega), nI_clamp (by omega), nI_1, pl_sb, if_neg pl_10]
    · unfold prf_X_function_83
      rw [x1'', pl_sb, if_pos g1.2.2.2.1]
    · rw [pr_sI_ne (by omega)]; exact q2.1
    · rw [pr_sI_ne (by omega)]; exact q5
    · rw [pr_sI_ne (by omega)]; exact f11
    · rw [e12, pk_us]
    · rw [e13, pk_us]
    · rw [e14, pk_us]
  · obtain ⟨c1, τ1, x1, b1, fx1⟩ := pl_takeZ g.1 (k := 13) (by decide) k13
    have c1'' : prf_R_take σ 13 = some (0, σ) := c1
    have x1'' : prf_X_take τ 41 = some τ1 := x1
    refine ⟨a, σ, τ1, Nat.le_refl _, pl_fh.rf, fx1, Or.inr ⟨?_, ?_, fun d0 h0 => b1 d0 5 h0 (by omega)⟩⟩
    · unfold prf_R_readHead_50
      rw [if_neg hn1, c1'', pl_sb, if_pos rfl]
    · have b1' := b1 0 5 (Nat.zero_le _) (by omega)
      unfold prf_X_function_83
      rw [x1'', pl_sb, if_neg (pl_nbW b1'), pl_join0, pl_sb]
/-- further parameters -/
theorem pl_ploop {T : pl_Tx} (s fn nm x d0 a0 t0 q : Nat) (H : List pl_N) (hfn : fn ≤ 888) :
    ∀ (M a i d mC mX : Nat) (σ τ : pr_St) (cs : List (Nat × List pl_N)), pl_xc T ≤ a + M → M + 1 ≤ mC → M + 1 ≤ mX → i + 1 ≤ a → pl_gs T a q d s σ τ → d ≤ 2 * a → d0 ≤ d → σ.1 2 5 = nI fn → pl_dt τ (pl_xP T) d0 d x 1 t0 0 cs → pl_cat cs = H ++ pl_par a0 (i + 1) → a = a0 + 2 * i + 1 → (∀ j, j ≤ i → pl_xK T (a0 + 2 * j) = 2) →
    ∃ (a' : Nat) (σ' τ' : pr_St), a ≤ a' ∧ pl_fh fn σ σ' ∧ pl_fx d0 τ τ' ∧
      ((∃ (d' np : Nat) (cs' : List (Nat × List pl_N)), ((prf_R_readNames_14 mC σ (nI (i + 1)) (nI i)).bind fun r28 => prf_R_readHead_50 r28.2 (nI nm) r28.1) = some (1, σ') ∧ prf_X_function_56 mX τ (nI x) = ((prf_X_block1 (prF_X_statement1 70) τ' 1).bind fun r23 => (prf_X_join r23.2 (nI x) r23.1).bind fun r24 => some (nI x, r24)) ∧ pl_gs T a' q d' s σ' τ' ∧ i + 1 ≤ np ∧ a' = a0 + 2 * np ∧ d' + 2 * a ≤ d + 2 * a' ∧ 5 * d' + 8 * a ≤ 5 * d + 8 * a' ∧ pl_dt τ' (pl_xP T) d0 d' x 1 t0 0 cs' ∧ pl_cat cs' = H ++ pl_par a0 np ∧ (∀ j, j < np → pl_xK T (a0 + 2 * j) = 2) ∧ σ'.1 2 5 = nI (fn + 1) ∧ σ'.2.1 12 fn = nI nm ∧ σ'.2.1 13 fn = nI np ∧ σ'.2.1 14 fn = nI s) ∨
       (((prf_R_readNames_14 mC σ (nI (i + 1)) (nI i)).bind fun r28 => prf_R_readHead_50 r28.2 (nI nm) r28.1) = some (0, σ') ∧ prf_X_function_56 mX τ (nI x) = some (nI x, τ') ∧ pl_bd T a' d0 5 σ' τ')) := by
  intro M
  induction M with
  | zero =>
    intro a i d mC mX σ τ cs hM _ _ _ g
    have := g.1.2.2.1
    omega
  | succ M ih =>
    intro a i d mC mX σ τ cs hM hmC hmX hi g hd hd0 hf ht hcat ha hnames
    obtain ⟨mC, rfl⟩ : ∃ z, mC = z + 1 := ⟨mC - 1, by omega⟩
    obtain ⟨mX, rfl⟩ : ∃ z, mX = z + 1 := ⟨mX - 1, by omega⟩
    have h8 := pl_gd8 g.1
    have hK := pl_gdK g.1
    have n8 : ¬ (8000 : Int32) ≤ nI i := nI_ge (b := 8000) (by omega) (by omega)
    by_cases k18 : pl_xK T a = 18
    · obtain ⟨σ2, τ2, c2, c2', x2, g2, fc2, fx2, s2, r2⟩ := pl_takeA g.1 k18 (by decide)
      have c2'' : prf_R_take σ 18 = some (1, σ2) := c2
      have x2'' : prf_X_take τ 44 = some τ2 := x2
      have hs2 := ht.fx (fx2 d) (Nat.le_refl _)
      have eC0 : prf_R_readNames_14 (mC + 1) σ (nI (i + 1)) (nI i) = (prf_R_take σ2 2).bind fun r11 => if r11.1 = 0 then some ((-1), r11.2) else prf_R_readNames_14 mC r11.2 (nI (i + 1 + 1)) (nI (i + 1)) := by
        rw [prf_R_readNames_14, if_neg n8, c2'', pl_sb, if_neg (show ¬ ((1 : Int32), σ2).1 = 0 from pl_10), nI_1, nI_1]
      have eX0 : prf_X_function_56 (mX + 1) τ (nI x) = (prf_X_name τ2).bind fun r29 => (prf_X_join r29.2 (nI x) r29.1).bind fun r30 => prf_X_function_56 mX r30 (nI x) := by
        rw [prf_X_function_56, pl_lookG g.1, pl_sb, k18, if_pos (show nI (pl_km 18) = 44 from rfl), x2'', pl_sb]
      by_cases k2 : pl_xK T (a + 1) = 2
      · obtain ⟨σ3, τ3, c3, c3', x3, g3, fc3, fx3, s3, t3⟩ := pl_nameG g2 k2 (by omega)
        have h83 := pl_gd8 g3
        obtain ⟨τ4, e4, g4, fx4, t4⟩ := pl_joinG (l := d0) (h := d + 1) g3 (hs2.fx fx3 (Nat.le_refl _)) t3.tr (by omega) (Or.inl (Nat.le_refl _)) (by omega) (by omega) (by omega) (by omega)
        rw [c3, pl_sb, if_neg (show ¬ ((1 : Int32), σ3).1 = 0 from pl_10)] at eC0
        rw [x3, pl_sb, e4, pl_sb] at eX0
        have fcA : pl_fc 0 σ σ3 := (fc2 0).tr (fc3 0) (Nat.le_refl _)
        have ea : a0 + 2 * (i + 1) = a + 1 := by omega
        obtain ⟨a', σ', τ', hle, fh', fx', hr⟩ := ih (a + 2) (i + 1) (d + 1) mC mX σ3 τ4 _ (by omega) (by omega) (by omega) (by omega) (pl_gs_fc g g4 fcA) (by omega) (by omega) (by rw [fcA.1.1 2 5 rfl]; exact hf) t4 (by
          rw [pl_cat_app, hcat, pl_par_app (i + 1), ea]
          simp [pl_cat]) (by omega) (fun j hj => by
          by_cases hj2 : j ≤ i
          · exact hnames j hj2
          · rw [show j = i + 1 by omega, ea]; exact k2)
        have fh0 : pl_fh fn σ σ3 := (pl_fc0_fh c2'.symm).tr (pl_fc0_fh c3'.symm) (Nat.le_refl _)
        refine ⟨a', σ', τ', by omega, fh0.tr fh' (Nat.le_refl _), ((fx2 d0).tr (fx3.le hd0) (Nat.le_refl _)).tr (fx4.tr fx' (Nat.le_refl _)) (Nat.le_refl _), ?_⟩
        rw [eC0, eX0]
        rcases hr with ⟨d', np, cs', w1, w2, w3, w4, w5, w6, w7, w8⟩ | w
        · exact Or.inl ⟨d', np, cs', w1, w2, w3, by omega, w5, by omega, by omega, w8⟩
        · exact Or.inr w
      · obtain ⟨c3, τ3, x3, hd3, b3, fx3⟩ := pl_nameZ (m := 0) g2 k2 (by omega) (by omega)
        obtain ⟨τ4, e4, b4, fx4, j4⟩ := pl_joinW (d0 := d0) b3 ((hs2.fx fx3 (Nat.le_refl _)).jb (Nat.le_refl _) (by omega)) (pl_vi1 hd0 hd3)
        rw [c3, pl_sb, if_pos rfl] at eC0
        obtain ⟨mX, rfl⟩ : ∃ z, mX = z + 1 := ⟨mX - 1, by omega⟩
        rw [x3, pl_sb, e4, pl_sb, pl_56W b4] at eX0
        refine ⟨a + 1, σ2, τ4, by omega, pl_fc0_fh c2'.symm, ((fx2 d0).tr (fx3.le hd0) (Nat.le_refl _)).tr fx4 (Nat.le_refl _), Or.inr ⟨?_, eX0, b4.le (by omega) (by omega)⟩⟩
        rw [eC0, pl_sb]
        unfold prf_R_readHead_50
        rw [if_pos rfl]
    · have c2 : prf_R_take σ 18 = some (0, σ) := (pl_takeZ g.1 (k := 18) (by decide) k18).1
      have eC0 : prf_R_readNames_14 (mC + 1) σ (nI (i + 1)) (nI i) = some (nI (i + 1), σ) := by
        rw [prf_R_readNames_14, if_neg n8, c2, pl_sb, if_pos rfl]
      have eX0 : prf_X_function_56 (mX + 1) τ (nI x) = prf_X_function_83 τ (nI x) := by
        rw [prf_X_function_56, pl_lookG g.1, pl_sb, if_neg (pl_kn hK (j := 18) (v := 44) (by decide) rfl k18)]
      obtain ⟨a', σ', τ', hle, fh', fx', hr⟩ := pl_hend (nm := nm) (np := i + 1) g hf hfn (by omega) (by omega) (nI x)
      refine ⟨a', σ', τ', hle, fh', fx' d0, ?_⟩
      rw [eC0, pl_sb, eX0]
      rcases hr with ⟨w1, w2, w3, w4, w5, w6, w7, w8, w9⟩ | ⟨w1, w2, w3⟩
      · exact Or.inl ⟨d, i + 1, cs, w1, w2, w3, Nat.le_refl _, by omega, by omega, by omega, ht.fx (fx' d) (Nat.le_refl _), hcat, fun j hj => hnames j (by omega), w6, w7, w8, w9⟩
      · exact Or.inr ⟨w1, w2, w3 d0 hd0⟩
/-- the head of a function -/
theorem pl_head {T : pl_Tx} {a q d s fn : Nat} {σ τ : pr_St} (g : pl_gs T a q d s σ τ) (hf : σ.1 2 5 = nI fn) (hfn : fn ≤ 888) (hd : d ≤ 2 * a) : ∃ (a' : Nat) (σ' τ' : pr_St), a ≤ a' ∧ pl_fh fn σ σ' ∧ pl_fx d τ τ' ∧
    ((∃ (d' np : Nat) (cs : List (Nat × List pl_N)), prf_R_readHead σ = some (1, σ') ∧ prf_X_function τ = ((prf_X_block1 (prF_X_statement1 70) τ' 1).bind fun r23 => (prf_X_join r23.2 (nI d) r23.1).bind fun r24 => some (nI d, r24)) ∧ pl_gs T a' q d' s σ' τ' ∧ pl_xK T a = 4 ∧ pl_xK T (a + 1) = 2 ∧ ((np = 0 ∧ a' = a + 4) ∨ (1 ≤ np ∧ a' = a + 3 + 2 * np)) ∧ d' ≤ 2 * a' ∧ 5 * d' + 8 * a + 8 ≤ 5 * d + 8 * a' ∧ pl_dt τ' (pl_xP T) d d' d 1 a 0 cs ∧ pl_cat cs = (13, a + 1, nI (a + 1), 1) :: pl_par (a + 3) np ∧ (∀ j, j < np → pl_xK T (a + 3 + 2 * j) = 2) ∧ σ'.1 2 5 = nI (fn + 1) ∧ σ'.2.1 12 fn = nI (a + 1) ∧ σ'.2.1 13 fn = nI np ∧ σ'.2.1 14 fn = nI s) ∨
     (prf_R_readHead σ = some (0, σ') ∧ prf_X_function τ = some (nI d, τ') ∧ pl_bd T a' d 5 σ' τ')) := by
  have h8 := pl_gd8 g.1
  have hF : pr_FU = 99999 + 1 := rfl
  obtain ⟨τ1, e1, g1, fx1, t1⟩ := pl_draftG g.1 (by omega) 1 a 0
  have e1' : prf_X_draft τ 1 (nI (pl_xP T a)) 0 = some (nI d, τ1) := e1
  by_cases k4 : pl_xK T a = 4
  · obtain ⟨σ2, τ2, c2, c2', x2, g2, fc2, fx2, s2, r2⟩ := pl_takeA g1 k4 (by decide)
    have c2'' : prf_R_take σ 4 = some (1, σ2) := c2
    have x2'' : prf_X_take τ1 300 = some τ2 := x2
    have t2 := t1.fx (fx2 (d + 1)) (Nat.le_refl _)
    have fxA : pl_fx d τ τ2 := fx1.tr (fx2 d) (Nat.le_refl _)
    have at2 : σ2.1 3 2 = nI (a + 1) := g2.2.1.1
    by_cases k2 : pl_xK T (a + 1) = 2
    · obtain ⟨σ3, τ3, c3, c3', x3, g3, fc3, fx3, s3, t3⟩ := pl_nameG g2 k2 (by omega)
      have h83 := pl_gd8 g3
      obtain ⟨τ4, e4, g4, fx4, t4⟩ := pl_joinG (l := d) (h := d + 2) g3 (t2.fx fx3 (Nat.le_refl _)) t3.tr (by omega) (Or.inl (Nat.le_refl _)) (by omega) (by omega) (by omega) (by omega)
      have fxB : pl_fx d τ τ4 := (fxA.tr fx3 (by omega)).tr fx4 (Nat.le_refl _)
      have eX0 : prf_X_function τ = (prf_X_take τ4 40).bind fun r36 => (prf_X_look r36).bind fun r37 => if r37 = 41 then prf_X_function_83 r36 (nI d) else (prf_X_name r36).bind fun r39 => (prf_X_join r39.2 (nI d) r39.1).bind fun r40 => prf_X_function_56 pr_FU r40 (nI d) := by
        unfold prf_X_function
        rw [(pl_placeG g.1).1, (pl_placeG (α := Nat) (k := none) g.1).2, e1', pl_sb, x2'', pl_sb, x3, pl_sb, e4, pl_sb]
      have eC0 : prf_R_readHead σ = (prf_R_take σ3 12).bind fun r24 => if r24.1 = 0 then some (0, r24.2) else (prf_R_now r24.2).bind fun r26 => if r26 = 13 then prf_R_readHead_50 r24.2 (nI (a + 1)) 0 else (prf_R_readNames r24.2).bind fun r28 => prf_R_readHead_50 r28.2 (nI (a + 1)) r28.1 := by
        unfold prf_R_readHead
        rw [c2'', pl_sb, if_neg (show ¬ ((1 : Int32), σ2).1 = 0 from pl_10), c3, pl_sb, if_neg (show ¬ ((1 : Int32), σ3).1 = 0 from pl_10), at2]
      have fh3 : pl_fh fn σ σ3 := (pl_fc0_fh c2'.symm).tr (pl_fc0_fh c3'.symm) (Nat.le_refl _)
      by_cases k12 : pl_xK T (a + 2) = 12
      · obtain ⟨σ5, τ5, c5, c5', x5, g5, fc5, fx5, s5, r5⟩ := pl_takeA g4 k12 (by decide)
        have c5'' : prf_R_take σ3 12 = some (1, σ5) := c5
        have x5'' : prf_X_take τ4 40 = some τ5 := x5
        have t5 := t4.fx (fx5 (d + 2)) (Nat.le_refl _)
        have fh5 : pl_fh fn σ σ5 := fh3.tr (pl_fc0_fh c5'.symm) (Nat.le_refl _)
        have fxC : pl_fx d τ τ5 := fxB.tr (fx5 d) (Nat.le_refl _)
        have fcA : pl_fc 0 σ σ5 := ((fc2 0).tr (fc3 0) (Nat.le_refl _)).tr (fc5 0) (Nat.le_refl _)
        have gs5 := pl_gs_fc g g5 fcA
        have h85 := pl_gd8 g5
        rw [c5'', pl_sb, if_neg (show ¬ ((1 : Int32), σ5).1 = 0 from pl_10), pl_nowG g5, pl_sb] at eC0
        rw [x5'', pl_sb, pl_lookG g5, pl_sb] at eX0
        by_cases k13 : pl_xK T (a + 3) = 13
        · have k13' : pl_xK T (a + 1 + 1 + 1) = 13 := k13
          rw [k13', if_pos (show nI 13 = 13 from rfl)] at eC0
          rw [k13', if_pos (show nI (pl_km 13) = 41 from rfl)] at eX0
          obtain ⟨a', σ', τ', hle, fh', fx', hr⟩ := pl_hend (nm := a + 1) (np := 0) gs5 (by rw [fcA.1.1 2 5 rfl]; exact hf) hfn (by omega) (by omega) (nI d)
          refine ⟨a', σ', τ', by omega, fh5.tr fh' (Nat.le_refl _), fxC.tr (fx' d) (Nat.le_refl _), ?_⟩
          rcases hr with ⟨w1, w2, w3, w4, w5, w6, w7, w8, w9⟩ | ⟨w1, w2, w3⟩
          · exact Or.inl ⟨d + 2, 0, _, by rw [eC0]; exact w1, by rw [eX0]; exact w2, w3, k4, k2, Or.inl ⟨rfl, by omega⟩, by omega, by omega, t5.fx (fx' (d + 2)) (Nat.le_refl _), by simp [pl_cat, pl_par], fun j hj => absurd hj (Nat.not_lt_zero _), w6, w7, w8, w9⟩
          · exact Or.inr ⟨by rw [eC0]; exact w1, by rw [eX0]; exact w2, w3 d (by omega)⟩
        · have k13' : ¬ pl_xK T (a + 1 + 1 + 1) = 13 := k13
          rw [if_neg (pl_cn (pl_gdK g5) (j := 13) (v := 13) (by decide) rfl k13')] at eC0
          rw [if_neg (pl_kn (pl_gdK g5) (j := 13) (v := 41) (by decide) rfl k13')] at eX0
          by_cases kn : pl_xK T (a + 3) = 2
          · obtain ⟨σ6, τ6, c6, c6', x6, g6, fc6, fx6, s6, t6⟩ := pl_nameG g5 kn (by omega)
            have h86 := pl_gd8 g6
            obtain ⟨τ7, e7, g7, fx7, t7⟩ := pl_joinG (l := d) (h := d + 3) g6 (t5.fx fx6 (Nat.le_refl _)) t6.tr (by omega) (Or.inl (Nat.le_refl _)) (by omega) (by omega) (by omega) (by omega)
            have eC1 : prf_R_readNames σ5 = prf_R_readNames_14 pr_FU σ6 (nI (0 + 1)) (nI 0) := by
              unfold prf_R_readNames
              rw [c6, pl_sb, if_neg (show ¬ ((1 : Int32), σ6).1 = 0 from pl_10)]
              rfl
            rw [eC1] at eC0
            rw [x6, pl_sb, e7, pl_sb] at eX0
            have c8 := pl_c8 g6.1
            have fcB : pl_fc 0 σ σ6 := fcA.tr (fc6 0) (Nat.le_refl _)
            obtain ⟨a', σ', τ', hle, fh', fx', hr⟩ := pl_ploop (T := T) s fn (a + 1) d d (a + 3) a q [(13, a + 1, nI (a + 1), 1)] hfn 8001 (a + 4) 0 (d + 3) pr_FU pr_FU σ6 τ7 _ (by omega) (by rw [hF]; omega) (by rw [hF]; omega) (by omega) (pl_gs_fc g g7 fcB) (by omega) (by omega) (by rw [fcB.1.1 2 5 rfl]; exact hf) t7 (by simp [pl_cat, pl_par]) (by omega) (fun j hj => by rw [show j = 0 by omega]; exact kn)
            refine ⟨a', σ', τ', by omega, (fh5.tr (pl_fc0_fh c6'.symm) (Nat.le_refl _)).tr fh' (Nat.le_refl _), ((fxC.tr fx6 (by omega)).tr fx7 (Nat.le_refl _)).tr fx' (Nat.le_refl _), ?_⟩
            rcases hr with ⟨d', np, cs', w1, w2, w3, w4, w5, w6, w7, w8, w9, w10, w11, w12, w13, w14⟩ | ⟨w1, w2, w3⟩
            · exact Or.inl ⟨d', np, cs', by rw [eC0]; exact w1, by rw [eX0]; exact w2, w3, k4, k2, Or.inr ⟨by omega, w5⟩, by omega, by omega, w8, w9, w10, w11, w12, w13, w14⟩
            · exact Or.inr ⟨by rw [eC0]; exact w1, by rw [eX0]; exact w2, w3⟩
          · obtain ⟨c6, τ6, x6, hd6, b6, fx6⟩ := pl_nameZ (m := 0) g5 kn (by omega) (by omega)
            obtain ⟨τ7, e7, b7, fx7, j7⟩ := pl_joinW (d0 := d) b6 ((t5.fx fx6 (Nat.le_refl _)).jb (Nat.le_refl _) (by omega)) (pl_vi1 (by omega) hd6)
            have eC1 : prf_R_readNames σ5 = some (-1, σ5) := by
              unfold prf_R_readNames
              rw [c6, pl_sb, if_pos rfl]
            rw [eC1, pl_sb, prf_R_readHead_50, if_pos rfl] at eC0
            rw [x6, pl_sb, e7, pl_sb, hF, pl_56W b7] at eX0
            exact ⟨a + 3, σ5, τ7, by omega, fh5, (fxC.tr fx6 (by omega)).tr fx7 (Nat.le_refl _), Or.inr ⟨eC0, eX0, b7.le (by omega) (by omega)⟩⟩
      · obtain ⟨c5, τ5, x5, b5, fx5⟩ := pl_takeZ g4 (k := 12) (by decide) k12
        have c5'' : prf_R_take σ3 12 = some (0, σ3) := c5
        have x5'' : prf_X_take τ4 40 = some τ5 := x5
        obtain ⟨τ6, e6, b6, fx6⟩ := pl_fnW (d0 := d) (b5 (d + 2) 3 (Nat.le_refl _) (by omega)) (by decide) (by omega) (show d < d + 2 by omega) ((t4.fx (fx5 (d + 2)) (Nat.le_refl _)).jb (Nat.le_refl _) (by omega))
        rw [c5'', pl_sb, if_pos rfl] at eC0
        rw [x5'', pl_sb, e6] at eX0
        exact ⟨a + 2, σ3, τ6, by omega, fh3, (fxB.tr (fx5 d) (Nat.le_refl _)).tr fx6 (Nat.le_refl _), Or.inr ⟨eC0, eX0, b6.le (by omega) (by omega)⟩⟩
    · obtain ⟨c3, τ3, x3, hd3, b3, fx3⟩ := pl_nameZ (m := 0) g2 k2 (by omega) (by omega)
      obtain ⟨τ4, e4, b4, fx4, j4⟩ := pl_joinW (d0 := d) b3 ((t2.fx fx3 (Nat.le_refl _)).jb (Nat.le_refl _) (by omega)) (pl_vi1 (by omega) hd3)
      obtain ⟨τ6, e6, b6, fx6⟩ := pl_fnW (d0 := d) b4 (by decide) (by omega) (show d < d + 1 + 1 by omega) j4
      have eX0 : prf_X_function τ = some (nI d, τ6) := by
        unfold prf_X_function
        rw [(pl_placeG g.1).1, (pl_placeG (α := Nat) (k := none) g.1).2, e1', pl_sb, x2'', pl_sb, x3, pl_sb, e4, pl_sb, pl_takeW b4, pl_sb, e6]
      have eC0 : prf_R_readHead σ = some (0, σ2) := by
        unfold prf_R_readHead
        rw [c2'', pl_sb, if_neg (show ¬ ((1 : Int32), σ2).1 = 0 from pl_10), c3, pl_sb, if_pos rfl]
      exact ⟨a + 1, σ2, τ6, by omega, pl_fc0_fh c2'.symm, ((fxA.tr fx3 (by omega)).tr fx4 (Nat.le_refl _)).tr fx6 (Nat.le_refl _), Or.inr ⟨eC0, eX0, b6.le (by omega) (by omega)⟩⟩
  · obtain ⟨c2, τ2, x2, b2, fx2⟩ := pl_takeZ g1 (k := 4) (by decide) k4
    have c2'' : prf_R_take σ 4 = some (0, σ) := c2
    have x2'' : prf_X_take τ1 300 = some τ2 := x2
    have b2' := b2 (d + 1) 1 (Nat.le_refl _) (by omega)
    have t2 := t1.fx (fx2 (d + 1)) (Nat.le_refl _)
    obtain ⟨y3, τ3, x3, y3a, y3b, b3, fx3⟩ := pl_nameW b2' (by decide)
    obtain ⟨τ4, e4, b4, fx4, j4⟩ := pl_joinW (d0 := d) b3 ((t2.fx fx3 (Nat.le_refl _)).jb (Nat.le_refl _) (by omega)) (pl_vi1 (by omega) y3b)
    obtain ⟨τ6, e6, b6, fx6⟩ := pl_fnW (d0 := d) b4 (by decide) (by omega) (show d < y3 + 1 by omega) j4
    have eX0 : prf_X_function τ = some (nI d, τ6) := by
      unfold prf_X_function
      rw [(pl_placeG g.1).1, (pl_placeG (α := Nat) (k := none) g.1).2, e1', pl_sb, x2'', pl_sb, x3, pl_sb, e4, pl_sb, pl_takeW b4, pl_sb, e6]
    have eC0 : prf_R_readHead σ = some (0, σ) := by
      unfold prf_R_readHead
      rw [c2'', pl_sb, if_pos rfl]
    exact ⟨a, σ, τ6, Nat.le_refl _, pl_fh.rf, (((fx1.tr (fx2 d) (Nat.le_refl _)).tr fx3 (by omega)).tr fx4 (Nat.le_refl _)).tr fx6 (Nat.le_refl _), Or.inr ⟨eC0, eX0, b6.le (by omega) (by omega)⟩⟩
