/-! THE PARSER: both sides in step over the tokens -/
/-- a text: bytes, their count, count of tokens, kinds, places, lengths -/
abbrev pl_Tx : Type := (Nat → Nat) × Nat × Nat × (Nat → Nat) × (Nat → Nat) × (Nat → Nat)
def pl_xB (T : pl_Tx) : Nat → Nat := T.1
def pl_xn (T : pl_Tx) : Nat := T.2.1
def pl_xc (T : pl_Tx) : Nat := T.2.2.1
def pl_xK (T : pl_Tx) : Nat → Nat := T.2.2.2.1
def pl_xP (T : pl_Tx) : Nat → Nat := T.2.2.2.2.1
def pl_xL (T : pl_Tx) : Nat → Nat := T.2.2.2.2.2
def pl_tt (T : pl_Tx) (σ τ : pr_St) : Prop := pl_tk (pl_xB T) (pl_xn T) (pl_xc T) (pl_xK T) (pl_xP T) (pl_xL T) σ τ
theorem pl_tt_fr {T : pl_Tx} {σ τ σ' τ' : pr_St} {F F' : Nat → Nat → Bool} {G G' : Nat → Bool} (h : pl_tt T σ τ) (h1 : pl_fr F G σ σ') (h2 : pl_fr F' G' τ τ') (c1 : F 1 5 = false ∧ F 1 6 = false ∧ G 8 = false ∧ G 9 = false ∧ G 10 = false ∧ G 11 = false) (c2 : F' 0 3 = false ∧ F' 0 7 = false ∧ G' 2 = false ∧ G' 3 = false ∧ G' 4 = false ∧ G' 5 = false) : pl_tt T σ' τ' := by
  obtain ⟨a1, a2, ⟨b1, b2, b3, b4, b5⟩, ⟨d1, d2, d3⟩, e⟩ := h
  refine ⟨a1, a2, ⟨b1, b2, ?_, ?_, fun j hj => ?_⟩, ⟨?_, ?_, fun t ht => ?_⟩, e⟩
  · rw [h1.1 1 5 c1.1]; exact b3
  · rw [h2.1 0 3 c2.1]; exact b4
  · rw [h1.2.1 8 c1.2.2.1, h2.2.1 2 c2.2.2.1]; exact b5 j hj
  · rw [h1.1 1 6 c1.2.1]; exact d1
  · rw [h2.1 0 7 c2.2.1]; exact d2
  · rw [h1.2.1 9 c1.2.2.2.1, h1.2.1 10 c1.2.2.2.2.1, h1.2.1 11 c1.2.2.2.2.2, h2.2.1 3 c2.2.2.2.1, h2.2.1 4 c2.2.2.2.2.1, h2.2.1 5 c2.2.2.2.2.2]; exact d3 t ht
/-- what the class may change: at, operations; below q its rows stay -/
def pl_FC (o k : Nat) : Bool := (o == 3 && k == 2) || (o == 2 && k == 14)
def pl_GC (a : Nat) : Bool := a == 22 || a == 23
def pl_fc (q : Nat) (σ σ' : pr_St) : Prop := pl_fr pl_FC pl_GC σ σ' ∧ ∀ r z, z < q → σ'.2.1 r z = σ.2.1 r z
/-- what the reference may change: at, bad, fault, drafts; below d its rows stay -/
def pl_FQ (o k : Nat) : Bool := o == 0 && (k == 8 || k == 9 || k == 10 || k == 17)
def pl_fx (d : Nat) (τ τ' : pr_St) : Prop := pl_fr pl_FQ pl_GD τ τ' ∧ ∀ r z, z < d → τ'.2.1 r z = τ.2.1 r z
theorem pl_fc.rf {q : Nat} {σ : pr_St} : pl_fc q σ σ := ⟨pl_fr.rf, fun _ _ _ => rfl⟩
theorem pl_fx.rf {q : Nat} {σ : pr_St} : pl_fx q σ σ := ⟨pl_fr.rf, fun _ _ _ => rfl⟩
theorem pl_fc.tr {q q1 : Nat} {a b c : pr_St} (h1 : pl_fc q a b) (h2 : pl_fc q1 b c) (h : q ≤ q1) : pl_fc q a c :=
  ⟨h1.1.tr h2.1, fun r z hz => (h2.2 r z (by omega)).trans (h1.2 r z hz)⟩
theorem pl_fx.tr {q q1 : Nat} {a b c : pr_St} (h1 : pl_fx q a b) (h2 : pl_fx q1 b c) (h : q ≤ q1) : pl_fx q a c :=
  ⟨h1.1.tr h2.1, fun r z hz => (h2.2 r z (by omega)).trans (h1.2 r z hz)⟩
theorem pl_fc.le {q q1 : Nat} {a b : pr_St} (h1 : pl_fc q a b) (h : q1 ≤ q) : pl_fc q1 a b := ⟨h1.1, fun r z hz => h1.2 r z (by omega)⟩
theorem pl_fx.le {q q1 : Nat} {a b : pr_St} (h1 : pl_fx q a b) (h : q1 ≤ q) : pl_fx q1 a b := ⟨h1.1, fun r z hz => h1.2 r z (by omega)⟩
theorem pl_tt_ff {T : pl_Tx} {σ τ σ' τ' : pr_St} {q d : Nat} (h : pl_tt T σ τ) (h1 : pl_fc q σ σ') (h2 : pl_fx d τ τ') : pl_tt T σ' τ' :=
  pl_tt_fr h h1.1 h2.1 ⟨rfl, rfl, rfl, rfl, rfl, rfl⟩ ⟨rfl, rfl, rfl, rfl, rfl, rfl⟩
/-- both read token a, nothing is bad; the class has q operations, the reference d drafts -/
def pl_gd (T : pl_Tx) (a q d : Nat) (σ τ : pr_St) : Prop := pl_tt T σ τ ∧ pl_at a σ τ ∧ a < pl_xc T ∧ τ.1 0 9 = 0 ∧ σ.1 2 14 = nI q ∧ τ.1 0 17 = nI d
/-- the fault lies at token a -/
def pl_bd (T : pl_Tx) (a d0 m : Nat) (σ τ : pr_St) : Prop := pl_tt T σ τ ∧ pl_at a σ τ ∧ a < pl_xc T ∧ τ.1 0 9 = 1 ∧ τ.1 0 10 = nI (pl_xP T a) ∧ ∃ d, τ.1 0 17 = nI d ∧ d0 ≤ d ∧ d ≤ 2 * a + m
theorem pl_c8 {T : pl_Tx} {σ τ : pr_St} (h : pl_tt T σ τ) : pl_xc T ≤ 8001 := by
  obtain ⟨a1, a2, _⟩ := h
  omega
theorem pl_gd8 {T : pl_Tx} {a q d : Nat} {σ τ : pr_St} (g : pl_gd T a q d σ τ) : a ≤ 8000 := by
  have := pl_c8 g.1
  have := g.2.2.1
  omega
theorem pl_K35 {T : pl_Tx} {σ τ : pr_St} (h : pl_tt T σ τ) {t : Nat} (ht : t < pl_xc T) : pl_xK T t < 35 := (h.2.2.2.1.2.2 t ht).1
theorem pl_gdK {T : pl_Tx} {a q d : Nat} {σ τ : pr_St} (g : pl_gd T a q d σ τ) : pl_xK T a < 35 := pl_K35 g.1 g.2.2.1
/-- a real token is not the last one -/
theorem pl_more {T : pl_Tx} {σ τ : pr_St} (h : pl_tt T σ τ) {t : Nat} (ht : t < pl_xc T) (hk : 2 ≤ pl_xK T t) : t + 1 < pl_xc T := by
  obtain ⟨_, _, _, _, ⟨e1, e2, e3, e4⟩, _⟩ := h
  by_cases q : t + 1 < pl_xc T
  · exact q
  · have : t = pl_xc T - 1 := by omega
    rw [this] at hk
    omega
theorem pl_nowG {T : pl_Tx} {a q d : Nat} {σ τ : pr_St} (g : pl_gd T a q d σ τ) : prf_R_now σ = some (nI (pl_xK T a)) := pl_now g.1 g.2.1 g.2.2.1
theorem pl_lookG {T : pl_Tx} {a q d : Nat} {σ τ : pr_St} (g : pl_gd T a q d σ τ) : prf_X_look τ = some (nI (pl_km (pl_xK T a))) := pl_look g.1 g.2.1 g.2.2.1 g.2.2.2.1
theorem pl_plX {T : pl_Tx} {σ τ : pr_St} (h : pl_tt T σ τ) {t : Nat} (ht : t < pl_xc T) : τ.2.1 4 t = nI (pl_xP T t) := (h.2.2.2.1.2.2 t ht).2.2.2.2.2.1
theorem pl_placeG {T : pl_Tx} {a q d : Nat} {σ τ : pr_St} (g : pl_gd T a q d σ τ) {α : Type} {k : Option α} : pr_ck (τ.1 0 8) 8002 k = k ∧ (τ.2.1 4) (τ.1 0 8).toNatClampNeg = nI (pl_xP T a) := by
  have h8 := pl_gd8 g
  rw [g.2.1.2, nI_clamp (by omega)]
  exact ⟨pl_ck (by omega) (by omega), pl_plX g.1 g.2.2.1⟩
theorem pl_kn {k j : Nat} {v : Int32} (hk : k < 35) (hj : j < 35) (hv : nI (pl_km j) = v) (h : ¬ k = j) : ¬ nI (pl_km k) = v := fun q => h (pl_kminj k hk j hj (q.trans hv.symm))
theorem pl_cn {k j : Nat} {v : Int32} (hk : k < 35) (hj : j < 35) (hv : nI j = v) (h : ¬ k = j) : ¬ nI k = v := fun q => h ((nI_eq (by omega) (by omega)).mp (q.trans hv.symm))
/-- the fields that a step of at changes -/
theorem pl_atC {σ : pr_St} {v : Int32} {q : Nat} : pl_fc q σ (pr_sI σ 3 2 v) := ⟨pl_sI_fr rfl, fun _ _ _ => rfl⟩
theorem pl_atX {σ : pr_St} {v : Int32} {q : Nat} : pl_fx q σ (pr_sI σ 0 8 v) := ⟨pl_sI_fr rfl, fun _ _ _ => rfl⟩
/-- the token is the one that is asked for: both go on -/
theorem pl_takeA {T : pl_Tx} {a q d : Nat} {σ τ : pr_St} (g : pl_gd T a q d σ τ) {k : Nat} (hk : pl_xK T a = k) (h2 : 2 ≤ k) : ∃ σ1 τ1, prf_R_take σ (nI k) = some (1, σ1) ∧ pr_sI σ 3 2 (σ.1 3 2 + 1) = σ1 ∧ prf_X_take τ (nI (pl_km k)) = some τ1 ∧ pl_gd T (a + 1) q d σ1 τ1 ∧ (∀ x, pl_fc x σ σ1) ∧ (∀ x, pl_fx x τ τ1) ∧ σ1.2 = σ.2 ∧ τ1.2 = τ.2 := by
  obtain ⟨t1, t2⟩ := pl_takeY g.1 g.2.1 g.2.2.1 g.2.2.2.1
  rw [hk] at t1 t2
  refine ⟨_, _, t1, ?_, t2, ⟨pl_tt_ff g.1 (pl_atC (q := 0)) (pl_atX (q := 0)), ⟨pr_sI_same, pr_sI_same⟩, ?_, ?_, ?_, ?_⟩, fun x => pl_atC, fun x => pl_atX, rfl, rfl⟩
  · rw [g.2.1.1, nI_1]
  · exact pl_more g.1 g.2.2.1 (by omega)
  · rw [pr_sI_ne (by omega)]; exact g.2.2.2.1
  · rw [pr_sI_ne (by omega)]; exact g.2.2.2.2.1
  · rw [pr_sI_ne (by omega)]; exact g.2.2.2.2.2
/-- the token is another one: the fault is here -/
theorem pl_takeZ {T : pl_Tx} {a q d : Nat} {σ τ : pr_St} (g : pl_gd T a q d σ τ) {k : Nat} (hk : k < 35) (hne : ¬ pl_xK T a = k) : prf_R_take σ (nI k) = some (0, σ) ∧ ∃ τ1, prf_X_take τ (nI (pl_km k)) = some τ1 ∧ (∀ d0 m, d0 ≤ d → d ≤ 2 * a + m → pl_bd T a d0 m σ τ1) ∧ (∀ x, pl_fx x τ τ1) := by
  obtain ⟨t1, t2⟩ := pl_takeN g.1 g.2.1 g.2.2.1 g.2.2.2.1 hk hne
  have hf : ∀ x, pl_fx x τ (pr_sI (pr_sI (pr_sI τ 0 9 1) 0 10 (nI (pl_xP T a))) 0 8 (nI a)) := fun x => ⟨((pl_sI_fr (o := 0) (k := 9) rfl).tr (pl_sI_fr (o := 0) (k := 10) rfl)).tr (pl_sI_fr (o := 0) (k := 8) rfl), fun _ _ _ => rfl⟩
  refine ⟨t1, _, t2, fun d0 m h1 h2 => ⟨pl_tt_ff g.1 (pl_fc.rf (q := 0)) (hf 0), ⟨g.2.1.1, pr_sI_same⟩, g.2.2.1, ?_, ?_, d, ?_, h1, h2⟩, hf⟩
  · rw [pr_sI_ne (by omega), pr_sI_ne (by omega), pr_sI_same]
  · rw [pr_sI_ne (by omega), pr_sI_same]
  · rw [pr_sI_ne (by omega), pr_sI_ne (by omega), pr_sI_ne (by omega)]; exact g.2.2.2.2.2
theorem pl_deepY {τ : pr_St} {D : Nat} (h : D ≤ 60) : prf_X_deep τ (nI D) = some τ := by
  unfold prf_X_deep
  rw [if_neg (show ¬ (60 : Int32) < nI D from nI_nlt (a := 60) h (by omega))]
  rfl
theorem pl_deepN {T : pl_Tx} {a q d : Nat} {σ τ : pr_St} (g : pl_gd T a q d σ τ) {D : Nat} (h : 60 < D) (hD : D < 2 ^ 20) : ∃ τ1, prf_X_deep τ (nI D) = some τ1 ∧ (∀ d0 m, d0 ≤ d → d ≤ 2 * a + m → pl_bd T a d0 m σ τ1) ∧ (∀ x, pl_fx x τ τ1) := by
  have hf : ∀ x, pl_fx x τ (pr_sI (pr_sI τ 0 9 1) 0 10 (nI (pl_xP T a))) := fun x => ⟨(pl_sI_fr (o := 0) (k := 9) rfl).tr (pl_sI_fr (o := 0) (k := 10) rfl), fun _ _ _ => rfl⟩
  refine ⟨pr_sI (pr_sI τ 0 9 1) 0 10 (nI (pl_xP T a)), ?_, fun d0 m h1 h2 => ⟨pl_tt_ff g.1 (pl_fc.rf (q := 0)) (hf 0), ⟨g.2.1.1, ?_⟩, g.2.2.1, ?_, ?_, d, ?_, h1, h2⟩, hf⟩
  · unfold prf_X_deep prf_X_need
    rw [if_pos (show (60 : Int32) < nI D from nI_lt (a := 60) h (by omega)), if_pos rfl, if_pos g.2.2.2.1, (pl_placeG g).1, (pl_placeG (α := Nat) (k := none) g).2]
    rfl
  · rw [pr_sI_ne (by omega), pr_sI_ne (by omega)]; exact g.2.1.2
  · rw [pr_sI_ne (by omega), pr_sI_same]
  · rw [pr_sI_same]
  · rw [pr_sI_ne (by omega), pr_sI_ne (by omega)]; exact g.2.2.2.2.2
/-! bad: nothing is taken -/
theorem pl_sI_id {σ : pr_St} {o k : Nat} : pr_sI σ o k (σ.1 o k) = σ := by
  unfold pr_sI
  refine Prod.ext ?_ rfl
  funext x y
  by_cases h1 : x = o
  · by_cases h2 : y = k
    · subst h1; subst h2; simp
    · show (if x = o then (if y = k then _ else _) else _) = _
      rw [if_pos h1, if_neg h2]
  · show (if x = o then (if y = k then _ else _) else _) = _
    rw [if_neg h1]
theorem pl_takeW {T : pl_Tx} {a d0 m : Nat} {σ τ : pr_St} (b : pl_bd T a d0 m σ τ) (x : Int32) : prf_X_take τ x = some τ := by
  rw [pl_takeBad b.2.2.2.1, pl_sI_id]
theorem pl_lookW {T : pl_Tx} {a d0 m : Nat} {σ τ : pr_St} (b : pl_bd T a d0 m σ τ) : prf_X_look τ = some 1 := pl_lookBad b.2.2.2.1
theorem pl_nbW {T : pl_Tx} {a d0 m : Nat} {σ τ : pr_St} (b : pl_bd T a d0 m σ τ) : ¬ τ.1 0 9 = 0 := by rw [b.2.2.2.1]; decide
theorem pl_deepW {T : pl_Tx} {a d0 m : Nat} {σ τ : pr_St} (b : pl_bd T a d0 m σ τ) (x : Int32) : prf_X_deep τ x = some τ := by
  unfold prf_X_deep
  rw [pl_needBad b.2.2.2.1, pl_needBad b.2.2.2.1]
  by_cases h : (60 : Int32) < x
  · rw [if_pos h]; rfl
  · rw [if_neg h]; rfl
theorem pl_placeW {T : pl_Tx} {a d0 m : Nat} {σ τ : pr_St} (b : pl_bd T a d0 m σ τ) {α : Type} {k : Option α} : pr_ck (τ.1 0 8) 8002 k = k ∧ (τ.2.1 4) (τ.1 0 8).toNatClampNeg = nI (pl_xP T a) := by
  have h8 := pl_c8 b.1
  have h9 := b.2.2.1
  rw [b.2.1.2, nI_clamp (by omega)]
  exact ⟨pl_ck (by omega) (by omega), pl_plX b.1 h9⟩
theorem pl_bd.le {T : pl_Tx} {a d0 m d1 m1 : Nat} {σ τ : pr_St} (b : pl_bd T a d0 m σ τ) (h : d1 ≤ d0) (h2 : m ≤ m1) : pl_bd T a d1 m1 σ τ := by
  obtain ⟨b1, b2, b3, b4, b5, d, b6, b7, b8⟩ := b
  exact ⟨b1, b2, b3, b4, b5, d, b6, by omega, by omega⟩
/-- a draft while bad -/
theorem pl_draftW {T : pl_Tx} {a d0 m : Nat} {σ τ : pr_St} (b : pl_bd T a d0 m σ τ) (hm : m ≤ 100) (k p v : Int32) : ∃ y τ1, prf_X_draft τ k p v = some (nI y, τ1) ∧ d0 ≤ y ∧ y < 26000 ∧ pl_bd T a (y + 1) (m + 1) σ τ1 ∧ pl_fx d0 τ τ1 ∧ pl_jb d0 τ1.2.1 y := by
  obtain ⟨b1, b2, b3, b4, b5, d, b6, b7, b8⟩ := b
  have h8 := pl_c8 b1
  have hfr : pl_fr pl_FQ pl_GD τ (pl_dr τ d k p v) := by
    refine ⟨fun o j h => pl_dr_fr.1 o j ?_, fun r h => pl_dr_fr.2.1 r h, pl_dr_fr.2.2⟩
    unfold pl_FQ at h
    unfold pl_FD
    cases ho : (o == 0) with
    | false => rfl
    | true =>
      rw [ho] at h
      simp only [Bool.true_and, Bool.or_eq_false_iff] at h ⊢
      exact h.2
  have hz : ∀ r z, z < d → (pl_dr τ d k p v).2.1 r z = τ.2.1 r z := by
    intro r z hz
    by_cases hr : pl_GD r = true
    · obtain ⟨r6, r7, r8, r9, r10, r11⟩ := pl_dr_rows (τ := τ) (d := d) (k := k) (p := p) (v := v)
      have hne : z ≠ d := by omega
      unfold pl_GD at hr
      simp only [Bool.or_eq_true, beq_iff_eq] at hr
      rcases hr with ((((hr | hr) | hr) | hr) | hr) | hr
      · subst hr; rw [r6, pk_un hne]
      · subst hr; rw [r7, pk_un hne]
      · subst hr; rw [r8, pk_un hne]
      · subst hr; rw [r9, pk_un hne]
      · subst hr; rw [r10, pk_un hne]
      · subst hr; rw [r11, pk_un hne]
    · have hr' : pl_GD r = false := by cases h : pl_GD r with
        | true => exact absurd h hr
        | false => rfl
      rw [hfr.2.1 r hr']
  have hfx : pl_fx d0 τ (pl_dr τ d k p v) := ⟨hfr, fun r z h => hz r z (by omega)⟩
  refine ⟨d, _, pl_draft b6 (by omega) k p v, b7, by omega, ⟨pl_tt_ff b1 (pl_fc.rf (q := 0)) hfx, ⟨b2.1, ?_⟩, b3, ?_, ?_, d + 1, pl_dr_n, by omega, by omega⟩, hfx, b7, by omega, Or.inl ?_⟩
  · rw [pl_dr_fr.1 0 8 rfl]; exact b2.2
  · rw [pl_dr_fr.1 0 9 rfl]; exact b4
  · rw [pl_dr_fr.1 0 10 rfl]; exact b5
  · rw [pl_dr_rows.2.2.2.1, pk_us]
/-- rows 9, 10, 11 may change behind d0 while bad -/
theorem pl_bd_jn {T : pl_Tx} {a d0 d1 m : Nat} {σ τ τ' : pr_St} {S : Nat → Prop} (b : pl_bd T a d1 m σ τ) (j : pl_jn S τ τ') (hS : ∀ z, S z → d0 ≤ z) : pl_bd T a d1 m σ τ' ∧ pl_fx d0 τ τ' := by
  obtain ⟨j1, j2, j3, j4⟩ := j
  have hfx : pl_fx d0 τ τ' := by
    refine ⟨⟨fun o k _ => by rw [j1], fun r hr => ?_, j2⟩, fun r z hz => j4 r z (fun q => by have := hS z q; omega)⟩
    unfold pl_GD at hr
    simp only [Bool.or_eq_false_iff, beq_eq_false_iff_ne] at hr
    exact j3 r hr.1.1.2 hr.1.2 hr.2
  obtain ⟨b1, b2, b3, b4, b5, d, b6, b7, b8⟩ := b
  exact ⟨⟨pl_tt_ff b1 (pl_fc.rf (q := 0)) hfx, ⟨b2.1, by rw [j1]; exact b2.2⟩, b3, by rw [j1]; exact b4, by rw [j1]; exact b5, d, by rw [j1]; exact b6, b7, b8⟩, hfx⟩
/-! good: drafts and their joining -/
def pl_iv (lo hi : Nat) : Nat → Prop := fun z => lo ≤ z ∧ z < hi
/-- a tree of drafts in [lo, hi) that no other part follows -/
def pl_tr (τ : pr_St) (P : Nat → Nat) (lo hi y : Nat) (F : List pl_N) : Prop := F.length + lo ≤ hi ∧ τ.2.1 11 y = -1 ∧ ∃ f, pl_fl τ.2.1 P f (pl_iv lo hi) y F
/-- a draft that is under way: its parts so far -/
def pl_dt (τ : pr_St) (P : Nat → Nat) (lo hi s k t : Nat) (v : Int32) (cs : List (Nat × List pl_N)) : Prop := 1 + (pl_cat cs).length + lo ≤ hi ∧ (∃ f, pl_kd τ.2.1 P f (pl_iv lo hi) s cs) ∧ τ.2.1 6 s = nI k ∧ τ.2.1 7 s = nI (P t) ∧ τ.2.1 8 s = v ∧ τ.2.1 11 s = -1
theorem pl_tr.iv {τ : pr_St} {P : Nat → Nat} {lo hi y : Nat} {F : List pl_N} (h : pl_tr τ P lo hi y F) : lo ≤ y ∧ y < hi := by
  obtain ⟨_, _, f, h⟩ := h
  exact pl_fl_in h
theorem pl_dt.iv {τ : pr_St} {P : Nat → Nat} {lo hi s k t : Nat} {v : Int32} {cs : List (Nat × List pl_N)} (h : pl_dt τ P lo hi s k t v cs) : lo ≤ s ∧ s < hi := by
  obtain ⟨_, ⟨f, h⟩, _⟩ := h
  exact h.1
theorem pl_tr.fx {τ τ' : pr_St} {P : Nat → Nat} {lo hi y d : Nat} {F : List pl_N} (h : pl_tr τ P lo hi y F) (hx : pl_fx d τ τ') (hd : hi ≤ d) : pl_tr τ' P lo hi y F := by
  have hi1 := h.iv
  obtain ⟨h0, h1, f, h2⟩ := h
  refine ⟨h0, by rw [hx.2 11 y (by omega)]; exact h1, f, pl_fl_eq f _ _ _ (fun z hz => ?_) (fun z hz _ => hx.2 11 z (by have := hz.2; omega)) h2⟩
  have : z < d := by have := hz.2; omega
  exact ⟨hx.2 6 z this, hx.2 7 z this, hx.2 8 z this, hx.2 9 z this⟩
theorem pl_dt.fx {τ τ' : pr_St} {P : Nat → Nat} {lo hi s k t d : Nat} {v : Int32} {cs : List (Nat × List pl_N)} (h : pl_dt τ P lo hi s k t v cs) (hx : pl_fx d τ τ') (hd : hi ≤ d) : pl_dt τ' P lo hi s k t v cs := by
  have hi1 := h.iv
  obtain ⟨hl, ⟨f, h0⟩, h1, h2, h3, h4⟩ := h
  have hs : s < d := by omega
  refine ⟨hl, ⟨f, pl_kd_eq h0 (fun z hz => ?_)⟩, by rw [hx.2 6 s hs]; exact h1, by rw [hx.2 7 s hs]; exact h2, by rw [hx.2 8 s hs]; exact h3, by rw [hx.2 11 s hs]; exact h4⟩
  have : z < d := by have := hz.2; omega
  exact ⟨hx.2 6 z this, hx.2 7 z this, hx.2 8 z this, hx.2 9 z this, hx.2 10 z this, hx.2 11 z this⟩
/-- the draft is whole -/
theorem pl_dt.tr {τ : pr_St} {P : Nat → Nat} {lo hi s k t : Nat} {v : Int32} {cs : List (Nat × List pl_N)} (h : pl_dt τ P lo hi s k t v cs) : pl_tr τ P lo hi s ((k, t, v, 1 + (pl_cat cs).length) :: pl_cat cs) := by
  obtain ⟨hl, ⟨f, h0⟩, h1, h2, h3, h4⟩ := h
  exact ⟨by rw [List.length_cons]; omega, h4, f + 1, pl_kd_fl h0 h1 h2 h3⟩
theorem pl_draftG {T : pl_Tx} {a q d : Nat} {σ τ : pr_St} (g : pl_gd T a q d σ τ) (hd : d < 26000) (k t : Nat) (v : Int32) : ∃ τ1, prf_X_draft τ (nI k) (nI (pl_xP T t)) v = some (nI d, τ1) ∧ pl_gd T a q (d + 1) σ τ1 ∧ pl_fx d τ τ1 ∧ pl_dt τ1 (pl_xP T) d (d + 1) d k t v [] := by
  obtain ⟨g1, g2, g3, g4, g5, g6⟩ := g
  have hfr : pl_fr pl_FQ pl_GD τ (pl_dr τ d (nI k) (nI (pl_xP T t)) v) := by
    refine ⟨fun o j h => pl_dr_fr.1 o j ?_, fun r h => pl_dr_fr.2.1 r h, pl_dr_fr.2.2⟩
    unfold pl_FQ at h
    unfold pl_FD
    cases ho : (o == 0) with
    | false => rfl
    | true =>
      rw [ho] at h
      simp only [Bool.true_and, Bool.or_eq_false_iff] at h ⊢
      exact h.2
  obtain ⟨r6, r7, r8, r9, r10, r11⟩ := pl_dr_rows (τ := τ) (d := d) (k := nI k) (p := nI (pl_xP T t)) (v := v)
  have hz : ∀ r z, z < d → (pl_dr τ d (nI k) (nI (pl_xP T t)) v).2.1 r z = τ.2.1 r z := by
    intro r z hz
    by_cases hr : pl_GD r = true
    · have hne : z ≠ d := by omega
      unfold pl_GD at hr
      simp only [Bool.or_eq_true, beq_iff_eq] at hr
      rcases hr with ((((hr | hr) | hr) | hr) | hr) | hr
      · subst hr; rw [r6, pk_un hne]
      · subst hr; rw [r7, pk_un hne]
      · subst hr; rw [r8, pk_un hne]
      · subst hr; rw [r9, pk_un hne]
      · subst hr; rw [r10, pk_un hne]
      · subst hr; rw [r11, pk_un hne]
    · have hr' : pl_GD r = false := by cases h : pl_GD r with
        | true => exact absurd h hr
        | false => rfl
      rw [hfr.2.1 r hr']
  have hfx : pl_fx d τ (pl_dr τ d (nI k) (nI (pl_xP T t)) v) := ⟨hfr, hz⟩
  refine ⟨_, pl_draft g6 hd _ _ _, ⟨pl_tt_ff g1 (pl_fc.rf (q := 0)) hfx, ⟨g2.1, ?_⟩, g3, ?_, g5, pl_dr_n⟩, hfx, (by show 1 + 0 + d ≤ d + 1; omega), ⟨0, pl_kd0 ⟨Nat.le_refl _, by omega⟩ ?_⟩, ?_, ?_, ?_, ?_⟩
  · rw [pl_dr_fr.1 0 8 rfl]; exact g2.2
  · rw [pl_dr_fr.1 0 9 rfl]; exact g4
  · rw [r9, pk_us]
  · rw [r6, pk_us]
  · rw [r7, pk_us]
  · rw [r8, pk_us]
  · rw [r11, pk_us]
theorem pl_gd_jn {T : pl_Tx} {a q d l : Nat} {σ τ τ' : pr_St} {S : Nat → Prop} (g : pl_gd T a q d σ τ) (j : pl_jn S τ τ') (hS : ∀ z, S z → l ≤ z) : pl_gd T a q d σ τ' ∧ pl_fx l τ τ' := by
  obtain ⟨j1, j2, j3, j4⟩ := j
  have hfx : pl_fx l τ τ' := by
    refine ⟨⟨fun o k _ => by rw [j1], fun r hr => ?_, j2⟩, fun r z hz => j4 r z (fun q => by have := hS z q; omega)⟩
    unfold pl_GD at hr
    simp only [Bool.or_eq_false_iff, beq_eq_false_iff_ne] at hr
    exact j3 r hr.1.1.2 hr.1.2 hr.2
  obtain ⟨g1, g2, g3, g4, g5, g6⟩ := g
  exact ⟨⟨pl_tt_ff g1 (pl_fc.rf (q := 0)) hfx, ⟨g2.1, by rw [j1]; exact g2.2⟩, g3, by rw [j1]; exact g4, g5, by rw [j1]; exact g6⟩, hfx⟩
/-- one more part joins a draft -/
theorem pl_joinG {T : pl_Tx} {a q d : Nat} {σ τ : pr_St} {lo hi lo' hi' l h s k t y : Nat} {v : Int32} {cs : List (Nat × List pl_N)} {F : List pl_N} (g : pl_gd T a q d σ τ) (hs : pl_dt τ (pl_xP T) lo hi s k t v cs) (hy : pl_tr τ (pl_xP T) lo' hi' y F) (h26 : h ≤ 26000) (hdis : hi ≤ lo' ∨ hi' ≤ lo) (h1 : l ≤ lo) (h2 : l ≤ lo') (h3 : hi ≤ h) (h4 : hi' ≤ h) : ∃ τ1, prf_X_join τ (nI s) (nI y) = some τ1 ∧ pl_gd T a q d σ τ1 ∧ pl_fx lo τ τ1 ∧ pl_dt τ1 (pl_xP T) l h s k t v (cs ++ [(y, F)]) := by
  have is := hs.iv
  have iy := hy.iv
  obtain ⟨kl, ⟨f, k0⟩, k1, k2, k3, k4⟩ := hs
  obtain ⟨yl, y1, f', y2⟩ := hy
  obtain ⟨τ1, e1, e2, e3, e4⟩ := pl_joinK (f := f + f') (S := pl_iv lo hi) (S' := pl_iv lo' hi') (fun z hz => by have := hz.2; omega) (pl_kd_f k0 (by omega)) (pl_fl_ff y2 _ (by omega)) y1 (by omega) (fun z hz hz' => by have := hz.1; have := hz.2; have := hz'.1; have := hz'.2; omega)
  obtain ⟨g1, f1⟩ := pl_gd_jn (l := lo) g e2 (fun z hz => hz.1)
  have e2' := e2
  obtain ⟨j1, j2, j3, j4⟩ := e2
  refine ⟨τ1, e1, g1, f1, ?_, ⟨f + f', pl_kd_S e3 (fun z hz => ?_)⟩, ?_, ?_, ?_, ?_⟩
  · rw [pl_cat_app, List.length_append]
    show 1 + ((pl_cat cs).length + (F ++ []).length) + l ≤ h
    rw [List.append_nil]
    omega
  · rcases hz with hz | hz
    · exact ⟨by have := hz.1; omega, by have := hz.2; omega⟩
    · exact ⟨by have := hz.1; omega, by have := hz.2; omega⟩
  · rw [j3 6 (by decide) (by decide) (by decide)]; exact k1
  · rw [j3 7 (by decide) (by decide) (by decide)]; exact k2
  · rw [j3 8 (by decide) (by decide) (by decide)]; exact k3
  · rw [e4]; exact k4
theorem pl_dt.jb {τ : pr_St} {P : Nat → Nat} {lo hi s k t d0 : Nat} {v : Int32} {cs : List (Nat × List pl_N)} (h : pl_dt τ P lo hi s k t v cs) (h0 : d0 ≤ lo) (h26 : hi ≤ 26000) : pl_jb d0 τ.2.1 s := by
  obtain ⟨_, ⟨f, h1⟩, _⟩ := h
  exact pl_kd_jb (fun z hz => ⟨by have := hz.1; omega, by have := hz.2; omega⟩) h1
/-- a joining while bad -/
theorem pl_joinW {T : pl_Tx} {a d0 d1 m s : Nat} {σ τ : pr_St} {w : Int32} (b : pl_bd T a d1 m σ τ) (hs : pl_jb d0 τ.2.1 s) (hw : pl_vi d0 w) : ∃ τ1, prf_X_join τ (nI s) w = some τ1 ∧ pl_bd T a d1 m σ τ1 ∧ pl_fx d0 τ τ1 ∧ pl_jb d0 τ1.2.1 s := by
  obtain ⟨τ1, e1, e2, e3⟩ := pl_joinB hs hw
  obtain ⟨b1, b2⟩ := pl_bd_jn b e2 (fun z hz => hz)
  exact ⟨τ1, e1, b1, b2, e3⟩
theorem pl_jb.fx {τ τ' : pr_St} {d0 d s : Nat} (h : pl_jb d0 τ.2.1 s) (hx : pl_fx d τ τ') (hd : s < d) : pl_jb d0 τ'.2.1 s := by
  unfold pl_jb at h ⊢
  rw [hx.2 9 s hd, hx.2 10 s hd]
  exact h
theorem pl_vi0 {d0 : Nat} : pl_vi d0 (-1) := Or.inl rfl
theorem pl_vi1 {d0 y : Nat} (h : d0 ≤ y) (h2 : y < 26000) : pl_vi d0 (nI y) := Or.inr ⟨y, h, h2, rfl⟩
theorem pl_vi.le {d0 d1 : Nat} {v : Int32} (h : pl_vi d0 v) (h2 : d1 ≤ d0) : pl_vi d1 v := by
  rcases h with h | ⟨y, h3, h4, h5⟩
  · exact Or.inl h
  · exact Or.inr ⟨y, by omega, h4, h5⟩
/-! the class' operations -/
def pl_ops (σ : pr_St) : Nat → List pl_O → Prop
  | _, [] => True
  | q, o :: l => σ.2.1 22 q = nI o.1 ∧ σ.2.1 23 q = o.2 ∧ pl_ops σ (q + 1) l
theorem pl_ops_app {σ : pr_St} : ∀ (a b : List pl_O) (q : Nat), pl_ops σ q a → pl_ops σ (q + a.length) b → pl_ops σ q (a ++ b) := by
  intro a
  induction a with
  | nil => intro b q _ h; exact h
  | cons o l ih =>
    intro b q h1 h2
    refine ⟨h1.1, h1.2.1, ih b (q + 1) h1.2.2 ?_⟩
    rw [List.length_cons] at h2
    rw [show q + 1 + l.length = q + (l.length + 1) by omega]
    exact h2
theorem pl_ops_l {σ : pr_St} : ∀ (a b : List pl_O) (q : Nat), pl_ops σ q (a ++ b) → pl_ops σ q a ∧ pl_ops σ (q + a.length) b := by
  intro a
  induction a with
  | nil => intro b q h; exact ⟨trivial, h⟩
  | cons o l ih =>
    intro b q h
    obtain ⟨i1, i2⟩ := ih b (q + 1) h.2.2
    refine ⟨⟨h.1, h.2.1, i1⟩, ?_⟩
    rw [List.length_cons, show q + (l.length + 1) = q + 1 + l.length by omega]
    exact i2
theorem pl_ops_eq {σ σ' : pr_St} {x : Nat} (h : ∀ r z, z < x → σ'.2.1 r z = σ.2.1 r z) : ∀ (a : List pl_O) (q : Nat), q + a.length ≤ x → pl_ops σ q a → pl_ops σ' q a := by
  intro a
  induction a with
  | nil => intro q _ _; trivial
  | cons o l ih =>
    intro q hq h1
    rw [List.length_cons] at hq
    exact ⟨by rw [h 22 q (by omega)]; exact h1.1, by rw [h 23 q (by omega)]; exact h1.2.1, ih (q + 1) (by omega) h1.2.2⟩
theorem pl_k8b : ∀ k, k < 64 → (nI k).toInt8.toInt32.toInt8.toInt32 = nI k := by decide +kernel
theorem pl_addG {T : pl_Tx} {a q d : Nat} {σ τ : pr_St} (g : pl_gd T a q d σ τ) (hq : q < 8001) {o : Nat} (ho : o < 64) (x : Int32) : ∃ σ1, prf_G_addOperation σ (nI o) x = some σ1 ∧ pl_gd T a (q + 1) d σ1 τ ∧ pl_fc q σ σ1 ∧ pl_ops σ1 q [(o, x)] ∧ σ1.1 3 2 = σ.1 3 2 := by
  obtain ⟨g1, g2, g3, g4, g5, g6⟩ := g
  have hfx : pl_fc q σ (pr_sI (pr_sA (pr_sA σ 22 (upd (σ.2.1 22) q (nI o))) 23 (upd (σ.2.1 23) q x)) 2 14 (nI (q + 1))) := by
    refine ⟨((pl_sA_fr (o := 22) rfl).tr (pl_sA_fr (o := 23) rfl)).tr (pl_sI_fr (o := 2) (k := 14) rfl), fun r z hz => ?_⟩
    show (pr_sA (pr_sA σ 22 (upd (σ.2.1 22) q (nI o))) 23 (upd (σ.2.1 23) q x)).2.1 r z = _
    by_cases h23 : r = 23
    · subst h23; rw [pl_sA_same, pk_un (by omega)]
    · rw [pl_sA_ne h23]
      by_cases h22 : r = 22
      · subst h22; rw [pl_sA_same, pk_un (by omega)]
      · rw [pl_sA_ne h22]
  refine ⟨_, ?_, ⟨pl_tt_ff g1 hfx (pl_fx.rf (q := 0)), ⟨?_, g2.2⟩, g3, g4, pr_sI_same, g6⟩, hfx, ⟨?_, ?_, trivial⟩, ?_⟩
  · unfold prf_G_addOperation
    rw [g5, if_neg (show ¬ (8001 : Int32) ≤ nI q from nI_ge (b := 8001) hq (by omega)), pl_ck hq (by omega), pl_ck hq (by omega), nI_clamp (by omega), pl_k8b o ho, nI_1]
  · rw [pr_sI_ne (by omega)]; exact g2.1
  · show upd (σ.2.1 22) q (nI o) q = _
    rw [pk_us]
  · show upd (σ.2.1 23) q x q = _
    rw [pk_us]
  · rw [pr_sI_ne (by omega)]; rfl
theorem pl_10 : ¬ (1 : Int32) = 0 := by decide
