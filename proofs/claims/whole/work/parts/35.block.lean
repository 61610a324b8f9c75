/-! THE PARSER: BLOCKs -/
/-- what is there behind a statement -/
def pl_ex (K : Nat → Nat) (E : List (Nat × Bool)) (S : List pl_S) : List (Nat × Bool) := match S with
  | [] => E
  | r :: _ => if r.1 = 1 then E ++ [(r.2.1 + 1, K (r.2.1 + 2) == 16)] else E
def pl_exs (K : Nat → Nat) : List (Nat × Bool) → List (List pl_N × List pl_S × List pl_O) → List (Nat × Bool)
  | E, [] => E
  | E, e :: l => pl_exs K (pl_ex K E e.2.1) l
def pl_b1 : List (List pl_N × List pl_S × List pl_O) → List pl_N
  | [] => []
  | e :: l => e.1 ++ pl_b1 l
def pl_b2 : List (List pl_N × List pl_S × List pl_O) → List pl_S
  | [] => []
  | e :: l => e.2.1 ++ pl_b2 l
def pl_b3 : List (List pl_N × List pl_S × List pl_O) → List pl_O
  | [] => []
  | e :: l => e.2.2 ++ pl_b3 l
theorem pl_b1_app : ∀ a b : List (List pl_N × List pl_S × List pl_O), pl_b1 (a ++ b) = pl_b1 a ++ pl_b1 b := by
  intro a
  induction a with
  | nil => intro b; rfl
  | cons e l ih => intro b; show e.1 ++ pl_b1 (l ++ b) = e.1 ++ pl_b1 l ++ pl_b1 b; rw [ih, List.append_assoc]
theorem pl_b2_app : ∀ a b : List (List pl_N × List pl_S × List pl_O), pl_b2 (a ++ b) = pl_b2 a ++ pl_b2 b := by
  intro a
  induction a with
  | nil => intro b; rfl
  | cons e l ih => intro b; show e.2.1 ++ pl_b2 (l ++ b) = e.2.1 ++ pl_b2 l ++ pl_b2 b; rw [ih, List.append_assoc]
theorem pl_b3_app : ∀ a b : List (List pl_N × List pl_S × List pl_O), pl_b3 (a ++ b) = pl_b3 a ++ pl_b3 b := by
  intro a
  induction a with
  | nil => intro b; rfl
  | cons e l ih => intro b; show e.2.2 ++ pl_b3 (l ++ b) = e.2.2 ++ pl_b3 l ++ pl_b3 b; rw [ih, List.append_assoc]
/-- the statements of a BLOCK, one behind the other -/
def pl_bl (K : Nat → Nat) (Q : Nat → Nat → List (Nat × Bool) → List pl_N → List pl_S → List pl_O → Prop) : Nat → Nat → List (Nat × Bool) → List (List pl_N × List pl_S × List pl_O) → Prop
  | _, _, _, [] => True
  | s, q, E, e :: l => Q s q E e.1 e.2.1 e.2.2 ∧ pl_bl K Q (s + e.2.1.length) (q + e.2.2.length) (pl_ex K E e.2.1) l
theorem pl_bl_app {K : Nat → Nat} {Q : Nat → Nat → List (Nat × Bool) → List pl_N → List pl_S → List pl_O → Prop} : ∀ (a l : List (List pl_N × List pl_S × List pl_O)) (s q : Nat) (E : List (Nat × Bool)), pl_bl K Q s q E a → pl_bl K Q (s + (pl_b2 a).length) (q + (pl_b3 a).length) (pl_exs K E a) l → pl_bl K Q s q E (a ++ l) := by
  intro a
  induction a with
  | nil => intro l s q E _ h; exact h
  | cons e t ih =>
    intro l s q E h1 h2
    refine ⟨h1.1, ih l _ _ _ h1.2 ?_⟩
    have e2 : (pl_b2 (e :: t)).length = e.2.1.length + (pl_b2 t).length := by show (e.2.1 ++ pl_b2 t).length = _; rw [List.length_append]
    have e3 : (pl_b3 (e :: t)).length = e.2.2.length + (pl_b3 t).length := by show (e.2.2 ++ pl_b3 t).length = _; rw [List.length_append]
    rw [e2, e3, ← Nat.add_assoc, ← Nat.add_assoc] at h2
    exact h2
theorem pl_bl_Q {K : Nat → Nat} {Q Q' : Nat → Nat → List (Nat × Bool) → List pl_N → List pl_S → List pl_O → Prop} (h : ∀ s q E F S O, Q s q E F S O → Q' s q E F S O) : ∀ (a : List (List pl_N × List pl_S × List pl_O)) (s q : Nat) (E : List (Nat × Bool)), pl_bl K Q s q E a → pl_bl K Q' s q E a := by
  intro a
  induction a with
  | nil => intro s q E _; trivial
  | cons e t ih => intro s q E h1; exact ⟨h _ _ _ _ _ _ h1.1, ih _ _ _ h1.2⟩
/-- the kind of the latest statement -/
def pl_lv : Int32 → List (List pl_N × List pl_S × List pl_O) → Int32
  | v, [] => v
  | v, e :: l => pl_lv (match e.2.1 with | [] => v | r :: _ => nI r.1) l
theorem pl_lv_app : ∀ (a l : List (List pl_N × List pl_S × List pl_O)) (v : Int32), pl_lv v (a ++ l) = pl_lv (pl_lv v a) l := by
  intro a
  induction a with
  | nil => intro l v; rfl
  | cons e t ih => intro l v; exact ih l _
def pl_bk (K : Nat → Nat) (Q : Nat → Nat → List (Nat × Bool) → List pl_N → List pl_S → List pl_O → Prop) (s q : Nat) (E : List (Nat × Bool)) (F : List pl_N) (S : List pl_S) (O : List pl_O) : Prop := ∃ (t : Nat) (Ls : List (List pl_N × List pl_S × List pl_O)), F = (2, t, 0, 1 + (pl_b1 Ls).length) :: pl_b1 Ls ∧ S = pl_b2 Ls ∧ O = pl_b3 Ls ∧ pl_bl K Q s q E Ls
/-- a statement: its nodes, records and operations -/
def pl_sT (T : pl_Tx) : Nat → Nat → Nat → List (Nat × Bool) → List pl_N → List pl_S → List pl_O → Prop
  | 0 => fun _ _ _ _ _ _ => False
  | f + 1 => fun s q E F S O => pl_lf T s q E F S O ∨
    (∃ (k t b : Nat) (C : List pl_N) (Qc : List pl_O) (B1 : List pl_N) (S1 : List pl_S) (O1 : List pl_O) (B2 : List pl_N) (S2 : List pl_S) (O2 : List pl_O), ((k = 8 ∧ pl_xK T t = 6) ∨ (k = 9 ∧ pl_xK T t = 8 ∧ B2 = [] ∧ S2 = [] ∧ O2 = [])) ∧ pl_xK T (t + 1) = 12 ∧ pl_xK T b = 13 ∧ pl_xK T (b + 1) = 14 ∧ pl_cm (pl_xK T) (t + 2) b C ∧ pl_cd T 190 q C Qc ∧ pl_bk (pl_xK T) (pl_sT T f) (s + 1) (q + Qc.length) E B1 S1 O1 ∧ ((B2 = [] ∧ S2 = [] ∧ O2 = []) ∨ pl_bk (pl_xK T) (pl_sT T f) (s + 1 + S1.length) (q + Qc.length + O1.length) E B2 S2 O2) ∧ F = (k, t, 0, 1 + (C ++ B1 ++ B2).length) :: (C ++ B1 ++ B2) ∧ S = (k - 3, t, q, s + 1 + S1.length, s + 1 + S1.length + S2.length, E, b + 1) :: (S1 ++ S2) ∧ O = Qc ++ O1 ++ O2)
theorem pl_bk_Q {K : Nat → Nat} {Q Q' : Nat → Nat → List (Nat × Bool) → List pl_N → List pl_S → List pl_O → Prop} (h : ∀ s q E F S O, Q s q E F S O → Q' s q E F S O) {s q : Nat} {E : List (Nat × Bool)} {F : List pl_N} {S : List pl_S} {O : List pl_O} (hb : pl_bk K Q s q E F S O) : pl_bk K Q' s q E F S O := by
  obtain ⟨t, Ls, h1, h2, h3, h4⟩ := hb
  exact ⟨t, Ls, h1, h2, h3, pl_bl_Q h _ _ _ _ h4⟩
theorem pl_sT_f {T : pl_Tx} : ∀ (f s q : Nat) (E : List (Nat × Bool)) (F : List pl_N) (S : List pl_S) (O : List pl_O), pl_sT T f s q E F S O → pl_sT T (f + 1) s q E F S O := by
  intro f
  induction f with
  | zero => intro s q E F S O h; exact h.elim
  | succ f ih =>
    intro s q E F S O h
    rcases h with h | ⟨k, t, b, C, Qc, B1, S1, O1, B2, S2, O2, h1, h2, h3, h4, h5, h6, h7, h8, h9⟩
    · exact Or.inl h
    · refine Or.inr ⟨k, t, b, C, Qc, B1, S1, O1, B2, S2, O2, h1, h2, h3, h4, h5, h6, pl_bk_Q ih h7, ?_, h9⟩
      rcases h8 with h8 | h8
      · exact Or.inl h8
      · exact Or.inr (pl_bk_Q ih h8)
/-- what is asked of a statement -/
def pl_Φs (T : pl_Tx) (f : Nat) (E : List (Nat × Bool)) (s q : Nat) (F : List pl_N) (S : List pl_S) (O : List pl_O) (v : Int32) : Prop := pl_sT T f s q E F S O ∧ ∃ r S', S = r :: S' ∧ v = nI r.1
/-- what is asked of a BLOCK -/
def pl_Φb (T : pl_Tx) (f : Nat) (E : List (Nat × Bool)) (v0 : Int32) (t : Nat) (s q : Nat) (F : List pl_N) (S : List pl_S) (O : List pl_O) (v : Int32) : Prop := ∃ Ls : List (List pl_N × List pl_S × List pl_O), pl_xK T t = 14 ∧ F = (2, t, 0, 1 + (pl_b1 Ls).length) :: pl_b1 Ls ∧ S = pl_b2 Ls ∧ O = pl_b3 Ls ∧ pl_bl (pl_xK T) (pl_sT T f) s q E Ls ∧ v = pl_lv v0 Ls
theorem pl_Φb_bk {T : pl_Tx} {f t : Nat} {E : List (Nat × Bool)} {v0 v : Int32} {s q : Nat} {F : List pl_N} {S : List pl_S} {O : List pl_O} (h : pl_Φb T f E v0 t s q F S O v) : pl_bk (pl_xK T) (pl_sT T f) s q E F S O := by
  obtain ⟨Ls, _, h1, h2, h3, h4, _⟩ := h
  exact ⟨t, Ls, h1, h2, h3, h4⟩
theorem pl_sts_fs {σ σ' : pr_St} {q s : Nat} (h : pl_fs q s σ σ') (a : List pl_S) (s0 : Nat) (hs : s0 + a.length ≤ s) (h1 : pl_sts σ s0 a) : pl_sts σ' s0 a :=
  pl_sts_eq a s0 (fun r z h2 h3 _ h5 => h.2.2 r z h2 h3 (by omega)) h1
/-- the statements of a BLOCK -/
theorem pl_kloop {T : pl_Tx} (D f : Nat) (rcC rcX : pr_St → Int32 → Option (Int32 × pr_St)) (H : ∀ E, pl_spS T (pl_Φs T f E) (fun σ => rcC σ (nI D)) (fun τ => rcX τ (nI D))) (x d0 q0 s0 a0 t0 : Nat) (E : List (Nat × Bool)) (v0 : Int32) :
    ∀ (M a i q d s mC mX : Nat) (σ τ : pr_St) (cs : List (Nat × List pl_N)) (Ls : List (List pl_N × List pl_S × List pl_O)), pl_xc T ≤ a + M → M + 1 ≤ mC → M + 1 ≤ mX → i + 1 ≤ a → pl_gs T a q d s σ τ → q ≤ a → d ≤ 2 * a → 4 * s ≤ pl_xP T a → d0 ≤ d → pl_dt τ (pl_xP T) d0 d x 2 t0 0 cs → pl_cat cs = pl_b1 Ls → pl_ni (pl_b1 Ls) a0 a → pl_od (pl_b2 Ls) a0 a → s = s0 + (pl_b2 Ls).length → q = q0 + (pl_b3 Ls).length → (pl_b3 Ls).length + a0 ≤ a → 4 * (pl_b2 Ls).length + pl_xP T a0 ≤ pl_xP T a → pl_ops σ q0 (pl_b3 Ls) → pl_sts σ s0 (pl_b2 Ls) → pl_bl (pl_xK T) (pl_sT T f) s0 q0 E Ls → σ.1 3 3 = pl_lv v0 Ls →
    ∃ (a' : Nat) (σ' τ' : pr_St), a ≤ a' ∧ pl_fs q s σ σ' ∧ pl_fx d0 τ τ' ∧
      ((∃ (d' : Nat) (Ls' : List (List pl_N × List pl_S × List pl_O)), prf_R_readBlock_19 rcC mC σ (nI D) (nI i) = some (1, σ') ∧ prf_X_block1_27 rcX mX τ (nI D) (nI x) = some (nI x, τ') ∧ pl_gs T a' (q0 + (pl_b3 Ls').length) d' (s0 + (pl_b2 Ls').length) σ' τ' ∧ (pl_b3 Ls').length + a0 ≤ a' ∧ 5 * d' + 8 * a + 8 ≤ 5 * d + 8 * a' ∧ 4 * (pl_b2 Ls').length + pl_xP T a0 ≤ pl_xP T a' ∧ pl_tr τ' (pl_xP T) d0 d' x ((2, t0, 0, 1 + (pl_b1 Ls').length) :: pl_b1 Ls') ∧ pl_ops σ' q0 (pl_b3 Ls') ∧ pl_sts σ' s0 (pl_b2 Ls') ∧ (pl_ni (pl_b1 Ls') a0 a' ∧ pl_od (pl_b2 Ls') a0 a') ∧ pl_bl (pl_xK T) (pl_sT T f) s0 q0 E Ls' ∧ σ'.1 3 3 = pl_lv v0 Ls') ∨
       (prf_R_readBlock_19 rcC mC σ (nI D) (nI i) = some (0, σ') ∧ prf_X_block1_27 rcX mX τ (nI D) (nI x) = some (nI x, τ') ∧ pl_bd T a' d0 5 σ' τ')) := by
  intro M
  induction M with
  | zero =>
    intro a i q d s mC mX σ τ cs Ls hM _ _ _ g
    have := g.1.2.2.1
    omega
  | succ M ih =>
    intro a i q d s mC mX σ τ cs Ls hM hmC hmX hi g hq hd h4 hd0 ht hcat hni hod hss hqq hqa hPa hops hsts hbl hlv
    obtain ⟨mC, rfl⟩ : ∃ z, mC = z + 1 := ⟨mC - 1, by omega⟩
    obtain ⟨mX, rfl⟩ : ∃ z, mX = z + 1 := ⟨mX - 1, by omega⟩
    have h8 := pl_gd8 g.1
    have hK := pl_gdK g.1
    have n8 : ¬ (8000 : Int32) ≤ nI i := nI_ge (b := 8000) (by omega) (by omega)
    by_cases k15 : pl_xK T a = 15
    · obtain ⟨σ1, τ1, c1, c1', x1, g1, fc1, fx1, s1, r1⟩ := pl_takeA g.1 k15 (by decide)
      have c1'' : prf_R_take σ 15 = some (1, σ1) := c1
      have x1'' : prf_X_take τ 125 = some τ1 := x1
      have eC : prf_R_readBlock_19 rcC (mC + 1) σ (nI D) (nI i) = some (1, σ1) := by
        rw [prf_R_readBlock_19, if_neg n8, pl_nowG g.1, pl_sb, k15, if_pos (show nI 15 = 15 from rfl), c1'', pl_sb]
        rfl
      have eX : prf_X_block1_27 rcX (mX + 1) τ (nI D) (nI x) = some (nI x, τ1) := by
        rw [prf_X_block1_27, if_pos g.1.2.2.2.1, pl_lookG g.1, pl_sb, k15, if_pos (show nI (pl_km 15) = 125 from rfl), x1'', pl_sb]
      have hP1 := pl_Pm g.1.1 1 a (by have := g1.2.2.1; omega)
      refine ⟨a + 1, σ1, τ1, by omega, (fc1 q).fs, fx1 d0, Or.inl ⟨d, Ls, eC, eX, ?_, by omega, by omega, by omega, ?_, pl_ops_eq (fc1 (q0 + (pl_b3 Ls).length)).2 _ _ (Nat.le_refl _) hops, pl_sts_fs (s := s) ((fc1 q).fs) _ _ (by omega) hsts, ⟨pl_ni_hi hni (by omega), pl_od_hi hod (by omega)⟩, hbl, by rw [(fc1 q).1.1 3 3 rfl]; exact hlv⟩⟩
      · rw [← hqq, ← hss]
        exact pl_gs_fc g g1 (fc1 0)
      · have t := (ht.fx (fx1 d) (Nat.le_refl _)).tr
        rw [hcat] at t
        exact t
    · obtain ⟨a', σ', τ', hle, fs', fx', hr⟩ := H (pl_exs (pl_xK T) E Ls) a q d s σ τ g hq hd h4
      have hs3 := ht.fx fx' (Nat.le_refl _)
      have eC0 : prf_R_readBlock_19 rcC (mC + 1) σ (nI D) (nI i) = (rcC σ (nI D)).bind fun r20 => if r20.1 = 0 then some (0, r20.2) else prf_R_readBlock_19 rcC mC r20.2 (nI D) (nI (i + 1)) := by
        rw [prf_R_readBlock_19, if_neg n8, pl_nowG g.1, pl_sb, if_neg (pl_cn hK (j := 15) (v := 15) (by decide) rfl k15), nI_1]
      have eX0 : prf_X_block1_27 rcX (mX + 1) τ (nI D) (nI x) = (rcX τ (nI D)).bind fun r17 => (prf_X_join r17.2 (nI x) r17.1).bind fun r18 => prf_X_block1_27 rcX mX r18 (nI D) (nI x) := by
        rw [prf_X_block1_27, if_pos g.1.2.2.2.1, pl_lookG g.1, pl_sb, if_neg (pl_kn hK (j := 15) (v := 125) (by decide) rfl k15)]
      rcases hr with ⟨y, d', F2, S2, O2, hC1, hX1, g6, hO, hD', hP', tr6, ops6, sts6, ni6, st6, r6, S6, eS6, ev6⟩ | ⟨hC1, v, hX1, b6, vi6⟩
      · have h86 := pl_gd8 g6.1
        have iv6 := tr6.iv
        have hC1' : rcC σ (nI D) = some (1, σ') := hC1
        have hX1' : rcX τ (nI D) = some (nI y, τ') := hX1
        obtain ⟨τ8, e8, g8, fx8, t8⟩ := pl_joinG (l := d0) (h := d') g6.1 hs3 tr6 (by omega) (Or.inl (Nat.le_refl _)) (by omega) (by omega) (by omega) (by omega)
        rw [hC1', pl_sb, if_neg (show ¬ ((1 : Int32), σ').1 = 0 from pl_10)] at eC0
        rw [hX1', pl_sb, e8, pl_sb] at eX0
        have e1 : pl_b1 (Ls ++ [(F2, S2, O2)]) = pl_b1 Ls ++ F2 := by rw [pl_b1_app]; simp [pl_b1]
        have e2 : pl_b2 (Ls ++ [(F2, S2, O2)]) = pl_b2 Ls ++ S2 := by rw [pl_b2_app]; simp [pl_b2]
        have e3 : pl_b3 (Ls ++ [(F2, S2, O2)]) = pl_b3 Ls ++ O2 := by rw [pl_b3_app]; simp [pl_b3]
        have el2 : (pl_b2 (Ls ++ [(F2, S2, O2)])).length = (pl_b2 Ls).length + S2.length := by rw [e2, List.length_append]
        have el3 : (pl_b3 (Ls ++ [(F2, S2, O2)])).length = (pl_b3 Ls).length + O2.length := by rw [e3, List.length_append]
        obtain ⟨a2, σ'', τ'', hle2, fsI, fxI, hrI⟩ := ih a' (i + 1) (q + O2.length) d' (s + S2.length) mC mX σ' τ8 _ (Ls ++ [(F2, S2, O2)]) (by omega) (by omega) (by omega) (by omega) ⟨g8, g6.2⟩ (by omega) (by omega) (by omega) (by omega) t8 (by rw [pl_cat_app, hcat, e1]; simp [pl_cat]) (by rw [e1]; exact pl_ni_app _ _ _ _ _ hni ni6.1) (by rw [e2]; exact pl_od_app _ _ _ _ _ hod ni6.2) (by rw [el2]; omega) (by rw [el3]; omega) (by rw [el3]; omega) (by rw [el2]; omega) (by
            rw [e3]
            refine pl_ops_app _ _ q0 (pl_ops_fs (q := q) (s := s) fs' _ _ (by omega) hops) ?_
            rw [← hqq]
            exact ops6) (by
            rw [e2]
            refine pl_sts_app _ _ s0 (pl_sts_fs (q := q) (s := s) fs' _ _ (by omega) hsts) ?_
            rw [← hss]
            exact sts6) (pl_bl_app Ls _ _ _ _ hbl (by rw [← hss, ← hqq]; exact ⟨st6, trivial⟩)) (by
            rw [pl_lv_app, ← hlv]
            show _ = (match S2 with | [] => σ.1 3 3 | r :: _ => nI r.1)
            rw [eS6]
            exact ev6)
        refine ⟨a2, σ'', τ'', by omega, fs'.tr fsI (by omega) (by omega), (fx'.le hd0).tr (fx8.tr fxI (Nat.le_refl _)) (Nat.le_refl _), ?_⟩
        rw [eC0, eX0]
        rcases hrI with ⟨d2, Ls2, w1, w2, w3, w4, w5, w6⟩ | w
        · exact Or.inl ⟨d2, Ls2, w1, w2, w3, w4, by omega, w6⟩
        · exact Or.inr w
      · have hC1' : rcC σ (nI D) = some (0, σ') := hC1
        have hX1' : rcX τ (nI D) = some (v, τ') := hX1
        obtain ⟨τ8, e8, b8, fx8, j8⟩ := pl_joinW (d0 := d0) b6 (hs3.jb (Nat.le_refl _) (by omega)) (vi6.le hd0)
        rw [hC1', pl_sb, if_pos rfl] at eC0
        obtain ⟨mX, rfl⟩ : ∃ z, mX = z + 1 := ⟨mX - 1, by omega⟩
        have eS : prf_X_block1_27 rcX (mX + 1) τ8 (nI D) (nI x) = some (nI x, τ8) := by
          rw [prf_X_block1_27, if_neg (pl_nbW b8), pl_takeW b8, pl_sb]
        rw [hX1', pl_sb, e8, pl_sb, eS] at eX0
        exact ⟨a', σ', τ8, hle, fs', (fx'.le hd0).tr fx8 (Nat.le_refl _), Or.inr ⟨eC0, eX0, b8.le (by omega) (Nat.le_refl _)⟩⟩
/-- a BLOCK -/
theorem pl_block {T : pl_Tx} (D f : Nat) (hDb : D < 1000) (rcC rcX : pr_St → Int32 → Option (Int32 × pr_St)) (H : D ≤ 60 → ∀ E, pl_spS T (pl_Φs T f E) (fun σ => rcC σ (nI D)) (fun τ => rcX τ (nI D))) (E : List (Nat × Bool)) {a q d s : Nat} {σ τ : pr_St} (g : pl_gs T a q d s σ τ) (hq : q ≤ a) (hd : d ≤ 2 * a) (h4 : 4 * s ≤ pl_xP T a) : pl_phS T (pl_Φb T f E (σ.1 3 3) a) a q d s σ τ (prf_R_readBlock rcC σ (nI D)) (prf_X_block1 rcX τ (nI D)) := by
  have h8 := pl_gd8 g.1
  have hF : pr_FU = 99999 + 1 := rfl
  by_cases hD : D ≤ 60
  · obtain ⟨τ1, e1, g1, fx1, t1⟩ := pl_draftG g.1 (by omega) 2 a 0
    have e1' : prf_X_draft τ 2 (nI (pl_xP T a)) 0 = some (nI d, τ1) := e1
    have n60 : ¬ (60 : Int32) < nI D := nI_nlt (a := 60) hD (by omega)
    by_cases k14 : pl_xK T a = 14
    · obtain ⟨σ2, τ2, c2, c2', x2, g2, fc2, fx2, s2, r2⟩ := pl_takeA g1 k14 (by decide)
      have c2'' : prf_R_take σ 14 = some (1, σ2) := c2
      have x2'' : prf_X_take τ1 123 = some τ2 := x2
      have t2 := t1.fx (fx2 (d + 1)) (Nat.le_refl _)
      have eC0 : prf_R_readBlock rcC σ (nI D) = prf_R_readBlock_19 rcC pr_FU σ2 (nI D) (nI 0) := by
        unfold prf_R_readBlock
        rw [if_neg n60, c2'', pl_sb, if_neg (show ¬ ((1 : Int32), σ2).1 = 0 from pl_10)]
        rfl
      have eX0 : prf_X_block1 rcX τ (nI D) = prf_X_block1_27 rcX pr_FU τ2 (nI D) (nI d) := by
        unfold prf_X_block1
        rw [pl_deepY hD, pl_sb, (pl_placeG g.1).1, (pl_placeG (α := Nat) (k := none) g.1).2, e1', pl_sb, x2'', pl_sb]
      have c8 := pl_c8 g2.1
      have hP1 := pl_Pm g.1.1 1 a (by have := g2.2.2.1; omega)
      obtain ⟨a', σ', τ', hle, fs', fx', hr⟩ := pl_kloop (T := T) D f rcC rcX (H hD) d d q s (a + 1) a E (σ.1 3 3) 8001 (a + 1) 0 q (d + 1) s pr_FU pr_FU σ2 τ2 [] [] (by omega) (by rw [hF]; omega) (by rw [hF]; omega) (by omega) (pl_gs_fc g g2 (fc2 0)) (by omega) (by omega) (by omega) (by omega) t2 rfl (Nat.le_refl _) (Nat.le_refl _) rfl rfl (by show 0 + (a + 1) ≤ a + 1; omega) (by show 4 * 0 + _ ≤ _; omega) trivial trivial trivial (by rw [(fc2 q).1.1 3 3 rfl]; rfl)
      refine ⟨a', σ', τ', by omega, ((fc2 q).fs).tr fs' (Nat.le_refl _) (Nat.le_refl _), (fx1.tr (fx2 d) (Nat.le_refl _)).tr fx' (Nat.le_refl _), ?_⟩
      rw [eC0, eX0]
      rcases hr with ⟨d', Ls, w1, w2, w3, w4, w5, w6, w7, w8, w9, w10, w11, w12⟩ | ⟨w1, w2, w3⟩
      · refine Or.inl ⟨d, d', _, pl_b2 Ls, pl_b3 Ls, w1, w2, w3, by omega, by omega, by omega, w7, w8, w9, ⟨?_, pl_od_lo _ _ _ _ (by omega) w10.2⟩, ⟨Ls, k14, rfl, rfl, rfl, w11, w12⟩⟩
        show pl_ni (pl_b1 Ls) a a'
        exact pl_ni_lo _ _ _ _ (by omega) w10.1
      · exact Or.inr ⟨w1, nI d, w2, w3, pl_vi1 (Nat.le_refl _) (by omega)⟩
    · obtain ⟨c2, τ2, x2, b2, fx2⟩ := pl_takeZ g1 (k := 14) (by decide) k14
      have b2' := b2 d 5 (by omega) (by omega)
      have c2'' : prf_R_take σ 14 = some (0, σ) := c2
      have x2'' : prf_X_take τ1 123 = some τ2 := x2
      have eC : prf_R_readBlock rcC σ (nI D) = some (0, σ) := by
        unfold prf_R_readBlock
        rw [if_neg n60, c2'', pl_sb, if_pos rfl]
      have eX : prf_X_block1 rcX τ (nI D) = some (nI d, τ2) := by
        unfold prf_X_block1
        rw [pl_deepY hD, pl_sb, (pl_placeG g.1).1, (pl_placeG (α := Nat) (k := none) g.1).2, e1', pl_sb, x2'', pl_sb, hF, prf_X_block1_27, if_neg (pl_nbW b2'), pl_takeW b2', pl_sb]
      exact ⟨a, σ, τ2, Nat.le_refl _, pl_fs.rf, fx1.tr (fx2 d) (Nat.le_refl _), Or.inr ⟨eC, nI d, eX, b2', pl_vi1 (Nat.le_refl _) (by omega)⟩⟩
  · obtain ⟨τ1, x1, b1, fx1⟩ := pl_deepN g.1 (D := D) (by omega) (by omega)
    have b1' := b1 d 0 (Nat.le_refl _) (by omega)
    obtain ⟨y2, τ2, e2, y2a, y2b, b2, fx2, j2⟩ := pl_draftW b1' (by decide) 2 (nI (pl_xP T a)) 0
    have eC : prf_R_readBlock rcC σ (nI D) = some (0, σ) := by
      unfold prf_R_readBlock
      rw [if_pos (show (60 : Int32) < nI D from nI_lt (a := 60) (by omega) (by omega))]
    have eX : prf_X_block1 rcX τ (nI D) = some (nI y2, τ2) := by
      unfold prf_X_block1
      rw [x1, pl_sb, (pl_placeW b1').1, (pl_placeW (α := Nat) (k := none) b1').2, e2, pl_sb, pl_takeW b2, pl_sb, hF, prf_X_block1_27, if_neg (pl_nbW b2), pl_takeW b2, pl_sb]
    exact ⟨a, σ, τ2, Nat.le_refl _, pl_fs.rf, (fx1 d).tr fx2 (Nat.le_refl _), Or.inr ⟨eC, nI y2, eX, b2.le (by omega) (by omega), pl_vi1 y2a y2b⟩⟩
