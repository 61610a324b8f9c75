/-! THE PARSER: factors -/
theorem pl_nameG {T : pl_Tx} {a q d : Nat} {σ τ : pr_St} (g : pl_gd T a q d σ τ) (hk : pl_xK T a = 2) (hd : d < 26000) : ∃ σ1 τ1, prf_R_take σ 2 = some (1, σ1) ∧ pr_sI σ 3 2 (σ.1 3 2 + 1) = σ1 ∧ prf_X_name τ = some (nI d, τ1) ∧ pl_gd T (a + 1) q (d + 1) σ1 τ1 ∧ (∀ x, pl_fc x σ σ1) ∧ pl_fx d τ τ1 ∧ σ1.2 = σ.2 ∧ pl_dt τ1 (pl_xP T) d (d + 1) d 13 a (nI a) [] := by
  obtain ⟨τ1, e1, g1, f1, t1⟩ := pl_draftG g hd 13 a (nI a)
  obtain ⟨σ2, τ2, c1, c2, x2, g2, fc2, fx2, s2, r2⟩ := pl_takeA g1 hk (by decide)
  refine ⟨σ2, τ2, c1, c2, ?_, g2, fc2, f1.tr (fx2 _) (Nat.le_refl _), s2, t1.fx (fx2 (d + 1)) (Nat.le_refl _)⟩
  unfold prf_X_name
  have e1' : prf_X_draft τ 13 (nI (pl_xP T a)) (nI a) = some (nI d, τ1) := e1
  have x2' : prf_X_take τ1 2 = some τ2 := x2
  rw [(pl_placeG g).1, (pl_placeG (α := Nat) (k := none) g).2, g.2.1.2, e1', pl_sb, x2', pl_sb]
theorem pl_numG {T : pl_Tx} {a q d : Nat} {σ τ : pr_St} (g : pl_gd T a q d σ τ) (hk : pl_xK T a = 3) (hd : d < 26000) (x2 x3 : Int32) (t : Nat) (hx2 : x2 = nI (pl_xP T t)) : ∃ σ1 τ1, prf_R_take σ 3 = some (1, σ1) ∧ pr_sI σ 3 2 (σ.1 3 2 + 1) = σ1 ∧ prf_X_number_33 τ x2 x3 = some (nI d, τ1) ∧ pl_gd T (a + 1) q (d + 1) σ1 τ1 ∧ (∀ x, pl_fc x σ σ1) ∧ pl_fx d τ τ1 ∧ σ1.2 = σ.2 ∧ pl_dt τ1 (pl_xP T) d (d + 1) d 12 t (x3 * nI (pl_vt T a)) [] := by
  obtain ⟨σ1, τ1, c1, c2, x1, g1, fc1, fx1, s1, r1⟩ := pl_takeA g hk (by decide)
  obtain ⟨τ2, e2, g2, f2, t2⟩ := pl_draftG g1 hd 12 t (x3 * nI (pl_vt T a))
  refine ⟨σ1, τ2, c1, c2, ?_, g2, fc1, (fx1 d).tr f2 (Nat.le_refl _), s1, t2⟩
  have h8 := pl_gd8 g
  have hF : pr_FU = 100000 := rfl
  have hL : pl_xL T a ≤ 8000 := by
    obtain ⟨n1, n2, nX, nT, nW, _⟩ := id g.1
    have hm := pl_more g.1 g.2.2.1 (by omega)
    have hPL := (nW.2.2.1 a hm).2.2
    have hPn := pl_Pn nW (pl_xc T - (a + 2)) (a + 1) (by omega)
    omega
  have e47 : prf_X_number_47 pr_FU τ x2 x3 0 0 = _ := pl_num47 g hk x2 x3 (pl_xL T a) 0 pr_FU (by omega) (by rw [hF]; omega)
  have x1' : prf_X_take τ 3 = some τ1 := x1
  have e2' : prf_X_draft τ1 12 x2 (x3 * nI (pl_vt T a)) = some (nI d, τ2) := by rw [hx2]; exact e2
  unfold prf_X_number_33
  rw [pl_lookG g, pl_sb, hk, if_pos (show nI (pl_km 3) = 3 from rfl), e47, x1', pl_sb, e2', pl_sb]
theorem pl_numW {T : pl_Tx} {a d0 m : Nat} {σ τ : pr_St} (b : pl_bd T a d0 m σ τ) (hm : m ≤ 100) (x : Int32) : ∃ y τ1, prf_X_number τ x = some (nI y, τ1) ∧ d0 ≤ y ∧ y < 26000 ∧ pl_bd T a (y + 1) (m + 1) σ τ1 ∧ pl_fx d0 τ τ1 := by
  have h33 : ∀ x2 x3 : Int32, ∃ y τ1, prf_X_number_33 τ x2 x3 = some (nI y, τ1) ∧ d0 ≤ y ∧ y < 26000 ∧ pl_bd T a (y + 1) (m + 1) σ τ1 ∧ pl_fx d0 τ τ1 := by
    intro x2 x3
    obtain ⟨y, τ1, e1, e2, e3, e4, e5, e6⟩ := pl_draftW b hm 12 x2 (x3 * 0)
    refine ⟨y, τ1, ?_, e2, e3, e4, e5⟩
    unfold prf_X_number_33
    rw [pl_lookW b, pl_sb, if_neg (show ¬ (1 : Int32) = 3 by decide), pl_takeW b, pl_sb, e1, pl_sb]
  unfold prf_X_number
  rw [(pl_placeW b).1]
  by_cases hx : x = 0
  · rw [if_pos hx]; exact h33 _ _
  · rw [if_neg hx, pl_lookW b, pl_sb, if_neg (show ¬ (1 : Int32) = 45 by decide)]; exact h33 _ _
theorem pl_neg1 (x : Int32) : (-1) * x = -x := by rw [Int32.neg_mul, Int32.one_mul]
/-- a LIMIT -/
theorem pl_limG {T : pl_Tx} {a q d : Nat} {σ τ : pr_St} (g : pl_gd T a q d σ τ) (hd : d ≤ 2 * a + 50) : ∃ a' σ' τ', a ≤ a' ∧ (∀ x, pl_fc x σ σ') ∧ pl_fx d τ τ' ∧ ((prf_R_readLimit σ = some (1, σ') ∧ prf_X_number τ 1 = some (nI d, τ') ∧ pl_gd T a' q (d + 1) σ' τ' ∧ pl_dt τ' (pl_xP T) d (d + 1) d 12 a (pl_lim T a) [] ∧ σ'.2 = σ.2 ∧ ((pl_xK T a = 22 ∧ pl_xK T (a + 1) = 3 ∧ a' = a + 2) ∨ (pl_xK T a = 3 ∧ a' = a + 1))) ∨ (prf_R_readLimit σ = some (0, σ') ∧ ∃ y, d ≤ y ∧ y < 26000 ∧ prf_X_number τ 1 = some (nI y, τ') ∧ ∀ m, m ≤ 50 → d ≤ 2 * a + m → pl_bd T a' (y + 1) (m + 1) σ' τ')) := by
  have h8 := pl_gd8 g
  -- behind the sign, or without one
  have main : ∀ (b : Nat) (σ0 τ0 : pr_St) (x3 : Int32), pl_gd T b q d σ0 τ0 → d ≤ 2 * b + 50 → ∃ b' σ' τ', b ≤ b' ∧ (∀ x, pl_fc x σ0 σ') ∧ pl_fx d τ0 τ' ∧ ((prf_R_take σ0 3 = some (1, σ') ∧ prf_X_number_33 τ0 (nI (pl_xP T a)) x3 = some (nI d, τ') ∧ pl_gd T b' q (d + 1) σ' τ' ∧ pl_dt τ' (pl_xP T) d (d + 1) d 12 a (x3 * nI (pl_vt T b)) [] ∧ σ'.2 = σ0.2 ∧ pl_xK T b = 3 ∧ b' = b + 1) ∨ (prf_R_take σ0 3 = some (0, σ') ∧ b' = b ∧ ∃ y, d ≤ y ∧ y < 26000 ∧ prf_X_number_33 τ0 (nI (pl_xP T a)) x3 = some (nI y, τ') ∧ ∀ m, m ≤ 50 → d ≤ 2 * b + m → pl_bd T b' (y + 1) (m + 1) σ' τ')) := by
    intro b σ0 τ0 x3 g0 hd0
    have h80 := pl_gd8 g0
    by_cases k3 : pl_xK T b = 3
    · obtain ⟨σ1, τ1, c1, _, x1, g1, fc1, fx1, s1, t1⟩ := pl_numG g0 k3 (by omega) (nI (pl_xP T a)) x3 a rfl
      exact ⟨b + 1, σ1, τ1, by omega, fc1, fx1, Or.inl ⟨c1, x1, g1, t1, s1, k3, rfl⟩⟩
    · obtain ⟨c1, τ1, x1, b1, fx1⟩ := pl_takeZ g0 (k := 3) (by decide) k3
      obtain ⟨y, τ2, e1, e2, e3, e4, e5, e6⟩ := pl_draftW (b1 d 50 (Nat.le_refl _) hd0) (by decide) 12 (nI (pl_xP T a)) (x3 * 0)
      refine ⟨b, σ0, τ2, Nat.le_refl _, fun x => pl_fc.rf, (fx1 d).tr e5 (Nat.le_refl _), Or.inr ⟨c1, rfl, y, e2, e3, ?_, fun m hm hdm => ?_⟩⟩
      · have x1' : prf_X_take τ0 3 = some τ1 := x1
        unfold prf_X_number_33
        rw [pl_lookG g0, pl_sb, if_neg (pl_kn (pl_gdK g0) (j := 3) (v := 3) (by decide) rfl k3), x1', pl_sb, e1, pl_sb]
      · obtain ⟨y', τ2', e1', e2', e3', e4', _⟩ := pl_draftW (b1 d m (Nat.le_refl _) hdm) (by omega) 12 (nI (pl_xP T a)) (x3 * 0)
        rw [e1] at e1'
        have e := Option.some.inj e1'
        have ey : nI y = nI y' := congrArg Prod.fst e
        have eτ : τ2 = τ2' := congrArg Prod.snd e
        have ey2 : y = y' := (nI_eq (by omega) (by omega)).mp ey
        rw [ey2, eτ]
        exact e4'
  by_cases k22 : pl_xK T a = 22
  · obtain ⟨σ1, τ1, c1, c2, x1, g1, fc1, fx1, s1, r1⟩ := pl_takeA g k22 (by decide)
    obtain ⟨b', σ', τ', hb, fc, fx, hr⟩ := main (a + 1) σ1 τ1 (-1) g1 (by omega)
    have eC : prf_R_readLimit σ = (prf_R_take σ1 3).bind fun r11 => pr_z r11.1 <| some (r11.1, r11.2) := by
      unfold prf_R_readLimit
      rw [pl_nowG g, pl_sb, k22, if_pos (show nI 22 = 22 from rfl), c2]
    have eX : prf_X_number τ 1 = prf_X_number_33 τ1 (nI (pl_xP T a)) (-1) := by
      have x1' : prf_X_take τ 45 = some τ1 := x1
      unfold prf_X_number
      rw [(pl_placeG g).1, if_neg (show ¬ (1 : Int32) = 0 by decide), pl_lookG g, pl_sb, k22, if_pos (show nI (pl_km 22) = 45 from rfl), x1', pl_sb, (pl_placeG (α := Nat) (k := none) g).2]
    refine ⟨b', σ', τ', by omega, fun x => (fc1 x).tr (fc x) (Nat.le_refl _), (fx1 d).tr fx (Nat.le_refl _), ?_⟩
    rcases hr with ⟨r1, r2, r3, r4, r5, r6, r7⟩ | ⟨r1, r0, y, r2, r3, r4, r5⟩
    · refine Or.inl ⟨?_, by rw [eX]; exact r2, r3, ?_, by rw [r5, s1], Or.inl ⟨k22, r6, by omega⟩⟩
      · rw [eC, r1, pl_sb]; rfl
      · have el : pl_lim T a = (-1) * nI (pl_vt T (a + 1)) := by
          unfold pl_lim
          rw [if_pos k22, pl_neg1]
        rw [el]; exact r4
    · refine Or.inr ⟨?_, y, r2, r3, by rw [eX]; exact r4, fun m hm hdm => r5 m hm (by omega)⟩
      rw [eC, r1, pl_sb]; rfl
  · obtain ⟨b', σ', τ', hb, fc, fx, hr⟩ := main a σ τ 1 g hd
    have eC : prf_R_readLimit σ = (prf_R_take σ 3).bind fun r9 => pr_z r9.1 <| some (r9.1, r9.2) := by
      unfold prf_R_readLimit
      rw [pl_nowG g, pl_sb, if_neg (pl_cn (pl_gdK g) (j := 22) (v := 22) (by decide) rfl k22)]
    have eX : prf_X_number τ 1 = prf_X_number_33 τ (nI (pl_xP T a)) 1 := by
      unfold prf_X_number
      rw [(pl_placeG g).1, if_neg (show ¬ (1 : Int32) = 0 by decide), pl_lookG g, pl_sb, if_neg (pl_kn (pl_gdK g) (j := 22) (v := 45) (by decide) rfl k22), (pl_placeG (α := Nat) (k := none) g).2]
    refine ⟨b', σ', τ', hb, fc, fx, ?_⟩
    rcases hr with ⟨r1, r2, r3, r4, r5, r6, r7⟩ | ⟨r1, r0, y, r2, r3, r4, r5⟩
    · refine Or.inl ⟨?_, by rw [eX]; exact r2, r3, ?_, r5, Or.inr ⟨r6, r7⟩⟩
      · rw [eC, r1, pl_sb]; rfl
      · have el : pl_lim T a = 1 * nI (pl_vt T a) := by
          unfold pl_lim
          rw [if_neg k22, Int32.one_mul]
        rw [el]; exact r4
    · refine Or.inr ⟨?_, y, r2, r3, by rw [eX]; exact r4, fun m hm hdm => r5 m hm hdm⟩
      rw [eC, r1, pl_sb]; rfl
theorem pl_cm_leaf {K : Nat → Nat} {a : Nat} {e : pl_N} (hp : pl_pn (K a)) (h3 : ¬ e.1 = 13) (h4 : ¬ e.1 = 14) (h6 : ¬ e.1 = 16) : pl_cm K a (a + 1) [e] := by
  refine ⟨by omega, ?_, ?_, pl_tok2_1 hp.2.2.1 hp.2.2.2⟩
  · show (e.1 == 14) = false
    simpa using h4
  · show (if e.1 = 13 then _ else if e.1 = 16 ∧ _ then _ else []) ++ [] = _
    rw [if_neg h3, if_neg (fun q => h6 q.1), pl_cu_1, pl_ct1_pn hp]
    rfl
theorem pl_cm_name {K : Nat → Nat} {a s : Nat} {v : Int32} (hk : K a = 2) (h16 : ¬ K (a + 1) = 16) : pl_cm K a (a + 1) [(13, a, v, s)] := by
  refine ⟨by omega, rfl, ?_, pl_tok2_1 (by omega) (by omega)⟩
  rw [pl_cu_1, pl_ct1, if_pos hk, show (K (a + 1) == 16) = false by simpa using h16]
  rfl
theorem pl_cm_arr {K : Nat → Nat} {a b t s s' : Nat} {v v' : Int32} {G : List pl_N} (hk : K a = 2) (h16 : K (a + 1) = 16) (h : pl_cm K (a + 2) b G) (h17 : K b = 17) : pl_cm K a (b + 1) ((14, t, v, s) :: (13, a, v', s') :: G) := by
  obtain ⟨c1, c2, c3, c4⟩ := h
  have p16 : pl_pn (K (a + 1)) := by rw [h16]; exact ⟨by decide, by decide, by decide, by decide⟩
  have p17 : pl_pn (K b) := by rw [h17]; exact ⟨by decide, by decide, by decide, by decide⟩
  refine ⟨by omega, ?_, ?_, ?_⟩
  · show pl_l14 false G = false
    exact pl_l14_any c2 _
  · show [] ++ ([(a, true)] ++ pl_cl false G) = _
    rw [pl_cu_app (b := a + 1) (by omega) (by omega), pl_cu_app (a := a + 1) (b := a + 1 + 1) (by omega) (by omega), pl_cu_app (a := a + 1 + 1) (b := b) (by omega) (by omega), pl_cu_1, pl_cu_1, pl_cu_1, pl_ct1_pn p16, pl_ct1_pn p17, pl_ct1, if_pos hk, h16, c3]
    simp
  · refine pl_tok2_app (b := a + 1) (pl_tok2_1 (by omega) (by omega)) (pl_tok2_app (b := a + 2) (pl_tok2_1 p16.2.2.1 p16.2.2.2) (pl_tok2_app c4 (pl_tok2_1 p17.2.2.1 p17.2.2.2) (fun t _ _ => by omega) (by omega)) (fun t ht hk2 => ?_) (by omega)) (fun t _ _ => by omega) (by omega)
    have : t = a + 1 := by omega
    subst this
    omega
theorem pl_cu_pn {K : Nat → Nat} : ∀ m a : Nat, (∀ t, a ≤ t → t < a + m → pl_pn (K t)) → pl_cu K a (a + m) = [] := by
  intro m
  induction m with
  | zero => intro a _; exact pl_cu_0
  | succ m ih =>
    intro a h
    rw [pl_cu_app (b := a + 1) (by omega) (by omega), pl_cu_1, pl_ct1_pn (h a (by omega) (by omega)), List.nil_append, show a + (m + 1) = a + 1 + m by omega]
    exact ih (a + 1) (fun t h1 h2 => h t (by omega) (by omega))
theorem pl_cm_lim {K : Nat → Nat} {a b t1 t2 : Nat} {v1 v2 : Int32} (hk : K a = 11) (h12 : K (a + 1) = 12) (hb : a + 1 < b) (hsec : pl_sK K (a + 2) + 1 < b) (h : ∀ t, a < t → t < b → pl_pn (K t)) : pl_cm K a b [(16, a, 0, 3), (12, t1, v1, 1), (12, t2, v2, 1)] := by
  refine ⟨by omega, rfl, ?_, fun t ha hb2 => ?_⟩
  · show [(a, false)] ++ ([] ++ ([] ++ [])) = _
    rw [pl_cu_app (b := a + 1) (by omega) (by omega), pl_cu_1, pl_ct1, if_neg (by omega), if_pos ⟨hk, h12⟩]
    have e : pl_cu K (a + 1) b = [] := by
      rw [show b = a + 1 + (b - (a + 1)) by omega]
      exact pl_cu_pn _ _ (fun t h1 h2 => h t (by omega) (by omega))
    rw [e]
    rfl
  · by_cases q : t = a
    · subst q
      exact ⟨by omega, by omega, fun _ q2 => by omega, fun _ _ _ => hsec⟩
    · obtain ⟨p1, p2, p3, p4⟩ := h t (by omega) hb2
      exact ⟨p3, p4, fun _ q2 => absurd q2 p1, fun _ q2 => absurd q2 p2⟩
/-- a NUMBER -/
theorem pl_facNum {T : pl_Tx} {a q d : Nat} {σ τ : pr_St} (g : pl_gd T a q d σ τ) (hq : q ≤ a) (hd : d ≤ 2 * a) (hk : pl_xK T a = 3) (rc rcX : pr_St → Int32 → Option (Int32 × pr_St)) (D : Int32) (f : Nat) : pl_ph T (fun _ F O => pl_sm T (f + 1) F O) a q d σ τ (prf_R_readFactor rc σ D) (prf_X_factor rcX τ D) := by
  have h8 := pl_gd8 g
  obtain ⟨σ1, e1, g1, fc1, o1, at1⟩ := pl_addG g (by omega) (o := 3) (by decide) (nI a)
  obtain ⟨σ2, τ2, c2, _, x2, g2, fc2, fx2, s2, t2⟩ := pl_numG g1 hk (by omega) (nI (pl_xP T a)) 1 a rfl
  have eC : prf_R_readFactor rc σ D = some (1, σ2) := by
    have e1' : prf_G_addOperation σ 3 (σ.1 3 2) = some σ1 := by rw [g.2.1.1]; exact e1
    unfold prf_R_readFactor
    rw [pl_nowG g, pl_sb, hk, if_neg (show ¬ nI 3 = 2 by decide), if_pos (show nI 3 = 3 from rfl), e1', pl_sb, c2, pl_sb]
    rfl
  have eX : prf_X_factor rcX τ D = some (nI d, τ2) := by
    unfold prf_X_factor prf_X_number
    rw [pl_lookG g, pl_sb, hk, if_pos (show nI (pl_km 3) = 3 from rfl), (pl_placeG g).1, if_pos rfl, (pl_placeG (α := Nat) (k := none) g).2, x2, pl_sb]
  rw [Int32.one_mul] at t2
  refine ⟨a + 1, σ2, τ2, by omega, fc1.tr (fc2 q) (Nat.le_refl _), fx2, Or.inl ⟨d, d + 1, [(12, a, nI (pl_vt T a), 1)], [(3, nI a)], eC, eX, g2, ?_, by omega, t2.tr, pl_ops_eq (fc2 (q + 1)).2 _ q (Nat.le_refl _) o1, ?_, Or.inl ⟨a, hk, rfl, rfl⟩⟩⟩
  · show 1 + a ≤ a + 1
    omega
  · exact pl_cm_leaf (by rw [hk]; exact ⟨by decide, by decide, by decide, by decide⟩) (by simp) (by simp) (by simp)
/-- a NAME, or a place of an array -/
theorem pl_facName {T : pl_Tx} {a q d : Nat} {σ τ : pr_St} (g : pl_gd T a q d σ τ) (hq : q ≤ a) (hd : d ≤ 2 * a) (hk : pl_xK T a = 2) (rc rcX : pr_St → Int32 → Option (Int32 × pr_St)) (D f : Nat) (Hs : pl_sp T (fun _ F O => pl_sm T f F O) (fun σ => prf_R_readSum rc σ (nI (D + 1))) (fun τ => prf_X_sum rcX τ (nI (D + 1)))) : pl_ph T (fun _ F O => pl_sm T (f + 1) F O) a q d σ τ (prf_R_readFactor rc σ (nI D)) (prf_X_factor rcX τ (nI D)) := by
  have h8 := pl_gd8 g
  obtain ⟨σ1, τ1, c1, c1', x1, g1, fc1, fx1, s1, t1⟩ := pl_nameG g hk (by omega)
  have h81 := pl_gd8 g1
  by_cases k16 : pl_xK T (a + 1) = 16
  · obtain ⟨τ2, e2, g2, fx2, t2⟩ := pl_draftG g1 (by omega) 14 a 0
    have t1' := (t1.fx fx2 (Nat.le_refl _)).tr
    obtain ⟨τ3, e3, g3, fx3, t3⟩ := pl_joinG (l := d) (h := d + 2) g2 t2 t1' (by omega) (Or.inr (Nat.le_refl _)) (by omega) (by omega) (by omega) (by omega)
    obtain ⟨σ4, τ4, c4, c4', x4, g4, fc4, fx4, s4, r4⟩ := pl_takeA g3 k16 (by decide)
    obtain ⟨σ5, e5, g5, fc5, o5, at5⟩ := pl_addG g4 (by omega) (o := 36) (by decide) (nI a)
    have t4 := t3.fx (fx4 (d + 2)) (Nat.le_refl _)
    have eC0 : prf_R_readFactor rc σ (nI D) = (prf_R_readSum rc σ5 (nI (D + 1))).bind fun r43 => if r43.1 = 0 then some (0, r43.2) else (prf_R_take r43.2 17).bind fun r45 => if r45.1 = 0 then some (0, r45.2) else (prf_G_addOperation r45.2 38 (-1)).bind fun r47 => some (1, r47) := by
      have c4' : prf_R_take σ1 16 = some (1, σ4) := c4
      have e5' : prf_G_addOperation σ4 36 (σ.1 3 2) = some σ5 := by rw [g.2.1.1]; exact e5
      unfold prf_R_readFactor
      rw [pl_nowG g, pl_sb, hk, if_pos (show nI 2 = 2 from rfl), c1', c4', pl_sb, if_neg (show ¬ ((1 : Int32), σ4).1 = 0 from pl_10), e5', pl_sb, nI_1]
    have eX0 : prf_X_factor rcX τ (nI D) = (prf_X_sum rcX τ4 (nI (D + 1))).bind fun r83 => (prf_X_join r83.2 (nI (d + 1)) r83.1).bind fun r84 => (prf_X_take r84 93).bind fun r85 => some (nI (d + 1), r85) := by
      have e2' : prf_X_draft τ1 14 (nI (pl_xP T a)) 0 = some (nI (d + 1), τ2) := e2
      have x4' : prf_X_take τ3 91 = some τ4 := x4
      unfold prf_X_factor
      rw [pl_lookG g, pl_sb, hk, if_neg (show ¬ nI (pl_km 2) = 3 by decide), if_pos (show nI (pl_km 2) = 2 from rfl), (pl_placeG g).1, x1, pl_sb, pl_lookG g1, pl_sb, k16, if_pos (show nI (pl_km 16) = 91 from rfl), (pl_placeG (α := Nat) (k := none) g).2, e2', pl_sb, e3, pl_sb, x4', pl_sb, if_pos g4.2.2.2.1, nI_1]
    obtain ⟨a', σ', τ', hle, fc', fx', hr⟩ := Hs (a + 2) (q + 1) (d + 2) σ5 τ4 g5 (by omega) (by omega)
    have fcA : pl_fc q σ σ' := (((fc1 q).tr (fc4 q) (Nat.le_refl _)).tr fc5 (Nat.le_refl _)).tr fc' (by omega)
    have fxA : pl_fx d τ τ' := (((fx1.tr fx2 (by omega)).tr fx3 (by omega)).tr (fx4 d) (Nat.le_refl _)).tr fx' (by omega)
    have t6 := t4.fx fx' (Nat.le_refl _)
    rcases hr with ⟨y, d', G, Q, hC, hX, g6, hO, hD, tr6, ops6, cm6, sm6⟩ | ⟨hC, v, hX, b6, vi6⟩
    · have h86 := pl_gd8 g6
      have iv6 := tr6.iv
      have hC' : prf_R_readSum rc σ5 (nI (D + 1)) = some (1, σ') := hC
      have hX' : prf_X_sum rcX τ4 (nI (D + 1)) = some (nI y, τ') := hX
      obtain ⟨τ7, e7, g7, fx7, t7⟩ := pl_joinG (l := d) (h := d') g6 t6 tr6 (by omega) (Or.inl (Nat.le_refl _)) (by omega) (by omega) (by omega) (by omega)
      by_cases k17 : pl_xK T a' = 17
      · obtain ⟨σ8, τ8, c8, c8', x8, g8, fc8, fx8, s8, r8⟩ := pl_takeA g7 k17 (by decide)
        obtain ⟨σ9, e9, g9, fc9, o9, at9⟩ := pl_addG g8 (by omega) (o := 38) (by decide) (-1)
        have eC : prf_R_readFactor rc σ (nI D) = some (1, σ9) := by
          have c8' : prf_R_take σ' 17 = some (1, σ8) := c8
          have e9' : prf_G_addOperation σ8 38 (-1) = some σ9 := e9
          rw [eC0, hC', pl_sb, if_neg (show ¬ ((1 : Int32), σ').1 = 0 from pl_10), c8', pl_sb, if_neg (show ¬ ((1 : Int32), σ8).1 = 0 from pl_10), e9', pl_sb]
        have eX : prf_X_factor rcX τ (nI D) = some (nI (d + 1), τ8) := by
          have x8' : prf_X_take τ7 93 = some τ8 := x8
          rw [eX0, hX', pl_sb, e7, pl_sb, x8', pl_sb]
        have t8 := (t7.fx (fx8 d') (Nat.le_refl _)).tr
        have eF : ((14, a, (0 : Int32), 1 + (pl_cat ([] ++ [(d, [(13, a, nI a, 1 + (pl_cat []).length)] ++ pl_cat [])] ++ [(y, G)])).length) :: pl_cat ([] ++ [(d, [(13, a, nI a, 1 + (pl_cat []).length)] ++ pl_cat [])] ++ [(y, G)]) : List pl_N) = (14, a, 0, 2 + G.length) :: (13, a, nI a, 1) :: G := by
          simp [pl_cat] <;> omega
        have t9 : pl_tr τ8 (pl_xP T) d d' (d + 1) ((14, a, 0, 2 + G.length) :: (13, a, nI a, 1) :: G) := by rw [← eF]; exact t8
        have eL : q + ((36, nI a) :: (Q ++ [((38 : Nat), (-1 : Int32))])).length = q + 1 + Q.length + 1 := by simp <;> omega
        refine ⟨a' + 1, σ9, τ8, by omega, (fcA.tr (fc8 q) (Nat.le_refl _)).tr fc9 (by omega), (fxA.tr fx7 (Nat.le_refl _)).tr (fx8 d) (Nat.le_refl _), Or.inl ⟨d + 1, d', _, (36, nI a) :: (Q ++ [(38, -1)]), eC, eX, by rw [eL]; exact g9, by simp <;> omega, by omega, t9, ?_, pl_cm_arr hk k16 cm6 k17, Or.inr (Or.inr (Or.inl ⟨a, G, Q, hk, rfl, rfl, sm6⟩))⟩⟩
        have o5' : pl_ops σ9 q [(36, nI a)] := pl_ops_eq ((fc'.tr (fc8 (q + 1)) (Nat.le_refl _)).tr fc9 (by omega)).2 _ q (Nat.le_refl _) o5
        have o6' : pl_ops σ9 (q + 1) Q := pl_ops_eq ((fc8 (q + 1 + Q.length)).tr fc9 (Nat.le_refl _)).2 _ _ (Nat.le_refl _) ops6
        exact pl_ops_app [(36, nI a)] _ q o5' (pl_ops_app Q _ (q + 1) o6' o9)
      · obtain ⟨c8, τ8, x8, b8, fx8⟩ := pl_takeZ g7 (k := 17) (by decide) k17
        have eC : prf_R_readFactor rc σ (nI D) = some (0, σ') := by
          have c8' : prf_R_take σ' 17 = some (0, σ') := c8
          rw [eC0, hC', pl_sb, if_neg (show ¬ ((1 : Int32), σ').1 = 0 from pl_10), c8', pl_sb, if_pos rfl]
        have eX : prf_X_factor rcX τ (nI D) = some (nI (d + 1), τ8) := by
          have x8' : prf_X_take τ7 93 = some τ8 := x8
          rw [eX0, hX', pl_sb, e7, pl_sb, x8', pl_sb]
        exact ⟨a', σ', τ8, by omega, fcA, (fxA.tr fx7 (Nat.le_refl _)).tr (fx8 d) (Nat.le_refl _), Or.inr ⟨eC, nI (d + 1), eX, b8 d 3 (by omega) (by omega), pl_vi1 (by omega) (by omega)⟩⟩
    · have hC' : prf_R_readSum rc σ5 (nI (D + 1)) = some (0, σ') := hC
      have hX' : prf_X_sum rcX τ4 (nI (D + 1)) = some (v, τ') := hX
      obtain ⟨τ7, e7, b7, fx7, j7⟩ := pl_joinW (d0 := d) b6 (t6.jb (Nat.le_refl _) (by omega)) (vi6.le (by omega))
      have eC : prf_R_readFactor rc σ (nI D) = some (0, σ') := by
        rw [eC0, hC', pl_sb, if_pos rfl]
      have eX : prf_X_factor rcX τ (nI D) = some (nI (d + 1), τ7) := by
        rw [eX0, hX', pl_sb, e7, pl_sb, pl_takeW b7, pl_sb]
      exact ⟨a', σ', τ7, by omega, fcA, fxA.tr fx7 (Nat.le_refl _), Or.inr ⟨eC, nI (d + 1), eX, b7.le (by omega) (Nat.le_refl _), pl_vi1 (by omega) (by omega)⟩⟩
  · obtain ⟨σ2, e2, g2, fc2, o2, at2⟩ := pl_addG g1 (by omega) (o := 2) (by decide) (nI a)
    have eC : prf_R_readFactor rc σ (nI D) = some (1, σ2) := by
      have c2 : prf_R_take σ1 16 = some (0, σ1) := (pl_takeZ g1 (k := 16) (by decide) k16).1
      have e2' : prf_G_addOperation σ1 2 (σ.1 3 2) = some σ2 := by rw [g.2.1.1]; exact e2
      unfold prf_R_readFactor
      rw [pl_nowG g, pl_sb, hk, if_pos (show nI 2 = 2 from rfl), c1', c2, pl_sb, if_pos rfl, e2', pl_sb]
    have eX : prf_X_factor rcX τ (nI D) = some (nI d, τ1) := by
      unfold prf_X_factor
      rw [pl_lookG g, pl_sb, hk, if_neg (show ¬ nI (pl_km 2) = 3 by decide), if_pos (show nI (pl_km 2) = 2 from rfl), (pl_placeG g).1, x1, pl_sb, pl_lookG g1, pl_sb, if_neg (pl_kn (pl_gdK g1) (j := 16) (v := 91) (by decide) rfl k16)]
    exact ⟨a + 1, σ2, τ1, by omega, (fc1 q).tr fc2 (Nat.le_refl _), fx1, Or.inl ⟨d, d + 1, [(13, a, nI a, 1)], [(2, nI a)], eC, eX, g2, by show 1 + a ≤ a + 1; omega, by omega, t1.tr, o2, pl_cm_name hk k16, Or.inr (Or.inl ⟨a, hk, rfl, rfl⟩)⟩⟩
