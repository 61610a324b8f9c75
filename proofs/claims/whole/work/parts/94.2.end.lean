/-! END -/
def pm_Rl (σ τ : pr_St) : Prop := pl_RB σ τ ∧ pl_by8 σ ∧ pl_RI σ τ ∧ pl_RT σ τ ∧ pm_cl σ τ ∧ (σ.1 7 9 = τ.1 0 56 ∧ σ.1 7 10 = τ.1 0 57) ∧ τ.2.1 19 0 = 0 ∧ (pm_PE σ τ ∨ pm_PG σ τ)
/-- what reading and laying leave as it is -/
def pm_kc (σ σ' : pr_St) : Prop := σ'.2.1 8 = σ.2.1 8 ∧ (∀ a, 47 ≤ a → σ'.2.1 a = σ.2.1 a) ∧ (∀ k, σ'.1 7 k = σ.1 7 k) ∧ ∀ k, σ'.1 0 k = σ.1 0 k
def pm_kx (τ τ' : pr_St) : Prop := (∀ a, 33 ≤ a → τ'.2.1 a = τ.2.1 a) ∧ τ'.1 0 51 = τ.1 0 51
theorem pm_kc.tr {a b c : pr_St} (h1 : pm_kc a b) (h2 : pm_kc b c) : pm_kc a c := ⟨h2.1.trans h1.1, fun x h => (h2.2.1 x h).trans (h1.2.1 x h), fun k => (h2.2.2.1 k).trans (h1.2.2.1 k), fun k => (h2.2.2.2 k).trans (h1.2.2.2 k)⟩
theorem pm_kx.tr {a b c : pr_St} (h1 : pm_kx a b) (h2 : pm_kx b c) : pm_kx a c := ⟨fun x h => (h2.1 x h).trans (h1.1 x h), h2.2.trans h1.2⟩
theorem pm_gt {G : Nat → Bool} {n : Nat} (h : ∀ a, G a = true → a < n) {a : Nat} (ha : n ≤ a) : G a = false := by
  cases q : G a with
  | false => rfl
  | true => exact absurd (h a q) (by omega)
theorem pm_kc_fr {F : Nat → Nat → Bool} {G : Nat → Bool} {σ σ' : pr_St} (h : pl_fr F G σ σ') (h8 : G 8 = false) (hG : ∀ a, G a = true → a < 47) (hF : ∀ k, F 7 k = false ∧ F 0 k = false) : pm_kc σ σ' := ⟨h.2.1 8 h8, fun a ha => h.2.1 a (pm_gt hG ha), fun k => h.1 7 k (hF k).1, fun k => h.1 0 k (hF k).2⟩
theorem pm_kx_fr {F : Nat → Nat → Bool} {G : Nat → Bool} {τ τ' : pr_St} (h : pl_fr F G τ τ') (hG : ∀ a, G a = true → a < 33) (hF : F 0 51 = false) : pm_kx τ τ' := ⟨fun a ha => h.2.1 a (pm_gt hG ha), h.1 0 51 hF⟩
theorem pm_GTlt : ∀ a, pl_GT a = true → a < 12 := by intro a h; simp [pl_GT] at h; omega
theorem pm_GVlt : ∀ a, pl_GV a = true → a < 24 ∧ 12 ≤ a := by intro a h; simp [pl_GV] at h; omega
theorem pm_GLlt : ∀ a, pl_GL a = true → a < 47 := by intro a h; simp [pl_GL] at h; omega
theorem pm_GXlt : ∀ a, pl_GX a = true → a < 6 := by intro a h; simp [pl_GX] at h; omega
theorem pm_GWlt : ∀ a, pl_GW a = true → a < 20 := by intro a h; simp [pl_GW] at h; omega
theorem pm_GMlt : ∀ a, pl_GM a = true → a < 33 ∧ 20 ≤ a := by intro a h; simp [pl_GM] at h; omega
/-- there is only the end, in the class -/
theorem pm_only (σ : pr_St) : ∃ σ', prf_O_leaveOnlyTheEnd σ = some σ' ∧ pm_kc σ σ' ∧ σ'.1 4 14 = nI 1 ∧ σ'.2.1 25 0 = 0 ∧ σ'.2.1 26 0 = 0 ∧ σ'.2.1 28 0 = 0 ∧ σ'.2.1 29 0 = 0 ∧ σ'.2.1 38 0 = 0 ∧ σ'.1 1 1 = σ.1 1 1 := by
  obtain ⟨σ', e1, e2, e3, e4, e5, e6, e7, e8, e9, e10, e11⟩ := pl_endP (P := 0) (σ := pr_sI σ 4 14 0) pr_sI_same (by omega)
  refine ⟨σ', ?_, ⟨e4 8 (by omega), fun a ha => e4 a (by omega), fun k => by rw [e3 7 k (by omega), pr_sI_ne (by omega)], fun k => by rw [e3 0 k (by omega), pr_sI_ne (by omega)]⟩, e2, e7, e8, e9, e10, e11, by rw [e3 1 1 (by omega), pr_sI_ne (by omega)]⟩
  unfold prf_O_leaveOnlyTheEnd prf_O_clear
  rw [pl_sb, e1, pl_sb]
/-- and in the reference -/
theorem pm_noth (τ : pr_St) : ∃ τ', prf_X_nothing τ = some τ' ∧ (∀ o k, ¬ (o = 0 ∧ (k = 33 ∨ k = 55 ∨ k = 56 ∨ k = 57)) → τ'.1 o k = τ.1 o k) ∧ (∀ a, ¬ (20 ≤ a ∧ a ≤ 24) → τ'.2.1 a = τ.2.1 a) ∧ τ'.1 0 33 = nI 1 ∧ τ'.1 0 55 = 0 ∧ τ'.1 0 56 = 0 ∧ τ'.1 0 57 = 0 ∧ τ'.2.1 20 0 = -1 ∧ τ'.2.1 23 0 = 0 ∧ τ'.2.1 24 0 = 0 ∧ τ'.2.2 = τ.2.2 := by
  refine ⟨_, rfl, fun o k hk => ?_, fun a ha => ?_, ?_, ?_, ?_, ?_, ?_, ?_, ?_, rfl⟩
  · rw [pr_sI_ne (by omega), pr_sI_ne (by omega), pr_sI_ne (by omega)]
    show (pr_sI τ 0 33 1).1 o k = _
    rw [pr_sI_ne (by omega)]
  · show (pr_sA (pr_sA (pr_sA (pr_sA (pr_sA (pr_sI τ 0 33 1) 20 _) 21 _) 22 _) 23 _) 24 _).2.1 a = _
    rw [pl_sA_ne (by omega), pl_sA_ne (by omega), pl_sA_ne (by omega), pl_sA_ne (by omega), pl_sA_ne (by omega)]
    rfl
  · rw [pr_sI_ne (by omega), pr_sI_ne (by omega), pr_sI_ne (by omega)]
    show (pr_sI τ 0 33 1).1 0 33 = _
    exact pr_sI_same
  · rw [pr_sI_ne (by omega), pr_sI_ne (by omega)]; exact pr_sI_same
  · rw [pr_sI_ne (by omega)]; exact pr_sI_same
  · exact pr_sI_same
  · show upd (τ.2.1 20) (0 : Int32).toNatClampNeg (-1) 0 = -1
    exact pk_us
  · show upd (τ.2.1 23) (0 : Int32).toNatClampNeg 0 0 = 0
    exact pk_us
  · show upd (τ.2.1 24) (0 : Int32).toNatClampNeg 0 0 = 0
    exact pk_us
theorem pm_ex (v : Int32) : ∃ d, v = nI d := by
  refine ⟨v.toBitVec.toNat, ?_⟩
  apply Int32.toBitVec_inj.mp
  show v.toBitVec = BitVec.ofNat 32 v.toBitVec.toNat
  simp
/-- what is there when a text has been found faulty or wrong -/
theorem pm_RlE {σ τ σ' τ' : pr_St} (hI : pl_RI σ τ) (h8 : pl_by8 σ) (hcl : pm_cl σ τ) (c8 : σ'.2.1 8 = σ.2.1 8) (c47 : ∀ a, 47 ≤ a → σ'.2.1 a = σ.2.1 a) (c4 : σ'.1 7 4 = σ.1 7 4) (z8 : σ'.1 7 8 = 0 ∧ σ'.1 7 9 = 0 ∧ σ'.1 7 10 = 0) (kx : pm_kx τ τ') (hB : σ'.1 1 1 = 0 ∧ τ'.1 0 2 = 0) (hT : pl_RT σ' τ') (h19 : τ'.2.1 19 0 = 0) (z55 : τ'.1 0 56 = 0 ∧ τ'.1 0 57 = 0) (hP : pm_PE σ' τ' ∨ pm_PG σ' τ') : pm_Rl σ' τ' := by
  refine ⟨⟨0, by omega, hB.1, hB.2, fun j hj => absurd hj (Nat.not_lt_zero _)⟩, ?_, ?_, hT, ?_, ⟨by rw [z8.2.1, z55.1], by rw [z8.2.2, z55.2]⟩, h19, hP⟩
  · intro j
    rw [c8]; exact h8 j
  · obtain ⟨c, c1, c2, c3, c5⟩ := hI
    refine ⟨c, c1, by rw [c4]; exact c2, by rw [kx.2]; exact c3, ?_⟩
    rw [c47 47 (by omega), kx.1 33 (by omega)]
    exact c5
  · unfold pm_cl
    rw [c47 48 (by omega), c47 50 (by omega), kx.1 34 (by omega), kx.1 35 (by omega)]
    exact hcl
theorem pm_end {σ τ : pr_St} (h : pm_Rl σ τ) (x : Int32) : ∃ (r : Int32) (σ' τ' : pr_St), prf_P_end σ x = some (r, σ') ∧ prf_X_end τ x = some (r, τ') ∧ pm_Rl σ' τ' := by
  obtain ⟨⟨b, hb, hb1, hb2, hb3⟩, h8, hI, hT, hcl, h9, h19, hP⟩ := id h
  by_cases q1 : x < 0
  · refine ⟨-1, σ, τ, ?_, ?_, h⟩
    · unfold prf_P_end; rw [if_pos q1]
    · unfold prf_X_end; rw [if_pos q1]
  obtain ⟨n, hn31, rfl⟩ := nI_of q1
  by_cases q2' : b < n
  · refine ⟨-1, σ, τ, ?_, ?_, h⟩
    · unfold prf_P_end prf_T_bytes; rw [if_neg q1, pl_sb, hb1, if_neg (nI_ge (by omega) (by omega))]
    · unfold prf_X_end; rw [if_neg q1, hb2, if_neg (nI_ge (by omega) (by omega))]
  have q2 : n ≤ b := by omega
  have hF : pr_FU = 100000 := rfl
  -- the class before it reads
  obtain ⟨σb, hσb⟩ : ∃ σb, σb = pr_sI (pr_sI (pr_sI (pr_sI (pr_sI (pr_sI (pr_sI σ 0 5 1) 0 6 0) 0 7 0) 7 8 0) 7 9 0) 7 10 0) 7 11 0 := ⟨_, rfl⟩
  have b2 : σb.2.1 = σ.2.1 := by rw [hσb]; rfl
  have b74 : σb.1 7 4 = σ.1 7 4 := by rw [hσb]; simp only [pr_sI_ne (show ¬ (7 = 7 ∧ 4 = 11) by omega), pr_sI_ne (show ¬ (7 = 7 ∧ 4 = 10) by omega), pr_sI_ne (show ¬ (7 = 7 ∧ 4 = 9) by omega), pr_sI_ne (show ¬ (7 = 7 ∧ 4 = 8) by omega), pr_sI_ne (show ¬ (7 = 0 ∧ 4 = 7) by omega), pr_sI_ne (show ¬ (7 = 0 ∧ 4 = 6) by omega), pr_sI_ne (show ¬ (7 = 0 ∧ 4 = 5) by omega)]
  have b78 : σb.1 7 8 = 0 ∧ σb.1 7 9 = 0 ∧ σb.1 7 10 = 0 := by
    rw [hσb]
    refine ⟨?_, ?_, ?_⟩
    · rw [pr_sI_ne (by omega), pr_sI_ne (by omega), pr_sI_ne (by omega)]; exact pr_sI_same
    · rw [pr_sI_ne (by omega), pr_sI_ne (by omega)]; exact pr_sI_same
    · rw [pr_sI_ne (by omega)]; exact pr_sI_same
  have b05 : σb.1 0 5 = 1 ∧ σb.1 0 6 = 0 ∧ σb.1 0 7 = 0 := by
    rw [hσb]
    refine ⟨?_, ?_, ?_⟩
    · rw [pr_sI_ne (by omega), pr_sI_ne (by omega), pr_sI_ne (by omega), pr_sI_ne (by omega), pr_sI_ne (by omega), pr_sI_ne (by omega)]; exact pr_sI_same
    · rw [pr_sI_ne (by omega), pr_sI_ne (by omega), pr_sI_ne (by omega), pr_sI_ne (by omega), pr_sI_ne (by omega)]; exact pr_sI_same
    · rw [pr_sI_ne (by omega), pr_sI_ne (by omega), pr_sI_ne (by omega), pr_sI_ne (by omega)]; exact pr_sI_same
  -- the reference before it reads
  obtain ⟨τa, hτa⟩ : ∃ τa, τa = pr_sI (pr_sI (pr_sI τ 0 3 (nI n)) 0 24 0) 0 27 0 := ⟨_, rfl⟩
  have a24 : τa.1 0 24 = nI 0 := by rw [hτa, pr_sI_ne (by omega)]; exact pr_sI_same
  obtain ⟨τb, hτb⟩ : ∃ τb, τb = pr_sI (pr_sA (pr_sA (pr_sA (pr_sA (pr_sA τa 13 (upd (τa.2.1 13) 0 0)) 14 (upd (τa.2.1 14) 0 0)) 15 (upd (τa.2.1 15) 0 0)) 16 (upd (τa.2.1 16) 0 (-1))) 17 (upd (τa.2.1 17) 0 1)) 0 24 (nI 1) := ⟨_, rfl⟩
  have eadd : prf_X_add τa 0 0 0 (-1) = some (nI 1 - 1, τb) := by
    unfold prf_X_add
    rw [a24, pl_ck (by omega) (by omega), pl_ck (by omega) (by omega), pl_ck (by omega) (by omega), pl_ck (by omega) (by omega), pl_ck (by omega) (by omega), nI_clamp (by omega), show pr_FU = 99999 + 1 from rfl, prf_X_add_55, if_pos rfl]
    have e24 : (pr_sA (pr_sA (pr_sA (pr_sA (pr_sA τa 13 (upd (τa.2.1 13) 0 0)) 14 (upd (τa.2.1 14) 0 0)) 15 (upd (τa.2.1 15) 0 0)) 16 (upd (τa.2.1 16) 0 (-1))) 17 (upd (τa.2.1 17) 0 1)).1 0 24 = nI 0 := a24
    rw [e24, nI_1, Nat.zero_add, ← hτb]
  have tb3 : τb.1 0 3 = nI n := by
    rw [hτb, pr_sI_ne (by omega)]
    show τa.1 0 3 = _
    rw [hτa, pr_sI_ne (by omega), pr_sI_ne (by omega)]; exact pr_sI_same
  have tb24 : τb.1 0 24 = nI 1 := by rw [hτb]; exact pr_sI_same
  have tb27 : τb.1 0 27 = nI 0 := by
    rw [hτb, pr_sI_ne (by omega)]
    show τa.1 0 27 = _
    rw [hτa]; exact pr_sI_same
  have tb51 : τb.1 0 51 = τ.1 0 51 := by
    rw [hτb, pr_sI_ne (by omega)]
    show τa.1 0 51 = _
    rw [hτa, pr_sI_ne (by omega), pr_sI_ne (by omega), pr_sI_ne (by omega)]
  have tbr : ∀ a, ¬ (13 ≤ a ∧ a ≤ 17) → τb.2.1 a = τ.2.1 a := by
    intro a ha
    rw [hτb]
    show (pr_sA (pr_sA (pr_sA (pr_sA (pr_sA τa 13 _) 14 _) 15 _) 16 _) 17 _).2.1 a = _
    rw [pl_sA_ne (by omega), pl_sA_ne (by omega), pl_sA_ne (by omega), pl_sA_ne (by omega), pl_sA_ne (by omega), hτa]
    rfl
  have tb16 : τb.2.1 16 0 = -1 := by
    rw [hτb]
    show (pr_sA (pr_sA (pr_sA (pr_sA (pr_sA τa 13 _) 14 _) 15 _) 16 _) 17 _).2.1 16 0 = _
    rw [pl_sA_ne (by decide), pl_sA_same]; exact pk_us
  -- the tokens
  obtain ⟨σc, τc, B, c, K, P, L, t1, t2, t3, t4, t5, t6, t7, t8, t9, t10⟩ := pl_text (σ := σb) (τ := τb) (n := n) (by omega) (fun j hj => by rw [b2, tbr 2 (by omega)]; exact hb3 j (by omega)) tb3
  obtain ⟨K', hK'⟩ : ∃ K' : Nat → Nat, K' = fun t => if t < c then K t else 0 := ⟨_, rfl⟩
  have kK : ∀ t, t < c → K' t = K t := by intro t ht; rw [hK']; exact if_pos ht
  obtain ⟨T, hT'⟩ : ∃ T : pl_Tx, T = (B, n, c, K', P, L) := ⟨_, rfl⟩
  have xB : pl_xB T = B := by rw [hT']; rfl
  have xn : pl_xn T = n := by rw [hT']; rfl
  have xc : pl_xc T = c := by rw [hT']; rfl
  have xK : pl_xK T = K' := by rw [hT']; rfl
  have xP : pl_xP T = P := by rw [hT']; rfl
  have xL : pl_xL T = L := by rw [hT']; rfl
  have c1 : 1 ≤ c := t5.1
  have htt : pl_tt T σc τc := by
    unfold pl_tt pl_tk
    rw [xB, xn, xc, xK, xP, xL]
    refine ⟨by omega, t6, t3, ⟨t4.1, t4.2.1, fun t ht => ?_⟩, ⟨c1, ?_, fun t ht => ?_, t5.2.2.2⟩, fun t ht => ?_⟩
    · rw [kK t ht]; exact t4.2.2 t ht
    · rw [kK _ (by omega)]; exact t5.2.1
    · rw [kK t (by omega)]; exact t5.2.2.1 t ht
    · rw [kK t ht]; exact t10 t ht
  have hT0 : ∀ t, pl_xc T ≤ t → pl_xK T t = 0 := by
    intro t ht
    rw [xK, hK']
    exact if_neg (by omega)
  -- both sides begin to read
  obtain ⟨σd, hσd⟩ : ∃ σd, σd = pr_sI (pr_sI (pr_sI (pr_sI σc 3 2 0) 2 5 0) 2 11 0) 2 14 0 := ⟨_, rfl⟩
  obtain ⟨τd, hτd⟩ : ∃ τd, τd = pr_sI (pr_sI (pr_sI τc 0 8 0) 0 9 0) 0 10 (-1) := ⟨_, rfl⟩
  have fd : pl_fr pl_FV pl_GV σc σd := by rw [hσd]; exact (((pl_sI_fr (o := 3) (k := 2) rfl).tr (pl_sI_fr (o := 2) (k := 5) rfl)).tr (pl_sI_fr (o := 2) (k := 11) rfl)).tr (pl_sI_fr (o := 2) (k := 14) rfl)
  have fdx : pl_fr pl_FW pl_GW τc τd := by rw [hτd]; exact ((pl_sI_fr (o := 0) (k := 8) rfl).tr (pl_sI_fr (o := 0) (k := 9) rfl)).tr (pl_sI_fr (o := 0) (k := 10) rfl)
  have httd : pl_tt T σd τd := pl_tt_fr htt fd fdx ⟨rfl, rfl, rfl, rfl, rfl, rfl⟩ ⟨rfl, rfl, rfl, rfl, rfl, rfl⟩
  obtain ⟨d, hd⟩ := pm_ex (τd.1 0 17)
  have d32 : σd.1 3 2 = nI 0 := by rw [hσd, pr_sI_ne (by omega), pr_sI_ne (by omega), pr_sI_ne (by omega)]; exact pr_sI_same
  have d214 : σd.1 2 14 = nI 0 := by rw [hσd]; exact pr_sI_same
  have d211 : σd.1 2 11 = nI 0 := by rw [hσd, pr_sI_ne (by omega)]; exact pr_sI_same
  have d25 : σd.1 2 5 = nI 0 := by rw [hσd, pr_sI_ne (by omega), pr_sI_ne (by omega)]; exact pr_sI_same
  have x8 : τd.1 0 8 = nI 0 := by rw [hτd, pr_sI_ne (by omega), pr_sI_ne (by omega)]; exact pr_sI_same
  have x9 : τd.1 0 9 = 0 := by rw [hτd, pr_sI_ne (by omega)]; exact pr_sI_same
  have x24 : τd.1 0 24 = nI 1 := by rw [hτd, pr_sI_ne (by omega), pr_sI_ne (by omega), pr_sI_ne (by omega), t9.1 0 24 rfl]; exact tb24
  have x27 : τd.1 0 27 = nI 0 := by rw [hτd, pr_sI_ne (by omega), pr_sI_ne (by omega), pr_sI_ne (by omega), t9.1 0 27 rfl]; exact tb27
  have x16 : τd.2.1 16 0 = -1 := by
    rw [hτd]
    show τc.2.1 16 0 = -1
    rw [t9.2.1 16 rfl]; exact tb16
  have x19 : τd.2.1 19 0 = 0 := by
    rw [hτd]
    show τc.2.1 19 0 = 0
    rw [t9.2.1 19 rfl, tbr 19 (by omega)]; exact h19
  have hNT : pl_NT T τd 0 (fun _ => 0) 0 := ⟨x27, fun k hk => by
    have : k = 0 := by omega
    subst this
    exact x19, fun k hk => absurd hk (Nat.not_lt_zero _), fun j k h1 h2 => absurd h2 (Nat.not_lt_zero _), ⟨Nat.zero_le _, Nat.zero_le _⟩, fun t _ _ _ => Nat.zero_le _⟩
  have hgs : pl_gs T 0 0 d 0 σd τd := ⟨⟨httd, ⟨d32, x8⟩, by rw [xc]; omega, x9, d214, hd⟩, d211⟩
  obtain ⟨a', σe, τe, f1, f2, tte, ate, hae, h19e, hres⟩ := pm_tloop (T := T) c 0 0 1 0 0 d 0 pr_FU pr_FU (fun _ => 0) σd τd [] (by rw [xc]; omega) (by rw [hF]; omega) (by rw [hF]; omega) hgs d25 (Nat.zero_le _) (Nat.zero_le _) (Nat.le_refl _) x24 (by omega) hNT x16 rfl rfl rfl rfl (Nat.le_refl 0) trivial
  have hC : prf_P_end σ (nI n) = (prf_R_readText_14 pr_FU σd (nI 0)).bind fun r20 => if r20.1 = 0 then ((prf_R_faultPlace r20.2).bind fun r27 => (prf_O_leaveOnlyTheEnd (pr_sI r20.2 0 7 r27)).bind fun r28 => some (1, r28)) else ((prf_Y_layProgram r20.2).bind fun r22 => if r22.1 = 0 then ((prf_Y_whatIsWrong r22.2).bind fun r24 => (prf_Y_whereItIs (pr_sI r22.2 0 6 r24)).bind fun r25 => (prf_O_leaveOnlyTheEnd (pr_sI (pr_sI r22.2 0 6 r24) 0 7 r25)).bind fun r26 => some (2, r26)) else some (0, r22.2)) := by
    unfold prf_P_end prf_T_bytes
    rw [if_neg q1, pl_sb, hb1, if_pos (nI_le q2 (by omega))]
    unfold prf_M_forget
    rw [pl_sb, ← hσb, t1, pl_sb]
    unfold prf_R_readText prf_G_clear
    rw [pl_sb, ← hσd]
    rfl
  have hX : prf_X_end τ (nI n) = prf_X_end_57 pr_FU τd := by
    unfold prf_X_end
    rw [if_neg q1, hb2, if_pos (nI_le q2 (by omega)), ← hτa, eadd, pl_sb]
    dsimp only
    rw [t2, pl_sb, ← hτd]
  -- what has stayed
  have kb : pm_kc σb σe := ((pm_kc_fr t8 rfl (fun a ha => by have := pm_GTlt a ha; omega) (fun k => ⟨rfl, rfl⟩)).tr (pm_kc_fr fd rfl (fun a ha => by have := pm_GVlt a ha; omega) (fun k => ⟨rfl, rfl⟩))).tr (pm_kc_fr f1 rfl (fun a ha => by have := pm_GVlt a ha; omega) (fun k => ⟨rfl, rfl⟩))
  have e11 : σe.1 1 1 = 0 := by rw [f1.1 1 1 rfl, fd.1 1 1 rfl]; exact t7
  have kxe : pm_kx τ τe := ((pm_kx.tr ⟨fun a ha => tbr a (by omega), tb51⟩ (pm_kx_fr t9 (fun a ha => by have := pm_GXlt a ha; omega) rfl)).tr (pm_kx_fr fdx (fun a ha => by have := pm_GWlt a ha; omega) rfl)).tr (pm_kx_fr f2 (fun a ha => by have := pm_GWlt a ha; omega) rfl)
  rcases hres with ⟨m', rep', Ps, e1, e2, e3, e4, e5, e6, e7, e8, e9, e10, e12, e13, e14, e15, e16, e17, e18⟩ | ⟨e1, e2, e3, e4⟩
  · -- it is read
    obtain ⟨τf, n1, n2, n3, n4, n5, n6, n7, n8, n9, n10, n11⟩ := pm_noth (pr_sI (pr_sI (pr_sI τe 0 2 0) 0 47 0) 0 48 0)
    obtain ⟨τg, hτg⟩ : ∃ τg, τg = pr_sI τf 0 49 0 := ⟨_, rfl⟩
    have gk : ∀ k, ¬ (k = 2 ∨ k = 33 ∨ k = 47 ∨ k = 48 ∨ k = 49 ∨ k = 55 ∨ k = 56 ∨ k = 57) → τg.1 0 k = τe.1 0 k := by
      intro k hk
      rw [hτg, pr_sI_ne (by omega), n2 0 k (by omega), pr_sI_ne (by omega), pr_sI_ne (by omega), pr_sI_ne (by omega)]
    have gr : ∀ a, ¬ (20 ≤ a ∧ a ≤ 24) → τg.2.1 a = τe.2.1 a := by
      intro a ha
      rw [hτg]
      show τf.2.1 a = _
      rw [n3 a ha]
      rfl
    have g47 : τg.1 0 47 = 0 := by rw [hτg, pr_sI_ne (by omega), n2 0 47 (by omega), pr_sI_ne (by omega)]; exact pr_sI_same
    have g48 : τg.1 0 48 = 0 := by rw [hτg, pr_sI_ne (by omega), n2 0 48 (by omega)]; exact pr_sI_same
    have g2 : τg.1 0 2 = 0 := by rw [hτg, pr_sI_ne (by omega), n2 0 2 (by omega), pr_sI_ne (by omega), pr_sI_ne (by omega)]; exact pr_sI_same
    have g49 : τg.1 0 49 = 0 := by rw [hτg]; exact pr_sI_same
    have g55 : τg.1 0 55 = 0 ∧ τg.1 0 56 = 0 ∧ τg.1 0 57 = 0 := by
      rw [hτg, pr_sI_ne (by omega), pr_sI_ne (by omega), pr_sI_ne (by omega)]
      exact ⟨n5, n6, n7⟩
    have f9 : τf.1 0 9 = 0 := by rw [n2 0 9 (by omega), pr_sI_ne (by omega), pr_sI_ne (by omega), pr_sI_ne (by omega)]; exact e3
    have frg : pl_fr (fun o k => o == 0 && (k == 2 || k == 33 || k == 47 || k == 48 || k == 49 || k == 55 || k == 56 || k == 57)) (fun a => a == 20 || a == 21 || a == 22 || a == 23 || a == 24) τe τg := by
      refine ⟨fun o k hk => ?_, fun a ha => gr a (fun w => ?_), ?_⟩
      · by_cases ho : o = 0
        · subst ho
          refine gk k (fun w => ?_)
          simp at hk
          omega
        · rw [hτg, pr_sI_ne (by omega), n2 o k (by omega), pr_sI_ne (by omega), pr_sI_ne (by omega), pr_sI_ne (by omega)]
      · simp at ha
        omega
      · rw [hτg]
        show τf.2.2 = _
        rw [n11]; rfl
    have hbs : pl_bs T m' rep' Ps σe τg := by
      refine ⟨pl_tt_fr tte (pl_fr.rf (F := pl_FV) (G := pl_GV)) frg ⟨rfl, rfl, rfl, rfl, rfl, rfl⟩ ⟨rfl, rfl, rfl, rfl, rfl, rfl⟩, ?_, e15, e16, e4, e5, e6, e7, e8, e9, e10, e12, by rw [gk 24 (by omega)]; exact e13, e17, ?_⟩
      · intro j
        rw [kb.1, b2]; exact h8 j
      · exact pl_pgs_eq (Nat.le_refl _) (fun _ _ => rfl) Ps 0 1 0 0 (fun _ _ _ _ _ => rfl) (fun _ _ _ _ _ => rfl) (fun _ _ _ _ _ => rfl) (fun r z h1 h2 _ _ => by rw [gr r (by omega)]) e18
    have hX2 : prf_X_end τ (nI n) = (prf_X_layout τg).bind fun r46 => if (r46.1 0 47) ≤ 0 then some ((r46.1 0 49), r46) else ((prf_X_nothing (pr_sI r46 0 49 2)).bind fun r48 => some ((r48.1 0 49), r48)) := by
      rw [hX, e2]
      unfold prf_X_end_93
      rw [if_pos e3, n1, pl_sb, if_pos f9, if_pos f9, ← hτg]
    rw [e1, pl_sb] at hC
    dsimp only at hC
    rw [if_neg pl_10] at hC
    rcases pl_prog hbs g47 with ⟨σ', τ', l1, l2, l3, l4, l5, l6, l7⟩ | ⟨σ', τ', W, P', nx, l1, l2, l3, l4, l5, l6, l7, l8⟩
    · -- something is wrong
      rw [l1, pl_sb] at hC
      dsimp only at hC
      unfold prf_Y_whatIsWrong prf_Y_whereItIs at hC
      rw [if_pos rfl, pl_sb, pl_sb] at hC
      obtain ⟨σz, z1, z2, z3, z4, z5, z6, z7, z8, z9⟩ := pm_only (pr_sI (pr_sI σ' 0 6 (σ'.1 6 14)) 0 7 ((pr_sI σ' 0 6 (σ'.1 6 14)).1 6 15))
      rw [z1, pl_sb] at hC
      rw [l2, pl_sb, if_neg (Int32.not_le.mpr l3)] at hX2
      obtain ⟨τz, y1, y2, y3, y4, y5, y6, y7, y8, y9, y10, y11⟩ := pm_noth (pr_sI τ' 0 49 2)
      rw [y1, pl_sb, y2 0 49 (by omega), pr_sI_same] at hX2
      have kl := pm_kc_fr l6 rfl (fun a ha => by have := pm_GLlt a ha; omega) (fun k => ⟨rfl, rfl⟩)
      have kxl := pm_kx_fr l7 (fun a ha => (pm_GMlt a ha).1) rfl
      have s7 : ∀ k, σz.1 7 k = σb.1 7 k := fun k => by rw [z2.2.2.1 k, pr_sI_ne (by omega), pr_sI_ne (by omega), kl.2.2.1 k, kb.2.2.1 k]
      have sr : ∀ a, 47 ≤ a → σz.2.1 a = σ.2.1 a := fun a ha => by rw [z2.2.1 a ha]; show σ'.2.1 a = _; rw [kl.2.1 a ha, kb.2.1 a ha, b2]
      have s8 : σz.2.1 8 = σ.2.1 8 := by rw [z2.1]; show σ'.2.1 8 = _; rw [kl.1, kb.1, b2]
      have s11 : σz.1 1 1 = 0 := by rw [z9, pr_sI_ne (by omega), pr_sI_ne (by omega), l6.1 1 1 rfl]; exact e11
      have s0 : σz.1 0 5 = 1 ∧ σz.1 0 6 = σ'.1 6 14 ∧ σz.1 0 7 = σ'.1 6 15 := by
        refine ⟨by rw [z2.2.2.2 5, pr_sI_ne (by omega), pr_sI_ne (by omega), kl.2.2.2 5, kb.2.2.2 5]; exact b05.1, by rw [z2.2.2.2 6, pr_sI_ne (by omega)]; exact pr_sI_same, ?_⟩
        rw [z2.2.2.2 7, pr_sI_same, pr_sI_ne (by omega)]
      have x2 : τz.1 0 2 = 0 := by rw [y2 0 2 (by omega), pr_sI_ne (by omega), l7.1 0 2 rfl]; exact g2
      have x47 : τz.1 0 47 = τ'.1 0 47 := by rw [y2 0 47 (by omega), pr_sI_ne (by omega)]
      have x48 : τz.1 0 48 = τ'.1 0 48 := by rw [y2 0 48 (by omega), pr_sI_ne (by omega)]
      have kxz : pm_kx τ τz := by
        refine ⟨fun a ha => ?_, ?_⟩
        · rw [y3 a (by omega)]
          show τ'.2.1 a = _
          rw [kxl.1 a ha, gr a (by omega), kxe.1 a ha]
        · rw [y2 0 51 (by omega), pr_sI_ne (by omega), kxl.2, gk 51 (by omega), kxe.2]
      have x19z : τz.2.1 19 0 = 0 := by
        rw [y3 19 (by omega)]
        show τ'.2.1 19 0 = 0
        rw [l7.2.1 19 rfl, gr 19 (by omega)]; exact h19e
      refine ⟨2, σz, τz, hC, hX2, pm_RlE hI h8 hcl s8 sr (by rw [s7, b74]) ⟨by rw [s7]; exact b78.1, by rw [s7]; exact b78.2.1, by rw [s7]; exact b78.2.2⟩ kxz ⟨s11, x2⟩ (Or.inr ⟨s0.1, by rw [y2 0 49 (by omega), pr_sI_same]; decide, by rw [s0.2.1, x47, l4], by rw [s0.2.2, x48, l5]⟩) x19z ⟨y6, y7⟩ (Or.inl ⟨⟨z3, y4⟩, ⟨z4, z5, z6, z7, z8⟩, ⟨y8, y9, y10⟩, by rw [s7]; exact b78.1, y5⟩)⟩
    · -- a program
      rw [l1, pl_sb] at hC
      dsimp only at hC
      rw [if_neg pl_10] at hC
      have l49 : τ'.1 0 49 = 0 := by rw [l8.1 0 49 rfl]; exact g49
      rw [l2, pl_sb, l3, if_pos (by decide), l49] at hX2
      have kl := pm_kc_fr l7 rfl (fun a ha => by have := pm_GLlt a ha; omega) (fun k => ⟨rfl, rfl⟩)
      have kxl := pm_kx_fr l8 (fun a ha => (pm_GMlt a ha).1) rfl
      have s7 : ∀ k, σ'.1 7 k = σb.1 7 k := fun k => by rw [kl.2.2.1 k, kb.2.2.1 k]
      have s0 : ∀ k, σ'.1 0 k = σb.1 0 k := fun k => by rw [kl.2.2.2 k, kb.2.2.2 k]
      have sr : ∀ a, 47 ≤ a → σ'.2.1 a = σ.2.1 a := fun a ha => by rw [kl.2.1 a ha, kb.2.1 a ha, b2]
      have s8 : σ'.2.1 8 = σ.2.1 8 := by rw [kl.1, kb.1, b2]
      have s11 : σ'.1 1 1 = 0 := by rw [l7.1 1 1 rfl]; exact e11
      have x2 : τ'.1 0 2 = 0 := by rw [l8.1 0 2 rfl]; exact g2
      have kxz : pm_kx τ τ' := by
        refine ⟨fun a ha => ?_, ?_⟩
        · rw [kxl.1 a ha, gr a (by omega), kxe.1 a ha]
        · rw [kxl.2, gk 51 (by omega), kxe.2]
      have x19z : τ'.2.1 19 0 = 0 := by rw [l8.2.1 19 rfl, gr 19 (by omega)]; exact h19e
      have x55 : τ'.1 0 55 = 0 := by rw [l8.1 0 55 rfl]; exact g55.1
      have x56 : τ'.1 0 56 = 0 := by rw [l8.1 0 56 rfl]; exact g55.2.1
      have x57 : τ'.1 0 57 = 0 := by rw [l8.1 0 57 rfl]; exact g55.2.2
      have hwv : pl_wv W 0 = [] := by unfold pl_wv; rw [l6]; rfl
      refine ⟨0, σ', τ', hC, hX2, pm_RlE hI h8 hcl s8 sr (by rw [s7, b74]) ⟨by rw [s7]; exact b78.1, by rw [s7]; exact b78.2.1, by rw [s7]; exact b78.2.2⟩ kxz ⟨s11, x2⟩ (Or.inr ⟨by rw [s0]; exact b05.1, by rw [l49]; decide, by rw [s0, l3]; exact b05.2.1, by rw [s0, l4, g48]; exact b05.2.2⟩) x19z ⟨x56, x57⟩ (Or.inr ⟨T, m', rep', Ps, W, P', nx, σ', τ', 0, l5, hT0, l6, ⟨rfl, fun _ => rfl, rfl, fun _ _ _ => rfl⟩, ⟨rfl, fun _ _ _ => rfl⟩, ⟨by rw [s7]; exact b78.1, x55, Nat.zero_le _⟩, ?_⟩)⟩
      rw [hwv]
      intro i e he
      cases i <;> cases he
  · -- it has a fault
    obtain ⟨τf, n1, n2, n3, n4, n5, n6, n7, n8, n9, n10, n11⟩ := pm_noth (pr_sI (pr_sI (pr_sI τe 0 2 0) 0 47 0) 0 48 (τe.1 0 10))
    have f9 : ¬ τf.1 0 9 = 0 := by rw [n2 0 9 (by omega), pr_sI_ne (by omega), pr_sI_ne (by omega), pr_sI_ne (by omega), e3]; decide
    have f47 : τf.1 0 47 = 0 := by rw [n2 0 47 (by omega), pr_sI_ne (by omega)]; exact pr_sI_same
    have hX2 : prf_X_end τ (nI n) = some (1, pr_sI τf 0 49 1) := by
      rw [hX, e2]
      unfold prf_X_end_93
      rw [if_neg (by rw [e3]; decide), n1, pl_sb, if_neg f9, if_neg f9, f47, if_pos (by decide)]
    have efp : prf_R_faultPlace σe = some (nI (pl_xP T a')) := by
      have h16 : σe.1 1 6 = nI (pl_xc T) := tte.2.2.2.1.1
      have h10 : σe.2.1 10 a' = nI (pl_xP T a') := (tte.2.2.2.1.2.2 a' hae).2.2.1
      have hc : pl_xc T ≤ 8001 := by rw [xc]; omega
      unfold prf_R_faultPlace prf_T_placeAt
      rw [ate.1, if_neg (nI_pos (by omega)), h16, if_neg (nI_ge hae (by omega)), pl_ck (by omega) (by omega), nI_clamp (by omega), h10, pl_sb]
    obtain ⟨σz, z1, z2, z3, z4, z5, z6, z7, z8, z9⟩ := pm_only (pr_sI σe 0 7 (nI (pl_xP T a')))
    rw [e1, pl_sb] at hC
    dsimp only at hC
    rw [if_pos rfl, efp, pl_sb, z1, pl_sb] at hC
    have s7 : ∀ k, σz.1 7 k = σb.1 7 k := fun k => by rw [z2.2.2.1 k, pr_sI_ne (by omega), kb.2.2.1 k]
    have sr : ∀ a, 47 ≤ a → σz.2.1 a = σ.2.1 a := fun a ha => by rw [z2.2.1 a ha]; show σe.2.1 a = _; rw [kb.2.1 a ha, b2]
    have s8 : σz.2.1 8 = σ.2.1 8 := by rw [z2.1]; show σe.2.1 8 = _; rw [kb.1, b2]
    have s11 : σz.1 1 1 = 0 := by rw [z9, pr_sI_ne (by omega)]; exact e11
    have s0 : σz.1 0 5 = 1 ∧ σz.1 0 6 = 0 ∧ σz.1 0 7 = nI (pl_xP T a') := by
      refine ⟨by rw [z2.2.2.2 5, pr_sI_ne (by omega), kb.2.2.2 5]; exact b05.1, by rw [z2.2.2.2 6, pr_sI_ne (by omega), kb.2.2.2 6]; exact b05.2.1, by rw [z2.2.2.2 7]; exact pr_sI_same⟩
    have x2 : (pr_sI τf 0 49 1).1 0 2 = 0 := by rw [pr_sI_ne (by omega), n2 0 2 (by omega), pr_sI_ne (by omega), pr_sI_ne (by omega)]; exact pr_sI_same
    have x48 : (pr_sI τf 0 49 1).1 0 48 = nI (pl_xP T a') := by rw [pr_sI_ne (by omega), n2 0 48 (by omega), pr_sI_same]; exact e4
    have kxz : pm_kx τ (pr_sI τf 0 49 1) := by
      refine ⟨fun a ha => ?_, ?_⟩
      · show τf.2.1 a = _
        rw [n3 a (by omega)]
        show τe.2.1 a = _
        exact kxe.1 a ha
      · rw [pr_sI_ne (by omega), n2 0 51 (by omega), pr_sI_ne (by omega), pr_sI_ne (by omega), pr_sI_ne (by omega)]; exact kxe.2
    have x19z : (pr_sI τf 0 49 1).2.1 19 0 = 0 := by
      show τf.2.1 19 0 = 0
      rw [n3 19 (by omega)]
      exact h19e
    exact ⟨1, σz, pr_sI τf 0 49 1, hC, hX2, pm_RlE hI h8 hcl s8 sr (by rw [s7, b74]) ⟨by rw [s7]; exact b78.1, by rw [s7]; exact b78.2.1, by rw [s7]; exact b78.2.2⟩ kxz ⟨s11, x2⟩ (Or.inr ⟨s0.1, by rw [pr_sI_same]; decide, by rw [s0.2.1, pr_sI_ne (by omega), f47], by rw [s0.2.2, x48]⟩) x19z ⟨by rw [pr_sI_ne (by omega)]; exact n6, by rw [pr_sI_ne (by omega)]; exact n7⟩ (Or.inl ⟨⟨z3, by rw [pr_sI_ne (by omega)]; exact n4⟩, ⟨z4, z5, z6, z7, z8⟩, ⟨n8, n9, n10⟩, by rw [s7]; exact b78.1, by rw [pr_sI_ne (by omega)]; exact n5⟩)⟩
