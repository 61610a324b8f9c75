/-! THE LAYOUT: where a point goes on when it is done -/
/-- what a point brings into scope -/
def pl_nv (T : pl_Tx) (σ : pr_St) (z : Nat) (N : List (Nat × Bool)) : Prop := (¬ σ.2.1 25 z = 1 ∧ N = []) ∨ (σ.2.1 25 z = 1 ∧ ∃ s t, σ.2.1 27 z = nI s ∧ s < 2001 ∧ σ.2.1 18 s = nI t ∧ t < 8001 ∧ N = [(t + 1, pl_xK T (t + 2) == 16)])
theorem pl_pt_nv {T : pl_Tx} {m : Nat} {rep : Nat → Nat} {Ps : List pl_En} {W : pl_Wt} {P z : Nat} {σ τ : pr_St} (hb : pl_bs T m rep Ps σ τ) (h : pl_pt T m rep Ps W P σ τ z) : ∃ N, pl_nv T σ z N := by
  obtain ⟨f, b, bs, k, s, q, en, F, S, O, r, par, h1, ⟨S', hS⟩, h3, h4, h5, h6, h7, h8, h9⟩ := h
  subst hS
  by_cases q1 : σ.2.1 25 z = 1
  · have hown := pl_own hb h1
    have c8 := pl_c8 hb.1
    have := pl_tok1 h1.1
    have i7 := h1.2.2.2.2.2.2.1.2.2.1
    exact ⟨_, Or.inr ⟨q1, s, r.2.1, h4.2.2.1, by omega, h1.2.2.2.1.1.2.1, by omega, rfl⟩⟩
  · exact ⟨[], Or.inl ⟨q1, rfl⟩⟩
theorem pl_nv_u {T : pl_Tx} {σ : pr_St} {z : Nat} {N N' : List (Nat × Bool)} (h : pl_nv T σ z N) (h' : pl_nv T σ z N') : N = N' := by
  rcases h with ⟨h1, h2⟩ | ⟨h1, s, t, h2, h3, h4, h5, h6⟩
  · rcases h' with ⟨g1, g2⟩ | ⟨g1, _⟩
    · rw [h2, g2]
    · exact absurd g1 h1
  · rcases h' with ⟨g1, g2⟩ | ⟨g1, s', t', g2, g3, g4, g5, g6⟩
    · exact absurd h1 g1
    · have e1 : s = s' := (nI_eq (by omega) (by omega)).mp (h2.symm.trans g2)
      subst e1
      have e2 : t = t' := (nI_eq (by omega) (by omega)).mp (h4.symm.trans g4)
      subst e2
      rw [h6, g6]
/-- the root node of a point -/
theorem pl_pt_kd {T : pl_Tx} {m : Nat} {rep : Nat → Nat} {Ps : List pl_En} {W : pl_Wt} {P z : Nat} {σ τ : pr_St} (h : pl_pt T m rep Ps W P σ τ z) : ∃ k kr r1, τ.2.1 20 z = nI k ∧ k < 12900 ∧ τ.2.1 13 k = nI kr ∧ σ.2.1 25 z = nI r1 ∧ pl_rk kr r1 := by
  obtain ⟨f, b, bs, k, s, q, en, F, S, O, r, par, h1, ⟨S', hS⟩, h3, h4, h5, h6, h7, h8, h9⟩ := h
  obtain ⟨kr, t, v, zz, F', r', S'', eF, eS, hrk, _⟩ := pl_sT_kd h1.1
  rw [hS] at eS
  have er : r = r' := (List.cons.inj eS).1
  subst er
  have n1 := h1.2.1
  rw [eF] at n1
  have := h1.2.2.2.2.2.2.1.2.1
  exact ⟨k, kr, r.1, h5.1, by omega, n1.1.1, h4.1, hrk⟩
theorem pl_aft {T : pl_Tx} {m : Nat} {rep : Nat → Nat} {Ps : List pl_En} {W : pl_Wt} {P : Nat} {σ τ : pr_St} (hb : pl_bs T m rep Ps σ τ) (hP : P ≤ 249) (hpt : ∀ z, z < P → pl_pt T m rep Ps W P σ τ z) (hpg : ∀ z, z < P → pl_pg T W P σ z) (h33 : τ.1 0 33 = nI (P + 1)) (hWP : W P = ([], [])) : ∀ z, z < P → ∃ v N Y, v ≤ P ∧ (∀ f, z + 1 ≤ f → prf_X_after_2 f τ (nI z) = some (nI v)) ∧ ((σ.2.1 33 z = 0 ∧ σ.2.1 35 z = nI v) ∨ (¬ σ.2.1 33 z = 0 ∧ ((σ.2.1 32 z = -1 ∧ v = P) ∨ ∃ pp, σ.2.1 32 z = nI pp ∧ pp < z ∧ ((σ.2.1 25 pp = 6 ∧ v = pp) ∨ (¬ σ.2.1 25 pp = 6 ∧ ∀ f, pp + 1 ≤ f → prf_X_after_2 f τ (nI pp) = some (nI v)))))) ∧ pl_nv T σ z N ∧ pl_wv W z ++ N = pl_wv W v ++ Y := by
  intro z
  induction z using Nat.strongRecOn with
  | _ z ih =>
  intro hz
  have hpt0 := hpt z hz
  obtain ⟨N, hN⟩ := pl_pt_nv hb hpt0
  obtain ⟨f0, b, bs, k, s, q, en, F, S, O, r, par, h1, hS, ⟨h31, h32, h33'⟩, h4, h5, ⟨h61, h62, h63, h64⟩, h7, h8, h9⟩ := id hpt0
  obtain ⟨h17k, hF1⟩ := pl_is_17 h1
  have i7 := h1.2.2.2.2.2.2.1
  have h16 : τ.2.1 16 k = nI b := by
    obtain ⟨e0, l0, eF, _⟩ := pl_sT_ro h1.1
    have i3 := h1.2.2.1
    rw [eF] at i3
    exact pl_wh_0 i3
  obtain ⟨w25, w26, w27, w28, w29, w30, w31, w32, w33, w35⟩ := h4
  obtain ⟨x20, x21, x22, x23, x24, x25⟩ := h5
  have hkn : ¬ nI k = -1 := pl_nIm1 (by omega)
  have step : ∀ f, prf_X_after_2 (f + 1) τ (nI z) = if nI (b + bs) ≤ nI (k + F.length) then (if par = -1 then some (nI P) else pr_ck par 250 <| pr_ck (τ.2.1 20 par.toNatClampNeg) 13000 <| if τ.2.1 13 (τ.2.1 20 par.toNatClampNeg).toNatClampNeg = 9 then some par else prf_X_after_2 f τ par) else some (nI en) := by
    intro f
    have eP : τ.1 0 33 - 1 = nI P := by rw [h33, pl_sub1]
    rw [prf_X_after_2, pl_ck (by omega) (by omega), nI_clamp (by omega), x20, if_neg hkn, pl_ck (by omega) (by omega), pl_behX (by omega) h17k, pl_sb, pl_ck (by omega) (by omega), nI_clamp (by omega), h16, pl_behX (by omega) h31, pl_sb, eP, pl_ck (by omega) (by omega), pl_ck (by omega) (by omega), pl_ck (by omega) (by omega), x21, x22]
  by_cases hlast : k + F.length = b + bs
  · rw [if_pos hlast] at w33
    have hle : nI (b + bs) ≤ nI (k + F.length) := nI_le (by omega) (by omega)
    have n33 : ¬ σ.2.1 33 z = 0 := by rw [w33]; decide
    rcases h8.1 with ⟨hp1, hA⟩ | ⟨pp, hp1, hp2, hp3⟩
    · refine ⟨P, N, pl_wv W z ++ N, Nat.le_refl _, fun f hf => ?_, Or.inr ⟨n33, Or.inl ⟨by rw [w32]; exact hp1, rfl⟩⟩, hN, ?_⟩
      · obtain ⟨f, rfl⟩ : ∃ y, f = y + 1 := ⟨f - 1, by omega⟩
        rw [step, if_pos hle, if_pos hp1]
      · have : pl_wv W P = [] := by unfold pl_wv; rw [hWP]; rfl
        rw [this]; rfl
    · obtain ⟨v, N', Y, v1, v2, v3, v4, v5⟩ := ih pp hp2 (by omega)
      obtain ⟨kp, kr, r1, p20, p12, p13, p25, prk⟩ := pl_pt_kd (hpt pp (by omega))
      have hn1 : ¬ par = -1 := by rw [hp1]; exact pl_nIm1 (by omega)
      have e9 : (nI kr = 9) ↔ r1 = 6 := by
        have n9 : (9 : Int32) = nI 9 := rfl
        rw [n9]
        constructor
        · intro w
          have := (nI_eq (by unfold pl_rk at prk; omega) (by omega)).mp w
          unfold pl_rk at prk
          omega
        · intro w
          have : kr = 9 := by unfold pl_rk at prk; omega
          rw [this]
      have stepp : ∀ f, prf_X_after_2 (f + 1) τ (nI z) = if nI kr = 9 then some (nI pp) else prf_X_after_2 f τ (nI pp) := by
        intro f
        rw [step, if_pos hle, if_neg hn1, hp1, pl_ck (by omega) (by omega), nI_clamp (by omega), p20, pl_ck (by omega) (by omega), nI_clamp (by omega), p13]
      have e6 : σ.2.1 25 pp = 6 ↔ r1 = 6 := by
        have n6 : (6 : Int32) = nI 6 := rfl
        rw [p25, n6]
        exact ⟨fun w => (nI_eq (by unfold pl_rk at prk; omega) (by omega)).mp w, fun w => by rw [w]⟩
      -- variables of the parent
      obtain ⟨X, hX⟩ : ∃ X, pl_wv W z = pl_wv W pp ++ X := by
        rcases hp3 with ⟨_, q2⟩ | ⟨_, q2, ⟨X, q3⟩, _⟩
        · exact ⟨(W z).2, by unfold pl_wv at *; rw [q2]⟩
        · exact ⟨X, by unfold pl_wv; rw [q2, q3, List.append_assoc]⟩
      have hn1p : ¬ σ.2.1 25 pp = 1 := by
        rcases hp3 with ⟨q1, _⟩ | ⟨_, _, _, q4⟩
        · rw [q1]; decide
        · exact q4
      by_cases q6 : r1 = 6
      · refine ⟨pp, N, X ++ N, by omega, fun f hf => ?_, Or.inr ⟨n33, Or.inr ⟨pp, by rw [w32]; exact hp1, hp2, Or.inl ⟨e6.mpr q6, rfl⟩⟩⟩, hN, ?_⟩
        · obtain ⟨f, rfl⟩ : ∃ y, f = y + 1 := ⟨f - 1, by omega⟩
          rw [stepp, if_pos (e9.mpr q6)]
        · rw [hX, List.append_assoc]
      · have hN' : N' = [] := by
          rcases v4 with ⟨_, w⟩ | ⟨w, _⟩
          · exact w
          · exact absurd w hn1p
        rw [hN', List.append_nil] at v5
        refine ⟨v, N, Y ++ (X ++ N), v1, fun f hf => ?_, Or.inr ⟨n33, Or.inr ⟨pp, by rw [w32]; exact hp1, hp2, Or.inr ⟨fun w => q6 (e6.mp w), v2⟩⟩⟩, hN, ?_⟩
        · obtain ⟨f, rfl⟩ : ∃ y, f = y + 1 := ⟨f - 1, by omega⟩
          rw [stepp, if_neg (fun w => q6 (e9.mp w))]
          exact v2 f (by omega)
        · rw [hX, v5, List.append_assoc, List.append_assoc]
  · rw [if_neg hlast] at w33
    have hle : ¬ nI (b + bs) ≤ nI (k + F.length) := nI_ge (by omega) (by omega)
    obtain ⟨en', g1, g2, g3, g4, g5⟩ := hpg z hz w33
    have een : en = en' := (nI_eq (by omega) (by omega)).mp (w35.symm.trans g1)
    subst een
    refine ⟨en, N, [], by omega, fun f hf => ?_, Or.inl ⟨w33, w35⟩, hN, ?_⟩
    · obtain ⟨f, rfl⟩ : ∃ y, f = y + 1 := ⟨f - 1, by omega⟩
      rw [step, if_neg hle]
    · rw [List.append_nil]
      unfold pl_wv
      rw [g4]
      rcases g5 with ⟨q1, q2⟩ | ⟨q1, s', t', q2, q3, q4, q5, q6⟩
      · rcases hN with ⟨_, w⟩ | ⟨w, _⟩
        · rw [w, q2, List.append_nil]
        · exact absurd w q1
      · have := pl_nv_u hN (Or.inr ⟨q1, s', t', q2, q3, q4, q5, rfl⟩)
        rw [this, q6, List.append_assoc]
/-- one turn of the class' finishing -/
def pl_f38 (σ : pr_St) (P z : Nat) (v : Int32) : Prop := (σ.2.1 33 z = 0 ∧ v = σ.2.1 35 z) ∨ (¬ σ.2.1 33 z = 0 ∧ prf_O_behindBlock σ (σ.2.1 32 z) (nI P) = some v)
def pl_fin (σ : pr_St) (z : Nat) (v : Int32) : pr_St := pr_sA (pr_sA (pr_sA σ 38 (upd (σ.2.1 38) z v)) 36 (upd (σ.2.1 36) z (if σ.2.1 36 z = -1 then (if σ.2.1 25 z = 6 then nI z else v) else σ.2.1 36 z))) 37 (upd (σ.2.1 37) z (if σ.2.1 37 z = -1 then v else σ.2.1 37 z))
theorem pl_fin1 {σ : pr_St} {P z f : Nat} {v : Int32} (hz : z < P) (hP : P ≤ 249) (hv : pl_f38 σ P z v) : prf_O_finish_11 (f + 1) σ (nI P) (nI z) = prf_O_finish_11 f (pl_fin σ z v) (nI P) (nI (z + 1)) := by
  have hck : ∀ (α : Type) (b : Option α), pr_ck (nI z) 250 b = b := fun α b => pl_ck (by omega) (by omega)
  have hcl : (nI z).toNatClampNeg = z := nI_clamp (by omega)
  have hus : ∀ (g : Nat → Int32), upd g z v z = v := fun g => pk_us
  rw [prf_O_finish_11, if_neg (nI_ge hz (by omega)), if_neg (show ¬ (250 : Int32) ≤ nI z from nI_ge (b := 250) (by omega) (by omega))]
  simp only [hck, hcl, nI_1]
  unfold pl_fin
  rcases hv with ⟨h0, rfl⟩ | ⟨h0, hb⟩
  · rw [if_pos h0]
    by_cases q6 : σ.2.1 25 z = 6
    · rw [if_pos q6, if_pos q6]
      by_cases q36 : σ.2.1 36 z = -1
      · rw [if_pos q36, if_pos q36]
        by_cases q37 : σ.2.1 37 z = -1
        · rw [if_pos q37, if_pos q37, hus]
        · rw [if_neg q37, if_neg q37]
      · rw [if_neg q36, if_neg q36]
        by_cases q37 : σ.2.1 37 z = -1
        · rw [if_pos q37, if_pos q37, hus]
        · rw [if_neg q37, if_neg q37]
    · rw [if_neg q6, if_neg q6]
      by_cases q36 : σ.2.1 36 z = -1
      · rw [if_pos q36, if_pos q36]
        by_cases q37 : σ.2.1 37 z = -1
        · rw [if_pos q37, if_pos q37, hus]
        · rw [if_neg q37, if_neg q37, hus]
      · rw [if_neg q36, if_neg q36]
        by_cases q37 : σ.2.1 37 z = -1
        · rw [if_pos q37, if_pos q37, hus]
        · rw [if_neg q37, if_neg q37]
  · rw [if_neg h0, hb, pl_sb]
    by_cases q6 : σ.2.1 25 z = 6
    · rw [if_pos q6, if_pos q6]
      by_cases q36 : σ.2.1 36 z = -1
      · rw [if_pos q36, if_pos q36]
        by_cases q37 : σ.2.1 37 z = -1
        · rw [if_pos q37, if_pos q37, hus]
        · rw [if_neg q37, if_neg q37]
      · rw [if_neg q36, if_neg q36]
        by_cases q37 : σ.2.1 37 z = -1
        · rw [if_pos q37, if_pos q37, hus]
        · rw [if_neg q37, if_neg q37]
    · rw [if_neg q6, if_neg q6]
      by_cases q36 : σ.2.1 36 z = -1
      · rw [if_pos q36, if_pos q36]
        by_cases q37 : σ.2.1 37 z = -1
        · rw [if_pos q37, if_pos q37, hus]
        · rw [if_neg q37, if_neg q37, hus]
      · rw [if_neg q36, if_neg q36]
        by_cases q37 : σ.2.1 37 z = -1
        · rw [if_pos q37, if_pos q37, hus]
        · rw [if_neg q37, if_neg q37]
