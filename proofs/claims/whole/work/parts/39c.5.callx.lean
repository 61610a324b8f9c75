/-! THE LAYOUT: a call held against the rules, by the reference -/
theorem pl_sm_l14 {T : pl_Tx} : ∀ (f : Nat) (F : List pl_N) (O : List pl_O), pl_sm T f F O → ∀ b, pl_l14 b F = false := by
  intro f
  induction f with
  | zero => intro F O h; exact h.elim
  | succ f ih =>
    intro F O h b
    rcases h with ⟨t, h0, rfl, _⟩ | ⟨t, h0, rfl, _⟩ | ⟨t, G, Q, h0, rfl, _, h3⟩ | ⟨t, G, Q, rfl, _, h3⟩ | ⟨t, h0, h1, rfl, _⟩ | ⟨t, h0, h1, rfl, _⟩ | ⟨k, t, G, Q, Ls, h0, rfl, _, h3, h4⟩
    · rfl
    · rfl
    · exact ih G Q h3 _
    · exact ih G Q h3 _
    · rfl
    · rfl
    · have hcat : ∀ l : List (Nat × Nat × List pl_N × List pl_O), (∀ e, e ∈ l → (18 ≤ e.1 ∧ e.1 ≤ 23 ∧ e.1 ≠ 20) ∧ pl_sm T f e.2.2.1 e.2.2.2) → pl_l14 false (pl_catN l) = false := by
        intro l
        induction l with
        | nil => intro _; rfl
        | cons e l ihl =>
          intro hl
          have he := hl e (List.mem_cons_self ..)
          show pl_l14 (e.1 == 14) (e.2.2.1 ++ pl_catN l) = false
          rw [pl_l14_app, ih _ _ he.2]
          exact ihl (fun x hx => hl x (List.mem_cons_of_mem _ hx))
      show pl_l14 (k == 14) (G ++ pl_catN Ls) = false
      rw [pl_l14_app, ih _ _ h3]
      exact hcat Ls h4
def pl_91e (rc : pr_St → Int32 → Int32 → Int32 → Int32 → Option pr_St) (σ : pr_St) (x1 x2 x3 x4 x5 x6 : Int32) : Option pr_St :=
  if x6 = x5 then
   pr_ck (x1 + 1) 13000 <|
   if ((σ.2.1 13) (x1 + 1).toNatClampNeg) = 13 then
    (prf_X_returns σ x4).bind fun r63 =>
    if r63 = 0 then
     (prf_X_wrong σ 6 x3).bind fun r65 =>
     some r65.2
    else
     prf_X_call_166 rc pr_FU σ x1 x2 x4 x5 (x3 + 1)
   else
    prf_X_call_166 rc pr_FU σ x1 x2 x4 x5 (x3 + 1)
  else
   (prf_X_wrong σ 5 x3).bind fun r66 =>
   some r66.2
/-- it counts the arguments -/
theorem pl_c91 {rc : pr_St → Int32 → Int32 → Int32 → Int32 → Option pr_St} {T : pl_Tx} {m : Nat} {rep : Nat → Nat} {τ : pr_St} {k lF : Nat} {x2 x3 x4 x5 : Int32} (hk : k + lF < 13000) (h17 : τ.2.1 17 k = nI lF) : ∀ (Gs : List (List pl_N × List pl_O)) (k0 c f : Nat), k0 + (pl_catF Gs).length = k + lF → pl_nd T τ m rep k0 (pl_catF Gs) → (∀ x, x ∈ Gs → pl_sm T 190 x.1 x.2) → Gs.length + 1 ≤ f → prf_X_call_91 rc f τ (nI k) x2 x3 x4 x5 (nI c) (nI k0) = pl_91e rc τ (nI k) x2 x3 x4 x5 (nI (c + Gs.length)) := by
  intro Gs
  induction Gs with
  | nil =>
    intro k0 c f h1 _ _ hf
    obtain ⟨f, rfl⟩ : ∃ z, f = z + 1 := ⟨f - 1, by omega⟩
    have h1' : k0 + 0 = k + lF := h1
    rw [prf_X_call_91, pl_behX (by omega) h17, pl_sb, if_pos (show nI (k + lF) ≤ nI k0 from nI_le (by omega) (by omega))]
    rfl
  | cons G l ih =>
    intro k0 c f h1 hnd hsm hf
    obtain ⟨f, rfl⟩ : ∃ z, f = z + 1 := ⟨f - 1, by omega⟩
    have el : (pl_catF (G :: l)).length = G.1.length + (pl_catF l).length := by show (G.1 ++ pl_catF l).length = _; rw [List.length_append]
    obtain ⟨n1, n2⟩ := pl_nd_l G.1 (pl_catF l) k0 hnd
    obtain ⟨e0, l0, eG, hsz⟩ := pl_sm_ro (hsm G (List.mem_cons_self ..))
    have e17 : τ.2.1 17 k0 = nI G.1.length := by
      rw [eG] at n1
      rw [← hsz]
      exact n1.1.2.2.2.2
    have hpos : 1 ≤ G.1.length := by rw [eG, List.length_cons]; omega
    rw [List.length_cons] at hf
    rw [prf_X_call_91, pl_behX (by omega) h17, pl_sb, if_neg (nI_ge (by omega) (by omega)), pl_behX (by omega) e17, pl_sb, nI_1, ih (k0 + G.1.length) (c + 1) f (by omega) n2 (fun x hx => hsm x (List.mem_cons_of_mem _ hx)) (by omega), List.length_cons, show c + 1 + l.length = c + (l.length + 1) by omega]
def pl_166e (rc : pr_St → Int32 → Int32 → Int32 → Int32 → Option pr_St) (σ : pr_St) (x1 x2 x4 x5 : Int32) : Option pr_St := prf_X_call_242 rc pr_FU (pr_sI (pr_sI σ 0 43 (σ.1 0 42)) 0 44 ((σ.1 0 44) + 1)) x1 x2 x4 x5 (σ.1 0 42) (σ.1 0 43) (σ.1 0 45) ((σ.1 0 44) + 1) 0
/-- it looks the arguments over -/
theorem pl_c166 {rc : pr_St → Int32 → Int32 → Int32 → Int32 → Option pr_St} {T : pl_Tx} {m : Nat} {rep : Nat → Nat} {A E : List (Nat × Bool)} {σ τ : pr_St} {k lF : Nat} {e : pl_N} {o x2 x4 x5 : Int32} (h : pl_ls T m rep A E σ τ) (hk : k + lF < 12900) (h17 : τ.2.1 17 k = nI lF) (h13 : ¬ τ.2.1 13 k = 14) : ∀ (Gs : List (List pl_N × List pl_O)) (A0 : List pl_N) (k0 f : Nat), k0 = k + 1 + A0.length → k0 + (pl_catF Gs).length = k + lF → pl_nd T τ m rep k0 (pl_catF Gs) → pl_wh τ k o (e :: (A0 ++ pl_catF Gs)) → e.2.2.2 = 1 + (A0 ++ pl_catF Gs).length → pl_ns A0 → (∀ x, x ∈ Gs → pl_sm T 190 x.1 x.2) → Gs.length + 1 ≤ f → ((∀ c, c ∈ pl_cl false (pl_catF Gs) → pl_yes T E c) → prf_X_call_166 rc f τ (nI k) x2 x4 x5 (nI k0) = pl_166e rc τ (nI k) x2 x4 x5) ∧ (∀ w pt, pl_bad T E (pl_cl false (pl_catF Gs)) w pt → prf_X_call_166 rc f τ (nI k) x2 x4 x5 (nI k0) = some (pl_wX T τ w pt)) := by
  intro Gs
  induction Gs with
  | nil =>
    intro A0 k0 f h0 h1 _ _ _ _ _ hf
    obtain ⟨f, rfl⟩ : ∃ z, f = z + 1 := ⟨f - 1, by omega⟩
    have h1' : k0 + 0 = k + lF := h1
    refine ⟨fun _ => ?_, fun w pt hb => ?_⟩
    · rw [prf_X_call_166, pl_behX (by omega) h17, pl_sb, if_pos (show nI (k + lF) ≤ nI k0 from nI_le (by omega) (by omega))]
      rfl
    · obtain ⟨C1, c, C2, eC, _⟩ := hb
      cases C1 <;> cases eC
  | cons G l ih =>
    intro A0 k0 f h0 h1 hnd hwh hsz hA0 hsm hf
    obtain ⟨f, rfl⟩ : ∃ z, f = z + 1 := ⟨f - 1, by omega⟩
    have hG := hsm G (List.mem_cons_self ..)
    have ec : pl_catF (G :: l) = G.1 ++ pl_catF l := rfl
    have el : (pl_catF (G :: l)).length = G.1.length + (pl_catF l).length := by rw [ec, List.length_append]
    obtain ⟨n1, n2⟩ := pl_nd_l G.1 (pl_catF l) k0 hnd
    obtain ⟨e0, l0, eG, hgz⟩ := pl_sm_ro hG
    have e17 : τ.2.1 17 k0 = nI G.1.length := by
      rw [← hgz]
      have n1' := n1
      rw [eG] at n1'
      exact n1'.1.2.2.2.2
    have hpos : 1 ≤ G.1.length := by rw [eG, List.length_cons]; omega
    have wG : pl_wh τ k0 (nI k) G.1 := by
      rw [h0]
      exact pl_wh_c (A := A0) (G := G.1) (C := pl_catF l) hwh (by rw [ec, List.append_assoc]) hsz hA0 (pl_sm_ro hG)
    obtain ⟨l1, l2⟩ := pl_lkX h n1 wG (pl_sm_xf _ _ _ hG) (pl_sm_vn _ _ _ hG).2 (pl_sm_ro hG) (by omega) (by omega) h13
    rw [List.length_cons] at hf
    obtain ⟨i1, i2⟩ := ih (A0 ++ G.1) (k0 + G.1.length) f (by rw [List.length_append]; omega) (by omega) n2 (by rw [List.append_assoc]; exact hwh) (by rw [List.append_assoc]; exact hsz) (pl_ns_app _ _ hA0 (pl_sm_vn _ _ _ hG).2) (fun x hx => hsm x (List.mem_cons_of_mem _ hx)) (by omega)
    have ecl : pl_cl false (pl_catF (G :: l)) = pl_cl false G.1 ++ pl_cl false (pl_catF l) := by
      rw [ec, pl_cl_app, pl_sm_l14 _ _ _ hG]
    have step : prf_X_call_166 rc (f + 1) τ (nI k) x2 x4 x5 (nI k0) = (prf_X_lookAll τ (nI k0)).bind fun r55 => if r55.1 = 0 then some r55.2 else (prf_X_behind r55.2 (nI k0)).bind fun r57 => prf_X_call_166 rc f r55.2 (nI k) x2 x4 x5 r57 := by
      rw [prf_X_call_166, pl_behX (by omega) h17, pl_sb, if_neg (nI_ge (by omega) (by omega))]
    rw [step, ecl]
    refine ⟨fun hall => ?_, fun w pt hb => ?_⟩
    · rw [l1 (fun c hc => hall c (List.mem_append_left _ hc)), pl_sb, if_neg (show ¬ ((1 : Int32), τ).1 = 0 from pl_10), pl_behX (τ := ((1 : Int32), τ).2) (by omega) e17, pl_sb]
      exact i1 (fun c hc => hall c (List.mem_append_right _ hc))
    · rcases pl_bad_app hb with hb1 | ⟨hy, hb2⟩
      · rw [l2 w pt hb1, pl_sb, if_pos rfl]
      · rw [l1 hy, pl_sb, if_neg (show ¬ ((1 : Int32), τ).1 = 0 from pl_10), pl_behX (τ := ((1 : Int32), τ).2) (by omega) e17, pl_sb]
        exact i2 w pt hb2
/-- which function it means -/
theorem pl_call31 {rc : pr_St → Int32 → Int32 → Int32 → Int32 → Option pr_St} {T : pl_Tx} {m : Nat} {rep : Nat → Nat} {Ps : List pl_En} {σ τ : pr_St} (h : pl_bs T m rep Ps σ τ) {fi k n0 idn : Nat} {x2 : Int32} (hfi : fi < Ps.length) (hk : k < 12990) (hw : prf_X_whichFunction τ (nI k) = some (nI (1 + pl_tF (Ps.take fi)))) (h14 : τ.2.1 14 (k + 2) = nI (pl_xP T n0)) (h15 : τ.2.1 15 (k + 2) = nI idn) (hid : idn < m) (hsn : pl_sn T (rep idn) n0) (h47 : τ.1 0 47 = 0) : (pl_mn T Ps fi n0 → prf_X_call_31 rc τ (nI k) x2 (nI (k + 2)) = some (pl_wX T τ 4 n0)) ∧ (∀ j e, pl_mf T Ps fi n0 j → Ps[j]? = some e → prf_X_call_31 rc τ (nI k) x2 (nI (k + 2)) = prf_X_call_91 rc pr_FU τ (nI k) x2 (nI (k + 2)) (nI (1 + pl_tF (Ps.take j))) (nI e.2.1) (nI 0) (nI (k + 3))) := by
  have hF : pr_FU = 100000 := rfl
  have hm := h.2.2.2.1
  have h889 := h.2.2.2.2.2.1
  have e1 : nI (1 + pl_tF (Ps.take 0)) = 1 := rfl
  have hX := pl_mfX h hfi hid hsn Ps.length 0 pr_FU (-1) (by omega) (by rw [hF]; omega) (Or.inr ⟨fun i e hi _ => by rw [Nat.zero_min] at hi; omega, rfl⟩)
  rw [e1] at hX
  unfold prf_X_call_31 prf_X_functionOf
  rw [pl_ck (by omega) (by omega), hw, pl_sb, nI_clamp (by omega), h15]
  have h470 : τ.1 0 47 ≤ 0 := by rw [h47]; exact Int32.le_refl _
  constructor
  · intro hmn
    rcases hX with ⟨y, hy, _⟩ | ⟨_, ey⟩
    · exact (pl_mf_n hy hmn).elim
    · rw [ey, pl_sb]
      unfold prf_X_call_48
      rw [if_pos h470, if_pos rfl, pl_wrX h47 (by omega) h14, pl_sb]
  · intro j e hj he
    rcases hX with ⟨y, hy, ey⟩ | ⟨hn, _⟩
    · have := pl_mf_u hy hj
      subst this
      obtain ⟨sf, qf, g⟩ := pl_fn_get h he
      obtain ⟨z1, z2, z3, z4, z5, z6⟩ := pl_bd_fn h g
      have hnd : pl_nd T τ m rep (1 + pl_tF (Ps.take y)) (pl_eF e) := g.2.2.1.2.2.2.1
      have elen := pl_eF_len e
      rw [ey, pl_sb]
      unfold prf_X_call_48
      rw [if_pos h470, if_neg (pl_nIm1 (by omega)), pl_blkX hnd (by omega), pl_sb, nI_1, show k + 2 + 1 = k + 3 from rfl]
      have en : nI (1 + pl_tF (Ps.take y) + 2 + e.2.1) - nI (1 + pl_tF (Ps.take y)) - 2 = nI e.2.1 := by
        rw [pk_sub (by omega), show 1 + pl_tF (Ps.take y) + 2 + e.2.1 - (1 + pl_tF (Ps.take y)) = e.2.1 + 2 by omega]
        exact (pk_sub (a := e.2.1 + 2) (b := 2) (by omega)).trans (by rw [show e.2.1 + 2 - 2 = e.2.1 by omega])
      rw [en]
      rfl
    · exact (pl_mf_n hj hn).elim
