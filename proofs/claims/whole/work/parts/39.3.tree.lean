/-! KEEPING: a function; what all nodes have -/
theorem pl_keep {T : pl_Tx} {σ τ : pr_St} {d l h n m lo hi : Nat} {rep : Nat → Nat} {F : List pl_N} (tr : pl_tr τ (pl_xP T) l h d F) (h26 : h ≤ 26000) (htt : pl_tt T σ τ) (hn : τ.1 0 24 = nI n) (hn0 : 0 < n) (hNT : pl_NT T τ m rep lo) (hni : pl_ni F lo hi) (hhi : hi ≤ pl_xc T) (hv : pl_v13 T F) (hlen : n + F.length ≤ 12900) (h16 : τ.2.1 16 0 = -1) : ∃ (τ' : pr_St) (m' : Nat) (rep' : Nat → Nat), prf_X_keep τ (nI d) = some τ' ∧ pl_KR T σ τ τ' n (n + F.length) m m' rep rep' 0 [0] ∧ pl_NT T τ' m' rep' hi ∧ pl_nd T τ' m' rep' n F ∧ pl_wh τ' n (nI 0) F := by
  obtain ⟨_, h11, f, hfl⟩ := tr
  cases f with
  | zero => exact hfl.elim
  | succ f =>
    obtain ⟨hiv, k, t, val, ce, eF, r6, r7, r8, hce, hks⟩ := hfl
    have hd : d < 26000 := by have := hiv.2; omega
    have hpa : pl_pa τ 0 [0] := ⟨rfl, Or.inl ⟨rfl, h16⟩⟩
    subst eF
    have hmem := hv _ (List.mem_cons_self ..)
    obtain ⟨nic1, nic2⟩ := pl_ni_cons hni
    rw [List.length_cons] at hlen
    obtain ⟨τ1, m1, rep1, st1, kr1, nt1, nd1, w16, w17, r12⟩ := pl_keep1 (x1 := d) (top := 0) htt hd r6 r7 r8 hmem.1 (fun q => ⟨(hmem.2 q).1, (hmem.2 q).2, (nic1 q).1, by have z : t < hi := (nic1 q).2; omega⟩) hn hNT (by omega) (by omega) hn0 hpa
    have fr1 := kr1.2.2.2.2.2.1
    have rows1 : ∀ r, 6 ≤ r → r ≤ 11 → τ1.2.1 r = τ.2.1 r := by
      intro r h1 h2
      refine fr1.2.1 r ?_
      unfold pl_GK
      simp only [Bool.or_eq_false_iff, beq_eq_false_iff_ne]
      omega
    have hpa1 : pl_pa τ1 0 [0] := pl_pa_eq [0] 0 (fun z hz => kr1.2.2.2.2.2.2.2.1 16 z (by decide) (by decide) (by omega)) hpa
    have hpan : pl_pa τ1 n [n, 0] := ⟨rfl, Or.inr ⟨0, hn0, w16, hpa1⟩⟩
    have hF : pr_FU = 100000 := rfl
    obtain ⟨g, hg⟩ : ∃ g, pr_FU = (pl_cat ce).length + (g + 1) + 1 := ⟨pr_FU - (pl_cat ce).length - 2, by rw [hF]; omega⟩
    have eq0 := st1 ((pl_cat ce).length + (g + 1))
    rw [if_pos h11] at eq0
    have e0 : prf_X_keep τ (nI d) = prf_X_keep_102 (prf_X_keep_7 ((pl_cat ce).length + (g + 1))) τ1 (nI d) (nI 0) (nI d) (nI 0) (nI n) := by
      unfold prf_X_keep
      rw [hg]
      exact eq0
    have efin : ∀ τ2 : pr_St, pl_cont (g + 1) τ2 d 0 = some τ2 := fun τ2 => if_pos rfl
    cases hcs : ce with
    | nil =>
      subst hcs
      have h9 : τ1.2.1 9 d = -1 := by rw [rows1 9 (by decide) (by decide)]; exact hce
      refine ⟨τ1, m1, rep1, ?_, kr1, ?_, ⟨⟨nd1.1, nd1.2.1, nd1.2.2.1, nd1.2.2.2, w17⟩, trivial⟩, ?_⟩
      · rw [e0]
        show prf_X_keep_102 (prf_X_keep_7 (0 + (g + 1))) τ1 (nI d) (nI 0) (nI d) (nI 0) (nI n) = _
        rw [Nat.zero_add, pl_cont0 (by omega) (Or.inl rfl) hd h9, efin]
      · obtain ⟨u1, u2, u3, u4, u5, u6⟩ := nt1
        have hle : (if k = 13 then t + 1 else lo) ≤ hi := nic2
        exact ⟨u1, u2, u3, u4, u5, fun t' h1 h2 h3 => u6 t' (by omega) h2 h3⟩
      · exact pl_wh_node (cs := []) w16 trivial (fun x hx => by cases hx)
    | cons x ll =>
      rw [← hcs]
      have hne : ce ≠ [] := by rw [hcs]; exact List.cons_ne_nil _ _
      have h9 : ¬ τ1.2.1 9 d = -1 := by
        rw [rows1 9 (by decide) (by decide)]
        have hce' := hce
        have hks' := hks
        rw [hcs] at hce' hks'
        rw [hce'.1]
        exact pl_nIm1 (by
          have := (pl_ks_in (fun _ _ _ => pl_fl_in) _ _ hks' x (List.mem_cons_self ..)).1.2
          omega)
      have hksp : pl_ks (pl_fl τ1.2.1 (pl_xP T) f) (fun z => pl_iv l h z ∧ z ≠ d) ce := pl_ks_Q _ _ (fun S2 z F2 hs2 hz => pl_fl_eq f S2 z F2 (fun w hw => ⟨by rw [rows1 6 (by decide) (by decide)], by rw [rows1 7 (by decide) (by decide)], by rw [rows1 8 (by decide) (by decide)], by rw [rows1 9 (by decide) (by decide)]⟩) (fun w hw _ => by rw [rows1 11 (by decide) (by decide)]) hz) hks
      have hchp : pl_ch τ1.2.1 (τ1.2.1 9 d) ce := by
        rw [rows1 9 (by decide) (by decide)]
        exact pl_ch_eq ce _ (fun z _ => by rw [rows1 11 (by decide) (by decide)]) hce
      obtain ⟨τ2, m2, rep2, i1, i2, i3, i4, i5⟩ := pl_keepC d hd f ce (fun z => pl_iv l h z ∧ z ≠ d) (τ1.2.1 9 d) n 0 (n + 1) m1 (if k = 13 then t + 1 else lo) hi g rep1 [n, 0] τ1 hne hksp hchp (fun z hz => ⟨by have := hz.1.2; omega, hz.2⟩) kr1.1 kr1.2.1 nt1 nic2 hhi (fun x hx => hv x (List.mem_cons_of_mem _ hx)) (by omega) (by omega) (Or.inl rfl) (by omega) hpan
      obtain ⟨k1, k2, k3, k4, k5, k6, k7, k8, k9⟩ := i2
      obtain ⟨c1, c2, c3, c4, c5, c6, c7, c8, c9⟩ := kr1
      refine ⟨τ2, m2, rep2, ?_, ⟨k1, ?_, by omega, by omega, fun j hj => (k5 j (by omega)).trans (c5 j hj), c6.tr k6, fun z hz => absurd hz (Nat.not_lt_zero _), fun r z h1 h2 hz => (k8 r z h1 h2 (by omega)).trans (c8 r z h1 h2 hz), fun j hj => ?_⟩, i3, ⟨⟨?_, ?_, fun q => ?_, fun q => ?_, ?_⟩, i4⟩, ?_⟩
      · rw [e0, pl_102d hd h9, i1, efin]
      · rw [List.length_cons, k2, show n + 1 + (pl_cat ce).length = n + ((pl_cat ce).length + 1) by omega]
      · rw [k9 j (by omega), c9 j hj, List.length_cons]
        by_cases hj0 : j = 0
        · rw [if_pos (show j ∈ [n, 0] by rw [hj0]; simp), if_pos (show j ∈ [0] by rw [hj0]; simp), if_pos (show j ∈ [0] by rw [hj0]; simp), Int32.add_assoc, nI_add, show n + 1 - n + (n + 1 + (pl_cat ce).length - (n + 1)) = n + ((pl_cat ce).length + 1) - n by omega]
        · rw [if_neg (show ¬ j ∈ [n, 0] by simp; omega), if_neg (show ¬ j ∈ [0] by simpa using hj0), if_neg (show ¬ j ∈ [0] by simpa using hj0)]
      · rw [k8 13 n (by decide) (by decide) (by omega)]; exact nd1.1
      · rw [k8 14 n (by decide) (by decide) (by omega)]; exact nd1.2.1
      · obtain ⟨id, q1, q2, q3⟩ := nd1.2.2.1 q
        exact ⟨id, by rw [k8 15 n (by decide) (by decide) (by omega)]; exact q1, by omega, by rw [k5 id q2]; exact q3⟩
      · rw [k8 15 n (by decide) (by decide) (by omega)]; exact nd1.2.2.2 q
      · rw [k9 n (by omega), if_pos (List.mem_cons_self ..), w17, nI_add, show n + 1 + (pl_cat ce).length - (n + 1) = (pl_cat ce).length by omega]
      · exact pl_wh_node (by rw [k8 16 n (by decide) (by decide) (by omega)]; exact w16) i5 (fun x hx => pl_ks_ns ce _ hks x hx)
/-! kinds and values of all nodes, and that their sizes nest -/
theorem pl_v13_app {T : pl_Tx} {A C : List pl_N} (h1 : pl_v13 T A) (h2 : pl_v13 T C) : pl_v13 T (A ++ C) := by
  intro e he
  rcases List.mem_append.mp he with he | he
  · exact h1 e he
  · exact h2 e he
theorem pl_v13_cons {T : pl_Tx} {e : pl_N} {l : List pl_N} (h0 : e.1 < 64) (h1 : ¬ e.1 = 13) (h2 : pl_v13 T l) : pl_v13 T (e :: l) := by
  intro x hx
  rcases List.mem_cons.mp hx with rfl | hx
  · exact ⟨h0, fun q => absurd q h1⟩
  · exact h2 x hx
theorem pl_v13_name {T : pl_Tx} {t s : Nat} {l : List pl_N} (hk : pl_xK T t = 2) (h2 : pl_v13 T l) : pl_v13 T ((13, t, nI t, s) :: l) := by
  intro x hx
  rcases List.mem_cons.mp hx with rfl | hx
  · exact ⟨by show 13 < 64; decide, fun _ => ⟨rfl, hk⟩⟩
  · exact h2 x hx
theorem pl_v13_nil {T : pl_Tx} : pl_v13 T [] := fun e he => by cases he
/-- both at once -/
def pl_vn (T : pl_Tx) (F : List pl_N) : Prop := pl_v13 T F ∧ pl_ns F
theorem pl_vn_app {T : pl_Tx} {A C : List pl_N} (h1 : pl_vn T A) (h2 : pl_vn T C) : pl_vn T (A ++ C) := ⟨pl_v13_app h1.1 h2.1, pl_ns_app _ _ h1.2 h2.2⟩
theorem pl_vn_cons {T : pl_Tx} {k t s : Nat} {v : Int32} {l : List pl_N} (h2 : pl_vn T l) (h0 : k < 64) (h1 : ¬ k = 13) (hs : 1 ≤ s) (hs2 : s ≤ 1 + l.length) : pl_vn T ((k, t, v, s) :: l) := ⟨pl_v13_cons h0 h1 h2.1, ⟨hs, hs2⟩, h2.2⟩
theorem pl_vn_name {T : pl_Tx} {t : Nat} {l : List pl_N} (hk : pl_xK T t = 2) (h2 : pl_vn T l) : pl_vn T ((13, t, nI t, 1) :: l) := ⟨pl_v13_name hk h2.1, ⟨Nat.le_refl _, by show 1 ≤ 1 + l.length; omega⟩, h2.2⟩
theorem pl_vn_nil {T : pl_Tx} : pl_vn T [] := ⟨pl_v13_nil, trivial⟩
theorem pl_sm_vn {T : pl_Tx} : ∀ (f : Nat) (F : List pl_N) (O : List pl_O), pl_sm T f F O → pl_vn T F := by
  intro f
  induction f with
  | zero => intro F O h; exact h.elim
  | succ f ih =>
    intro F O h
    rcases h with ⟨t, h0, rfl, _⟩ | ⟨t, h0, rfl, _⟩ | ⟨t, G, Q, h0, rfl, _, h3⟩ | ⟨t, G, Q, rfl, _, h3⟩ | ⟨t, h0, h1, rfl, _⟩ | ⟨t, h0, h1, rfl, _⟩ | ⟨k, t, G, Q, Ls, h0, rfl, _, h3, h4⟩
    · exact pl_vn_cons pl_vn_nil (by decide) (by decide) (by decide) (by decide)
    · exact pl_vn_name h0 pl_vn_nil
    · exact pl_vn_cons (pl_vn_name h0 (ih _ _ h3)) (by decide) (by decide) (by omega) (by rw [List.length_cons]; omega)
    · exact pl_vn_cons (ih _ _ h3) (by decide) (by decide) (by omega) (Nat.le_refl _)
    · exact pl_vn_cons pl_vn_nil (by decide) (by decide) (by decide) (by decide)
    · exact pl_vn_cons (pl_vn_cons (pl_vn_cons pl_vn_nil (by decide) (by decide) (by decide) (by decide)) (by decide) (by decide) (by decide) (by show 1 ≤ 1 + 1; decide)) (by decide) (by decide) (by decide) (by show 3 ≤ 1 + 2; decide)
    · have hcat : ∀ l : List (Nat × Nat × List pl_N × List pl_O), (∀ e, e ∈ l → (18 ≤ e.1 ∧ e.1 ≤ 23 ∧ e.1 ≠ 20) ∧ pl_sm T f e.2.2.1 e.2.2.2) → pl_vn T (pl_catN l) := by
        intro l
        induction l with
        | nil => intro _; exact pl_vn_nil
        | cons e l ihl =>
          intro hl
          have he := hl e (List.mem_cons_self ..)
          show pl_vn T (((e.1, e.2.1, 0, 1 + e.2.2.1.length) :: e.2.2.1) ++ pl_catN l)
          exact pl_vn_app (pl_vn_cons (ih _ _ he.2) (by omega) (by omega) (by omega) (Nat.le_refl _)) (ihl (fun x hx => hl x (List.mem_cons_of_mem _ hx)))
      exact pl_vn_cons (pl_vn_app (ih _ _ h3) (hcat Ls h4)) (by omega) (by omega) (by omega) (Nat.le_refl _)
theorem pl_cd_vn {T : pl_Tx} : ∀ (f q : Nat) (F : List pl_N) (O : List pl_O), pl_cd T f q F O → pl_vn T F := by
  intro f
  induction f with
  | zero => intro q F O h; exact h.elim
  | succ f ih =>
    intro q F O h
    rcases h with ⟨k, t, F1, F2, O1, O2, h0, rfl, _, h3, h4⟩ | ⟨t, G, Q, rfl, _, h3⟩ | ⟨k, t, G, Q, Ls, h0, rfl, _, h3, h4⟩
    · exact pl_vn_cons (pl_vn_app (pl_sm_vn _ _ _ h3) (pl_sm_vn _ _ _ h4)) (by omega) (by omega) (by omega) (Nat.le_refl _)
    · exact pl_vn_cons (ih _ _ _ h3) (by decide) (by decide) (by omega) (Nat.le_refl _)
    · have hcat : ∀ (l : List (List pl_N × List pl_O)) (b : Nat), pl_cdl (pl_cd T f) b l → pl_vn T (pl_catF l) := by
        intro l
        induction l with
        | nil => intro b _; exact pl_vn_nil
        | cons e l ihl => intro b hl; exact pl_vn_app (ih _ _ _ hl.1) (ihl _ hl.2)
      exact pl_vn_cons (pl_vn_app (ih _ _ _ h3) (hcat Ls _ h4)) (by omega) (by omega) (by omega) (Nat.le_refl _)
theorem pl_lf_vn {T : pl_Tx} {s q : Nat} {E : List (Nat × Bool)} {F : List pl_N} {S : List pl_S} {O : List pl_O} (h : pl_lf T s q E F S O) : pl_vn T F := by
  rcases h with ⟨t, h0, h1, h2, rfl, _⟩ | ⟨t, b, G, h0, h1, h2, h3, h4, h5, rfl, _⟩ | ⟨t, h0, h1, h2, h3, h4, h5, rfl, _⟩ | ⟨t, b, G, h0, h1, h2, h3, h4, h5, rfl, _⟩ | ⟨t, b, e, G, H, Q, R, h0, h1, h2, h3, h4, h5, h6, h7, h8, rfl, _⟩ | ⟨t, n0, e, x0, Gs, h0, h1, h2, h3, h4, rfl, h5, h6, h7⟩ | ⟨t, b, C, h0, h1, h2, h3, h4, h5, rfl, _⟩ | ⟨t, b, G, h0, h1, h2, h3, rfl, _⟩
  · exact pl_vn_cons (pl_vn_name h1 pl_vn_nil) (by decide) (by decide) (by decide) (by show 2 ≤ 1 + 1; decide)
  · exact pl_vn_cons (pl_vn_name h1 (pl_sm_vn _ _ _ h5)) (by decide) (by decide) (by omega) (by rw [List.length_cons]; omega)
  · exact pl_vn_cons (pl_vn_name h1 (pl_vn_cons pl_vn_nil (by decide) (by decide) (by decide) (by decide))) (by decide) (by decide) (by decide) (by show 3 ≤ 1 + 2; decide)
  · exact pl_vn_cons (pl_vn_name h0 (pl_sm_vn _ _ _ h5)) (by decide) (by decide) (by omega) (by rw [List.length_cons]; omega)
  · exact pl_vn_cons (pl_vn_name h0 (pl_vn_app (pl_sm_vn _ _ _ h7) (pl_sm_vn _ _ _ h8))) (by decide) (by decide) (by omega) (by rw [List.length_cons]; omega)
  · have hcat : ∀ l : List (List pl_N × List pl_O), (∀ x, x ∈ l → pl_sm T 190 x.1 x.2) → pl_vn T (pl_catF l) := by
      intro l
      induction l with
      | nil => intro _; exact pl_vn_nil
      | cons x l ihl => intro hl; exact pl_vn_app (pl_sm_vn _ _ _ (hl x (List.mem_cons_self ..))) (ihl (fun y hy => hl y (List.mem_cons_of_mem _ hy)))
    rcases h1 with ⟨rfl, h1, rfl⟩ | ⟨rfl, h1, h1', h1'', rfl⟩
    · exact pl_vn_cons (pl_vn_cons (pl_vn_name h0 (hcat Gs h7)) (by decide) (by decide) (by decide) (by omega)) (by decide) (by decide) (by omega) (by rw [List.length_cons, List.length_cons]; omega)
    · exact pl_vn_cons (pl_vn_name h0 (pl_vn_name h1' (hcat Gs h7))) (by decide) (by decide) (by omega) (by rw [List.length_cons, List.length_cons]; omega)
  · exact pl_vn_cons (pl_cd_vn _ _ _ _ h5) (by decide) (by decide) (by omega) (Nat.le_refl _)
  · exact pl_vn_cons (pl_sm_vn _ _ _ h3) (by decide) (by decide) (by omega) (Nat.le_refl _)
theorem pl_bl_vn {T : pl_Tx} {Q : Nat → Nat → List (Nat × Bool) → List pl_N → List pl_S → List pl_O → Prop} (hQ : ∀ s q E F S O, Q s q E F S O → pl_vn T F) : ∀ (l : List (List pl_N × List pl_S × List pl_O)) (s q : Nat) (E : List (Nat × Bool)), pl_bl (pl_xK T) Q s q E l → pl_vn T (pl_b1 l) := by
  intro l
  induction l with
  | nil => intro s q E _; exact pl_vn_nil
  | cons e l ih => intro s q E h; exact pl_vn_app (hQ _ _ _ _ _ _ h.1) (ih _ _ _ h.2)
theorem pl_sT_vn {T : pl_Tx} : ∀ (f s q : Nat) (E : List (Nat × Bool)) (F : List pl_N) (S : List pl_S) (O : List pl_O), pl_sT T f s q E F S O → pl_vn T F := by
  intro f
  induction f with
  | zero => intro s q E F S O h; exact h.elim
  | succ f ih =>
    intro s q E F S O h
    have hbk : ∀ s q E B S O, pl_bk (pl_xK T) (pl_sT T f) s q E B S O → pl_vn T B := by
      intro s q E B S O hb
      obtain ⟨t, Ls, rfl, _, _, h4⟩ := hb
      exact pl_vn_cons (pl_bl_vn ih _ _ _ _ h4) (by decide) (by decide) (by omega) (Nat.le_refl _)
    rcases h with h | ⟨k, t, b, C, Qc, B1, S1, O1, B2, S2, O2, h1, h2, h3, h4, h5, h6, h7, h8, rfl, _⟩
    · exact pl_lf_vn h
    · have hB2 : pl_vn T B2 := by
        rcases h8 with ⟨rfl, _⟩ | h8
        · exact pl_vn_nil
        · exact hbk _ _ _ _ _ _ h8
      exact pl_vn_cons (pl_vn_app (pl_vn_app (pl_cd_vn _ _ _ _ h6) (hbk _ _ _ _ _ _ h7)) hB2) (by omega) (by omega) (by omega) (Nat.le_refl _)
theorem pl_par_vn {T : pl_Tx} : ∀ n t : Nat, (∀ j, j < n → pl_xK T (t + 2 * j) = 2) → pl_vn T (pl_par t n) := by
  intro n
  induction n with
  | zero => intro t _; exact pl_vn_nil
  | succ n ih =>
    intro t h
    exact pl_vn_name (h 0 (by omega)) (ih (t + 2) (fun j hj => by rw [show t + 2 + 2 * j = t + 2 * (j + 1) by omega]; exact h (j + 1) (by omega)))
