/-! KEEPING: a tree of drafts, whole -/
theorem pl_cont0 {g : Nat} {τ : pr_St} {x1 top : Nat} {x4 : Int32} (h26 : top < 26000) (h : top = 0 ∨ 2 ≤ top) {y n : Nat} (hy : y < 26000) (h9 : τ.2.1 9 y = -1) : prf_X_keep_102 (prf_X_keep_7 (g + 1)) τ (nI x1) (nI top) (nI y) x4 (nI n) = pl_cont (g + 1) τ x1 top := by
  unfold prf_X_keep_102 pl_cont
  rw [pl_ck hy (by omega), nI_clamp (by omega), if_pos h9]
  rcases h with rfl | h
  · rw [if_pos (show nI 0 ≤ 0 by decide), if_pos rfl, prf_X_keep_7, if_pos rfl]
  · have e1 : nI (top - 2) + 1 = nI (top - 1) := by rw [nI_1, show top - 2 + 1 = top - 1 by omega]
    rw [if_neg (show ¬ nI top ≤ 0 from nI_nle (by omega) (by omega)), if_neg (by omega), pl_nI2 h, pl_ck (by omega) (by omega), e1, pl_ck (by omega) (by omega), nI_clamp (by omega), nI_clamp (by omega)]
theorem pl_102d {g : Nat} {τ : pr_St} {x1 top y n : Nat} {x4 : Int32} (hy : y < 26000) (h9 : ¬ τ.2.1 9 y = -1) : prf_X_keep_102 (prf_X_keep_7 g) τ (nI x1) (nI top) (nI y) x4 (nI n) = prf_X_keep_7 g τ (nI x1) (nI top) (τ.2.1 9 y) (nI n) := by
  unfold prf_X_keep_102
  rw [pl_ck hy (by omega), nI_clamp (by omega), if_neg h9, pl_ck hy (by omega)]
theorem pl_pile_rows {τ : pr_St} {top : Nat} {v : Int32} {o : Nat} : (pl_pile τ top v o).1 = τ.1 ∧ (∀ r, ¬ r = 12 → (pl_pile τ top v o).2.1 r = τ.2.1 r) ∧ (∀ z, z < top → (pl_pile τ top v o).2.1 12 z = τ.2.1 12 z) ∧ (pl_pile τ top v o).2.1 12 top = v ∧ (pl_pile τ top v o).2.1 12 (top + 1) = nI o ∧ pl_fr pl_FK pl_GK τ (pl_pile τ top v o) := by
  have e : (pl_pile τ top v o).2.1 12 = upd (upd (τ.2.1 12) top v) (top + 1) (nI o) := rfl
  refine ⟨rfl, fun r hr => ?_, fun z hz => ?_, ?_, ?_, ?_⟩
  · unfold pl_pile
    rw [pl_sA_ne hr, pl_sA_ne hr]
  · rw [e, pk_un (by omega), pk_un (by omega)]
  · rw [e, pk_un (by omega), pk_us]
  · rw [e, pk_us]
  · exact (pl_sA_fr (o := 12) rfl).tr (pl_sA_fr (o := 12) rfl)
theorem pl_NT_eq {T : pl_Tx} {τ τ' : pr_St} {m lo : Nat} {rep : Nat → Nat} (h : pl_NT T τ m rep lo) (h27 : τ'.1 0 27 = τ.1 0 27) (h18 : τ'.2.1 18 = τ.2.1 18) (h19 : τ'.2.1 19 = τ.2.1 19) : pl_NT T τ' m rep lo := by
  obtain ⟨q1, q2, q3, q4, q5, q6⟩ := h
  exact ⟨by rw [h27]; exact q1, fun j hj => by rw [h19]; exact q2 j hj, fun j hj i hi => by rw [h18]; exact q3 j hj i hi, q4, q5, q6⟩
theorem pl_ni_cons {e : pl_N} {l : List pl_N} {lo hi : Nat} (h : pl_ni (e :: l) lo hi) : (e.1 = 13 → lo ≤ e.2.1 ∧ e.2.1 < hi) ∧ pl_ni l (if e.1 = 13 then e.2.1 + 1 else lo) hi := by
  unfold pl_ni at h
  by_cases q : e.1 = 13
  · rw [if_pos q] at h ⊢
    exact ⟨fun _ => ⟨h.1, by have := pl_ni_le _ _ _ h.2; omega⟩, h.2⟩
  · rw [if_neg q] at h ⊢
    exact ⟨fun z => absurd z q, h⟩
theorem pl_ni_cut : ∀ (A C : List pl_N) (lo hi : Nat), pl_ni (A ++ C) lo hi → ∃ mid, pl_ni A lo mid ∧ pl_ni C mid hi := by
  intro A
  induction A with
  | nil => intro C lo hi h; exact ⟨lo, Nat.le_refl _, h⟩
  | cons e l ih =>
    intro C lo hi h
    rw [List.cons_append] at h
    unfold pl_ni at h
    by_cases q : e.1 = 13
    · rw [if_pos q] at h
      obtain ⟨mid, h1, h2⟩ := ih C _ _ h.2
      exact ⟨mid, by unfold pl_ni; rw [if_pos q]; exact ⟨h.1, h1⟩, h2⟩
    · rw [if_neg q] at h
      obtain ⟨mid, h1, h2⟩ := ih C _ _ h
      exact ⟨mid, by unfold pl_ni; rw [if_neg q]; exact h1, h2⟩
theorem pl_fl_ns {R : Nat → Nat → Int32} {P : Nat → Nat} : ∀ (f : Nat) (S : Nat → Prop) (y : Nat) (F : List pl_N), pl_fl R P f S y F → pl_ns F := by
  intro f
  induction f with
  | zero => intro S y F h; exact h.elim
  | succ f ih =>
    intro S y F h
    obtain ⟨_, k, t, v, cs, rfl, _, _, _, _, hks⟩ := h
    have hcat : ∀ (l : List (Nat × List pl_N)) (S : Nat → Prop), pl_ks (pl_fl R P f) S l → pl_ns (pl_cat l) := by
      intro l
      induction l with
      | nil => intro S _; trivial
      | cons e l ihl =>
        intro S hl
        obtain ⟨S1, h1, h2, h3⟩ := hl
        exact pl_ns_app _ _ (ih S1 _ _ h2) (ihl _ h3)
    exact ⟨⟨by show 1 ≤ 1 + _; omega, by show 1 + _ ≤ 1 + _; omega⟩, hcat cs _ hks⟩
theorem pl_ks_ns {R : Nat → Nat → Int32} {P : Nat → Nat} {f : Nat} : ∀ (l : List (Nat × List pl_N)) (S : Nat → Prop), pl_ks (pl_fl R P f) S l → ∀ e, e ∈ l → pl_ns e.2 := by
  intro l
  induction l with
  | nil => intro S _ e he; cases he
  | cons x l ihl =>
    intro S hl e he
    obtain ⟨S1, h1, h2, h3⟩ := hl
    rcases List.mem_cons.mp he with rfl | he
    · exact pl_fl_ns f S1 _ _ h2
    · exact ihl _ h3 e he
/-- the parts of a node, one behind the other -/
theorem pl_keepC {T : pl_Tx} {σ : pr_St} (x1 : Nat) (hx1 : x1 < 26000) : ∀ (f : Nat) (cs : List (Nat × List pl_N)) (S : Nat → Prop) (v : Int32) (o top n m lo hi g : Nat) (rep : Nat → Nat) (A : List Nat) (τ : pr_St), cs ≠ [] → pl_ks (pl_fl τ.2.1 (pl_xP T) f) S cs → pl_ch τ.2.1 v cs → (∀ z, S z → z < 26000 ∧ z ≠ x1) → pl_tt T σ τ → τ.1 0 24 = nI n → pl_NT T τ m rep lo → pl_ni (pl_cat cs) lo hi → hi ≤ pl_xc T → pl_v13 T (pl_cat cs) → n + (pl_cat cs).length ≤ 12900 → top ≤ 2 * n → (top = 0 ∨ 2 ≤ top) → o < n → pl_pa τ o A →
    ∃ (τ' : pr_St) (m' : Nat) (rep' : Nat → Nat), prf_X_keep_7 ((pl_cat cs).length + (g + 1)) τ (nI x1) (nI top) v (nI o) = pl_cont (g + 1) τ' x1 top ∧ pl_KR T σ τ τ' n (n + (pl_cat cs).length) m m' rep rep' top A ∧ pl_NT T τ' m' rep' hi ∧ pl_nd T τ' m' rep' n (pl_cat cs) ∧ pl_whs τ' (nI o) n cs := by
  intro f
  induction f with
  | zero =>
    intro cs S v o top n m lo hi g rep A τ hne hks
    cases cs with
    | nil => exact absurd rfl hne
    | cons e l => obtain ⟨S1, h1, h2, h3⟩ := hks; exact h2.elim
  | succ f ihf =>
    intro cs
    induction cs with
    | nil => intro S v o top n m lo hi g rep A τ hne; exact absurd rfl hne
    | cons e l ihl =>
      intro S v o top n m lo hi g rep A τ _ hks hch hS htt hn hNT hni hhi hv13 hlen htop htop2 ho hpa
      obtain ⟨S1, s1, s2, s3⟩ := hks
      have hch1 := hch.1
      have hch2 := hch.2
      obtain ⟨hyS, k, t, val, ce, eF, r6, r7, r8, hce, hkse⟩ := id s2
      have hy := (hS e.1 (s1 _ hyS)).1
      have hyx := (hS e.1 (s1 _ hyS)).2
      have ecat : pl_cat (e :: l) = e.2 ++ pl_cat l := rfl
      have elen : (pl_cat (e :: l)).length = 1 + (pl_cat ce).length + (pl_cat l).length := by
        rw [ecat, List.length_append, eF, List.length_cons]; omega
      rw [elen] at hlen
      have hmem : (k, t, val, 1 + (pl_cat ce).length) ∈ pl_cat (e :: l) := by
        rw [ecat, eF]; exact List.mem_append_left _ (List.mem_cons_self ..)
      have hv := hv13 _ hmem
      obtain ⟨mid, ni1, ni2⟩ := pl_ni_cut e.2 (pl_cat l) lo hi (by rw [← ecat]; exact hni)
      rw [eF] at ni1
      obtain ⟨nic1, nic2⟩ := pl_ni_cons ni1
      have hmid := pl_ni_le _ _ _ ni2
      obtain ⟨τ1, m1, rep1, st1, kr1, nt1, nd1, w16, w17, r12⟩ := pl_keep1 (x1 := x1) (top := top) htt hy r6 r7 r8 hv.1 (fun q => ⟨(hv.2 q).1, (hv.2 q).2, (nic1 q).1, by have z : t < mid := (nic1 q).2; omega⟩) hn hNT (by omega) htop ho hpa
      have fr1 := kr1.2.2.2.2.2.1
      have rows1 : ∀ r, 6 ≤ r → r ≤ 11 → τ1.2.1 r = τ.2.1 r := by
        intro r h1 h2
        refine fr1.2.1 r ?_
        unfold pl_GK
        simp only [Bool.or_eq_false_iff, beq_eq_false_iff_ne]
        omega
      have hpa1 : pl_pa τ1 o A := pl_pa_eq A o (fun z hz => kr1.2.2.2.2.2.2.2.1 16 z (by decide) (by decide) (by omega)) hpa
      have hpan : pl_pa τ1 n (n :: A) := ⟨rfl, Or.inr ⟨o, ho, w16, hpa1⟩⟩
      have hAle := (pl_pa_le A o hpa).1
      have hnx : ¬ nI e.1 = nI x1 := fun q => hyx ((nI_eq (by omega) (by omega)).mp q)
      -- the node itself and what is below it: where the walk stands then
      have sub : ∀ (τp : pr_St) (topp G : Nat), pl_tt T σ τp → τp.1 = τ1.1 → (∀ r, ¬ r = 12 → τp.2.1 r = τ1.2.1 r) → topp ≤ 2 * (n + 1) → (topp = 0 ∨ 2 ≤ topp) → ∃ (τ2 : pr_St) (m2 : Nat) (rep2 : Nat → Nat), prf_X_keep_102 (prf_X_keep_7 ((pl_cat ce).length + (G + 1))) τp (nI x1) (nI topp) (nI e.1) (nI o) (nI n) = pl_cont (G + 1) τ2 x1 topp ∧ pl_tt T σ τ2 ∧ τ2.1 0 24 = nI (n + 1 + (pl_cat ce).length) ∧ m1 ≤ m2 ∧ (∀ j, j < m1 → rep2 j = rep1 j) ∧ pl_fr pl_FK pl_GK τp τ2 ∧ (∀ z, z < topp → τ2.2.1 12 z = τp.2.1 12 z) ∧ (∀ r z, 13 ≤ r → r ≤ 16 → z < n + 1 → τ2.2.1 r z = τ1.2.1 r z) ∧ (∀ j, j < n + 1 → τ2.2.1 17 j = if j ∈ n :: A then τ1.2.1 17 j + nI (pl_cat ce).length else τ1.2.1 17 j) ∧ pl_NT T τ2 m2 rep2 mid ∧ pl_nd T τ2 m2 rep2 (n + 1) (pl_cat ce) ∧ pl_whs τ2 (nI n) (n + 1) ce := by
        intro τp topp G ttp p1 p12 tp1 tp2
        have rowsp : ∀ r, 6 ≤ r → r ≤ 11 → τp.2.1 r = τ.2.1 r := fun r h1 h2 => (p12 r (by omega)).trans (rows1 r h1 h2)
        have ntp : pl_NT T τp m1 rep1 (if k = 13 then t + 1 else lo) := pl_NT_eq nt1 (by rw [p1]) (p12 18 (by decide)) (p12 19 (by decide))
        cases hcs : ce with
        | nil =>
          rw [hcs] at hce nic2
          have h9 : τp.2.1 9 e.1 = -1 := by rw [rowsp 9 (by decide) (by decide)]; exact hce
          refine ⟨τp, m1, rep1, ?_, ttp, by rw [p1]; exact kr1.2.1, Nat.le_refl _, fun _ _ => rfl, pl_fr.rf, fun _ _ => rfl, fun r z h1 h2 _ => by rw [p12 r (by omega)], fun j hj => ?_, ?_, trivial, trivial⟩
          · show prf_X_keep_102 (prf_X_keep_7 (0 + (G + 1))) τp (nI x1) (nI topp) (nI e.1) (nI o) (nI n) = _
            rw [Nat.zero_add]
            exact pl_cont0 (by omega) tp2 hy h9
          · rw [p12 17 (by decide)]
            show _ = if j ∈ n :: A then τ1.2.1 17 j + nI 0 else _
            have e0 : ∀ x : Int32, x + nI 0 = x := fun x => Int32.add_zero x
            rw [e0]
            by_cases q : j ∈ n :: A
            · rw [if_pos q]
            · rw [if_neg q]
          · obtain ⟨q1, q2, q3, q4, q5, q6⟩ := ntp
            have hle : (if k = 13 then t + 1 else lo) ≤ mid := nic2
            exact ⟨q1, q2, q3, q4, q5, fun t' h1 h2 h3 => q6 t' (by omega) h2 h3⟩
        | cons x ll =>
          rw [← hcs]
          have hne : ce ≠ [] := by rw [hcs]; exact List.cons_ne_nil _ _
          have h9 : ¬ τp.2.1 9 e.1 = -1 := by
            rw [rowsp 9 (by decide) (by decide)]
            rw [hcs] at hce hkse
            rw [hce.1]
            exact pl_nIm1 (by
              have := (hS x.1 (s1 _ (pl_ks_in (fun _ _ _ => pl_fl_in) _ _ hkse x (List.mem_cons_self ..)).1)).1
              omega)
          have hksp : pl_ks (pl_fl τp.2.1 (pl_xP T) f) (fun z => S1 z ∧ z ≠ e.1) ce := pl_ks_Q _ _ (fun S2 z F2 hs2 hz => pl_fl_eq f S2 z F2 (fun w hw => ⟨by rw [rowsp 6 (by decide) (by decide)], by rw [rowsp 7 (by decide) (by decide)], by rw [rowsp 8 (by decide) (by decide)], by rw [rowsp 9 (by decide) (by decide)]⟩) (fun w hw _ => by rw [rowsp 11 (by decide) (by decide)]) hz) hkse
          have hchp : pl_ch τp.2.1 (τp.2.1 9 e.1) ce := by
            rw [rowsp 9 (by decide) (by decide)]
            exact pl_ch_eq ce _ (fun z _ => by rw [rowsp 11 (by decide) (by decide)]) hce
          obtain ⟨τ2, m2, rep2, i1, i2, i3, i4, i5⟩ := ihf ce (fun z => S1 z ∧ z ≠ e.1) (τp.2.1 9 e.1) n topp (n + 1) m1 (if k = 13 then t + 1 else lo) mid G rep1 (n :: A) τp hne hksp hchp (fun z hz => hS z (s1 z hz.1)) ttp (by rw [p1]; exact kr1.2.1) ntp nic2 (by omega) (fun x hx => hv13 x (by rw [ecat, eF]; exact List.mem_append_left _ (List.mem_cons_of_mem _ hx))) (by omega) tp1 tp2 (by omega) (pl_pa_eq (n :: A) n (fun z _ => by rw [p12 16 (by decide)]) hpan)
          obtain ⟨k1, k2, k3, k4, k5, k6, k7, k8, k9⟩ := i2
          refine ⟨τ2, m2, rep2, ?_, k1, k2, k4, k5, k6, k7, fun r z h1 h2 hz => by rw [k8 r z h1 h2 hz, p12 r (by omega)], fun j hj => ?_, i3, i4, i5⟩
          · rw [pl_102d hy h9]; exact i1
          · rw [k9 j hj, p12 17 (by decide), show n + 1 + (pl_cat ce).length - (n + 1) = (pl_cat ce).length by omega]
      -- what the node and its parts leave, seen from before
      have krs : ∀ (τp τ2 : pr_St) (m2 : Nat) (rep2 : Nat → Nat), pl_fr pl_FK pl_GK τ1 τp → (∀ z, z < top → τp.2.1 12 z = τ1.2.1 12 z) → pl_tt T σ τ2 → τ2.1 0 24 = nI (n + 1 + (pl_cat ce).length) → m1 ≤ m2 → (∀ j, j < m1 → rep2 j = rep1 j) → pl_fr pl_FK pl_GK τp τ2 → (∀ z, z < top → τ2.2.1 12 z = τp.2.1 12 z) → (∀ r z, 13 ≤ r → r ≤ 16 → z < n + 1 → τ2.2.1 r z = τ1.2.1 r z) → (∀ j, j < n + 1 → τ2.2.1 17 j = if j ∈ n :: A then τ1.2.1 17 j + nI (pl_cat ce).length else τ1.2.1 17 j) → pl_nd T τ2 m2 rep2 (n + 1) (pl_cat ce) → pl_whs τ2 (nI n) (n + 1) ce → pl_KR T σ τ τ2 n (n + 1 + (pl_cat ce).length) m m2 rep rep2 top A ∧ pl_nd T τ2 m2 rep2 n e.2 ∧ pl_wh τ2 n (nI o) e.2 := by
        intro τp τ2 m2 rep2 z1 z2 z3 z4 z5 z6 z7 z8 z9 z10 z11 z12
        obtain ⟨k1, k2, k3, k4, k5, k6, k7, k8, k9⟩ := kr1
        refine ⟨⟨z3, z4, by omega, by omega, fun j hj => (z6 j (by omega)).trans (k5 j hj), (k6.tr z1).tr z7, fun z hz => ((z8 z hz).trans (z2 z hz)).trans (k7 z hz), fun r z h1 h2 hz => (z9 r z h1 h2 (by omega)).trans (k8 r z h1 h2 hz), fun j hj => ?_⟩, ?_, ?_⟩
        · rw [z10 j (by omega), k9 j hj]
          by_cases hA : j ∈ A
          · rw [if_pos (List.mem_cons_of_mem _ hA), if_pos hA, if_pos hA, Int32.add_assoc, nI_add, show n + 1 - n + (pl_cat ce).length = n + 1 + (pl_cat ce).length - n by omega]
          · rw [if_neg (fun q => by rcases List.mem_cons.mp q with q | q; omega; exact hA q), if_neg hA, if_neg hA]
        · rw [eF]
          refine ⟨⟨by rw [z9 13 n (by decide) (by decide) (by omega)]; exact nd1.1, by rw [z9 14 n (by decide) (by decide) (by omega)]; exact nd1.2.1, fun q => ?_, fun q => by rw [z9 15 n (by decide) (by decide) (by omega)]; exact nd1.2.2.2 q, ?_⟩, z11⟩
          · obtain ⟨id, q1, q2, q3⟩ := nd1.2.2.1 q
            exact ⟨id, by rw [z9 15 n (by decide) (by decide) (by omega)]; exact q1, by omega, by rw [z6 id q2]; exact q3⟩
          · rw [z10 n (by omega), if_pos (List.mem_cons_self ..), w17, nI_add]
        · rw [eF]
          refine pl_wh_node (by rw [z9 16 n (by decide) (by decide) (by omega)]; exact w16) z12 (fun x hx => ?_)
          exact pl_ks_ns ce _ hkse x hx
      cases hl : l with
      | nil =>
        rw [hl] at hch2 elen ni2 hlen ecat
        have h11 : τ.2.1 11 e.1 = -1 := hch2
        have eq0 := st1 ((pl_cat ce).length + (g + 1))
        rw [if_pos h11] at eq0
        obtain ⟨τ2, m2, rep2, j1, j2, j3, j4, j5, j6, j7, j8, j9, j10, j11, j12⟩ := sub τ1 top g kr1.1 rfl (fun _ _ => rfl) (by omega) htop2
        obtain ⟨q1, q2, q3⟩ := krs τ1 τ2 m2 rep2 pl_fr.rf (fun _ _ => rfl) j2 j3 j4 j5 j6 j7 j8 j9 j11 j12
        have hmh : mid ≤ hi := hmid
        refine ⟨τ2, m2, rep2, ?_, ?_, ?_, ?_, q3, trivial⟩
        · rw [elen, hch1, show 1 + (pl_cat ce).length + (pl_cat []).length + (g + 1) = (pl_cat ce).length + (g + 1) + 1 by show 1 + (pl_cat ce).length + 0 + (g + 1) = _; omega, eq0]
          exact j1
        · rw [elen, show n + (1 + (pl_cat ce).length + (pl_cat []).length) = n + 1 + (pl_cat ce).length by show n + (1 + (pl_cat ce).length + 0) = _; omega]
          exact q1
        · obtain ⟨u1, u2, u3, u4, u5, u6⟩ := j10
          exact ⟨u1, u2, u3, u4, u5, fun t' h1 h2 h3 => u6 t' (by omega) h2 h3⟩
        · rw [ecat]
          show pl_nd T τ2 m2 rep2 n (e.2 ++ [])
          rw [List.append_nil]
          exact q2
      | cons e' l' =>
        rw [← hl]
        have hlne : l ≠ [] := by rw [hl]; exact List.cons_ne_nil _ _
        have hnext : τ.2.1 11 e.1 = nI e'.1 := by rw [hl] at hch2; exact hch2.1
        have he' : e'.1 < 26000 := by
          rw [hl] at s3
          exact (hS e'.1 (pl_ks_in (fun _ _ _ => pl_fl_in) _ _ s3 e' (List.mem_cons_self ..)).1).1
        have h11 : ¬ τ.2.1 11 e.1 = -1 := by rw [hnext]; exact pl_nIm1 (by omega)
        have eq0 := st1 ((pl_cat ce).length + ((pl_cat l).length + g + 1))
        rw [if_neg h11, if_neg hnx] at eq0
        obtain ⟨p1, p2, p3, p4, p5, p6⟩ := pl_pile_rows (τ := τ1) (top := top) (v := τ.2.1 11 e.1) (o := o)
        have ttp : pl_tt T σ (pl_pile τ1 top (τ.2.1 11 e.1) o) := pl_tt_fr kr1.1 (pl_fr.rf (F := pl_FC) (G := pl_GC)) p6 ⟨rfl, rfl, rfl, rfl, rfl, rfl⟩ ⟨rfl, rfl, rfl, rfl, rfl, rfl⟩
        obtain ⟨τ2, m2, rep2, j1, j2, j3, j4, j5, j6, j7, j8, j9, j10, j11, j12⟩ := sub (pl_pile τ1 top (τ.2.1 11 e.1) o) (top + 2) ((pl_cat l).length + g) ttp p1 p2 (by omega) (Or.inr (by omega))
        obtain ⟨q1, q2, q3⟩ := krs (pl_pile τ1 top (τ.2.1 11 e.1) o) τ2 m2 rep2 p6 p3 j2 j3 j4 j5 j6 (fun z hz => j7 z (by omega)) j8 j9 j11 j12
        have r2 : ∀ r, 6 ≤ r → r ≤ 11 → τ2.2.1 r = τ.2.1 r := by
          intro r h1 h2
          refine q1.2.2.2.2.2.1.2.1 r ?_
          unfold pl_GK
          simp only [Bool.or_eq_false_iff, beq_eq_false_iff_ne]
          omega
        have top12 : τ2.2.1 12 top = nI e'.1 := by rw [j7 top (by omega), p4, hnext]
        have top13 : τ2.2.1 12 (top + 1) = nI o := by rw [j7 (top + 1) (by omega), p5]
        have econt : pl_cont ((pl_cat l).length + g + 1) τ2 x1 (top + 2) = prf_X_keep_7 ((pl_cat l).length + (g + 1)) τ2 (nI x1) (nI top) (nI e'.1) (nI o) := by
          unfold pl_cont
          rw [if_neg (by omega), show top + 2 - 2 = top by omega, show top + 2 - 1 = top + 1 by omega, top12, top13]
          rfl
        have hksl : pl_ks (pl_fl τ2.2.1 (pl_xP T) (f + 1)) (fun z => S z ∧ ¬ S1 z) l := pl_ks_Q _ _ (fun S2 z F2 hs2 hz => pl_fl_eq (f + 1) S2 z F2 (fun w hw => ⟨by rw [r2 6 (by decide) (by decide)], by rw [r2 7 (by decide) (by decide)], by rw [r2 8 (by decide) (by decide)], by rw [r2 9 (by decide) (by decide)]⟩) (fun w hw _ => by rw [r2 11 (by decide) (by decide)]) hz) s3
        have hchl : pl_ch τ2.2.1 (nI e'.1) l := by
          rw [← hnext]
          exact pl_ch_eq l _ (fun z _ => by rw [r2 11 (by decide) (by decide)]) hch2
        obtain ⟨τ3, m3, rep3, i1, i2, i3, i4, i5⟩ := ihl (fun z => S z ∧ ¬ S1 z) (nI e'.1) o top (n + 1 + (pl_cat ce).length) m2 mid hi g rep2 A τ2 hlne hksl hchl (fun z hz => hS z hz.1) j2 j3 j10 ni2 hhi (fun x hx => hv13 x (by rw [ecat]; exact List.mem_append_right _ hx)) (by omega) (by omega) htop2 (by omega) (pl_pa_eq A o (fun z hz => q1.2.2.2.2.2.2.2.1 16 z (by decide) (by decide) (by omega)) hpa)
        have el2 : e.2.length = 1 + (pl_cat ce).length := by rw [eF, List.length_cons]; omega
        refine ⟨τ3, m3, rep3, ?_, ?_, i3, ?_, ?_, ?_⟩
        · rw [elen, hch1, show 1 + (pl_cat ce).length + (pl_cat l).length + (g + 1) = (pl_cat ce).length + ((pl_cat l).length + g + 1) + 1 by omega, eq0, j1, econt, i1]
        · rw [elen, show n + (1 + (pl_cat ce).length + (pl_cat l).length) = n + 1 + (pl_cat ce).length + (pl_cat l).length by omega]
          exact q1.tr i2 (Nat.le_refl _)
        · rw [ecat]
          refine pl_nd_app e.2 (pl_cat l) n (pl_nd_eq i2.2.2.2.1 i2.2.2.2.2.1 e.2 n (fun r z h1 h2 h3 h4 h5 => ?_) q2) (by rw [el2, ← Nat.add_assoc]; exact i4)
          by_cases hr : r = 17
          · subst hr
            rw [i2.2.2.2.2.2.2.2.2 z (by omega), if_neg (fun q => by have := hAle z q; omega)]
          · exact i2.2.2.2.2.2.2.2.1 r z h1 (by omega) (by omega)
        · exact pl_wh_eq q3 (fun z h1 h2 => i2.2.2.2.2.2.2.2.1 16 z (by decide) (by decide) (by omega))
        · rw [el2, ← Nat.add_assoc]; exact i5
