theorem pr_rotP {D : va_G} {cl : List vw_C} {arrs : va_W} {x y : Nat × va_E} {H : Heap} (h : va_P D cl (x :: (arrs ++ [y])) H) : va_P D cl (x :: y :: arrs) H := by
  intro k q hq
  match k, hq with
  | 0, hq => exact h 0 q hq
  | 1, hq => exact h (arrs.length + 1) q (by rw [List.getElem?_cons_succ, List.getElem?_append_right (Nat.le_refl _), Nat.sub_self]; exact hq)
  | k + 2, hq =>
    have hq : arrs[k]? = some q := hq
    exact h (k + 1) q (by rw [List.getElem?_cons_succ, List.getElem?_append_left (List.getElem?_eq_some_iff.mp hq).1]; exact hq)
theorem pr_rotK {D : va_G} {cl : List vw_C} {tys : List (ClassId × FieldType)} {y : ClassId × FieldType} {U : State} (h : va_K D cl (tys ++ [y]) U) : va_K D cl (y :: tys) U := by
  refine ⟨h.1, fun k q hq => ?_⟩
  match k, hq with
  | 0, hq => exact h.2 tys.length q (by rw [List.getElem?_append_right (Nat.le_refl _), Nat.sub_self]; exact hq)
  | k + 1, hq =>
    have hq : tys[k]? = some q := hq
    exact h.2 k q (by rw [List.getElem?_append_left (List.getElem?_eq_some_iff.mp hq).1]; exact hq)
theorem pr_rotD {A : Nat → Prop} {arrs : va_W} {x y : Nat × va_E} (h : va_D A (x :: (arrs ++ [y]))) : va_D A (x :: y :: arrs) := by
  have key : ∀ (k : Nat) (q : Nat × va_E), (x :: y :: arrs)[k]? = some q → ((x :: (arrs ++ [y]))[if k = 0 then 0 else if k = 1 then arrs.length + 1 else k - 1]? = some q) ∧ (k < arrs.length + 2) := by
    intro k q hq
    refine ⟨?_, (List.getElem?_eq_some_iff.mp hq).1⟩
    match k, hq with
    | 0, hq => exact hq
    | 1, hq => show (x :: (arrs ++ [y]))[arrs.length + 1]? = some q; rw [List.getElem?_cons_succ, List.getElem?_append_right (Nat.le_refl _), Nat.sub_self]; exact hq
    | k + 2, hq =>
      have hq : arrs[k]? = some q := hq
      show (x :: (arrs ++ [y]))[k + 1]? = some q
      rw [List.getElem?_cons_succ, List.getElem?_append_left (List.getElem?_eq_some_iff.mp hq).1]; exact hq
  refine ⟨fun i j p q hi hj e => ?_, fun k q hk => h.2 _ q (key k q hk).1⟩
  obtain ⟨a1, b1⟩ := key i p hi
  obtain ⟨a2, b2⟩ := key j q hj
  have := h.1 _ _ p q a1 a2 e
  split at this <;> split at this <;> (try split at this) <;> (try split at this) <;> omega
section PRK3
variable {p : Program} {l : Launch} {e : Env} {R : Room} {s : State} {m : MethodId} {args : Array Value} {below : List Frame} {meth : Method} {c : Code} {H : Heap} {locs : List Loc} {cells slots : Nat} {Q : State → Prop}
variable {cc : ByteArray} {pc : Nat} {ls : Array Slot} {rest : List Value} {D : va_G} {cl : List vw_C} {A : Nat → Prop} {H0 : Heap} {tys : List (ClassId × FieldType)} {arrs : va_W} {h0 ci : Nat} {g : Nat → Value}
theorem pr_kRef2 (hexec : p.tables.exec = Jvm.exec) (hb : c.code = cc) {own ref C : String} {T : u_T} {N index : Nat} {Ts : List Cond} (hts : ∀ w ∈ Ts, w.before args s = true) (hin : ∀ w ∈ u_ws C T N, w ∈ Ts) (ty0 : Nat → FieldType) (hty : ∀ k, k < N → parseFieldDescriptor (T k).2.2.1 = some (ty0 k)) (hnm : ∀ a, a < N → ∀ b, b < N → a ≠ b → (T a).2.1 ≠ (T b).2.1) (hown : s.vm.findClass own = some m.cls) (hK : va_K D cl tys s) (hP : va_P D cl ((h0, .inr (ci, (List.range N).map g)) :: arrs) H) (hD : va_D A ((h0, .inr (ci, (List.range N).map g)) :: arrs)) (hS : va_S A H0 H locs)
    (hc : cl[ci]? = some (C, T, N)) (k : Nat) (hk : k < N) (hlink : (Cond.fieldLink own index ref (T k).2.1 (T k).2.2.1).before args s = true) (hsame : ref = (T k).1) (hfin : (T k).2.2.2 = true) (hin2 : meth.name = "<init>") (hdecl : (T k).1 = own) {ty : FieldType} {q : Nat} (hd : parseFieldDescriptor (T k).2.2.1 = some ty) (hn : narrow ty (.ref q) = .ref q) (hfit : fits ty (.ref q) = true) (hdg : decode cc pc = .ok (.putfield index, 3))
    (kk : ∀ (H1 : Heap) (locs1 : List Loc) (g1 : Nat → Value), g1 = (fun j => if j = k then .ref q else g j) → va_P D cl ((h0, .inr (ci, (List.range N).map g1)) :: arrs) H1 → va_D A ((h0, .inr (ci, (List.range N).map g1)) :: arrs) → va_S A H0 H1 locs1 → W p l e R s m args below meth c H1 locs1 cells slots Q (F0 m (pc + 3) ls rest)) : W p l e R s m args below meth c H locs cells slots Q (F0 m pc ls (.ref q :: .ref h0 :: rest)) := 
  pr_kRef hexec hb hts hin ty0 hty hnm hown hK hP hD hS hc k hk hlink hsame hfin hin2 hdecl hd hn hfit hdg (fun H1 locs1 hP1 hD1 hS1 => kk H1 locs1 _ rfl hP1 hD1 hS1)
theorem pr_kInt2 (hexec : p.tables.exec = Jvm.exec) (hb : c.code = cc) {own ref C : String} {T : u_T} {N index : Nat} {Ts : List Cond} (hts : ∀ w ∈ Ts, w.before args s = true) (hin : ∀ w ∈ u_ws C T N, w ∈ Ts) (ty0 : Nat → FieldType) (hty : ∀ k, k < N → parseFieldDescriptor (T k).2.2.1 = some (ty0 k)) (hnm : ∀ a, a < N → ∀ b, b < N → a ≠ b → (T a).2.1 ≠ (T b).2.1) (hown : s.vm.findClass own = some m.cls) (hK : va_K D cl tys s) (hP : va_P D cl ((h0, .inr (ci, (List.range N).map g)) :: arrs) H) (hD : va_D A ((h0, .inr (ci, (List.range N).map g)) :: arrs)) (hS : va_S A H0 H locs)
    (hc : cl[ci]? = some (C, T, N)) (k : Nat) (hk : k < N) (hlink : (Cond.fieldLink own index ref (T k).2.1 (T k).2.2.1).before args s = true) (hsame : ref = (T k).1) (hfin : (T k).2.2.2 = false) {ty : FieldType} {q : Int32} (hd : parseFieldDescriptor (T k).2.2.1 = some ty) (hn : narrow ty (.int q) = .int q) (hfit : fits ty (.int q) = true) (hdg : decode cc pc = .ok (.putfield index, 3))
    (kk : ∀ (H1 : Heap) (locs1 : List Loc) (g1 : Nat → Value), g1 = (fun j => if j = k then .int q else g j) → va_P D cl ((h0, .inr (ci, (List.range N).map g1)) :: arrs) H1 → va_D A ((h0, .inr (ci, (List.range N).map g1)) :: arrs) → va_S A H0 H1 locs1 → W p l e R s m args below meth c H1 locs1 cells slots Q (F0 m (pc + 3) ls rest)) : W p l e R s m args below meth c H locs cells slots Q (F0 m pc ls (.int q :: .ref h0 :: rest)) := 
  pr_kInt hexec hb hts hin ty0 hty hnm hown hK hP hD hS hc k hk hlink hsame hfin hd hn hfit hdg (fun H1 locs1 hP1 hD1 hS1 => kk H1 locs1 _ rfl hP1 hD1 hS1)
theorem pr_kArr2 (hexec : p.tables.exec = Jvm.exec) (hb : c.code = cc) {own ref C : String} {T : u_T} {N index : Nat} {Ts : List Cond} (hts : ∀ w ∈ Ts, w.before args s = true) (hin : ∀ w ∈ u_ws C T N, w ∈ Ts) (ty0 : Nat → FieldType) (hty : ∀ k, k < N → parseFieldDescriptor (T k).2.2.1 = some (ty0 k)) (hnm : ∀ a, a < N → ∀ b, b < N → a ≠ b → (T a).2.1 ≠ (T b).2.1) (hown : s.vm.findClass own = some m.cls) (hK : va_K D cl tys s) (hP : va_P D cl ((h0, .inr (ci, (List.range N).map g)) :: arrs) H) (hD : va_D A ((h0, .inr (ci, (List.range N).map g)) :: arrs)) (hS : va_S A H0 H locs) (hA : ∀ q, H0.size ≤ q → A q)
    (hc : cl[ci]? = some (C, T, N)) (k : Nat) (hk : k < N) (hlink : (Cond.fieldLink own index ref (T k).2.1 (T k).2.2.1).before args s = true) (hsame : ref = (T k).1) (hfin : (T k).2.2.2 = true) (hin2 : meth.name = "<init>") (hdecl : (T k).1 = own) {ety : FieldType} (hd : parseFieldDescriptor (T k).2.2.1 = some (.array ety))
    {atype : ArrayType} (harr : (Cond.arrayClass (newarray.typeOf atype)).before args s = true) (het : newarray.typeOf atype = ety) {n : Int32} {N' : Nat} {a0 : vp_A} (ha : ∀ cA : ClassId, vp_cell cA a0 = arrV cA N' (fun _ => defaultValue ety)) (hn0 : ¬ n < 0) (hN : n.toNatClampNeg = N') (hbytes : N' * componentBytes ety ≤ 536870912) (hcells : cells + 1 ≤ R.cells) (hslots : slots + N' ≤ R.slots)
    (hdg1 : decode cc pc = .ok (.newarray atype, 2)) (hdg : decode cc (pc + 2) = .ok (.putfield index, 3))
    (kk : ∀ (q : Nat) (cA : ClassId) (H1 : Heap) (locs1 : List Loc) (g1 : Nat → Value), g1 = (fun j => if j = k then .ref q else g j) → ∀ arrs1 : va_W, arrs1 = (q, .inl (cA, a0)) :: arrs → ∀ tys1 : List (ClassId × FieldType), tys1 = (cA, ety) :: tys → va_K D cl tys1 s → va_P D cl ((h0, .inr (ci, (List.range N).map g1)) :: arrs1) H1 → va_D A ((h0, .inr (ci, (List.range N).map g1)) :: arrs1) → va_S A H0 H1 locs1 → W p l e R s m args below meth c H1 locs1 (cells + 1) (slots + N') Q (F0 m (pc + 5) ls rest)) : W p l e R s m args below meth c H locs cells slots Q (F0 m pc ls (.int n :: .ref h0 :: rest)) :=
  pr_kArr hexec hb hts hin ty0 hty hnm hown hK hP hD hS hA hc k hk hlink hsame hfin hin2 hdecl hd harr het ha hn0 hN hbytes hcells hslots hdg1 hdg (fun q cA H1 locs1 hK1 hP1 hD1 hS1 => kk q cA H1 locs1 _ rfl _ rfl _ rfl (pr_rotK hK1) (pr_rotP hP1) (pr_rotD hD1) hS1)
/-- a text put into the newest cell, a row of texts -/
theorem pr_kText (hexec : p.tables.exec = Jvm.exec) (hb : c.code = cc) {X : va_E} {qw n v : Nat} {cw : ClassId} {f : Nat → Option Nat} (hK : va_K D cl ((cw, .object "java/lang/String") :: tys) s) (hP : va_P D cl ((h0, X) :: (qw, .inl (cw, n, .inr (.inr (.inr (.inr f))))) :: arrs) H) (hD : va_D A ((h0, X) :: (qw, .inl (cw, n, .inr (.inr (.inr (.inr f))))) :: arrs)) (hS : va_S A H0 H locs) (hr : ∃ cellV : Cell, H[v]? = some cellV ∧ cellV.vm.isStatics = false ∧ s.vm.findClass "java/lang/String" = some cellV.cls) {i : Int32} (hin : vp_in i n) (hdg : decode cc pc = .ok (.aastore, 1))
    (kk : ∀ (H1 : Heap) (locs1 : List Loc) (f1 : Nat → Option Nat), f1 = va_up f i.toNatClampNeg (some v) → va_P D cl ((h0, X) :: (qw, .inl (cw, n, .inr (.inr (.inr (.inr f1))))) :: arrs) H1 → va_D A ((h0, X) :: (qw, .inl (cw, n, .inr (.inr (.inr (.inr f1))))) :: arrs) → va_S A H0 H1 locs1 → W p l e R s m args below meth c H1 locs1 cells slots Q (F0 m (pc + 1) ls rest)) : W p l e R s m args below meth c H locs cells slots Q (F0 m pc ls (.ref v :: .int i :: .ref qw :: rest)) := by
  refine vb_astq (E := "java/lang/String") (C := "java/lang/String") hexec hb hK hP hD hS 1 0 rfl rfl hr (fun comp c0 h1 h2 => by rw [h1] at h2; cases h2; exact va_asg _ _) hin hdg (fun H1 locs1 hP1 hD1 hS1 => ?_)
  exact kk H1 locs1 _ rfl hP1 hD1 hS1
end PRK3
