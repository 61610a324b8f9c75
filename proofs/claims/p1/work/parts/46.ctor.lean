/-! CONSTRUCTORS: an object whose fields are a function of their number, its arrays behind it -/
theorem pr_mapset {g : Nat → Value} {k : Nat} {v : Value} : ∀ N : Nat, ((List.range N).map g).set k v = (List.range N).map (fun j => if j = k then v else g j) := by
  intro N
  apply List.ext_getElem?
  intro i
  rw [List.getElem?_set]
  by_cases h : i < N
  · rw [List.getElem?_map, List.getElem?_map, List.getElem?_range h]
    by_cases e : k = i
    · subst e
      simp [h]
    · rw [if_neg e]
      have : ¬ i = k := fun q => e q.symm
      simp [this]
  · have n1 : (List.map g (List.range N))[i]? = none := List.getElem?_eq_none (by simp; omega)
    have n2 : (List.map (fun j => if j = k then v else g j) (List.range N))[i]? = none := List.getElem?_eq_none (by simp; omega)
    rw [n1, n2]
    by_cases e : k = i
    · rw [if_pos e, if_neg (by simp; omega)]
    · rw [if_neg e]
theorem pr_nd_range' : ∀ (n a : Nat), va_nd ((List.range' a n)) = true := by
  intro n
  induction n with
  | zero => intro a; rfl
  | succ n ih =>
    intro a
    rw [List.range'_succ]
    show (decide (a ∉ List.range' (a + 1) n) && va_nd (List.range' (a + 1) n)) = true
    rw [ih (a + 1), Bool.and_true, decide_eq_true_eq]
    intro h
    have := List.mem_range'_1.mp h
    omega
section PRK
variable {p : Program} {l : Launch} {e : Env} {R : Room} {s : State} {m : MethodId} {args : Array Value} {below : List Frame} {meth : Method} {c : Code} {H : Heap} {locs : List Loc} {cells slots : Nat} {Q : State → Prop}
variable {cc : ByteArray} {pc : Nat} {ls : Array Slot} {rest : List Value} {D : va_G} {cl : List vw_C} {A : Nat → Prop} {H0 : Heap} {tys : List (ClassId × FieldType)} {arrs : va_W} {h0 ci : Nat} {g : Nat → Value}
theorem pr_kRef (hexec : p.tables.exec = Jvm.exec) (hb : c.code = cc) {own ref C : String} {T : u_T} {N index : Nat} {Ts : List Cond} (hts : ∀ w ∈ Ts, w.before args s = true) (hin : ∀ w ∈ u_ws C T N, w ∈ Ts) (ty0 : Nat → FieldType) (hty : ∀ k, k < N → parseFieldDescriptor (T k).2.2.1 = some (ty0 k)) (hnm : ∀ a, a < N → ∀ b, b < N → a ≠ b → (T a).2.1 ≠ (T b).2.1) (hown : s.vm.findClass own = some m.cls) (hK : va_K D cl tys s) (hP : va_P D cl ((h0, .inr (ci, (List.range N).map g)) :: arrs) H) (hD : va_D A ((h0, .inr (ci, (List.range N).map g)) :: arrs)) (hS : va_S A H0 H locs)
    (hc : cl[ci]? = some (C, T, N)) (k : Nat) (hk : k < N) (hlink : (Cond.fieldLink own index ref (T k).2.1 (T k).2.2.1).before args s = true) (hsame : ref = (T k).1) (hfin : (T k).2.2.2 = true) (hin2 : meth.name = "<init>") (hdecl : (T k).1 = own) {ty : FieldType} {q : Nat} (hd : parseFieldDescriptor (T k).2.2.1 = some ty) (hn : narrow ty (.ref q) = .ref q) (hfit : fits ty (.ref q) = true) (hdg : decode cc pc = .ok (.putfield index, 3))
    (kk : ∀ (H1 : Heap) (locs1 : List Loc), va_P D cl ((h0, .inr (ci, (List.range N).map (fun j => if j = k then .ref q else g j))) :: arrs) H1 → va_D A ((h0, .inr (ci, (List.range N).map (fun j => if j = k then .ref q else g j))) :: arrs) → va_S A H0 H1 locs1 → W p l e R s m args below meth c H1 locs1 cells slots Q (F0 m (pc + 3) ls rest)) : W p l e R s m args below meth c H locs cells slots Q (F0 m pc ls (.ref q :: .ref h0 :: rest)) := by
  refine va_putF hexec hb hts hin ty0 hty hnm hown hK hP hD hS 0 rfl hc k hk hlink (fun x hx => by rw [hsame]; exact hx) hfin hin2 hdecl hd hn hfit (by simp; exact hk) hdg (fun H1 locs1 hP1 hD1 hS1 => ?_)
  rw [List.set_cons_zero, pr_mapset] at hP1 hD1
  exact kk H1 locs1 hP1 hD1 hS1
theorem pr_kInt (hexec : p.tables.exec = Jvm.exec) (hb : c.code = cc) {own ref C : String} {T : u_T} {N index : Nat} {Ts : List Cond} (hts : ∀ w ∈ Ts, w.before args s = true) (hin : ∀ w ∈ u_ws C T N, w ∈ Ts) (ty0 : Nat → FieldType) (hty : ∀ k, k < N → parseFieldDescriptor (T k).2.2.1 = some (ty0 k)) (hnm : ∀ a, a < N → ∀ b, b < N → a ≠ b → (T a).2.1 ≠ (T b).2.1) (hown : s.vm.findClass own = some m.cls) (hK : va_K D cl tys s) (hP : va_P D cl ((h0, .inr (ci, (List.range N).map g)) :: arrs) H) (hD : va_D A ((h0, .inr (ci, (List.range N).map g)) :: arrs)) (hS : va_S A H0 H locs)
    (hc : cl[ci]? = some (C, T, N)) (k : Nat) (hk : k < N) (hlink : (Cond.fieldLink own index ref (T k).2.1 (T k).2.2.1).before args s = true) (hsame : ref = (T k).1) (hfin : (T k).2.2.2 = false) {ty : FieldType} {q : Int32} (hd : parseFieldDescriptor (T k).2.2.1 = some ty) (hn : narrow ty (.int q) = .int q) (hfit : fits ty (.int q) = true) (hdg : decode cc pc = .ok (.putfield index, 3))
    (kk : ∀ (H1 : Heap) (locs1 : List Loc), va_P D cl ((h0, .inr (ci, (List.range N).map (fun j => if j = k then .int q else g j))) :: arrs) H1 → va_D A ((h0, .inr (ci, (List.range N).map (fun j => if j = k then .int q else g j))) :: arrs) → va_S A H0 H1 locs1 → W p l e R s m args below meth c H1 locs1 cells slots Q (F0 m (pc + 3) ls rest)) : W p l e R s m args below meth c H locs cells slots Q (F0 m pc ls (.int q :: .ref h0 :: rest)) := by
  refine va_put hexec hb hts hin ty0 hty hnm hown hK hP hD hS 0 rfl hc k hk hlink (fun x hx => by rw [hsame]; exact hx) hfin hd hn hfit (by simp; exact hk) hdg (fun H1 locs1 hP1 hD1 hS1 => ?_)
  rw [List.set_cons_zero, pr_mapset] at hP1 hD1
  exact kk H1 locs1 hP1 hD1 hS1
/-- newarray and the putfield behind it -/
theorem pr_kArr (hexec : p.tables.exec = Jvm.exec) (hb : c.code = cc) {own ref C : String} {T : u_T} {N index : Nat} {Ts : List Cond} (hts : ∀ w ∈ Ts, w.before args s = true) (hin : ∀ w ∈ u_ws C T N, w ∈ Ts) (ty0 : Nat → FieldType) (hty : ∀ k, k < N → parseFieldDescriptor (T k).2.2.1 = some (ty0 k)) (hnm : ∀ a, a < N → ∀ b, b < N → a ≠ b → (T a).2.1 ≠ (T b).2.1) (hown : s.vm.findClass own = some m.cls) (hK : va_K D cl tys s) (hP : va_P D cl ((h0, .inr (ci, (List.range N).map g)) :: arrs) H) (hD : va_D A ((h0, .inr (ci, (List.range N).map g)) :: arrs)) (hS : va_S A H0 H locs) (hA : ∀ q, H0.size ≤ q → A q)
    (hc : cl[ci]? = some (C, T, N)) (k : Nat) (hk : k < N) (hlink : (Cond.fieldLink own index ref (T k).2.1 (T k).2.2.1).before args s = true) (hsame : ref = (T k).1) (hfin : (T k).2.2.2 = true) (hin2 : meth.name = "<init>") (hdecl : (T k).1 = own) {ety : FieldType} (hd : parseFieldDescriptor (T k).2.2.1 = some (.array ety))
    {atype : ArrayType} (harr : (Cond.arrayClass (newarray.typeOf atype)).before args s = true) (het : newarray.typeOf atype = ety) {n : Int32} {N' : Nat} {a0 : vp_A} (ha : ∀ cA : ClassId, vp_cell cA a0 = arrV cA N' (fun _ => defaultValue ety)) (hn0 : ¬ n < 0) (hN : n.toNatClampNeg = N') (hbytes : N' * componentBytes ety ≤ 536870912) (hcells : cells + 1 ≤ R.cells) (hslots : slots + N' ≤ R.slots)
    (hdg1 : decode cc pc = .ok (.newarray atype, 2)) (hdg : decode cc (pc + 2) = .ok (.putfield index, 3))
    (kk : ∀ (q : Nat) (cA : ClassId) (H1 : Heap) (locs1 : List Loc), va_K D cl (tys ++ [(cA, ety)]) s → va_P D cl ((h0, .inr (ci, (List.range N).map (fun j => if j = k then .ref q else g j))) :: (arrs ++ [(q, .inl (cA, a0))])) H1 → va_D A ((h0, .inr (ci, (List.range N).map (fun j => if j = k then .ref q else g j))) :: (arrs ++ [(q, .inl (cA, a0))])) → va_S A H0 H1 locs1 → W p l e R s m args below meth c H1 locs1 (cells + 1) (slots + N') Q (F0 m (pc + 5) ls rest)) : W p l e R s m args below meth c H locs cells slots Q (F0 m pc ls (.int n :: .ref h0 :: rest)) := by
  refine va_newa hexec hb harr het hK hP hD hS hA ha hn0 hN hbytes hcells hslots hdg1 (fun q cA H1 hK1 hP1 hD1 hS1 => ?_)
  have hP1 : va_P D cl ((h0, .inr (ci, (List.range N).map g)) :: (arrs ++ [(q, .inl (cA, a0))])) H1 := hP1
  have hD1 : va_D A ((h0, .inr (ci, (List.range N).map g)) :: (arrs ++ [(q, .inl (cA, a0))])) := hD1
  exact pr_kRef (arrs := arrs ++ [(q, .inl (cA, a0))]) hexec hb hts hin ty0 hty hnm hown hK1 hP1 hD1 hS1 hc k hk hlink hsame hfin hin2 hdecl hd rfl rfl hdg (fun H2 locs2 hP2 hD2 hS2 => kk q cA H2 locs2 hK1 hP2 hD2 hS2)
/-- behind a constructor's call on the newest cell: what was there, and what the constructor made -/
theorem pr_kCtor {mc ms : Nat} {st0 As : List Value} {x : va_E} {q : Nat} {ws : va_W} {S : Type} {Wc : S → va_W} {Tc : S → List (ClassId × FieldType)}
    (hr : va_Run p l e R s m args below meth c H locs cells slots mc ms (F0 m pc ls st0) rest (va_Qv (fun _ : S => True) (fun u t => va_P D cl (Wc u) t.heap ∧ va_K D cl (Tc u) t ∧ va_D (va_A [(q, x)] H.size) (Wc u)) (va_A [(q, x)] H.size) (Value.ref q :: As).toArray) (va_A [(q, x)] H.size))
    (hK : va_K D cl tys s) (hP : va_P D cl (ws ++ [(q, x)]) H) (hD : va_D A (ws ++ [(q, x)])) (hS : va_S A H0 H locs) (hA : ∀ q, H0.size ≤ q → A q)
    (kk : ∀ (u : S) (H1 : Heap) (locs1 : List Loc), va_K D cl (tys ++ Tc u) s → va_P D cl (ws ++ Wc u) H1 → va_D A (ws ++ Wc u) → va_S A H0 H1 locs1 → W p l e R s m args below meth c H1 locs1 (cells + mc) (slots + ms) Q (F0 m (pc + 3) ls rest)) : W p l e R s m args below meth c H locs cells slots Q (F0 m pc ls st0) := by
  have hC : [ws.length].map (fun i => (ws ++ [(q, x)])[i]?) = ([(q, x)] : va_W).map some := by simp
  have hRr : (List.range ws.length).map (fun i => (ws ++ [(q, x)])[i]?) = ws.map some := by
    apply List.ext_getElem?
    intro i
    by_cases h : i < ws.length
    · rw [List.getElem?_map, List.getElem?_range h, List.getElem?_map]
      show some ((ws ++ [(q, x)])[i]?) = _
      rw [List.getElem?_append_left h, List.getElem?_eq_getElem h]
      rfl
    · rw [List.getElem?_eq_none (by simp; omega), List.getElem?_eq_none (by simp; omega)]
  have hFc := va_free (wc := [(q, x)]) hD hS hA [ws.length] hC
  refine va_callv hr hS (fun q _ h => hFc q h) hFc (fun u t H1 locs1 ht hvm hw hB hz1 hk1 hS1 => ?_)
  obtain ⟨hP1, hK1, hD1⟩ := hB
  rw [ht] at hP1
  have hK1 := va_K.moved hvm.symm hK1
  have hnd : va_nd (List.range ws.length) = true := by rw [List.range_eq_range']; exact pr_nd_range' ws.length 0
  obtain ⟨hP2, hD2⟩ := va_join (wr := ws) (w1 := Wc u) hP hD [ws.length] (List.range ws.length) hC hRr hnd (fun i hi hj => by
    have := List.mem_range.mp hi
    simp at hj
    omega) hk1 hFc hP1 hD1
  exact kk u H1 locs1 (hK.app hK1) hP2 hD2 hS1
end PRK
/-! the contract of a constructor -/
def prKP (Z : State → Prop) (D : va_G) (cl : List vw_C) (av : List Value) (h0 : Nat) (x : va_E) (sz : Nat) : Array Value → State → Prop := va_Pc av (fun U => Z U ∧ U.heap.size = sz ∧ va_P D cl [(h0, x)] U.heap ∧ va_K D cl [] U ∧ va_D (fun _ => True) [(h0, x)])
def prKQ {S : Type} (D : va_G) (cl : List vw_C) (h0 : Nat) (x : va_E) (sz : Nat) (Wc : S → va_W) (Tc : S → List (ClassId × FieldType)) : Array Value → State → Outcome → State → Prop := va_Qv (fun _ : S => True) (fun u t => va_P D cl (Wc u) t.heap ∧ va_K D cl (Tc u) t ∧ va_D (va_A [(h0, x)] sz) (Wc u)) (va_A [(h0, x)] sz)
def prKx (y : MethodName) (cc : ByteArray) (nL : Nat) (p : Program) (s : State) (m : MethodId) (args : Array Value) (meth : Method) (c : Code) : Prop :=
  p.tables.exec = Jvm.exec ∧ c.code = cc ∧ c.maxLocals = nL ∧ s.vm.findClass y.cls = some m.cls ∧ (∀ w ∈ pr_U, w.before args s = true) ∧ meth.sig.returnType = none ∧ meth.name = y.name ∧ meth.locks = false
theorem pr_kEntry {l : Launch} {y : MethodName} {rm : Room} {cc : ByteArray} {maxL mc ms : Nat} {Z : State → Prop} {D : va_G} {cl : List vw_C} {av : List Value} {h0 : Nat} {x : va_E} {sz : Nat} {Qc : Array Value → State → Outcome → State → Prop} {fr : Nat → Prop}
    (hy : plainName y.cls = true) (hlen : (lg_sl av).length ≤ maxL)
    (body : ∀ (p : Program) (e : Env) (s : State) (m : MethodId) (args : Array Value) (below : List Frame) (meth : Method) (c : Code), prKx y cc maxL p s m args meth c → Z s → va_K D cl [] s → s.heap.size = sz → va_P D cl [(h0, x)] s.heap → va_D (va_A [(h0, x)] sz) [(h0, x)] → ∀ ls : Array Slot, lv_has ls maxL (lv_args 0 av) →
      W p l e rm s m args below meth c s.heap [] 0 0 (MQ below Qc args s mc ms fr) (F0 m 0 ls [])) : Met l y (Cond.code y cc maxL none :: pr_U) rm (prKP Z D cl av h0 x sz) Qc mc ms fr := by
  refine Met.ofW (cc := cc) (maxL := maxL) (ret := none) hy rfl ?_
  intro p e s m args below meth c s₁ B hml hv
  obtain ⟨rfl, hZ, hsz, hP, hK, hD⟩ := hv
  have hl := lv_entry av (n := maxL) hlen
  rw [lg_entry_eq]
  exact body p e s m _ below meth c ⟨B.exec, B.bytes, hml, findClass_of_methodNamed B.named, fun w hw => atoms_spec (ws := Cond.code y cc maxL none :: pr_U) B.pre w (List.mem_cons_of_mem _ hw), B.returns, (name_of_methodNamed B.named B.method).1, B.notSynchronized⟩ hZ hK hsz hP (hD.self (sz := sz)) _ hl
theorem pr_kBlind {Z : State → Prop} {D : va_G} {cl : List vw_C} {av : List Value} {h0 : Nat} {x : va_E} {sz : Nat} (hZ : ∀ (a : Array Value) (U : State) (g : JFrame) (mk : MethodId), Z U → Z (U.calling g mk a)) : FrameBlind (prKP Z D cl av h0 x sz) := by
  intro a U g mk q
  obtain ⟨q0, qZ, qz, qP, qK, qD⟩ := q
  exact ⟨q0, hZ a U g mk qZ, qz, qP, va_K.moved (u := U) (U := U.calling g mk a) (Vm.Alike.refl U.vm) qK, qD⟩
section PRK2
variable {p : Program} {l : Launch} {e : Env} {R : Room} {s : State} {m : MethodId} {args : Array Value} {below : List Frame} {meth : Method} {c : Code} {H : Heap} {locs : List Loc} {cells slots : Nat} {Q : State → Prop}
variable {cc : ByteArray} {pc : Nat} {ls : Array Slot} {rest : List Value} {D : va_G} {cl : List vw_C} {h0 : Nat} {x : va_E} {sz mc ms : Nat} {S : Type} {Wc : S → va_W} {Tc : S → List (ClassId × FieldType)}
theorem pr_kEnd (u : S) (hexec : p.tables.exec = Jvm.exec) (hb : c.code = cc) (hr : meth.sig.returnType = none) (hlocks : meth.locks = false) (hP : va_P D cl (Wc u) H) (hK : va_K D cl (Tc u) s) (hD : va_D (va_A [(h0, x)] sz) (Wc u)) (hS : va_S (va_A [(h0, x)] sz) s.heap H locs) (h1 : cells ≤ mc) (h2 : slots ≤ ms) (hdg : decode cc pc = .ok (.return_, 1)) : W p l e R s m args below meth c H locs cells slots (MQ below (prKQ D cl h0 x sz Wc Tc) args s mc ms (va_A [(h0, x)] sz)) (F0 m pc ls []) := by
  refine W.widen (k := mc) (n := ms) h1 h2 ?_
  exact W.vret hexec hb hr (fun t ht hW => ⟨⟨u, rfl, trivial, by rw [ht]; exact hP, va_K.moved hW.alike hK, hD⟩, hS.F ht⟩) hS.2.2 hdg
theorem pr_kObj {own : String} {idx : Nat} (hexec : p.tables.exec = Jvm.exec) (hb : c.code = cc) (hown : s.vm.findClass own = some m.cls) (hlink : (Cond.methodLink own idx Lib.objectInit).before args s = true) (hinst : (Cond.instanceMethod Lib.objectInit).before args s = true) (hcode : (Cond.code Lib.objectInit ⟨#[0xb1]⟩ 1 none).before args s = true) (hml : c.maxLocals = ls.size) {a : Addr} (hd : decode cc pc = .ok (.invokespecial idx, 3)) (hframes : 1 ≤ R.frames) (hlocals : 12 ≤ R.locals)
    (kk : W p l e R s m args below meth c H locs cells slots Q (F0 m (pc + 3) ls [])) : W p l e R s m args below meth c H locs cells slots Q (F0 m pc ls [.ref a]) := by
  refine W.objInit hexec hb hown hlink hinst hcode rfl hml.symm (rest := []) rfl hd hframes (by show 2 * 0 + 0 + 12 ≤ _; omega) ?_
  exact kk
end PRK2
/-! a call over a layout, anywhere: other cells of A0 stay -/
section PRLW
variable {p : Program} {l : Launch} {e : Env} {R : Room} {s : State} {m : MethodId} {args : Array Value} {below : List Frame} {meth : Method} {c : Code} {H : Heap} {locs : List Loc} {Q : State → Prop} {cells slots : Nat}
variable {cc : ByteArray} {pc nL maxL n index : Nat} {ls : Array Slot} {rest As : List Value} {D : va_G} {cl : List vw_C} {A A0 : Nat → Prop} {X : State → Prop}
variable {L : pr_L} {ad : Nat → Nat} {dA : Nat → ClassId} {σ : pr_St} {y : MethodName} {ws Ts : List Cond} {rm : Room} {bytes : ByteArray} {ret : Option FieldType} {own C : String}
theorem pr_lwPre (hX : pr_Xok A X) (hXs : X s) (hA0 : ∀ q, A0 q → s.heap.size ≤ q ∨ A q) (hS : va_S A0 s.heap H locs) (hP : va_P D cl (pr_w L ad dA σ) H) (hK : va_K D cl (pr_t L dA) s) {av : List Value} : ∀ U : State, U.heap = H → s.WarmedH U.vm → pr_Pc X D cl L ad dA av σ av.toArray U := fun U hU hW =>
  ⟨rfl, hX s U (Or.inr hW) (fun q h1 h2 => by rw [hU]; exact hS.2.1 q h1 (fun h => (hA0 q h).elim (fun g => by omega) h2)) hXs, by rw [hU]; exact hP, va_K.moved hW.alike hK⟩
theorem pr_lwVi {res : Int32 × pr_St} (S : CallFix p m c cc nL s args Ts own) (o : Nat) (hM : Met l y ws rm (pr_Pc X D cl L ad dA (.ref (ad o) :: As) σ) (pr_Qi D cl L ad dA A res) 0 0 A) (cw : CallW R s args own C index y bytes maxL ret ws rm 0 0 n) (hX : pr_Xok A X) (hXs : X s) (hA : ∀ q, A q → A0 q) (hA0 : ∀ q, A0 q → s.heap.size ≤ q ∨ A q) (hK : va_K D cl (pr_t L dA) s) (hP : va_P D cl (pr_w L ad dA σ) H) (hS : va_S A0 s.heap H locs) (ho : o < pr_n L ∧ o < pr_nO L) {q : vw_C} (hc : cl[pr_cls L o]? = some q) (hq : q.1 = C)
    {st0 : List Value} (hst : st0 = As.reverse ++ .ref (ad o) :: rest) (hn : As.length = n) (hsize : ls.size = nL) (hW : 2 * (F0 m pc ls st0).monitorRoom + (rest.map fun v => v.category).sum ≤ 8) (hdg : decode cc pc = .ok (.invokevirtual index, 3)) (hf : cells ≤ R.cells ∧ slots ≤ R.slots)
    (kk : ∀ (H1 : Heap) (locs1 : List Loc), va_P D cl (pr_w L ad dA res.2) H1 → (∀ q : Nat, q < H.size → ¬ A q → H1[q]? = H[q]?) → va_S A0 s.heap H1 locs1 → W p l e R s m args below meth c H1 locs1 cells slots Q (F0 m (pc + 3) ls (.int res.1 :: rest))) : W p l e R s m args below meth c H locs cells slots Q (F0 m pc ls st0) := by
  subst hq
  refine va_calli (va_runV (As := As) (rest := rest) S hM cw ⟨pr_blind hX, va_recv hK hP hc (pr_w_obj ho.1 ho.2), pr_lwPre hX hXs hA0 hS hP hK⟩ rfl hn hsize hst hW hdg hf) hS (fun q _ h => hA q h) (fun q h => hA q h) (fun r u t H1 locs1 ht hvm hw hB _ hk1 hS1 => ?_)
  have hw : (r, u) = res := hw
  obtain ⟨hP1, _⟩ := hB
  rw [ht] at hP1
  subst hw
  exact kk H1 locs1 hP1 hk1 hS1
theorem pr_lwVv {res : pr_St} (S : CallFix p m c cc nL s args Ts own) (o : Nat) (hM : Met l y ws rm (pr_Pc X D cl L ad dA (.ref (ad o) :: As) σ) (pr_Qv D cl L ad dA A res) 0 0 A) (cw : CallW R s args own C index y bytes maxL ret ws rm 0 0 n) (hX : pr_Xok A X) (hXs : X s) (hA : ∀ q, A q → A0 q) (hA0 : ∀ q, A0 q → s.heap.size ≤ q ∨ A q) (hK : va_K D cl (pr_t L dA) s) (hP : va_P D cl (pr_w L ad dA σ) H) (hS : va_S A0 s.heap H locs) (ho : o < pr_n L ∧ o < pr_nO L) {q : vw_C} (hc : cl[pr_cls L o]? = some q) (hq : q.1 = C)
    {st0 : List Value} (hst : st0 = As.reverse ++ .ref (ad o) :: rest) (hn : As.length = n) (hsize : ls.size = nL) (hW : 2 * (F0 m pc ls st0).monitorRoom + (rest.map fun v => v.category).sum ≤ 8) (hdg : decode cc pc = .ok (.invokevirtual index, 3)) (hf : cells ≤ R.cells ∧ slots ≤ R.slots)
    (kk : ∀ (H1 : Heap) (locs1 : List Loc), va_P D cl (pr_w L ad dA res) H1 → (∀ q : Nat, q < H.size → ¬ A q → H1[q]? = H[q]?) → va_S A0 s.heap H1 locs1 → W p l e R s m args below meth c H1 locs1 cells slots Q (F0 m (pc + 3) ls rest)) : W p l e R s m args below meth c H locs cells slots Q (F0 m pc ls st0) := by
  subst hq
  refine va_callv (va_runV (As := As) (rest := rest) S hM cw ⟨pr_blind hX, va_recv hK hP hc (pr_w_obj ho.1 ho.2), pr_lwPre hX hXs hA0 hS hP hK⟩ rfl hn hsize hst hW hdg hf) hS (fun q _ h => hA q h) (fun q h => hA q h) (fun u t H1 locs1 ht hvm hw hB _ hk1 hS1 => ?_)
  have hw : u = res := hw
  obtain ⟨hP1, _⟩ := hB
  rw [ht] at hP1
  subst hw
  exact kk H1 locs1 hP1 hk1 hS1
end PRLW
/-- an array of references is what its places hold -/
theorem pr_vpq {cA : ClassId} {n : Nat} {f g : Nat → Option Nat} (h : ∀ k, k < n → f k = g k) : vp_cell cA (n, .inr (.inr (.inr (.inr f)))) = vp_cell cA (n, .inr (.inr (.inr (.inr g)))) := by
  show arrV cA n (fun j => va_rf (f j)) = arrV cA n (fun j => va_rf (g j))
  unfold arrV
  congr 1
  congr 1
  funext j
  show va_rf (f j.val) = va_rf (g j.val)
  rw [h j.val j.isLt]
