/-! the words of all the system, good ones: one list for every method -/
def pr_U : List Cond := lw_tbl.filter goodWord
theorem pr_goodIn {ws : List Cond} (h : ∀ w ∈ ws, w ∈ pr_U) : GoodIn pr_U ws := fun w hw => ⟨h w hw, good_of_word (List.mem_filter.mp (h w hw)).2⟩
theorem pr_inU {w : Cond} (h : w ∈ lw_tbl) (hg : goodWord w = true) : w ∈ pr_U := List.mem_filter.mpr ⟨h, hg⟩
/-! ROWS OVER A LAYOUT: one instruction each, the world as pr_w -/
section PRROWS
variable {p : Program} {l : Launch} {e : Env} {R : Room} {s : State} {m : MethodId} {args : Array Value} {below : List Frame} {meth : Method} {c : Code} {H : Heap} {locs : List Loc} {cells slots : Nat} {Q : State → Prop}
variable {cc : ByteArray} {pc : Nat} {ls : Array Slot} {rest : List Value} {D : va_G} {cl : List vw_C} {A : Nat → Prop} {H0 : Heap}
variable {L : pr_L} {ad : Nat → Nat} {dA : Nat → ClassId} {σ : pr_St}
theorem pr_geti (hexec : p.tables.exec = Jvm.exec) (hb : c.code = cc) {own ref C : String} {T : u_T} {N index : Nat} {Ts : List Cond} (hts : ∀ w ∈ Ts, w.before args s = true) (hin : ∀ w ∈ u_ws C T N, w ∈ Ts) (hown : s.vm.findClass own = some m.cls) (hK : va_K D cl (pr_t L dA) s) (hP : va_P D cl (pr_w L ad dA σ) H) (o k : Nat) (hg : o < pr_n L ∧ o < pr_nO L ∧ k < pr_nf L o ∧ pr_rf L o k = none ∧ k < N) (hc : cl[pr_cls L o]? = some (C, T, N)) (hlink : (Cond.fieldLink own index ref (T k).2.1 (T k).2.2.1).before args s = true) (hsame : ref = (T k).1) {v : Int32} (hv : σ.1 o k = v) (hdg : decode cc pc = .ok (.getfield index, 3))
    (kk : W p l e R s m args below meth c H locs cells slots Q (F0 m (pc + 3) ls (.int v :: rest))) : W p l e R s m args below meth c H locs cells slots Q (F0 m pc ls (.ref (ad o) :: rest)) := by
  obtain ⟨h1, h2, h3, h4, h5⟩ := hg
  subst hv
  refine va_get hexec hb hts hin hown hK hP o (pr_w_obj h1 h2) hc k h5 hlink (fun x hx => by rw [hsame]; exact hx) (v := .int (σ.1 o k)) ?_ hdg kk
  rw [pr_fs_get h3]; unfold pr_fV; rw [h4]
theorem pr_getr (hexec : p.tables.exec = Jvm.exec) (hb : c.code = cc) {own ref C : String} {T : u_T} {N index : Nat} {Ts : List Cond} (hts : ∀ w ∈ Ts, w.before args s = true) (hin : ∀ w ∈ u_ws C T N, w ∈ Ts) (hown : s.vm.findClass own = some m.cls) (hK : va_K D cl (pr_t L dA) s) (hP : va_P D cl (pr_w L ad dA σ) H) (o k : Nat) {t : Nat} (hg : o < pr_n L ∧ o < pr_nO L ∧ k < pr_nf L o ∧ pr_rf L o k = some t ∧ k < N) (hc : cl[pr_cls L o]? = some (C, T, N)) (hlink : (Cond.fieldLink own index ref (T k).2.1 (T k).2.2.1).before args s = true) (hsame : ref = (T k).1) (hdg : decode cc pc = .ok (.getfield index, 3))
    (kk : W p l e R s m args below meth c H locs cells slots Q (F0 m (pc + 3) ls (.ref (ad t) :: rest))) : W p l e R s m args below meth c H locs cells slots Q (F0 m pc ls (.ref (ad o) :: rest)) := by
  obtain ⟨h1, h2, h3, h4, h5⟩ := hg
  refine va_get hexec hb hts hin hown hK hP o (pr_w_obj h1 h2) hc k h5 hlink (fun x hx => by rw [hsame]; exact hx) (v := .ref (ad t)) ?_ hdg kk
  rw [pr_fs_get h3]; unfold pr_fV; rw [h4]
theorem pr_puti (hexec : p.tables.exec = Jvm.exec) (hb : c.code = cc) {own ref C : String} {T : u_T} {N index : Nat} {Ts : List Cond} (hts : ∀ w ∈ Ts, w.before args s = true) (hin : ∀ w ∈ u_ws C T N, w ∈ Ts) (ty0 : Nat → FieldType) (hty : ∀ k, k < N → parseFieldDescriptor (T k).2.2.1 = some (ty0 k)) (hnm : ∀ a, a < N → ∀ b, b < N → a ≠ b → (T a).2.1 ≠ (T b).2.1) (hown : s.vm.findClass own = some m.cls) (hK : va_K D cl (pr_t L dA) s) (hP : va_P D cl (pr_w L ad dA σ) H) (hD : va_D A (pr_w L ad dA σ)) (hS : va_S A H0 H locs) (o k : Nat) (hg : o < pr_n L ∧ o < pr_nO L ∧ k < pr_nf L o ∧ pr_rf L o k = none ∧ k < N) (hc : cl[pr_cls L o]? = some (C, T, N)) (hlink : (Cond.fieldLink own index ref (T k).2.1 (T k).2.2.1).before args s = true) (hsame : ref = (T k).1) (hfin : (T k).2.2.2 = false) {ty : FieldType} {x : Int32} (hd : parseFieldDescriptor (T k).2.2.1 = some ty) (hn : narrow ty (.int x) = .int x) (hfit : fits ty (.int x) = true) (hdg : decode cc pc = .ok (.putfield index, 3))
    (kk : ∀ (H1 : Heap) (locs1 : List Loc), va_P D cl (pr_w L ad dA (pr_sI σ o k x)) H1 → va_S A H0 H1 locs1 → W p l e R s m args below meth c H1 locs1 cells slots Q (F0 m (pc + 3) ls rest)) : W p l e R s m args below meth c H locs cells slots Q (F0 m pc ls (.int x :: .ref (ad o) :: rest)) := by
  obtain ⟨h1, h2, h3, h4, h5⟩ := hg
  refine va_put hexec hb hts hin ty0 hty hnm hown hK hP hD hS o (pr_w_obj h1 h2) hc k h5 hlink (fun x hx => by rw [hsame]; exact hx) hfin hd hn hfit (by rw [pr_fs_len]; exact h3) hdg (fun H1 locs1 hP1 _ hS1 => ?_)
  rw [pr_w_setI h1 h2 h4] at hP1
  exact kk H1 locs1 hP1 hS1
theorem pr_iald (hexec : p.tables.exec = Jvm.exec) (hb : c.code = cc) (hK : va_K D cl (pr_t L dA) s) (hP : va_P D cl (pr_w L ad dA σ) H) (a : Nat) (hg : a < pr_n L ∧ ¬ a < pr_nO L ∧ pr_ty L a = .int) {i : Int32} {n : Nat} (hn : pr_ln L a = n) (hin : vp_in i n) {f : Nat → Int32} (hfa : σ.2.1 a = f) (hdg : decode cc pc = .ok (.iaload, 1))
    (kk : W p l e R s m args below meth c H locs cells slots Q (F0 m (pc + 1) ls (.int (f i.toNatClampNeg) :: rest))) : W p l e R s m args below meth c H locs cells slots Q (F0 m pc ls (.int i :: .ref (ad a) :: rest)) := by
  obtain ⟨h1, h2, h3⟩ := hg
  have ht := pr_t_get (dA := dA) h1 h2
  rw [h3] at ht
  subst hn
  subst hfa
  exact va_iald hexec hb hK hP a _ (pr_w_arr h1 h2 (by unfold pr_ik; rw [h3])) ht hin hdg kk
theorem pr_bald (hexec : p.tables.exec = Jvm.exec) (hb : c.code = cc) (hK : va_K D cl (pr_t L dA) s) (hP : va_P D cl (pr_w L ad dA σ) H) (a : Nat) (hg : a < pr_n L ∧ ¬ a < pr_nO L ∧ pr_ty L a = .byte) {i : Int32} {n : Nat} (hn : pr_ln L a = n) (hin : vp_in i n) {f : Nat → Int32} (hfa : σ.2.1 a = f) (hdg : decode cc pc = .ok (.baload, 1))
    (kk : W p l e R s m args below meth c H locs cells slots Q (F0 m (pc + 1) ls (.int (f i.toNatClampNeg) :: rest))) : W p l e R s m args below meth c H locs cells slots Q (F0 m pc ls (.int i :: .ref (ad a) :: rest)) := by
  obtain ⟨h1, h2, h3⟩ := hg
  have ht := pr_t_get (dA := dA) h1 h2
  rw [h3] at ht
  subst hn
  subst hfa
  exact va_bald hexec hb hK hP a _ (pr_w_arr h1 h2 (by unfold pr_ik; rw [h3])) ht hin hdg kk
theorem pr_zald (hexec : p.tables.exec = Jvm.exec) (hb : c.code = cc) (hK : va_K D cl (pr_t L dA) s) (hP : va_P D cl (pr_w L ad dA σ) H) (a : Nat) (hg : a < pr_n L ∧ ¬ a < pr_nO L ∧ pr_ty L a = .boolean) {i : Int32} {n : Nat} (hn : pr_ln L a = n) (hin : vp_in i n) {f : Nat → Int32} (hfa : σ.2.1 a = f) (hdg : decode cc pc = .ok (.baload, 1))
    (kk : W p l e R s m args below meth c H locs cells slots Q (F0 m (pc + 1) ls (.int (f i.toNatClampNeg) :: rest))) : W p l e R s m args below meth c H locs cells slots Q (F0 m pc ls (.int i :: .ref (ad a) :: rest)) := by
  obtain ⟨h1, h2, h3⟩ := hg
  have ht := pr_t_get (dA := dA) h1 h2
  rw [h3] at ht
  subst hn
  subst hfa
  exact va_zald hexec hb hK hP a _ (pr_w_arr h1 h2 (by unfold pr_ik; rw [h3])) ht hin hdg kk
theorem pr_iast (hexec : p.tables.exec = Jvm.exec) (hb : c.code = cc) (hK : va_K D cl (pr_t L dA) s) (hP : va_P D cl (pr_w L ad dA σ) H) (hD : va_D A (pr_w L ad dA σ)) (hS : va_S A H0 H locs) (a : Nat) (hg : a < pr_n L ∧ ¬ a < pr_nO L ∧ pr_ty L a = .int) {i x : Int32} {n : Nat} (hn : pr_ln L a = n) (hin : vp_in i n) {f : Nat → Int32} (hfa : σ.2.1 a = f) (hdg : decode cc pc = .ok (.iastore, 1))
    (kk : ∀ (H1 : Heap) (locs1 : List Loc), va_P D cl (pr_w L ad dA (pr_sA σ a (upd f i.toNatClampNeg x))) H1 → va_S A H0 H1 locs1 → W p l e R s m args below meth c H1 locs1 cells slots Q (F0 m (pc + 1) ls rest)) : W p l e R s m args below meth c H locs cells slots Q (F0 m pc ls (.int x :: .int i :: .ref (ad a) :: rest)) := by
  obtain ⟨h1, h2, h3⟩ := hg
  have ht := pr_t_get (dA := dA) h1 h2
  rw [h3] at ht
  subst hn
  subst hfa
  refine va_iast hexec hb hK hP hD hS a _ (pr_w_arr h1 h2 (by unfold pr_ik; rw [h3])) ht hin hdg (fun H1 locs1 hP1 _ hS1 => ?_)
  rw [pr_w_setA h1 h2 (by unfold pr_ik; rw [h3])] at hP1
  exact kk H1 locs1 hP1 hS1
theorem pr_bast (hexec : p.tables.exec = Jvm.exec) (hb : c.code = cc) (hK : va_K D cl (pr_t L dA) s) (hP : va_P D cl (pr_w L ad dA σ) H) (hD : va_D A (pr_w L ad dA σ)) (hS : va_S A H0 H locs) (a : Nat) (hg : a < pr_n L ∧ ¬ a < pr_nO L ∧ pr_ty L a = .byte) {i x : Int32} {n : Nat} (hn : pr_ln L a = n) (hin : vp_in i n) {f : Nat → Int32} (hfa : σ.2.1 a = f) (hdg : decode cc pc = .ok (.bastore, 1))
    (kk : ∀ (H1 : Heap) (locs1 : List Loc), va_P D cl (pr_w L ad dA (pr_sA σ a (upd f i.toNatClampNeg x.toInt8.toInt32))) H1 → va_S A H0 H1 locs1 → W p l e R s m args below meth c H1 locs1 cells slots Q (F0 m (pc + 1) ls rest)) : W p l e R s m args below meth c H locs cells slots Q (F0 m pc ls (.int x :: .int i :: .ref (ad a) :: rest)) := by
  obtain ⟨h1, h2, h3⟩ := hg
  have ht := pr_t_get (dA := dA) h1 h2
  rw [h3] at ht
  subst hn
  subst hfa
  refine va_bast hexec hb hK hP hD hS a _ (pr_w_arr h1 h2 (by unfold pr_ik; rw [h3])) ht hin hdg (fun H1 locs1 hP1 _ hS1 => ?_)
  rw [pr_w_setA h1 h2 (by unfold pr_ik; rw [h3])] at hP1
  exact kk H1 locs1 hP1 hS1
theorem pr_zast (hexec : p.tables.exec = Jvm.exec) (hb : c.code = cc) (hK : va_K D cl (pr_t L dA) s) (hP : va_P D cl (pr_w L ad dA σ) H) (hD : va_D A (pr_w L ad dA σ)) (hS : va_S A H0 H locs) (a : Nat) (hg : a < pr_n L ∧ ¬ a < pr_nO L ∧ pr_ty L a = .boolean) {i x : Int32} {n : Nat} (hn : pr_ln L a = n) (hin : vp_in i n) (hz : x = 0 ∨ x = 1) {f : Nat → Int32} (hfa : σ.2.1 a = f) (hdg : decode cc pc = .ok (.bastore, 1))
    (kk : ∀ (H1 : Heap) (locs1 : List Loc), va_P D cl (pr_w L ad dA (pr_sA σ a (upd f i.toNatClampNeg x))) H1 → va_S A H0 H1 locs1 → W p l e R s m args below meth c H1 locs1 cells slots Q (F0 m (pc + 1) ls rest)) : W p l e R s m args below meth c H locs cells slots Q (F0 m pc ls (.int x :: .int i :: .ref (ad a) :: rest)) := by
  obtain ⟨h1, h2, h3⟩ := hg
  have ht := pr_t_get (dA := dA) h1 h2
  rw [h3] at ht
  subst hn
  subst hfa
  refine va_zast hexec hb hK hP hD hS a _ (pr_w_arr h1 h2 (by unfold pr_ik; rw [h3])) ht hin hdg (fun H1 locs1 hP1 _ hS1 => ?_)
  rw [pr_w_setA h1 h2 (by unfold pr_ik; rw [h3]), show vp_nar .boolean x = x from by unfold vp_nar; rw [pr_zn hz]] at hP1
  exact kk H1 locs1 hP1 hS1
theorem pr_alen (hexec : p.tables.exec = Jvm.exec) (hb : c.code = cc) (hK : va_K D cl (pr_t L dA) s) (hP : va_P D cl (pr_w L ad dA σ) H) (a : Nat) (hg : a < pr_n L ∧ ¬ a < pr_nO L) {v : Int32} (hv : Int32.ofNat (pr_ln L a) = v) (hdg : decode cc pc = .ok (.arraylength, 1))
    (kk : W p l e R s m args below meth c H locs cells slots Q (F0 m (pc + 1) ls (.int v :: rest))) : W p l e R s m args below meth c H locs cells slots Q (F0 m pc ls (.ref (ad a) :: rest)) := by
  obtain ⟨h1, h2⟩ := hg
  obtain ⟨x, hx1, hx2⟩ := pr_w_any (ad := ad) (dA := dA) (σ := σ) h1 h2
  exact va_alen hexec hb hK hP a _ hx2 (pr_t_get (dA := dA) h1 h2) (by rw [hx1]; exact hv) hdg kk
end PRROWS
/-! CONTRACTS: from the world of σ, with these arguments, the method comes to the world of res.2 and answers res.1 -/
def pr_Pc (X : State → Prop) (D : va_G) (cl : List vw_C) (L : pr_L) (ad : Nat → Nat) (dA : Nat → ClassId) (av : List Value) (σ : pr_St) : Array Value → State → Prop := va_Pc av (fun U => X U ∧ va_P D cl (pr_w L ad dA σ) U.heap ∧ va_K D cl (pr_t L dA) U)
def pr_B (D : va_G) (cl : List vw_C) (L : pr_L) (ad : Nat → Nat) (dA : Nat → ClassId) (u : pr_St) (t : State) : Prop := va_P D cl (pr_w L ad dA u) t.heap ∧ va_K D cl (pr_t L dA) t
def pr_Qi (D : va_G) (cl : List vw_C) (L : pr_L) (ad : Nat → Nat) (dA : Nat → ClassId) (A : Nat → Prop) (res : Int32 × pr_St) : Array Value → State → Outcome → State → Prop := va_Qi (fun r u => (r, u) = res) (pr_B D cl L ad dA) A
def pr_Qv (D : va_G) (cl : List vw_C) (L : pr_L) (ad : Nat → Nat) (dA : Nat → ClassId) (A : Nat → Prop) (res : pr_St) : Array Value → State → Outcome → State → Prop := va_Qv (fun u => u = res) (pr_B D cl L ad dA) A
/-- what is kept of the outside (statics): it stays when nothing outside A changes -/
def pr_Xok (A : Nat → Prop) (X : State → Prop) : Prop := ∀ u U : State, (u.vm = U.vm ∨ u.WarmedH U.vm) → (∀ q : Nat, q < u.heap.size → ¬ A q → U.heap[q]? = u.heap[q]?) → X u → X U
theorem pr_blind {A : Nat → Prop} {X : State → Prop} {D : va_G} {cl : List vw_C} {L : pr_L} {ad : Nat → Nat} {dA : Nat → ClassId} {av : List Value} {σ : pr_St} (hX : pr_Xok A X) : FrameBlind (pr_Pc X D cl L ad dA av σ) := by
  intro a U g mk q
  obtain ⟨q0, qX, qP, qK⟩ := q
  exact ⟨q0, hX U _ (Or.inl rfl) (fun _ _ _ => rfl) qX, qP, va_K.moved (u := U) (U := U.calling g mk a) (Vm.Alike.refl U.vm) qK⟩
section PRCALLS
variable {p : Program} {l : Launch} {e : Env} {R : Room} {s : State} {m : MethodId} {args : Array Value} {below : List Frame} {meth : Method} {c : Code} {H : Heap} {locs : List Loc} {Q : State → Prop}
variable {cc : ByteArray} {pc nL maxL n index : Nat} {ls : Array Slot} {rest As : List Value} {D : va_G} {cl : List vw_C} {A : Nat → Prop} {X : State → Prop}
variable {L : pr_L} {ad : Nat → Nat} {dA : Nat → ClassId} {σ : pr_St} {y : MethodName} {ws Ts : List Cond} {rm : Room} {bytes : ByteArray} {ret : Option FieldType} {own C : String}
theorem pr_pre (hX : pr_Xok A X) (hXs : X s) (hS : va_S A s.heap H locs) (hP : va_P D cl (pr_w L ad dA σ) H) (hK : va_K D cl (pr_t L dA) s) {av : List Value} : ∀ U : State, U.heap = H → s.WarmedH U.vm → pr_Pc X D cl L ad dA av σ av.toArray U := fun U hU hW =>
  ⟨rfl, hX s U (Or.inr hW) (fun q h1 h2 => by rw [hU]; exact hS.2.1 q h1 h2) hXs, by rw [hU]; exact hP, va_K.moved hW.alike hK⟩
theorem pr_callVi {res : Int32 × pr_St} (S : CallFix p m c cc nL s args Ts own) (o : Nat) (hM : Met l y ws rm (pr_Pc X D cl L ad dA (.ref (ad o) :: As) σ) (pr_Qi D cl L ad dA A res) 0 0 A) (cw : CallW R s args own C index y bytes maxL ret ws rm 0 0 n) (hX : pr_Xok A X) (hXs : X s) (hK : va_K D cl (pr_t L dA) s) (hP : va_P D cl (pr_w L ad dA σ) H) (hS : va_S A s.heap H locs) (ho : o < pr_n L ∧ o < pr_nO L) {q : vw_C} (hc : cl[pr_cls L o]? = some q) (hq : q.1 = C)
    {st0 : List Value} (hst : st0 = As.reverse ++ .ref (ad o) :: rest) (hn : As.length = n) (hsize : ls.size = nL) (hW : 2 * (F0 m pc ls st0).monitorRoom + (rest.map fun v => v.category).sum ≤ 8) (hdg : decode cc pc = .ok (.invokevirtual index, 3))
    (kk : ∀ (H1 : Heap) (locs1 : List Loc), va_P D cl (pr_w L ad dA res.2) H1 → va_S A s.heap H1 locs1 → W p l e R s m args below meth c H1 locs1 0 0 Q (F0 m (pc + 3) ls (.int res.1 :: rest))) : W p l e R s m args below meth c H locs 0 0 Q (F0 m pc ls st0) := by
  subst hq
  refine va_calli (va_runV (As := As) (rest := rest) S hM cw ⟨pr_blind hX, va_recv hK hP hc (pr_w_obj ho.1 ho.2), pr_pre hX hXs hS hP hK⟩ rfl hn hsize hst hW hdg ⟨Nat.zero_le _, Nat.zero_le _⟩) hS (fun q _ h => h) (fun q h => h) (fun r u t H1 locs1 ht hvm hw hB _ _ hS1 => ?_)
  have hw : (r, u) = res := hw
  obtain ⟨hP1, _⟩ := hB
  rw [ht] at hP1
  subst hw
  exact kk H1 locs1 hP1 hS1
theorem pr_callVv {res : pr_St} (S : CallFix p m c cc nL s args Ts own) (o : Nat) (hM : Met l y ws rm (pr_Pc X D cl L ad dA (.ref (ad o) :: As) σ) (pr_Qv D cl L ad dA A res) 0 0 A) (cw : CallW R s args own C index y bytes maxL ret ws rm 0 0 n) (hX : pr_Xok A X) (hXs : X s) (hK : va_K D cl (pr_t L dA) s) (hP : va_P D cl (pr_w L ad dA σ) H) (hS : va_S A s.heap H locs) (ho : o < pr_n L ∧ o < pr_nO L) {q : vw_C} (hc : cl[pr_cls L o]? = some q) (hq : q.1 = C)
    {st0 : List Value} (hst : st0 = As.reverse ++ .ref (ad o) :: rest) (hn : As.length = n) (hsize : ls.size = nL) (hW : 2 * (F0 m pc ls st0).monitorRoom + (rest.map fun v => v.category).sum ≤ 8) (hdg : decode cc pc = .ok (.invokevirtual index, 3))
    (kk : ∀ (H1 : Heap) (locs1 : List Loc), va_P D cl (pr_w L ad dA res) H1 → va_S A s.heap H1 locs1 → W p l e R s m args below meth c H1 locs1 0 0 Q (F0 m (pc + 3) ls rest)) : W p l e R s m args below meth c H locs 0 0 Q (F0 m pc ls st0) := by
  subst hq
  refine va_callv (va_runV (As := As) (rest := rest) S hM cw ⟨pr_blind hX, va_recv hK hP hc (pr_w_obj ho.1 ho.2), pr_pre hX hXs hS hP hK⟩ rfl hn hsize hst hW hdg ⟨Nat.zero_le _, Nat.zero_le _⟩) hS (fun q _ h => h) (fun q h => h) (fun u t H1 locs1 ht hvm hw hB _ _ hS1 => ?_)
  have hw : u = res := hw
  obtain ⟨hP1, _⟩ := hB
  rw [ht] at hP1
  subst hw
  exact kk H1 locs1 hP1 hS1
theorem pr_callSi {res : Int32 × pr_St} (S : CallFix p m c cc nL s args Ts own) (hM : Met l y ws rm (pr_Pc X D cl L ad dA As σ) (pr_Qi D cl L ad dA A res) 0 0 A) (cw : CallB R s args own index y bytes maxL ret ws rm 0 0 n ∧ (Cond.static y).before args s = true) (hX : pr_Xok A X) (hXs : X s) (hK : va_K D cl (pr_t L dA) s) (hP : va_P D cl (pr_w L ad dA σ) H) (hS : va_S A s.heap H locs)
    {st0 : List Value} (hst : st0 = As.reverse ++ rest) (hn : As.length = n) (hsize : ls.size = nL) (hW : 2 * (F0 m pc ls st0).monitorRoom + (rest.map fun v => v.category).sum ≤ 8) (hdg : decode cc pc = .ok (.invokestatic index, 3))
    (kk : ∀ (H1 : Heap) (locs1 : List Loc), va_P D cl (pr_w L ad dA res.2) H1 → va_S A s.heap H1 locs1 → W p l e R s m args below meth c H1 locs1 0 0 Q (F0 m (pc + 3) ls (.int res.1 :: rest))) : W p l e R s m args below meth c H locs 0 0 Q (F0 m pc ls st0) := by
  refine va_calli (va_runS (As := As) (rest := rest) S hM cw ⟨pr_blind hX, pr_pre hX hXs hS hP hK⟩ rfl hn hsize hst hW hdg ⟨Nat.zero_le _, Nat.zero_le _⟩) hS (fun q _ h => h) (fun q h => h) (fun r u t H1 locs1 ht hvm hw hB _ _ hS1 => ?_)
  have hw : (r, u) = res := hw
  obtain ⟨hP1, _⟩ := hB
  rw [ht] at hP1
  subst hw
  exact kk H1 locs1 hP1 hS1
end PRCALLS
/-! THE CONTEXT OF A WALK, its entry, its ends -/
def pr_cx (own : String) (cc : ByteArray) (nL : Nat) (ret : Option FieldType) (D : va_G) (cl : List vw_C) (L : pr_L) (ad : Nat → Nat) (dA : Nat → ClassId) (A : Nat → Prop) (X : State → Prop) (p : Program) (s : State) (m : MethodId) (args : Array Value) (meth : Method) (c : Code) : Prop :=
  p.tables.exec = Jvm.exec ∧ c.code = cc ∧ c.maxLocals = nL ∧ s.vm.findClass own = some m.cls ∧ (∀ w ∈ pr_U, w.before args s = true) ∧ meth.sig.returnType = ret ∧ meth.locks = false ∧ va_K D cl (pr_t L dA) s ∧ (∀ σ : pr_St, va_D A (pr_w L ad dA σ)) ∧ pr_Xok A X ∧ X s
theorem pr_entry {l : Launch} {y : MethodName} {rm : Room} {cc : ByteArray} {maxL : Nat} {ret : Option FieldType} {X : State → Prop} {D : va_G} {cl : List vw_C} {L : pr_L} {ad : Nat → Nat} {dA : Nat → ClassId} {av : List Value} {σ : pr_St} {Qc : Array Value → State → Outcome → State → Prop} {A : Nat → Prop}
    (hy : plainName y.cls = true) (hlen : (lg_sl av).length ≤ maxL) (hD : ∀ σ : pr_St, va_D A (pr_w L ad dA σ)) (hX : pr_Xok A X)
    (body : ∀ (p : Program) (e : Env) (s : State) (m : MethodId) (args : Array Value) (below : List Frame) (meth : Method) (c : Code), pr_cx y.cls cc maxL ret D cl L ad dA A X p s m args meth c → ∀ (H : Heap) (locs : List Loc), va_P D cl (pr_w L ad dA σ) H → va_S A s.heap H locs → ∀ ls : Array Slot, lv_has ls maxL (lv_args 0 av) →
      W p l e rm s m args below meth c H locs 0 0 (MQ below Qc args s 0 0 A) (F0 m 0 ls [])) : Met l y (Cond.code y cc maxL ret :: pr_U) rm (pr_Pc X D cl L ad dA av σ) Qc 0 0 A := by
  refine Met.ofW (cc := cc) (maxL := maxL) (ret := ret) hy rfl ?_
  intro p e s m args below meth c s₁ B hml hv
  obtain ⟨rfl, hXs, hP, hK⟩ := hv
  have hl := lv_entry av (n := maxL) hlen
  rw [lg_entry_eq]
  exact body p e s m _ below meth c ⟨B.exec, B.bytes, hml, findClass_of_methodNamed B.named, fun w hw => atoms_spec (ws := Cond.code y cc maxL ret :: pr_U) B.pre w (List.mem_cons_of_mem _ hw), B.returns, B.notSynchronized, hK, hD, hX, hXs⟩ s.heap [] hP va_S.rf _ hl
section PRENDS
variable {p : Program} {l : Launch} {e : Env} {R : Room} {s : State} {m : MethodId} {args : Array Value} {below : List Frame} {meth : Method} {c : Code} {H : Heap} {locs : List Loc}
variable {cc : ByteArray} {pc nL : Nat} {ls : Array Slot} {D : va_G} {cl : List vw_C} {A : Nat → Prop} {X : State → Prop}
variable {L : pr_L} {ad : Nat → Nat} {dA : Nat → ClassId} {σ : pr_St} {own : String}
theorem pr_reti {res : Int32 × pr_St} {v : Int32} (E : pr_cx own cc nL (some .int) D cl L ad dA A X p s m args meth c) (hP : va_P D cl (pr_w L ad dA σ) H) (hS : va_S A s.heap H locs) (hf : (v, σ) = res) (hdg : decode cc pc = .ok (.ireturn, 1)) : W p l e R s m args below meth c H locs 0 0 (MQ below (pr_Qi D cl L ad dA A res) args s 0 0 A) (F0 m pc ls [.int v]) := by
  obtain ⟨hx, hb, hml, hown, hts, hr, hlocks, hK, hD, hX, hXs⟩ := E
  exact W.iret (v := v) hx hb hr (fun t ht hW => ⟨⟨v, σ, rfl, hf, by rw [ht]; exact hP, va_K.moved hW.alike hK⟩, hS.F ht⟩) hS.2.2 hdg
theorem pr_retz {res : Int32 × pr_St} {v : Int32} (E : pr_cx own cc nL (some .boolean) D cl L ad dA A X p s m args meth c) (hz : v = 0 ∨ v = 1) (hP : va_P D cl (pr_w L ad dA σ) H) (hS : va_S A s.heap H locs) (hf : (v, σ) = res) (hdg : decode cc pc = .ok (.ireturn, 1)) : W p l e R s m args below meth c H locs 0 0 (MQ below (pr_Qi D cl L ad dA A res) args s 0 0 A) (F0 m pc ls [.int v]) := by
  obtain ⟨hx, hb, hml, hown, hts, hr, hlocks, hK, hD, hX, hXs⟩ := E
  exact W.zret (v := v) hx hb hr (pr_zn hz) (fun t ht hW => ⟨⟨v, σ, rfl, hf, by rw [ht]; exact hP, va_K.moved hW.alike hK⟩, hS.F ht⟩) hS.2.2 hdg
theorem pr_retv {res : pr_St} (E : pr_cx own cc nL none D cl L ad dA A X p s m args meth c) (hP : va_P D cl (pr_w L ad dA σ) H) (hS : va_S A s.heap H locs) (hf : σ = res) (hdg : decode cc pc = .ok (.return_, 1)) : W p l e R s m args below meth c H locs 0 0 (MQ below (pr_Qv D cl L ad dA A res) args s 0 0 A) (F0 m pc ls []) := by
  obtain ⟨hx, hb, hml, hown, hts, hr, hlocks, hK, hD, hX, hXs⟩ := E
  exact W.vret hx hb hr (fun t ht hW => ⟨⟨σ, rfl, hf, by rw [ht]; exact hP, va_K.moved hW.alike hK⟩, hS.F ht⟩) hS.2.2 hdg
end PRENDS
theorem pr_so {α : Type} {a b : α} (h : some a = some b) : b = a := (Option.some.inj h).symm
theorem pr_ro {α : Type} {a b : α} {σ : pr_St} (h : some a = some b) : (b, σ) = (a, σ) := by rw [Option.some.inj h]
section PRCW
variable {R : Room} {s : State} {args : Array Value} {own C : String} {idx maxL : Nat} {y : MethodName} {bytes : ByteArray} {ret : Option FieldType} {rm : Room}
theorem pr_cwV (n : Nat) (hts : ∀ w ∈ pr_U, w.before args s = true) (h1 : Cond.methodLink own idx y ∈ pr_U) (h2 : Cond.instanceMethod y ∈ pr_U) (h3 : Cond.selects C y y ∈ pr_U) (h4 : Cond.initialized C ∈ pr_U) (h5 : Cond.code y bytes maxL ret ∈ pr_U) (hrc : rm.cells = 0) (hrs : rm.slots = 0)
    (hd : y.cls = C ∧ y.cls ≠ "java/lang/invoke/MethodHandle" ∧ y.cls ≠ "java/lang/invoke/VarHandle" ∧ (parseMethodDescriptor y.desc).map (fun d => d.parameters.length) = some n) (hR : rm.frames + 1 ≤ R.frames ∧ 8 + (maxL + 11) + rm.locals ≤ R.locals) :
    CallW R s args own C idx y bytes maxL ret (Cond.code y bytes maxL ret :: pr_U) rm 0 0 n := by
  refine cwV n hts (pr_goodIn ?_) rfl hrc hrs hd hR
  intro w hw
  simp only [wsV, List.mem_append, List.mem_cons, List.not_mem_nil, or_false] at hw
  rcases hw with (rfl | rfl | rfl | rfl) | rfl | hw
  · exact h1
  · exact h2
  · exact h3
  · exact h4
  · exact h5
  · exact hw
theorem pr_cwS (n : Nat) (hts : ∀ w ∈ pr_U, w.before args s = true) (h1 : Cond.methodLink own idx y ∈ pr_U) (h2 : Cond.static y ∈ pr_U) (h4 : Cond.initialized own ∈ pr_U) (h5 : Cond.code y bytes maxL ret ∈ pr_U) (hrc : rm.cells = 0) (hrs : rm.slots = 0)
    (hd : y.cls = own ∧ y.cls ≠ "java/lang/invoke/MethodHandle" ∧ y.cls ≠ "java/lang/invoke/VarHandle" ∧ (parseMethodDescriptor y.desc).map (fun d => d.parameters.length) = some n) (hR : rm.frames + 1 ≤ R.frames ∧ 8 + (maxL + 11) + rm.locals ≤ R.locals) :
    CallB R s args own idx y bytes maxL ret (Cond.code y bytes maxL ret :: pr_U) rm 0 0 n ∧ (Cond.static y).before args s = true := by
  refine cwS n hts (pr_goodIn ?_) rfl hrc hrs hd hR
  intro w hw
  simp only [wsS, List.mem_append, List.mem_cons, List.not_mem_nil, or_false] at hw
  rcases hw with (rfl | rfl | rfl) | rfl | hw
  · exact h1
  · exact h2
  · exact h4
  · exact h5
  · exact hw
end PRCW
/-! room by height: a frame a level, 64 words a level -/
def pr_rm (h : Nat) : Room := { frames := h, cells := 0, slots := 0, locals := 64 * h }
theorem pr_room {a b k : Nat} (h : a + 1 ≤ b) (hk : k ≤ 45) : (pr_rm a).frames + 1 ≤ (pr_rm b).frames ∧ 8 + (k + 11) + (pr_rm a).locals ≤ (pr_rm b).locals := by
  unfold pr_rm
  exact ⟨h, by show 8 + (k + 11) + 64 * a ≤ 64 * b; omega⟩
