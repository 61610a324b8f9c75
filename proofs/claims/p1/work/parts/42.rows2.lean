/-! LONG ARRAYS, LONG ANSWERS, THE STATIC ROW OF LETTERS -/
section PRROWS2
variable {p : Program} {l : Launch} {e : Env} {R : Room} {s : State} {m : MethodId} {args : Array Value} {below : List Frame} {meth : Method} {c : Code} {H : Heap} {locs : List Loc} {cells slots : Nat} {Q : State → Prop}
variable {cc : ByteArray} {pc : Nat} {ls : Array Slot} {rest : List Value} {D : va_G} {cl : List vw_C} {A : Nat → Prop} {H0 : Heap}
variable {L : pr_L} {ad : Nat → Nat} {dA : Nat → ClassId} {σ : pr_St}
theorem pr_lald (hexec : p.tables.exec = Jvm.exec) (hb : c.code = cc) (hK : va_K D cl (pr_t L dA) s) (hP : va_P D cl (pr_w L ad dA σ) H) (a : Nat) (hg : a < pr_n L ∧ ¬ a < pr_nO L ∧ pr_ty L a = .long) {i : Int32} {n : Nat} (hn : pr_ln L a = n) (hin : vp_in i n) {f : Nat → Int64} (hfa : σ.2.2 a = f) (hdg : decode cc pc = .ok (.laload, 1))
    (kk : W p l e R s m args below meth c H locs cells slots Q (F0 m (pc + 1) ls (.long (f i.toNatClampNeg) :: rest))) : W p l e R s m args below meth c H locs cells slots Q (F0 m pc ls (.int i :: .ref (ad a) :: rest)) := by
  obtain ⟨h1, h2, h3⟩ := hg
  have ht := pr_t_get (dA := dA) h1 h2
  rw [h3] at ht
  subst hn
  subst hfa
  exact va_lald hexec hb hK hP a _ (pr_w_arl h1 h2 (by unfold pr_ik; rw [h3])) ht hin hdg kk
theorem pr_last (hexec : p.tables.exec = Jvm.exec) (hb : c.code = cc) (hK : va_K D cl (pr_t L dA) s) (hP : va_P D cl (pr_w L ad dA σ) H) (hD : va_D A (pr_w L ad dA σ)) (hS : va_S A H0 H locs) (a : Nat) (hg : a < pr_n L ∧ ¬ a < pr_nO L ∧ pr_ty L a = .long) {i : Int32} {x : Int64} {n : Nat} (hn : pr_ln L a = n) (hin : vp_in i n) {f : Nat → Int64} (hfa : σ.2.2 a = f) (hdg : decode cc pc = .ok (.lastore, 1))
    (kk : ∀ (H1 : Heap) (locs1 : List Loc), va_P D cl (pr_w L ad dA (pr_sL σ a (vp_updL f i.toNatClampNeg x))) H1 → va_S A H0 H1 locs1 → W p l e R s m args below meth c H1 locs1 cells slots Q (F0 m (pc + 1) ls rest)) : W p l e R s m args below meth c H locs cells slots Q (F0 m pc ls (.long x :: .int i :: .ref (ad a) :: rest)) := by
  obtain ⟨h1, h2, h3⟩ := hg
  have ht := pr_t_get (dA := dA) h1 h2
  rw [h3] at ht
  subst hn
  subst hfa
  refine va_last hexec hb hK hP hD hS a _ (pr_w_arl h1 h2 (by unfold pr_ik; rw [h3])) ht hin hdg (fun H1 locs1 hP1 _ hS1 => ?_)
  rw [pr_w_setL h1 h2 (by unfold pr_ik; rw [h3])] at hP1
  exact kk H1 locs1 hP1 hS1
end PRROWS2
def pr_Ql (D : va_G) (cl : List vw_C) (L : pr_L) (ad : Nat → Nat) (dA : Nat → ClassId) (A : Nat → Prop) (res : Int64 × pr_St) : Array Value → State → Outcome → State → Prop := va_Ql (fun r u => (r, u) = res) (pr_B D cl L ad dA) A
section PRCALLS2
variable {p : Program} {l : Launch} {e : Env} {R : Room} {s : State} {m : MethodId} {args : Array Value} {below : List Frame} {meth : Method} {c : Code} {H : Heap} {locs : List Loc} {Q : State → Prop}
variable {cc : ByteArray} {pc nL maxL n index : Nat} {ls : Array Slot} {rest As : List Value} {D : va_G} {cl : List vw_C} {A : Nat → Prop} {X : State → Prop}
variable {L : pr_L} {ad : Nat → Nat} {dA : Nat → ClassId} {σ : pr_St} {y : MethodName} {ws Ts : List Cond} {rm : Room} {bytes : ByteArray} {ret : Option FieldType} {own C : String}
theorem pr_callVl {res : Int64 × pr_St} (S : CallFix p m c cc nL s args Ts own) (o : Nat) (hM : Met l y ws rm (pr_Pc X D cl L ad dA (.ref (ad o) :: As) σ) (pr_Ql D cl L ad dA A res) 0 0 A) (cw : CallW R s args own C index y bytes maxL ret ws rm 0 0 n) (hX : pr_Xok A X) (hXs : X s) (hK : va_K D cl (pr_t L dA) s) (hP : va_P D cl (pr_w L ad dA σ) H) (hS : va_S A s.heap H locs) (ho : o < pr_n L ∧ o < pr_nO L) {q : vw_C} (hc : cl[pr_cls L o]? = some q) (hq : q.1 = C)
    {st0 : List Value} (hst : st0 = As.reverse ++ .ref (ad o) :: rest) (hn : As.length = n) (hsize : ls.size = nL) (hW : 2 * (F0 m pc ls st0).monitorRoom + (rest.map fun v => v.category).sum ≤ 8) (hdg : decode cc pc = .ok (.invokevirtual index, 3))
    (kk : ∀ (H1 : Heap) (locs1 : List Loc), va_P D cl (pr_w L ad dA res.2) H1 → va_S A s.heap H1 locs1 → W p l e R s m args below meth c H1 locs1 0 0 Q (F0 m (pc + 3) ls (.long res.1 :: rest))) : W p l e R s m args below meth c H locs 0 0 Q (F0 m pc ls st0) := by
  subst hq
  refine va_calll (va_runV (As := As) (rest := rest) S hM cw ⟨pr_blind hX, va_recv hK hP hc (pr_w_obj ho.1 ho.2), pr_pre hX hXs hS hP hK⟩ rfl hn hsize hst hW hdg ⟨Nat.zero_le _, Nat.zero_le _⟩) hS (fun q _ h => h) (fun q h => h) (fun r u t H1 locs1 ht hvm hw hB _ _ hS1 => ?_)
  have hw : (r, u) = res := hw
  obtain ⟨hP1, _⟩ := hB
  rw [ht] at hP1
  subst hw
  exact kk H1 locs1 hP1 hS1
theorem pr_callVr {r : Int32} (S : CallFix p m c cc nL s args Ts own) (o : Nat) (hM : Met l y ws rm (pr_Pc X D cl L ad dA (.ref (ad o) :: As) σ) (pr_Qi D cl L ad dA A (r, σ)) 0 0 A) (cw : CallW R s args own C index y bytes maxL ret ws rm 0 0 n) (hX : pr_Xok A X) (hXs : X s) (hK : va_K D cl (pr_t L dA) s) (hP : va_P D cl (pr_w L ad dA σ) H) (hS : va_S A s.heap H locs) (ho : o < pr_n L ∧ o < pr_nO L) {q : vw_C} (hc : cl[pr_cls L o]? = some q) (hq : q.1 = C)
    {st0 : List Value} (hst : st0 = As.reverse ++ .ref (ad o) :: rest) (hn : As.length = n) (hsize : ls.size = nL) (hW : 2 * (F0 m pc ls st0).monitorRoom + (rest.map fun v => v.category).sum ≤ 8) (hdg : decode cc pc = .ok (.invokevirtual index, 3))
    (kk : ∀ (H1 : Heap) (locs1 : List Loc), va_P D cl (pr_w L ad dA σ) H1 → va_S A s.heap H1 locs1 → W p l e R s m args below meth c H1 locs1 0 0 Q (F0 m (pc + 3) ls (.int r :: rest))) : W p l e R s m args below meth c H locs 0 0 Q (F0 m pc ls st0) :=
  pr_callVi (res := (r, σ)) (rest := rest) (As := As) S o hM cw hX hXs hK hP hS ho hc hq hst hn hsize hW hdg kk
theorem pr_callSr {r : Int32} (S : CallFix p m c cc nL s args Ts own) (hM : Met l y ws rm (pr_Pc X D cl L ad dA As σ) (pr_Qi D cl L ad dA A (r, σ)) 0 0 A) (cw : CallB R s args own index y bytes maxL ret ws rm 0 0 n ∧ (Cond.static y).before args s = true) (hX : pr_Xok A X) (hXs : X s) (hK : va_K D cl (pr_t L dA) s) (hP : va_P D cl (pr_w L ad dA σ) H) (hS : va_S A s.heap H locs)
    {st0 : List Value} (hst : st0 = As.reverse ++ rest) (hn : As.length = n) (hsize : ls.size = nL) (hW : 2 * (F0 m pc ls st0).monitorRoom + (rest.map fun v => v.category).sum ≤ 8) (hdg : decode cc pc = .ok (.invokestatic index, 3))
    (kk : ∀ (H1 : Heap) (locs1 : List Loc), va_P D cl (pr_w L ad dA σ) H1 → va_S A s.heap H1 locs1 → W p l e R s m args below meth c H1 locs1 0 0 Q (F0 m (pc + 3) ls (.int r :: rest))) : W p l e R s m args below meth c H locs 0 0 Q (F0 m pc ls st0) :=
  pr_callSi (res := (r, σ)) (rest := rest) (As := As) S hM cw hX hXs hK hP hS hst hn hsize hW hdg kk
end PRCALLS2
section PRENDS2
variable {p : Program} {l : Launch} {e : Env} {R : Room} {s : State} {m : MethodId} {args : Array Value} {below : List Frame} {meth : Method} {c : Code} {H : Heap} {locs : List Loc}
variable {cc : ByteArray} {pc nL : Nat} {ls : Array Slot} {D : va_G} {cl : List vw_C} {A : Nat → Prop} {X : State → Prop}
variable {L : pr_L} {ad : Nat → Nat} {dA : Nat → ClassId} {σ : pr_St} {own : String}
theorem pr_retl {res : Int64 × pr_St} {v : Int64} (E : pr_cx own cc nL (some .long) D cl L ad dA A X p s m args meth c) (hP : va_P D cl (pr_w L ad dA σ) H) (hS : va_S A s.heap H locs) (hf : (v, σ) = res) (hdg : decode cc pc = .ok (.lreturn, 1)) : W p l e R s m args below meth c H locs 0 0 (MQ below (pr_Ql D cl L ad dA A res) args s 0 0 A) (F0 m pc ls [.long v]) := by
  obtain ⟨hx, hb, hml, hown, hts, hr, hlocks, hK, hD, hX, hXs⟩ := E
  exact W.lret (v := v) hx hb hr (fun t ht hW => ⟨⟨v, σ, rfl, hf, by rw [ht]; exact hP, va_K.moved hW.alike hK⟩, hS.F ht⟩) hS.2.2 hdg
end PRENDS2
def prX (t : Nat) (A : Nat → Prop) (U : State) : Prop := va_Z "ProgramRuns" "WORDS" "[C" (.ref t) A U U.heap ∧ va_T .char t 40 (fun j => .int (pr_wd j)) A U U.heap ∧ va_Nw (.fieldLinkNest "ProgramRuns$Tokens" 84 "ProgramRuns" "WORDS" "[C" "ProgramRuns") U
theorem prX_ok {t : Nat} {A : Nat → Prop} : pr_Xok A (prX t A) := by
  intro u U hvm hk h
  have ha : u.vm.Alike U.vm := by
    rcases hvm with e | e
    · rw [e]; exact Vm.Alike.refl _
    · exact e.alike
  refine ⟨(h.1.moved ha).kept hk, (h.2.1.moved ha).kept hk, ?_⟩
  rcases hvm with e | e
  · exact va_Nw.same rfl e h.2.2
  · exact va_Nw.warmF e h.2.2
