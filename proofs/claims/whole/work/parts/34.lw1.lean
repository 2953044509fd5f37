/-! ===== the law's helpers: bodies with a table over a world ===== -/
def nLaw (A : Nat → Prop) (U : State) : Prop := nTh A U ∧ (va_Nw (.classLink RL 13 xIAE) U ∧ va_Nw (.classLink RL 19 xAIO) U) ∧ va_Nc xIAE xAIO U ∧ nChain U ∧ nInit U
theorem nLaw_calling {A : Nat → Prop} (U : State) (g : JFrame) (mk : MethodId) (a : Array Value) (h : nLaw A U) : nLaw A (U.calling g mk a) :=
  ⟨nTh_calling U g mk a h.1, ⟨va_Nw.same rfl (u := U) rfl h.2.1.1, va_Nw.same rfl (u := U) rfl h.2.1.2⟩, va_Nc.moved (u := U) (Vm.Alike.refl U.vm) h.2.2.1, nChain_calling U g mk a h.2.2.2.1, nInit_calling U g mk a h.2.2.2.2⟩
theorem nLaw_warm {A B : Nat → Prop} {s U : State} {H : Heap} {locs : List Loc} (h : nLaw A s) (hS : va_S A s.heap H locs) (hAB : ∀ q, B q → A q) (hU : U.heap = H) (hW : s.WarmedH U.vm) : nLaw B U :=
  ⟨nTh_warm h.1 hS hAB hU hW, ⟨word_at hW (good_of_word (by decide +kernel)) h.2.1.1, word_at hW (good_of_word (by decide +kernel)) h.2.1.2⟩, va_Nc.moved hW.alike h.2.2.1, nChain_warm hW h.2.2.2.1, nInit_warm hW h.2.2.2.2⟩
theorem zMetW {l : Launch} {D : va_G} {tys : List (ClassId × FieldType)} {wc : va_W} {E : (Nat → Prop) → State → Prop} {av : List Value} {sz : Nat} {y : MethodName} {ws ws' : List Cond} {rm : Room} {Qf : (Nat → Prop) → Array Value → State → Outcome → State → Prop} {mc ms : Nat} {cc : ByteArray} {maxL : Nat} {ret : Option FieldType} {hh : List (Nat × Nat × Nat × Nat)}
    (hy : plainName y.cls = true) (hw : ws = Cond.codeWith y cc maxL ret hh :: ws') (hlen : (lg_sl av).length ≤ maxL)
    (body : ∀ (p : Program) (e : Env) (s : State) (m : MethodId) (args : Array Value) (below : List Frame) (meth : Method) (c : Code) (A : Nat → Prop) (ls : Array Slot) (Q : State → Prop) (H : Heap), args = av.toArray → Q = MQ below (Qf A) args s mc ms A → H = s.heap → p.tables.exec = Jvm.exec → c.code = cc → meth.sig.returnType = ret → c.maxLocals = maxL → s.vm.findClass y.cls = some m.cls → (∀ w ∈ ws, w.before args s = true) → meth.locks = false → meth.name = y.name →
      va_P D cl5 wc H → va_K D cl5 tys s → va_D A wc → (∀ q : Nat, s.heap.size ≤ q → A q) → va_S A s.heap H [] → E A s → va_A wc s.heap.size = A → c.exceptionTable.toList = tableOf hh → lv_has ls maxL (lv_args 0 av) →
      W p l e rm s m args below meth c H [] 0 0 Q (F0 m 0 ls [])) : Met l y ws rm (zP D tys av sz wc (E (va_A wc sz))) (Qf (va_A wc sz)) mc ms (va_A wc sz) := by
  refine va_MetW (cc := cc) (maxL := maxL) (ret := ret) (hh := hh) hy hw ?_
  intro p e s m args below meth c s₁ B hml hv
  obtain ⟨hav, hsz, hP, hK, hD0, hE⟩ := hv
  subst hsz
  have hD := hD0.self (sz := s.heap.size)
  have hts := atoms_spec (ws := ws) B.pre
  have htb := vx_table (x := y) B (hts _ (by rw [hw]; exact List.mem_cons_self) : (Cond.codeWith y cc maxL ret hh).before args s = true)
  have he : entryFrame m args maxL = F0 m 0 ((lg_sl av ++ List.replicate (maxL - (lg_sl av).length) Slot.unset).toArray) [] := by rw [hav]; exact lg_entry_eq m av maxL
  rw [he]
  exact body p e s m args below meth c _ _ _ _ hav rfl rfl B.exec B.bytes B.returns hml (findClass_of_methodNamed B.named) hts B.notSynchronized (name_of_methodNamed B.named B.method).1 hP hK hD (fun q h => Or.inr h) va_S.rf hE rfl htb (lv_entry av hlen)
theorem zMetWDz {cs : List Choice} {l : Launch} {D : va_G} {tys : List (ClassId × FieldType)} {wc : va_W} {E : (Nat → Prop) → State → Prop} {av : List Value} {sz : Nat} {y : MethodName} {ws ws' : List Cond} {rm : Room} {Qf : (Nat → Prop) → Array Value → State → Outcome → State → Prop} {mc ms : Nat} {cc : ByteArray} {maxL : Nat} {ret : Option FieldType} {hh : List (Nat × Nat × Nat × Nat)}
    (hy : plainName y.cls = true) (hw : ws = Cond.codeWith y cc maxL ret hh :: ws') (hlen : (lg_sl av).length ≤ maxL)
    (body : ∀ (p : Program) (e : Env) (s : State) (m : MethodId) (args : Array Value) (below : List Frame) (meth : Method) (c : Code) (A : Nat → Prop) (ls : Array Slot) (Q : State → Prop) (H : Heap) (d : Drawn), args = av.toArray → Q = MQD cs below (Qf A) args s mc ms A → H = s.heap → p.tables.exec = Jvm.exec → c.code = cc → meth.sig.returnType = ret → c.maxLocals = maxL → s.vm.findClass y.cls = some m.cls → (∀ w ∈ ws, w.before args s = true) → meth.locks = false → meth.name = y.name →
      va_P D cl5 wc H → va_K D cl5 tys s → va_D A wc → (∀ q : Nat, s.heap.size ≤ q → A q) → va_S A s.heap H [] → E A s → va_A wc s.heap.size = A → lv_has ls maxL (lv_args 0 av) → s.drawn.sameBut d cs →
      W p l e rm (s.setDrawn d) m args below meth c H [] 0 0 Q (F0 m 0 ls [])) : MetD cs l y ws rm (zP D tys av sz wc (E (va_A wc sz))) (Qf (va_A wc sz)) mc ms (va_A wc sz) := by
  refine zMetWD (cc := cc) (maxL := maxL) (ret := ret) (hh := hh) hy hw ?_
  intro p e s m args below meth c s₁ B hml hv hd0
  obtain ⟨hav, hsz, hP, hK, hD0, hE⟩ := hv
  subst hsz
  have hD := hD0.self (sz := s.heap.size)
  have hts := atoms_spec (ws := ws) B.pre
  have he : entryFrame m args maxL = F0 m 0 ((lg_sl av ++ List.replicate (maxL - (lg_sl av).length) Slot.unset).toArray) [] := by rw [hav]; exact lg_entry_eq m av maxL
  rw [he]
  exact body p e s m args below meth c _ _ _ _ _ hav rfl rfl B.exec B.bytes B.returns hml (findClass_of_methodNamed B.named) hts B.notSynchronized (name_of_methodNamed B.named B.method).1 hP hK hD (fun q h => Or.inr h) va_S.rf hE rfl (lv_entry av hlen) hd0
