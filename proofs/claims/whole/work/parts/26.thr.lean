/-! ===== what a throw needs, and where a throwing call stands ===== -/
abbrev xAIO : String := "java/lang/ArrayIndexOutOfBoundsException"
abbrev xIAE : String := "java/lang/IllegalArgumentException"
abbrev xNA : List String := ["java/lang/IndexOutOfBoundsException", "java/lang/RuntimeException", "java/lang/Exception"]
abbrev xNI : List String := ["java/lang/RuntimeException", "java/lang/Exception"]
abbrev xtP : String := "no such fret or place"
abbrev xtT : String := "no such part"
abbrev xtW : String := "a number is too small or too great"
abbrev xtK : String := "no such note"
def xWT : List Cond := (Cond.classLink RX3 173 xAIO :: Cond.initialized xAIO :: vx_atS RX3 177 xAIO xNA) ++ (Cond.classLink RX3 204 xIAE :: Cond.initialized xIAE :: vx_atS RX3 208 xIAE xNI)
def xBad : Cond → Bool
  | .declares _ => true
  | .castable _ _ => true
  | _ => false
theorem xWT_ok : xWT.all (fun w => w.onTables && (goodWord w || xBad w)) = true := by decide +kernel
theorem xWT_A : ∀ w ∈ Cond.classLink RX3 173 xAIO :: Cond.initialized xAIO :: vx_atS RX3 177 xAIO xNA, vx_ot w = true := List.all_eq_true.mp (by decide +kernel)
theorem xWT_I : ∀ w ∈ Cond.classLink RX3 204 xIAE :: Cond.initialized xIAE :: vx_atS RX3 208 xIAE xNI, vx_ot w = true := List.all_eq_true.mp (by decide +kernel)
theorem xBad_warm {w : Cond} {s U : State} (hW : s.WarmedH U.vm) (hb : xBad w = true) (h : va_Nw w s) : va_Nw w U := by
  cases w <;> first | exact va_Nw.warmD hW h | exact va_Nw.warmC hW h | cases hb
theorem xWT_warm {s U : State} (hW : s.WarmedH U.vm) (h : ∀ w ∈ xWT, va_Nw w s) : ∀ w ∈ xWT, va_Nw w U := by
  intro w hw
  have h1 := List.all_eq_true.mp xWT_ok w hw
  rw [Bool.and_eq_true, Bool.or_eq_true] at h1
  rcases h1.2 with g | g
  · exact word_at hW (good_of_word g) (h w hw)
  · exact xBad_warm hW g (h w hw)
theorem xWT_use {s : State} {args : Array Value} (h : ∀ w ∈ xWT, va_Nw w s) : ∀ w ∈ xWT, w.before args s = true := by
  intro w hw
  have h1 := List.all_eq_true.mp xWT_ok w hw
  rw [Bool.and_eq_true] at h1
  exact va_Nw.use h1.1 (h w hw)
def nKey (A : Nat → Prop) (U : State) (H : Heap) : Prop := ∃ t, va_Z RX3 "WHITE_KEYS" "[I" (.ref t) A U H ∧ va_T .int t 12 (fun j => .int (whI j)) A U H
def nTh (A : Nat → Prop) (U : State) : Prop :=
  (∀ w ∈ xWT, va_Nw w U) ∧ ((∃ sa, vk_R RX3 200 xtP sa U) ∧ (∃ sa, vk_R RX3 202 xtT sa U) ∧ (∃ sa, vk_R RX3 206 xtW sa U) ∧ ∃ sa, vk_R RX3 175 xtK sa U) ∧ vx_Zq Bundle.tN "UNASSIGNED_STACK" Bundle.steD A U U.heap ∧ vx_Zq Bundle.tN "SUPPRESSED_SENTINEL" Bundle.listD A U U.heap ∧ nKey A U U.heap
theorem nTh_calling {A : Nat → Prop} (U : State) (g : JFrame) (mk : MethodId) (a : Array Value) (h : nTh A U) : nTh A (U.calling g mk a) := by
  obtain ⟨h1, ⟨⟨a1, k1⟩, ⟨a2, k2⟩, ⟨a3, k3⟩, a4, k4⟩, h3, h4, t5, h5, h6⟩ := h
  refine ⟨fun w hw => ?_, ⟨⟨a1, vk_R.same (u := U) rfl k1⟩, ⟨a2, vk_R.same (u := U) rfl k2⟩, ⟨a3, vk_R.same (u := U) rfl k3⟩, a4, vk_R.same (u := U) rfl k4⟩, vx_Zq.moved (u := U) (Vm.Alike.refl U.vm) h3, vx_Zq.moved (u := U) (Vm.Alike.refl U.vm) h4, t5, va_Z.moved (u := U) (Vm.Alike.refl U.vm) h5, va_T.moved (u := U) (Vm.Alike.refl U.vm) h6⟩
  have h9 := List.all_eq_true.mp xWT_ok w hw
  rw [Bool.and_eq_true] at h9
  exact va_Nw.same h9.1 (u := U) rfl (h1 w hw)
/-- .. at a call: the heap has gone on, the callee may write less -/
theorem nTh_warm {A B : Nat → Prop} {s U : State} {H : Heap} {locs : List Loc} (h : nTh A s) (hS : va_S A s.heap H locs) (hAB : ∀ q, B q → A q) (hU : U.heap = H) (hW : s.WarmedH U.vm) : nTh B U := by
  obtain ⟨h1, ⟨⟨a1, k1⟩, ⟨a2, k2⟩, ⟨a3, k3⟩, a4, k4⟩, h3, h4, t5, h5, h6⟩ := h
  refine ⟨xWT_warm hW h1, ⟨⟨a1, k1.warm hW⟩, ⟨a2, k2.warm hW⟩, ⟨a3, k3.warm hW⟩, a4, k4.warm hW⟩, ?_, ?_, t5, ?_, ?_⟩
  · rw [hU]; exact vx_Zq.narrow (vx_Zq.moved hW.alike (vx_Zq.kept h3 hS.2.1)) hAB
  · rw [hU]; exact vx_Zq.narrow (vx_Zq.moved hW.alike (vx_Zq.kept h4 hS.2.1)) hAB
  · rw [hU]; exact va_Z.narrow (va_Z.moved hW.alike (va_Z.kept h5 hS.2.1)) hAB
  · rw [hU]; exact va_T.narrow (va_T.moved hW.alike (va_T.kept h6 hS.2.1)) hAB
/-- what a throw leaves: the world as it was -/
abbrev zX (D : va_G) (tys : List (ClassId × FieldType)) (En : String) (wc : va_W) (A : Nat → Prop) : String → State → State → Prop :=
  vx_X (fun _ : Unit => True) (fun E' _ t => E' = En ∧ va_P D cl5 wc t.heap ∧ va_K D cl5 tys t ∧ va_D A wc) A
abbrev zNo : Array Value → State → Outcome → State → Prop := fun _ _ _ _ => False
section ZX
variable {p : Program} {l : Launch} {e : Env} {R : Room} {s : State} {m : MethodId} {args : Array Value} {below : List Frame} {meth : Method} {c : Code} {H : Heap} {locs : List Loc} {cells slots : Nat} {Q : State → Prop}
variable {mc ms mc1 ms1 : Nat} {A A0 : Nat → Prop} {H0 : Heap} {a : Array Value} {pc : Nat} {ls : Array Slot} {st0 rest : List Value}
variable {D : va_G} {tys : List (ClassId × FieldType)} {ws wc wr : va_W} {En : String} {Qc : Array Value → State → Outcome → State → Prop}
/-- a call that throws, caught or not: the frame is joined -/
theorem zx_k (hP : va_P D cl5 ws H) (hD : va_D A0 ws) (hS : va_S A0 H0 H locs) (hA : ∀ q, H0.size ≤ q → A0 q) (isC isR isW : List Nat) (hC : isC.map (fun i => ws[i]?) = wc.map some) (hR : isR.map (fun i => ws[i]?) = wr.map some) (hn : va_nd isR = true) (hdis : ∀ i ∈ isR, i ∉ isC) (hW0 : isW.filterMap (fun i => (wr ++ wc)[i]?) = ws) (hW : isW.map (fun i => (wr ++ wc)[i]?) = ws.map some) (hnW : va_nd isW = true)
    (hr : vx_Run p l e R s m args below meth c H locs cells slots mc ms (F0 m pc ls st0) rest (zNo a) (zX D tys En wc (va_A wc H.size)) (va_A wc H.size))
    (kk : ∀ (ce : Cell) (q9 : Addr) (H1 : Heap) (locs1 : List Loc), va_P D cl5 ws H1 → va_D A0 ws → va_S A0 H0 H1 locs1 → H1[q9]? = some ce → ce.vm = .none → s.vm.findClass En = some ce.cls → vx_W p l e R s m args below meth c H1 locs1 (cells + mc) (slots + ms) Q (F0 m pc ls rest) q9) : W p l e R s m args below meth c H locs cells slots Q (F0 m pc ls st0) := by
  have hF := va_free (wc := wc) hD hS hA isC hC
  intro T hT X
  rcases hr T hT X with ⟨v, st₀, t, T', L, h0, X', hL, e1, e2, hno, st⟩ | ⟨q, st₀, t, T', L, E, ce, h0, X', hL, e1, e2, ⟨u, hp, ⟨rfl, hP1, hK1, hD1⟩, hFx⟩, hce, hcv, hcl, st⟩
  · exact hno.elim
  · obtain ⟨k1, k2, k3⟩ := vx_keep h0 e1 hS (fun q _ h => hF q h) hF hL hFx
    rw [← e1] at hP1
    obtain ⟨hP2, hD2⟩ := va_join (wr := wr) hP hD isC isR hC hR hn hdis k2 hF hP1 hD1
    obtain ⟨t2, a1, b1⟩ := kk ce q T'.heap (locs ++ L) (hP2.sub isW hW0) (hD2.sub isW hnW hW) k3 (by rw [e1]; exact hce) hcv hcl T' rfl X'
    exact ⟨t2, st.trans a1, b1⟩
/-- .. and not caught here -/
theorem zx_out (hP : va_P D cl5 ws H) (hK : va_K D cl5 tys s) (hD : va_D A ws) (hS : va_S A s.heap H locs) (hA : ∀ q, s.heap.size ≤ q → A q) (isC isR isW : List Nat) (hC : isC.map (fun i => ws[i]?) = wc.map some) (hR : isR.map (fun i => ws[i]?) = wr.map some) (hn : va_nd isR = true) (hdis : ∀ i ∈ isR, i ∉ isC) (hW0 : isW.filterMap (fun i => (wr ++ wc)[i]?) = ws) (hW : isW.map (fun i => (wr ++ wc)[i]?) = ws.map some) (hnW : va_nd isW = true)
    (htb : ∀ x ∈ c.exceptionTable.toList, False) (hlocks : meth.locks = false) (hc : cells + mc ≤ mc1) (hs : slots + ms ≤ ms1)
    (hr : vx_Run p l e R s m args below meth c H locs cells slots mc ms (F0 m pc ls st0) rest (zNo a) (zX D tys En wc (va_A wc H.size)) (va_A wc H.size)) :
    W p l e R s m args below meth c H locs cells slots (vx_MQ below Qc (zX D tys En ws A) args s mc1 ms1 A) (F0 m pc ls st0) := by
  refine zx_k hP hD hS hA isC isR isW hC hR hn hdis hW0 hW hnW hr (fun ce q9 H1 locs1 hP1 hD1 hS1 h1 h2 h3 => ?_)
  exact vx_out (fun x hx => (htb x hx).elim) hlocks h1 h2 h3 (fun t ht hal => ⟨(), trivial, ⟨rfl, by rw [ht]; exact hP1, va_K.moved hal hK, hD1⟩, hS1.F ht⟩) hS1.2.2 hc hs
/-- 'throw new E("..")' -/
theorem zx_thr {cc : ByteArray} {own text : String} {names : List String} {ik is ic : Nat} (hexec : p.tables.exec = Jvm.exec) (hb : c.code = cc) (hl : l.stackTraces = false) (hP : va_P D cl5 ws H) (hK : va_K D cl5 tys s) (hD : va_D A ws) (hS : va_S A s.heap H locs)
    (hown : s.vm.findClass own = some m.cls) (hcls : Bundle.fit En = true) (hnames : ∀ n ∈ names, Bundle.fit n = true) (hk : (Cond.classLink own ik En).before args s = true) (hini : (Cond.initialized En).before args s = true) (hstr : ∃ sa, vk_R own is text sa s) (hat : ∀ w ∈ vx_atS own ic En names, w.before args s = true)
    (hgood : ∀ w ∈ Cond.classLink own ik En :: Cond.initialized En :: vx_atS own ic En names, vx_ot w = true)
    (hU : vx_Zq Bundle.tN "UNASSIGNED_STACK" Bundle.steD A s s.heap) (hN : vx_Zq Bundle.tN "SUPPRESSED_SENTINEL" Bundle.listD A s s.heap) (hsize : ls.size = c.maxLocals)
    (d0 : decode cc pc = .ok (.new ik, 3)) (d3 : decode cc (pc + 3) = .ok (.dup, 1)) (d4 : decode cc (pc + 4) = .ok (.ldc is, 2)) (d6 : decode cc (pc + 6) = .ok (.invokespecial ic, 3)) (d9 : decode cc (pc + 9) = .ok (.athrow, 1))
    (htb : ∀ x ∈ c.exceptionTable.toList, False) (hRf : names.length + 3 < R.frames) (hRl : (rest.map fun v => v.category).sum + (13 * (names.length + 1) + 43) ≤ R.locals) (hRc : cells + 1 ≤ R.cells) (hRs : slots + 6 ≤ R.slots) (hlocks : meth.locks = false) (hc : cells + 1 ≤ mc1) (hs : slots + 6 ≤ ms1) :
    W p l e R s m args below meth c H locs cells slots (vx_MQ below Qc (zX D tys En ws A) args s mc1 ms1 A) (F0 m pc ls rest) := by
  obtain ⟨sa, hsa⟩ := hstr
  exact vx_throwS hexec hb hl hown hcls hnames hk hini hsa hat hgood hU hN hS hsize d0 d3 d4 d6 d9 (fun x hx => (htb x hx).elim) hRf hRl hRc hRs hlocks
    (fun t hal hz hq => ⟨(), trivial, ⟨rfl, va_P.kept hP (fun k q hk => hq q.1 (vx_lt hP hk)), va_K.moved hal hK, hD⟩, ⟨Nat.le_trans hS.1 hz, fun q h1 h2 => (hq q (Nat.lt_of_lt_of_le h1 hS.1)).trans (hS.2.1 q h1 h2)⟩⟩) hS.2.2 hc hs
end ZX
/-- the body of a contract that throws -/
abbrev zBodyX (D : va_G) (tys : List (ClassId × FieldType)) (wc : va_W) (E : (Nat → Prop) → State → Prop) (av : List Value) (l : Launch) (y : MethodName) (ws : List Cond) (rm : Room) (cc : ByteArray) (maxL : Nat) (ret : Option FieldType) (Qg : List Frame → (Nat → Prop) → Array Value → State → State → Prop) : Prop :=
  ∀ (p : Program) (e : Env) (s : State) (m : MethodId) (args : Array Value) (below : List Frame) (meth : Method) (c : Code) (A : Nat → Prop) (ls : Array Slot) (Q : State → Prop) (H : Heap), args = av.toArray → Q = Qg below A args s → H = s.heap → p.tables.exec = Jvm.exec → c.code = cc → meth.sig.returnType = ret → c.maxLocals = maxL → s.vm.findClass y.cls = some m.cls → (∀ w ∈ ws, w.before args s = true) → meth.locks = false → meth.name = y.name →
      va_P D cl5 wc H → va_K D cl5 tys s → va_D A wc → (∀ q : Nat, s.heap.size ≤ q → A q) → va_S A s.heap H [] → E A s → va_A wc s.heap.size = A → (∀ x ∈ c.exceptionTable.toList, False) → lv_has ls maxL (lv_args 0 av) →
      W p l e rm s m args below meth c H [] 0 0 Q (F0 m 0 ls [])
theorem zMetX {l : Launch} {D : va_G} {tys : List (ClassId × FieldType)} {wc : va_W} {E : (Nat → Prop) → State → Prop} {av : List Value} {sz : Nat} {y : MethodName} {ws ws' : List Cond} {rm : Room} {En : String} {mc ms : Nat} {cc : ByteArray} {maxL : Nat} {ret : Option FieldType}
    (hy : plainName y.cls = true) (hw : ws = Cond.code y cc maxL ret :: ws') (hlen : (lg_sl av).length ≤ maxL)
    (body : zBodyX D tys wc E av l y ws rm cc maxL ret (fun below A args s => vx_MQ below zNo (zX D tys En wc A) args s mc ms A)) : vx_Met l y ws rm (zP D tys av sz wc (E (va_A wc sz))) zNo (zX D tys En wc (va_A wc sz)) mc ms (va_A wc sz) := by
  refine vx_ofW (cc := cc) (maxL := maxL) (ret := ret) hy hw ?_
  intro p e s m args below meth c s₁ B hml htb hv
  obtain ⟨hav, hsz, hP, hK, hD0, hE⟩ := hv
  subst hsz
  have hD := hD0.self (sz := s.heap.size)
  have hts := atoms_spec (ws := ws) B.pre
  have he : entryFrame m args maxL = F0 m 0 ((lg_sl av ++ List.replicate (maxL - (lg_sl av).length) Slot.unset).toArray) [] := by rw [hav]; exact lg_entry_eq m av maxL
  rw [he]
  exact body p e s m args below meth c _ _ _ _ hav rfl rfl B.exec B.bytes B.returns hml (findClass_of_methodNamed B.named) hts B.notSynchronized (name_of_methodNamed B.named B.method).1 hP hK hD (fun q h => Or.inr h) va_S.rf hE rfl htb (lv_entry av hlen)
theorem zMetA {l : Launch} {D : va_G} {tys : List (ClassId × FieldType)} {wc : va_W} {E : (Nat → Prop) → State → Prop} {av : List Value} {sz : Nat} {y : MethodName} {ws ws' : List Cond} {rm : Room} {Qf : (Nat → Prop) → Array Value → State → Outcome → State → Prop} {mc ms : Nat} {cc : ByteArray} {maxL : Nat} {ret : Option FieldType}
    (hy : plainName y.cls = true) (hw : ws = Cond.code y cc maxL ret :: ws') (hlen : (lg_sl av).length ≤ maxL)
    (body : ∀ (p : Program) (e : Env) (s : State) (m : MethodId) (args : Array Value) (below : List Frame) (meth : Method) (c : Code) (A : Nat → Prop) (ls : Array Slot) (Q : State → Prop) (H : Heap), args = av.toArray → Q = MQ below (Qf A) args s mc ms A → H = s.heap → p.tables.exec = Jvm.exec → c.code = cc → meth.sig.returnType = ret → c.maxLocals = maxL → s.vm.findClass y.cls = some m.cls → (∀ w ∈ ws, w.before args s = true) → meth.locks = false → meth.name = y.name →
      va_P D cl5 wc H → va_K D cl5 tys s → va_D A wc → (∀ q : Nat, s.heap.size ≤ q → A q) → va_S A s.heap H [] → E A s → va_A wc s.heap.size = A → lv_has ls maxL (lv_args 0 av) →
      W p l e rm s m args below meth c H [] 0 0 Q (F0 m 0 ls [])) : Met l y ws rm (zP D tys av sz wc (E (va_A wc sz))) (Qf (va_A wc sz)) mc ms (va_A wc sz) := by
  refine Met.ofW (cc := cc) (maxL := maxL) (ret := ret) hy hw ?_
  intro p e s m args below meth c s₁ B hml hv
  obtain ⟨hav, hsz, hP, hK, hD0, hE⟩ := hv
  subst hsz
  have hD := hD0.self (sz := s.heap.size)
  have hts := atoms_spec (ws := ws) B.pre
  have he : entryFrame m args maxL = F0 m 0 ((lg_sl av ++ List.replicate (maxL - (lg_sl av).length) Slot.unset).toArray) [] := by rw [hav]; exact lg_entry_eq m av maxL
  rw [he]
  exact body p e s m args below meth c _ _ _ _ hav rfl rfl B.exec B.bytes B.returns hml (findClass_of_methodNamed B.named) hts B.notSynchronized (name_of_methodNamed B.named B.method).1 hP hK hD (fun q h => Or.inr h) va_S.rf hE rfl (lv_entry av hlen)
