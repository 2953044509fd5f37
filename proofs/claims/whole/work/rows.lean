section
-- ===== PART A: goes FIRST, ahead of the names: the tables' words, and 'selects' of the private methods out of them =====
/-- a private method of a class that the tables say can be made, by its rows of tables_1 -/
def lw_okq (q : MethodName × Nat) : Prop := (q.1.cls ≠ "java/lang/invoke/MethodHandle" ∧ q.1.cls ≠ "java/lang/invoke/VarHandle") ∧ Cond.instantiable q.1.cls q.2 ∈ tables_1 ∧ Cond.privateMethod q.1 ∈ tables_1 ∧ Cond.instanceMethod q.1 ∈ tables_1
theorem lw_p0 : lw_okq (⟨"FretRoots", "lowerEnd", "(LFretRoots$FretRow;I)J"⟩, 12) := ⟨⟨by decide +kernel, by decide +kernel⟩, List.mem_of_getElem? (i := 15) (by decide +kernel), List.mem_of_getElem? (i := 154) (by decide +kernel), List.mem_of_getElem? (i := 155) (by decide +kernel)⟩
theorem lw_p1 : lw_okq (⟨"FretRoots", "octaveOf", "(I)I"⟩, 12) := ⟨⟨by decide +kernel, by decide +kernel⟩, List.mem_of_getElem? (i := 15) (by decide +kernel), List.mem_of_getElem? (i := 158) (by decide +kernel), List.mem_of_getElem? (i := 159) (by decide +kernel)⟩
theorem lw_p2 : lw_okq (⟨"FretRoots", "greatestEnd", "(JI)J"⟩, 12) := ⟨⟨by decide +kernel, by decide +kernel⟩, List.mem_of_getElem? (i := 15) (by decide +kernel), List.mem_of_getElem? (i := 163) (by decide +kernel), List.mem_of_getElem? (i := 164) (by decide +kernel)⟩
theorem lw_p3 : lw_okq (⟨"FretRoots$BigNumbe\x72", "append", "(J)V"⟩, 2) := ⟨⟨by decide +kernel, by decide +kernel⟩, List.mem_of_getElem? (i := 46) (by decide +kernel), List.mem_of_getElem? (i := 171) (by decide +kernel), List.mem_of_getElem? (i := 172) (by decide +kernel)⟩
theorem lw_p4 : lw_okq (⟨"FretRoots$BigNumbe\x72", "multiply", "(J)V"⟩, 2) := ⟨⟨by decide +kernel, by decide +kernel⟩, List.mem_of_getElem? (i := 46) (by decide +kernel), List.mem_of_getElem? (i := 176) (by decide +kernel), List.mem_of_getElem? (i := 177) (by decide +kernel)⟩
theorem lw_p5 : lw_okq (⟨"FretRoots", "isNotAboveLeft", "(JI)Z"⟩, 12) := ⟨⟨by decide +kernel, by decide +kernel⟩, List.mem_of_getElem? (i := 15) (by decide +kernel), List.mem_of_getElem? (i := 190) (by decide +kernel), List.mem_of_getElem? (i := 191) (by decide +kernel)⟩
theorem lw_p6 : lw_okq (⟨"java/lang/Throwable", "fillInStackTrace", "(I)Ljava/lang/Throwable;"⟩, 6) := ⟨⟨by decide +kernel, by decide +kernel⟩, List.mem_of_getElem? (i := 258) (by decide +kernel), List.mem_of_getElem? (i := 256) (by decide +kernel), List.mem_of_getElem? (i := 257) (by decide +kernel)⟩
theorem lw_p7 : lw_okq (⟨"FretRoots", "needPlace", "(I)V"⟩, 12) := ⟨⟨by decide +kernel, by decide +kernel⟩, List.mem_of_getElem? (i := 15) (by decide +kernel), List.mem_of_getElem? (i := 301) (by decide +kernel), List.mem_of_getElem? (i := 302) (by decide +kernel)⟩
theorem lw_p8 : lw_okq (⟨"FretRoots", "endsMeet", "(IJ)Z"⟩, 12) := ⟨⟨by decide +kernel, by decide +kernel⟩, List.mem_of_getElem? (i := 15) (by decide +kernel), List.mem_of_getElem? (i := 326) (by decide +kernel), List.mem_of_getElem? (i := 327) (by decide +kernel)⟩
theorem lw_p9 : lw_okq (⟨"FretRoots", "lastNotAbove", "(II)I"⟩, 12) := ⟨⟨by decide +kernel, by decide +kernel⟩, List.mem_of_getElem? (i := 15) (by decide +kernel), List.mem_of_getElem? (i := 382) (by decide +kernel), List.mem_of_getElem? (i := 383) (by decide +kernel)⟩
theorem lw_p10 : lw_okq (⟨"FretRoots", "isPastMiddle", "(III)Z"⟩, 12) := ⟨⟨by decide +kernel, by decide +kernel⟩, List.mem_of_getElem? (i := 15) (by decide +kernel), List.mem_of_getElem? (i := 386) (by decide +kernel), List.mem_of_getElem? (i := 387) (by decide +kernel)⟩
theorem lw_p11 : lw_okq (⟨"FretRoots$Chain", "settle", "(JJI)Z"⟩, 4) := ⟨⟨by decide +kernel, by decide +kernel⟩, List.mem_of_getElem? (i := 23) (by decide +kernel), List.mem_of_getElem? (i := 414) (by decide +kernel), List.mem_of_getElem? (i := 415) (by decide +kernel)⟩
theorem lw_p12 : lw_okq (⟨"FretRootsModel", "noPlace", "(I)Z"⟩, 14) := ⟨⟨by decide +kernel, by decide +kernel⟩, List.mem_of_getElem? (i := 483) (by decide +kernel), List.mem_of_getElem? (i := 550) (by decide +kernel), List.mem_of_getElem? (i := 551) (by decide +kernel)⟩
theorem lw_p13 : lw_okq (⟨"FretRootsModel", "lowe\x72", "(IJ)J"⟩, 14) := ⟨⟨by decide +kernel, by decide +kernel⟩, List.mem_of_getElem? (i := 483) (by decide +kernel), List.mem_of_getElem? (i := 555) (by decide +kernel), List.mem_of_getElem? (i := 556) (by decide +kernel)⟩
theorem lw_p14 : lw_okq (⟨"FretRootsModel", "side", "(JIJ)I"⟩, 14) := ⟨⟨by decide +kernel, by decide +kernel⟩, List.mem_of_getElem? (i := 483) (by decide +kernel), List.mem_of_getElem? (i := 559) (by decide +kernel), List.mem_of_getElem? (i := 560) (by decide +kernel)⟩
theorem lw_p15 : lw_okq (⟨"FretRootsModel", "powe\x72", "(IJI)V"⟩, 14) := ⟨⟨by decide +kernel, by decide +kernel⟩, List.mem_of_getElem? (i := 483) (by decide +kernel), List.mem_of_getElem? (i := 563) (by decide +kernel), List.mem_of_getElem? (i := 564) (by decide +kernel)⟩
def lw_privs_1 : List (MethodName × Nat) := [(⟨"FretRoots", "lowerEnd", "(LFretRoots$FretRow;I)J"⟩, 12), (⟨"FretRoots", "octaveOf", "(I)I"⟩, 12), (⟨"FretRoots", "greatestEnd", "(JI)J"⟩, 12), (⟨"FretRoots$BigNumbe\x72", "append", "(J)V"⟩, 2), (⟨"FretRoots$BigNumbe\x72", "multiply", "(J)V"⟩, 2), (⟨"FretRoots", "isNotAboveLeft", "(JI)Z"⟩, 12), (⟨"java/lang/Throwable", "fillInStackTrace", "(I)Ljava/lang/Throwable;"⟩, 6), (⟨"FretRoots", "needPlace", "(I)V"⟩, 12), (⟨"FretRoots", "endsMeet", "(IJ)Z"⟩, 12), (⟨"FretRoots", "lastNotAbove", "(II)I"⟩, 12), (⟨"FretRoots", "isPastMiddle", "(III)Z"⟩, 12), (⟨"FretRoots$Chain", "settle", "(JJI)Z"⟩, 4), (⟨"FretRootsModel", "noPlace", "(I)Z"⟩, 14), (⟨"FretRootsModel", "lowe\x72", "(IJ)J"⟩, 14), (⟨"FretRootsModel", "side", "(JIJ)I"⟩, 14), (⟨"FretRootsModel", "powe\x72", "(IJI)V"⟩, 14)]
theorem lw_r1 : ∀ q ∈ lw_privs_1, lw_okq q := List.forall_mem_cons.mpr ⟨lw_p0, List.forall_mem_cons.mpr ⟨lw_p1, List.forall_mem_cons.mpr ⟨lw_p2, List.forall_mem_cons.mpr ⟨lw_p3, List.forall_mem_cons.mpr ⟨lw_p4, List.forall_mem_cons.mpr ⟨lw_p5, List.forall_mem_cons.mpr ⟨lw_p6, List.forall_mem_cons.mpr ⟨lw_p7, List.forall_mem_cons.mpr ⟨lw_p8, List.forall_mem_cons.mpr ⟨lw_p9, List.forall_mem_cons.mpr ⟨lw_p10, List.forall_mem_cons.mpr ⟨lw_p11, List.forall_mem_cons.mpr ⟨lw_p12, List.forall_mem_cons.mpr ⟨lw_p13, List.forall_mem_cons.mpr ⟨lw_p14, List.forall_mem_cons.mpr ⟨lw_p15, fun _ h => absurd h List.not_mem_nil⟩⟩⟩⟩⟩⟩⟩⟩⟩⟩⟩⟩⟩⟩⟩⟩
theorem lw_p16 : lw_okq (⟨"FretRootsModel", "set", "(IJ)V"⟩, 14) := ⟨⟨by decide +kernel, by decide +kernel⟩, List.mem_of_getElem? (i := 483) (by decide +kernel), List.mem_of_getElem? (i := 567) (by decide +kernel), List.mem_of_getElem? (i := 568) (by decide +kernel)⟩
theorem lw_p17 : lw_okq (⟨"FretRootsModel", "times", "(IJ)V"⟩, 14) := ⟨⟨by decide +kernel, by decide +kernel⟩, List.mem_of_getElem? (i := 483) (by decide +kernel), List.mem_of_getElem? (i := 571) (by decide +kernel), List.mem_of_getElem? (i := 572) (by decide +kernel)⟩
theorem lw_p18 : lw_okq (⟨"FretRootsModel", "twice", "(II)V"⟩, 14) := ⟨⟨by decide +kernel, by decide +kernel⟩, List.mem_of_getElem? (i := 483) (by decide +kernel), List.mem_of_getElem? (i := 576) (by decide +kernel), List.mem_of_getElem? (i := 577) (by decide +kernel)⟩
theorem lw_p19 : lw_okq (⟨"FretRootsModel", "compare", "()I"⟩, 14) := ⟨⟨by decide +kernel, by decide +kernel⟩, List.mem_of_getElem? (i := 483) (by decide +kernel), List.mem_of_getElem? (i := 580) (by decide +kernel), List.mem_of_getElem? (i := 581) (by decide +kernel)⟩
theorem lw_p20 : lw_okq (⟨"FretRootsModel", "side", "(IIII)I"⟩, 14) := ⟨⟨by decide +kernel, by decide +kernel⟩, List.mem_of_getElem? (i := 483) (by decide +kernel), List.mem_of_getElem? (i := 610) (by decide +kernel), List.mem_of_getElem? (i := 611) (by decide +kernel)⟩
theorem lw_p21 : lw_okq (⟨"FretRootsModel", "half", "(I)V"⟩, 14) := ⟨⟨by decide +kernel, by decide +kernel⟩, List.mem_of_getElem? (i := 483) (by decide +kernel), List.mem_of_getElem? (i := 622) (by decide +kernel), List.mem_of_getElem? (i := 623) (by decide +kernel)⟩
theorem lw_p22 : lw_okq (⟨"FretRootsModel", "down", "()V"⟩, 14) := ⟨⟨by decide +kernel, by decide +kernel⟩, List.mem_of_getElem? (i := 483) (by decide +kernel), List.mem_of_getElem? (i := 626) (by decide +kernel), List.mem_of_getElem? (i := 627) (by decide +kernel)⟩
theorem lw_p23 : lw_okq (⟨"FretRootsModel", "isEven", "(I)Z"⟩, 14) := ⟨⟨by decide +kernel, by decide +kernel⟩, List.mem_of_getElem? (i := 483) (by decide +kernel), List.mem_of_getElem? (i := 630) (by decide +kernel), List.mem_of_getElem? (i := 631) (by decide +kernel)⟩
theorem lw_p24 : lw_okq (⟨"FretRootsModel", "told", "(I)J"⟩, 14) := ⟨⟨by decide +kernel, by decide +kernel⟩, List.mem_of_getElem? (i := 483) (by decide +kernel), List.mem_of_getElem? (i := 634) (by decide +kernel), List.mem_of_getElem? (i := 635) (by decide +kernel)⟩
def lw_privs_2 : List (MethodName × Nat) := [(⟨"FretRootsModel", "set", "(IJ)V"⟩, 14), (⟨"FretRootsModel", "times", "(IJ)V"⟩, 14), (⟨"FretRootsModel", "twice", "(II)V"⟩, 14), (⟨"FretRootsModel", "compare", "()I"⟩, 14), (⟨"FretRootsModel", "side", "(IIII)I"⟩, 14), (⟨"FretRootsModel", "half", "(I)V"⟩, 14), (⟨"FretRootsModel", "down", "()V"⟩, 14), (⟨"FretRootsModel", "isEven", "(I)Z"⟩, 14), (⟨"FretRootsModel", "told", "(I)J"⟩, 14)]
theorem lw_r2 : ∀ q ∈ lw_privs_2, lw_okq q := List.forall_mem_cons.mpr ⟨lw_p16, List.forall_mem_cons.mpr ⟨lw_p17, List.forall_mem_cons.mpr ⟨lw_p18, List.forall_mem_cons.mpr ⟨lw_p19, List.forall_mem_cons.mpr ⟨lw_p20, List.forall_mem_cons.mpr ⟨lw_p21, List.forall_mem_cons.mpr ⟨lw_p22, List.forall_mem_cons.mpr ⟨lw_p23, List.forall_mem_cons.mpr ⟨lw_p24, fun _ h => absurd h List.not_mem_nil⟩⟩⟩⟩⟩⟩⟩⟩⟩
def lw_privs : List (MethodName × Nat) := lw_privs_1 ++ (lw_privs_2)
def lw_tbl : List Cond := k2_sels lw_privs ++ tables_1
theorem lw_privs_ok : ∀ q ∈ lw_privs, lw_okq q := by
  show ∀ q ∈ lw_privs_1 ++ (lw_privs_2), lw_okq q
  exact List.forall_mem_append.mpr ⟨lw_r1, lw_r2⟩
/-- the streams that the claim lets the run draw from -/
abbrev lw_cs : List Choice := [Jvm.Choice.named "NaN.bits"]
theorem lw_bits : nanBits ∈ lw_cs := by first | decide | exact List.mem_cons_self | simp [lw_cs, nanBits]
-- ===== end of PART A; then your names; then what follows =====
end
section
/-! ===== BEGIN words of one list among another's, by their places ===== -/
theorem goodIn_r {big : List Cond} (ws : List Cond) (ps : List Nat) (hp : ws = ps.filterMap (fun i => big[i]?)) (h : ws.all goodWord = true) : GoodIn big ws := by
  intro w hw
  have h1 := List.all_eq_true.mp h w hw
  rw [hp] at hw
  obtain ⟨i, -, hi⟩ := List.mem_filterMap.mp hw
  have hm : w ∈ big := by first | exact List.mem_of_getElem? hi | exact List.getElem?_mem hi
  exact ⟨hm, good_of_word h1⟩
theorem goodIn_app {big a b : List Cond} (ha : GoodIn big a) (hb : GoodIn big b) : GoodIn big (a ++ b) := fun w h => (List.mem_append.mp h).elim (ha w) (hb w)
theorem goodIn_ca {big a b : List Cond} {c : Cond} (ha : GoodIn big (c :: a)) (hb : GoodIn big b) : GoodIn big (c :: (a ++ b)) := fun w h => (List.mem_cons.mp h).elim (fun e => ha w (List.mem_cons.mpr (Or.inl e))) (fun h => (List.mem_append.mp h).elim (fun h => ha w (List.mem_cons.mpr (Or.inr h))) (hb w))
theorem goodIn_sub {big ws : List Cond} (hm : ∀ w ∈ ws, w ∈ big) (h : ws.all goodWord = true) : GoodIn big ws := fun w hw => ⟨hm w hw, good_of_word (List.all_eq_true.mp h w hw)⟩
/-! ===== END ===== -/

/-! ===== BEGIN exceptions that leave a method, and their catching by the caller (launches without stack traces) ===== -/
section VXA
/-! The laws vx_back, vx_callV, vx_callS, vx_callSW, vx_throw0, vx_throwS follow proofs of the library, with one case more: JvmDerived/Free/Laws.lean (Back.of_free), Shelf42/LK1.lean (callV, callS), Shelf/KitTraced.lean (throwNew0V, throwNewS). -/
/-- where a method has thrown q: the class by its name, the cell, what was written, the world -/
def vx_T (XC : String → State → State → Prop) (st : State) (q : Addr) (t : State) (mc ms : Nat) (free : Addr → Prop) : Prop :=
  ∃ (E : String) (ce : Cell) (L : List Loc), XC E st t ∧ t.heap[q]? = some ce ∧ ce.vm = .none ∧ st.vm.findClass E = some ce.cls ∧ st.WarmedH t.vm ∧ st.sameButNew ({ t with vm := st.vm } : State) L mc ms ∧ ∀ z ∈ L, free z.base
def vx_Q (Qc : Array Value → State → Outcome → State → Prop) (XC : String → State → State → Prop) (mc ms : Nat) (free : Addr → Prop) : Array Value → State → Outcome → State → Prop := fun a st o t =>
  (Qc a st o t ∧ ∃ L, FrameEnd st o t L mc ms ∧ ∀ q ∈ L, free q.base) ∨ ∃ q, o = .threw q ∧ vx_T XC st q t mc ms free
/-- a callee that returns or throws -/
def vx_Met (l : Launch) (y : MethodName) (ws : List Cond) (rm : Room) (Pc : Array Value → State → Prop) (Qc : Array Value → State → Outcome → State → Prop) (XC : String → State → State → Prop) (mc ms : Nat) (free : Addr → Prop) : Prop :=
  MetFree l y (headSpec ws rm) Pc (fun _ _ _ _ _ => True) (vx_Q Qc XC mc ms free)
def vx_Post (XC : String → State → State → Prop) (mc ms : Nat) (free : Addr → Prop) : Pt → Array Value → Addr → Pt → Prop := fun A a q B =>
  ∃ (g : JFrame) (mk : MethodId) (t : State) (L : List Loc) (E : String) (ce : Cell), B.U.heap = t.heap ∧ B.U.vm = t.vm ∧ XC E (A.U.calling g mk a) t ∧ t.heap[q]? = some ce ∧ ce.vm = .none ∧ A.U.vm.findClass E = some ce.cls ∧ B.locs = A.locs ++ L ∧ (∀ z ∈ L, free z.base) ∧ B.cells = A.cells + mc ∧ B.slots = A.slots + ms
def vx_Back (l : Launch) (R : Room) (p : Program) (e : Env) (below : List Frame) (s : State) (sargs : Array Value) (y : MethodName) (len W9 : Nat)
    (Pre : Pt → Array Value → Prop) (Post : Pt → Array Value → Option Value → Pt → Prop) (PostX : Pt → Array Value → Addr → Pt → Prop) : Prop :=
  ∀ (m : MethodId) (meth : Method) (c : Code) (A : Pt) (g : JFrame) (ig : Instr) (mk : MethodId) (a : Array Value),
    Stand p l e R s m sargs below meth c A.U A.locs A.cells A.slots → g.method = m → g.locals.size = c.maxLocals → decode c.code g.pc = .ok (ig, len) →
    2 * g.monitorRoom + (g.stack.map fun v => v.category).sum ≤ W9 → A.U.methodNamed? y = some mk → Pre A a →
    (∃ (v : Option Value) (B : Pt), Stand p l e R s m sargs below meth c B.U B.locs B.cells B.slots ∧ Post A a v B ∧
      Steps p.tables e below (doInvoke e (A.U.setTop g) [] mk a).1 (B.U.setTop { g with pc := g.pc + len, stack := v.toList ++ g.stack })) ∨
    (∃ (q : Addr) (B : Pt), Stand p l e R s m sargs below meth c B.U B.locs B.cells B.slots ∧ PostX A a q B ∧
      Steps p.tables e below (doInvoke e (A.U.setTop g) [] mk a).1 ((B.U.setTop g).pushFrame (.throwing q)))
section Payer
variable {l : Launch} {R : Room} {p : Program} {e : Env} {below : List Frame} {s : State} {sargs : Array Value} {y : MethodName} {len W9 : Nat}
theorem vx_back {ws : List Cond} {rm : Room} {Pc : Array Value → State → Prop} {Qc : Array Value → State → Outcome → State → Prop} {XC : String → State → State → Prop} {mc ms : Nat} {free : Addr → Prop} {bytes : ByteArray} {maxL : Nat} {ret : Option FieldType}
    (hM : vx_Met l y ws rm Pc Qc XC mc ms free) (hblind : FrameBlind Pc) (hrc : rm.cells = mc) (hrs : rm.slots = ms)
    (hframes : rm.frames + 1 ≤ R.frames) (hlocals : W9 + (maxL + 11) + rm.locals ≤ R.locals)
    (hws : ∀ w ∈ ws, ∀ a' U, s.WarmedH U.vm → w.before a' U = true) (hcode : Cond.code y bytes maxL ret ∈ ws) (hinit : ∀ a' U, s.WarmedH U.vm → (Cond.initialized y.cls).before a' U = true) :
    vx_Back l R p e below s sargs y len W9 (PreOf R mc ms Pc) (PostOf Qc mc ms free) (vx_Post XC mc ms free) := by
  intro m meth c A g ig mk a X hg hsize hdg hW hn hp
  have h1 : (headSpec ws rm).pre.before a A.U = true := atoms_intro fun w hw => hws w hw _ _ X.warmed
  have h2 : (Cond.code y bytes maxL ret).before a A.U = true := hws _ hcode _ _ X.warmed
  have h3 : (Cond.initialized y.cls).before a A.U = true := hinit _ _ X.warmed
  have h4 : A.cells + (headSpec ws rm).room.cells ≤ R.cells := by rw [show (headSpec ws rm).room.cells = mc from hrc]; exact hp.1
  have h5 : A.slots + (headSpec ws rm).room.slots ≤ R.slots := by rw [show (headSpec ws rm).room.slots = ms from hrs]; exact hp.2.1
  have hPc : Pc a (A.U.calling g mk a) := hblind _ _ _ _ hp.2.2
  obtain ⟨U, Ls, c0, s0⟩ := A
  dsimp only [Pt.U, Pt.locs, Pt.cells, Pt.slots] at h1 h2 h3 h4 h5 X hn hPc ⊢
  obtain ⟨methY, cY, hmY, hcY, -, hlY, -, -, -, -⟩ := Cond.code_spec hn h2
  obtain ⟨kY, hkY, -⟩ := className_of_methodNamed hn
  have hinitY : kY.init = .initialized := Cond.initialized_spec (findClass_of_methodNamed hn) hkY h3
  have h : At U g.method c below := by rw [hg]; exact X.here
  have hlocals9 : W9 + (maxL + 11) + (headSpec ws rm).room.locals ≤ R.locals := hlocals
  have happ : (headSpec ws rm).appliesLoose y e.platform (U.calling g mk a) = true :=
    Spec.appliesLoose_calling (g := g) h hdg hn hkY hinitY
      (X.room_calling (g := g) (R' := (headSpec ws rm).room) hsize hmY hcY hframes (by rw [hlY]; omega) h4 h5) h1
  obtain ⟨mid, hmid⟩ := h.above
  have hfr : (U.setTop g).frames = (.java g :: mid) ++ below := by rw [State.frames_setTop' g h.top, hmid]; rfl
  obtain ⟨o, s₂, hsteps, -, hend, hq⟩ := Steps.callFree hM p X.admits X.cas X.clock (acts := []) hfr happ hPc trivial
  have hq' : vx_Q Qc XC mc ms free a (U.calling g mk a) o s₂ := hq
  rw [State.frames_setTop' g h.top] at hend
  obtain ⟨g₀, hg0⟩ := Option.isSome_iff_exists.mp h.top
  obtain ⟨r, hr⟩ := State.topJava?_eq_some.mp hg0
  have hr' : (({ U with heap := s₂.heap, slotsUsed := s₂.slotsUsed } : State).setVm s₂.vm).frames = .java g₀ :: r := hr
  rcases hq' with ⟨hqc, L, hfe, hL⟩ | ⟨q, rfl, E, ce, L, hx, hce, hcv, hcl, hW₂, hsm, hL⟩
  · obtain ⟨⟨v, rfl⟩, hW₂, e2, q2, q3, q4, q5, q6⟩ := id hfe
    have e3 : s₂ = ({ (U.calling g mk a).setFrames s₂.frames with heap := s₂.heap, slotsUsed := s₂.slotsUsed } : State).setVm s₂.vm := by
      have : s₂ = ({ s₂ with vm := (U.calling g mk a).vm } : State).setVm s₂.vm := rfl
      rw [e2] at this
      exact this
    obtain ⟨c₂, i₂, len₂, hc₂, hd₂, hf₂⟩ := hend
    have hW' : U.WarmedH s₂.vm := hW₂
    have hcc : c₂ = c := by
      have h1 : s₂.code? g.method = U.code? g.method := by
        rw [State.code?_eq, State.code?_eq, hW'.alike.method?]
      exact Option.some.inj (hc₂.symm.trans (h1.trans h.code))
    subst hcc
    have hlen : len₂ = len := by rw [hdg] at hd₂; cases hd₂; rfl
    subst hlen
    have hs₂ : s₂ = (({ U with heap := s₂.heap, slotsUsed := s₂.slotsUsed } : State).setVm s₂.vm).setTop { g with pc := g.pc + len₂, stack := v.toList ++ g.stack } := by
      refine e3.trans ?_
      rw [hf₂, State.calling_eq h.top, State.setFrames_setFrames, State.setTop_of_frames _ hr', hr]
      rfl
    have hsame : U.sameButNew ({ U with heap := s₂.heap, slotsUsed := s₂.slotsUsed } : State) L mc ms := by
      refine ⟨?_, q2, q3, q4, q5, q6⟩
      obtain ⟨t, ht, -⟩ := State.frames_cons hr
      show ({ U with heap := s₂.heap, slotsUsed := s₂.slotsUsed } : State) = { U.setFrames U.frames with heap := s₂.heap, slotsUsed := s₂.slotsUsed }
      rw [State.setFrames_self ht]
    subst hg
    refine Or.inl ⟨v, ⟨(({ U with heap := s₂.heap, slotsUsed := s₂.slotsUsed } : State).setVm s₂.vm), Ls ++ L, c0 + mc, s0 + ms⟩,
      ⟨X.admits, X.cas, X.clock, X.frames, X.room, X.hears, X.method, X.code, (X.here.setHeapUsed s₂.heap s₂.slotsUsed).setVm hW'.alike, X.tail, State.WarmedH.trans X.warmed hW', X.limits, X.bytes, X.same.trans (hsame.setVm s.vm)⟩,
      ⟨g, mk, s₂, L, rfl, rfl, hqc, rfl, hL, rfl, rfl⟩, ?_⟩
    show Steps p.tables e below _ ((({ U with heap := s₂.heap, slotsUsed := s₂.slotsUsed } : State).setVm s₂.vm).setTop { g with pc := g.pc + len₂, stack := v.toList ++ g.stack })
    rw [← hs₂]
    exact hsteps
  · obtain ⟨e2, q2, q3, q4, q5, q6⟩ := id hsm
    have e3 : s₂ = ({ (U.calling g mk a).setFrames s₂.frames with heap := s₂.heap, slotsUsed := s₂.slotsUsed } : State).setVm s₂.vm := by
      have : s₂ = ({ s₂ with vm := (U.calling g mk a).vm } : State).setVm s₂.vm := rfl
      rw [e2] at this
      exact this
    have hf₂ : s₂.frames = .throwing q :: .java g :: U.frames.tail := hend
    have hW' : U.WarmedH s₂.vm := hW₂
    have hs₂ : s₂ = ((({ U with heap := s₂.heap, slotsUsed := s₂.slotsUsed } : State).setVm s₂.vm).setTop g).pushFrame (.throwing q) := by
      refine e3.trans ?_
      rw [hf₂, State.calling_eq h.top, State.setFrames_setFrames, State.pushFrame, State.frames_setTop _ hr', State.setTop_of_frames _ hr', State.setFrames_setFrames, hr]
      rfl
    have hsame : U.sameButNew ({ U with heap := s₂.heap, slotsUsed := s₂.slotsUsed } : State) L mc ms := by
      refine ⟨?_, q2, q3, q4, q5, q6⟩
      obtain ⟨t, ht, -⟩ := State.frames_cons hr
      show ({ U with heap := s₂.heap, slotsUsed := s₂.slotsUsed } : State) = { U.setFrames U.frames with heap := s₂.heap, slotsUsed := s₂.slotsUsed }
      rw [State.setFrames_self ht]
    subst hg
    refine Or.inr ⟨q, ⟨(({ U with heap := s₂.heap, slotsUsed := s₂.slotsUsed } : State).setVm s₂.vm), Ls ++ L, c0 + mc, s0 + ms⟩,
      ⟨X.admits, X.cas, X.clock, X.frames, X.room, X.hears, X.method, X.code, (X.here.setHeapUsed s₂.heap s₂.slotsUsed).setVm hW'.alike, X.tail, State.WarmedH.trans X.warmed hW', X.limits, X.bytes, X.same.trans (hsame.setVm s.vm)⟩,
      ⟨g, mk, s₂, L, E, ce, rfl, rfl, hx, hce, hcv, hcl, rfl, hL, rfl, rfl⟩, ?_⟩
    show Steps p.tables e below _ (((({ U with heap := s₂.heap, slotsUsed := s₂.slotsUsed } : State).setVm s₂.vm).setTop g).pushFrame (.throwing q))
    rw [← hs₂]
    exact hsteps
end Payer
section Calls
variable {p : Program} {l : Launch} {e : Env} {R : Room} {s : State} {m : MethodId} {args : Array Value} {below : List Frame} {meth : Method} {c : Code} {T : State} {locs : List Loc} {cells slots : Nat}
theorem vx_callV (X : Stand p l e R s m args below meth c T locs cells slots) (hexec : p.tables.exec = Jvm.exec) {own C : String} {index : Nat} {y : MethodName} {bytes : ByteArray} {maxL : Nat} {ret : Option FieldType}
    (hown : s.vm.findClass own = some m.cls) (hlink : (Cond.methodLink own index y).before args s = true) (hinst : (Cond.instanceMethod y).before args s = true) (hsel : (Cond.selects C y y).before args s = true)
    (hcode : (Cond.code y bytes maxL ret).before args s = true) (hy : y.cls ≠ "java/lang/invoke/MethodHandle" ∧ y.cls ≠ "java/lang/invoke/VarHandle")
    {W9 : Nat} {Pre : Pt → Array Value → Prop} {Post : Pt → Array Value → Option Value → Pt → Prop} {PostX : Pt → Array Value → Addr → Pt → Prop} (hK : vx_Back l R p e below s args y 3 W9 Pre Post PostX)
    {b : Addr} {cellB : Cell} (hcell : T.heap[b]? = some cellB) (hobj : cellB.vm.isStatics = false) (hcls : s.vm.findClass C = some cellB.cls)
    {g : JFrame} (hg : g.method = m) (hsize : g.locals.size = c.maxLocals) {argsL rest : List Value} (hlen : ∀ sig, parseMethodDescriptor y.desc = some sig → argsL.length = sig.parameters.length)
    (hstack : g.stack = argsL.reverse ++ .ref b :: rest) (hW : 2 * g.monitorRoom + (rest.map fun v => v.category).sum ≤ W9) (hdg : decode c.code g.pc = .ok (.invokevirtual index, 3))
    (hpre : ∀ vm₁, s.WarmedH vm₁ → Pre ⟨T.setVm vm₁, locs, cells, slots⟩ (Value.ref b :: argsL).toArray) :
    (∃ (v : Option Value) (vm₁ : Vm) (B : Pt), s.WarmedH vm₁ ∧ Stand p l e R s m args below meth c B.U B.locs B.cells B.slots ∧ Post ⟨T.setVm vm₁, locs, cells, slots⟩ (Value.ref b :: argsL).toArray v B ∧
      ∀ target, Steps p.tables e below (B.U.setTop { g with pc := g.pc + 3, stack := v.toList ++ rest }) target → Steps p.tables e below (T.setTop g) target) ∨
    (∃ (q : Addr) (vm₁ : Vm) (B : Pt), s.WarmedH vm₁ ∧ Stand p l e R s m args below meth c B.U B.locs B.cells B.slots ∧ PostX ⟨T.setVm vm₁, locs, cells, slots⟩ (Value.ref b :: argsL).toArray q B ∧
      Steps p.tables e below (T.setTop g) ((B.U.setTop { g with stack := rest }).pushFrame (.throwing q))) := by
  obtain ⟨mk, methM, hnamed, hmethM, hstM, habM⟩ := Cond.instanceMethod_spec hinst
  obtain ⟨methM', cM, hmethM', -, -, -, -, -, -, hsigM⟩ := Cond.code_spec hnamed hcode
  cases hmethM.symm.trans hmethM'
  obtain ⟨c2, r2, m2, q1, q2, q3, q4, kP, hkP, hkPi⟩ := Cond.selects_spec hsel
  cases hcls.symm.trans q1
  cases (State.methodFound?_of_named hnamed hy).symm.trans q2
  cases hnamed.symm.trans q3
  have hselP : selectMethod e.platform s.vm cellB.cls mk = .method mk := by rw [Launch.admits_selectMethod X.admits]; exact q4
  obtain ⟨vm₁, X₁, hstep₁⟩ := X.invokevirtual hexec hown hlink hnamed hmethM hstM hkP hkPi hy (a := b) (cell := cellB) hcell
    (fun z h => by rw [h] at hobj; cases hobj) hselP hmethM habM hkP hkPi (g := g) hg (argsL := argsL) (rest := rest) (hlen _ hsigM) hstack hdg
  rcases hK m meth c ⟨T.setVm vm₁, locs, cells, slots⟩ { g with stack := rest } (.invokevirtual index) mk (Value.ref b :: argsL).toArray X₁ hg hsize hdg hW (X₁.named hnamed) (hpre vm₁ X₁.warmed) with ⟨v, B, X', hpost, hsteps⟩ | ⟨q, B, X', hpost, hsteps⟩
  · exact Or.inl ⟨v, vm₁, B, X₁.warmed, X', hpost, fun target h => hstep₁ _ fun acts => by rw [doInvoke_state]; exact hsteps.trans h⟩
  · exact Or.inr ⟨q, vm₁, B, X₁.warmed, X', hpost, hstep₁ _ fun acts => by rw [doInvoke_state]; exact hsteps⟩
theorem vx_callS (X : Stand p l e R s m args below meth c T locs cells slots) (hexec : p.tables.exec = Jvm.exec) {own : String} {index : Nat} {y : MethodName} {bytes : ByteArray} {maxL : Nat} {ret : Option FieldType}
    (hown : s.vm.findClass own = some m.cls) (hlink : (Cond.methodLink own index y).before args s = true) (hstat : (Cond.static y).before args s = true) (hinit : (Cond.initialized y.cls).before args s = true)
    (hcode : (Cond.code y bytes maxL ret).before args s = true) (hy : y.cls ≠ "java/lang/invoke/MethodHandle" ∧ y.cls ≠ "java/lang/invoke/VarHandle")
    {W9 : Nat} {Pre : Pt → Array Value → Prop} {Post : Pt → Array Value → Option Value → Pt → Prop} {PostX : Pt → Array Value → Addr → Pt → Prop} (hK : vx_Back l R p e below s args y 3 W9 Pre Post PostX)
    {g : JFrame} (hg : g.method = m) (hsize : g.locals.size = c.maxLocals) {argsL rest : List Value} (hlen : ∀ sig, parseMethodDescriptor y.desc = some sig → argsL.length = sig.parameters.length)
    (hstack : g.stack = argsL.reverse ++ rest) (hW : 2 * g.monitorRoom + (rest.map fun v => v.category).sum ≤ W9) (hdg : decode c.code g.pc = .ok (.invokestatic index, 3))
    (hpre : ∀ vm₁, s.WarmedH vm₁ → Pre ⟨T.setVm vm₁, locs, cells, slots⟩ argsL.toArray) :
    (∃ (v : Option Value) (vm₁ : Vm) (B : Pt), s.WarmedH vm₁ ∧ Stand p l e R s m args below meth c B.U B.locs B.cells B.slots ∧ Post ⟨T.setVm vm₁, locs, cells, slots⟩ argsL.toArray v B ∧
      ∀ target, Steps p.tables e below (B.U.setTop { g with pc := g.pc + 3, stack := v.toList ++ rest }) target → Steps p.tables e below (T.setTop g) target) ∨
    (∃ (q : Addr) (vm₁ : Vm) (B : Pt), s.WarmedH vm₁ ∧ Stand p l e R s m args below meth c B.U B.locs B.cells B.slots ∧ PostX ⟨T.setVm vm₁, locs, cells, slots⟩ argsL.toArray q B ∧
      Steps p.tables e below (T.setTop g) ((B.U.setTop { g with stack := rest }).pushFrame (.throwing q))) := by
  obtain ⟨mk, hnamed⟩ := Cond.code_named hcode
  obtain ⟨methM, cM, hmethM, -, -, -, -, -, -, hsigM⟩ := Cond.code_spec hnamed hcode
  have hstatic : methM.isStatic = true := Cond.static_spec hnamed hmethM hstat
  obtain ⟨kP, hkP, -⟩ := className_of_methodNamed hnamed
  have hinitP : kP.init = .initialized := Cond.initialized_spec (findClass_of_methodNamed hnamed) hkP hinit
  obtain ⟨vm₁, X₁, hstep₁⟩ := X.invokestatic hexec hown hlink hnamed hmethM hstatic hkP hinitP hy (g := g) hg (argsL := argsL) (rest := rest) (hlen _ hsigM) hstack hdg
  rcases hK m meth c ⟨T.setVm vm₁, locs, cells, slots⟩ { g with stack := rest } (.invokestatic index) mk argsL.toArray X₁ hg hsize hdg hW (X₁.named hnamed) (hpre vm₁ X₁.warmed) with ⟨v, B, X', hpost, hsteps⟩ | ⟨q, B, X', hpost, hsteps⟩
  · exact Or.inl ⟨v, vm₁, B, X₁.warmed, X', hpost, fun target h => hstep₁ _ fun acts => by rw [doInvoke_state]; exact hsteps.trans h⟩
  · exact Or.inr ⟨q, vm₁, B, X₁.warmed, X', hpost, hstep₁ _ fun acts => by rw [doInvoke_state]; exact hsteps⟩
end Calls
theorem vx_cls {s : State} {T : State} {vm₁ : Vm} {E : String} {k : ClassId} (hW : s.WarmedH vm₁) (h : (T.setVm vm₁).vm.findClass E = some k) : s.vm.findClass E = some k := by
  have h1 : vm₁.findClass E = some k := h
  rw [hW.alike.findClass] at h1
  exact h1
/-- the method's frame g, with q thrown over it -/
def vx_W (p : Program) (l : Launch) (e : Env) (R : Room) (s : State) (m : MethodId) (args : Array Value) (below : List Frame) (meth : Method) (c : Code) (H : Heap) (locs : List Loc) (cells slots : Nat) (Q : State → Prop) (g : JFrame) (q : Addr) : Prop :=
  ∀ T : State, T.heap = H → Stand p l e R s m args below meth c T locs cells slots → ∃ t, Steps p.tables e below ((T.setTop g).pushFrame (.throwing q)) t ∧ Q t
def vx_Run (p : Program) (l : Launch) (e : Env) (R : Room) (s : State) (m : MethodId) (args : Array Value) (below : List Frame) (meth : Method) (c : Code) (H : Heap) (locs : List Loc) (cells slots mc ms : Nat) (g : JFrame) (rest : List Value) (Qa : State → Outcome → State → Prop) (XC : String → State → State → Prop) (free : Addr → Prop) : Prop :=
  ∀ T : State, T.heap = H → Stand p l e R s m args below meth c T locs cells slots →
    (∃ (v : Option Value) (st₀ t T' : State) (L : List Loc), st₀.heap = H ∧ Stand p l e R s m args below meth c T' (locs ++ L) (cells + mc) (slots + ms) ∧ (∀ q ∈ L, free q.base) ∧ T'.heap = t.heap ∧ T'.vm = t.vm ∧ Qa st₀ (.returned v) t ∧
      Goes p e below T g T' { g with pc := g.pc + 3, stack := v.toList ++ rest }) ∨
    (∃ (q : Addr) (st₀ t T' : State) (L : List Loc) (E : String) (ce : Cell), st₀.heap = H ∧ Stand p l e R s m args below meth c T' (locs ++ L) (cells + mc) (slots + ms) ∧ (∀ z ∈ L, free z.base) ∧ T'.heap = t.heap ∧ T'.vm = t.vm ∧ XC E st₀ t ∧ t.heap[q]? = some ce ∧ ce.vm = .none ∧ s.vm.findClass E = some ce.cls ∧
      Steps p.tables e below (T.setTop g) ((T'.setTop { g with stack := rest }).pushFrame (.throwing q)))
def vx_X {S : Type} (px : S → Prop) (B : String → S → State → Prop) (A : Nat → Prop) : String → State → State → Prop := fun E st t => ∃ u : S, px u ∧ B E u t ∧ va_F A st t
section Runs
variable {p : Program} {l : Launch} {e : Env} {R : Room} {s : State} {m : MethodId} {args : Array Value} {below : List Frame} {meth : Method} {c : Code} {H : Heap} {locs : List Loc} {cells slots : Nat}
variable {y : MethodName} {bytes cc : ByteArray} {maxL nL mc ms n index : Nat} {ret : Option FieldType} {ws : List Cond} {rm : Room} {Pc : Array Value → State → Prop} {Qc : Array Value → State → Outcome → State → Prop} {XC : String → State → State → Prop} {free : Addr → Prop} {Ts : List Cond} {own C : String} {b : Addr} {As rest : List Value} {g : JFrame}
theorem vx_callBack (cb : CallB R s args own index y bytes maxL ret ws rm mc ms n) (hM : vx_Met l y ws rm Pc Qc XC mc ms free) (hbl : FrameBlind Pc) : vx_Back l R p e below s args y 3 8 (PreOf R mc ms Pc) (PostOf Qc mc ms free) (vx_Post XC mc ms free) := by
  obtain ⟨hrc, hrs, hfr, hlo, hws, hcw, -, hini, -⟩ := cb
  exact vx_back (bytes := bytes) (maxL := maxL) (ret := ret) hM hbl hrc hrs hfr hlo hws hcw (fun a' U hW => word_at hW (Or.inl (by first | rfl | simp [Cond.onTables, Cond.keeps, Cond.steady])) hini)
theorem vx_runV (S : CallFix p m c cc nL s args Ts own) (hM : vx_Met l y ws rm Pc Qc XC mc ms free) (cw : CallW R s args own C index y bytes maxL ret ws rm mc ms n) (hp : PreV s H C b Pc As)
    (hg : g.method = m) (hn : As.length = n) (hsize : g.locals.size = nL) (hstack : g.stack = As.reverse ++ .ref b :: rest) (hW : 2 * g.monitorRoom + (rest.map fun v => v.category).sum ≤ 8) (hdg : decode cc g.pc = .ok (.invokevirtual index, 3)) (hf : cells + mc ≤ R.cells ∧ slots + ms ≤ R.slots) :
    vx_Run p l e R s m args below meth c H locs cells slots mc ms g rest (Qc (Value.ref b :: As).toArray) XC free := by
  have hK : vx_Back l R p e below s args y 3 8 (PreOf R mc ms Pc) (PostOf Qc mc ms free) (vx_Post XC mc ms free) := vx_callBack cw.1 hM hp.1
  obtain ⟨⟨-, -, -, -, -, -, hcode, -, hy, hlen, hl⟩, hin, hse⟩ := cw
  obtain ⟨hx, hb, hml, ho, -⟩ := S
  obtain ⟨-, ⟨cellB, hcB, hoB, hclB⟩, hPc⟩ := hp
  intro T hT X
  rcases vx_callV X hx (C := C) (bytes := bytes) (maxL := maxL) (ret := ret) ho hl hin hse hcode hy hK (by rw [hT]; exact hcB) hoB hclB hg (hsize.trans hml.symm) (argsL := As) (rest := rest) (fun sig h => hn.trans (hlen sig h)) hstack hW (by rw [hb]; exact hdg)
    (fun vm₁ hW₁ => ⟨hf.1, hf.2, hPc (T.setVm vm₁) hT hW₁⟩) with ⟨v, vm₁, ⟨U', l2, c2, s2⟩, hW₁, X', ⟨g', mk, t, L, e1, e2, hq, h1, hL, h2, h3⟩, st⟩ | ⟨q, vm₁, ⟨U', l2, c2, s2⟩, hW₁, X', ⟨g', mk, t, L, E, ce, e1, e2, hq, hce, hcv, hcl, h1, hL, h2, h3⟩, st⟩
  · dsimp only [Pt.U, Pt.locs, Pt.cells, Pt.slots] at X' e1 e2 h1 h2 h3 st
    subst h1; subst h2; subst h3
    exact Or.inl ⟨v, (T.setVm vm₁).calling g' mk (Value.ref b :: As).toArray, t, U', L, hT, X', hL, e1, e2, hq, st⟩
  · dsimp only [Pt.U, Pt.locs, Pt.cells, Pt.slots] at X' e1 e2 h1 h2 h3 st hcl
    subst h1; subst h2; subst h3
    exact Or.inr ⟨q, (T.setVm vm₁).calling g' mk (Value.ref b :: As).toArray, t, U', L, E, ce, hT, X', hL, e1, e2, hq, hce, hcv, vx_cls hW₁ hcl, st⟩
theorem vx_runS (S : CallFix p m c cc nL s args Ts own) (hM : vx_Met l y ws rm Pc Qc XC mc ms free) (cw : CallB R s args own index y bytes maxL ret ws rm mc ms n ∧ (Cond.static y).before args s = true) (hp : PreS s H Pc As)
    (hg : g.method = m) (hn : As.length = n) (hsize : g.locals.size = nL) (hstack : g.stack = As.reverse ++ rest) (hW : 2 * g.monitorRoom + (rest.map fun v => v.category).sum ≤ 8) (hdg : decode cc g.pc = .ok (.invokestatic index, 3)) (hf : cells + mc ≤ R.cells ∧ slots + ms ≤ R.slots) :
    vx_Run p l e R s m args below meth c H locs cells slots mc ms g rest (Qc As.toArray) XC free := by
  have hK : vx_Back l R p e below s args y 3 8 (PreOf R mc ms Pc) (PostOf Qc mc ms free) (vx_Post XC mc ms free) := vx_callBack cw.1 hM hp.1
  obtain ⟨⟨-, -, -, -, -, -, hcode, hini, hy, hlen, hl⟩, hstt⟩ := cw
  obtain ⟨hx, hb, hml, ho, -⟩ := S
  intro T hT X
  rcases vx_callS X hx (bytes := bytes) (maxL := maxL) (ret := ret) ho hl hstt hini hcode hy hK hg (hsize.trans hml.symm) (argsL := As) (rest := rest) (fun sig h => hn.trans (hlen sig h)) hstack hW (by rw [hb]; exact hdg)
    (fun vm₁ hW₁ => ⟨hf.1, hf.2, hp.2 (T.setVm vm₁) hT hW₁⟩) with ⟨v, vm₁, ⟨U', l2, c2, s2⟩, hW₁, X', ⟨g', mk, t, L, e1, e2, hq, h1, hL, h2, h3⟩, st⟩ | ⟨q, vm₁, ⟨U', l2, c2, s2⟩, hW₁, X', ⟨g', mk, t, L, E, ce, e1, e2, hq, hce, hcv, hcl, h1, hL, h2, h3⟩, st⟩
  · dsimp only [Pt.U, Pt.locs, Pt.cells, Pt.slots] at X' e1 e2 h1 h2 h3 st
    subst h1; subst h2; subst h3
    exact Or.inl ⟨v, (T.setVm vm₁).calling g' mk As.toArray, t, U', L, hT, X', hL, e1, e2, hq, st⟩
  · dsimp only [Pt.U, Pt.locs, Pt.cells, Pt.slots] at X' e1 e2 h1 h2 h3 st hcl
    subst h1; subst h2; subst h3
    exact Or.inr ⟨q, (T.setVm vm₁).calling g' mk As.toArray, t, U', L, E, ce, hT, X', hL, e1, e2, hq, hce, hcv, vx_cls hW₁ hcl, st⟩
end Runs
section Rows
variable {p : Program} {l : Launch} {e : Env} {R : Room} {s : State} {m : MethodId} {args : Array Value} {below : List Frame} {meth : Method} {c : Code} {H : Heap} {locs : List Loc} {cells slots : Nat} {Q : State → Prop}
variable {mc ms : Nat} {free : Addr → Prop} {A0 A1 : Nat → Prop} {H0 : Heap} {a : Array Value} {pc : Nat} {ls : Array Slot} {st0 rest : List Value}
theorem vx_keep {st₀ t T' : State} {L : List Loc} (h0 : st₀.heap = H) (e1 : T'.heap = t.heap) (hS : va_S A0 H0 H locs) (hA : ∀ q, q < H.size → A1 q → A0 q) (hf : ∀ q, free q → A0 q) (hL : ∀ q ∈ L, free q.base) (hF : va_F A1 st₀ t) :
    H.size ≤ T'.heap.size ∧ (∀ q : Nat, q < H.size → ¬ A1 q → T'.heap[q]? = H[q]?) ∧ va_S A0 H0 T'.heap (locs ++ L) := by
  obtain ⟨hz, hk⟩ := hF
  rw [h0] at hz hk
  exact ⟨by rw [e1]; exact hz, fun q h1 h2 => by rw [e1]; exact hk q h1 h2,
    ⟨Nat.le_trans hS.1 (by rw [e1]; exact hz), fun q h1 h2 => by rw [e1, hk q (Nat.lt_of_lt_of_le h1 hS.1) (fun z => h2 (hA q (Nat.lt_of_lt_of_le h1 hS.1) z))]; exact hS.2.1 q h1 h2, fun q hq => by
      rcases List.mem_append.mp hq with h | h
      · exact hS.2.2 q h
      · exact hf _ (hL q h)⟩⟩
theorem vx_calli {S SX : Type} {post : Int32 → S → Prop} {px : SX → Prop} {B : S → State → Prop} {BX : String → SX → State → Prop} {AX : Nat → Prop} (hr : vx_Run p l e R s m args below meth c H locs cells slots mc ms (F0 m pc ls st0) rest (va_Qi post B A1 a) (vx_X px BX AX) free) (hS : va_S A0 H0 H locs) (hA : ∀ q, q < H.size → A1 q → A0 q) (hf : ∀ q, free q → A0 q) (hAX : ∀ q, q < H.size → AX q → A0 q)
    (kx : ∀ (E : String) (ce : Cell) (q9 : Addr) (u : SX) (t : State) (H1 : Heap) (locs1 : List Loc), t.heap = H1 → s.vm.Alike t.vm → px u → BX E u t → H.size ≤ H1.size → (∀ q : Nat, q < H.size → ¬ AX q → H1[q]? = H[q]?) → va_S A0 H0 H1 locs1 → H1[q9]? = some ce → ce.vm = .none → s.vm.findClass E = some ce.cls → vx_W p l e R s m args below meth c H1 locs1 (cells + mc) (slots + ms) Q (F0 m pc ls rest) q9)
    (kk : ∀ (r : Int32) (u : S) (t : State) (H1 : Heap) (locs1 : List Loc), t.heap = H1 → s.vm.Alike t.vm → post r u → B u t → H.size ≤ H1.size → (∀ q : Nat, q < H.size → ¬ A1 q → H1[q]? = H[q]?) → va_S A0 H0 H1 locs1 → W p l e R s m args below meth c H1 locs1 (cells + mc) (slots + ms) Q (F0 m (pc + 3) ls (.int r :: rest))) : W p l e R s m args below meth c H locs cells slots Q (F0 m pc ls st0) := by
  intro T hT X
  rcases hr T hT X with ⟨v, st₀, t, T', L, h0, X', hL, e1, e2, ⟨⟨r, u, hv, hp, hb⟩, hF⟩, st⟩ | ⟨q, st₀, t, T', L, E, ce, h0, X', hL, e1, e2, ⟨u, hp, hb, hF⟩, hce, hcv, hcl, st⟩
  · cases hv
    obtain ⟨k1, k2, k3⟩ := vx_keep h0 e1 hS hA hf hL hF
    obtain ⟨t2, a1, b1⟩ := kk r u t T'.heap (locs ++ L) e1.symm (by rw [← e2]; exact X'.warmed.alike) hp hb k1 k2 k3 T' rfl X'
    exact ⟨t2, st t2 a1, b1⟩
  · obtain ⟨k1, k2, k3⟩ := vx_keep h0 e1 hS hAX hf hL hF
    obtain ⟨t2, a1, b1⟩ := kx E ce q u t T'.heap (locs ++ L) e1.symm (by rw [← e2]; exact X'.warmed.alike) hp hb k1 k2 k3 (by rw [e1]; exact hce) hcv hcl T' rfl X'
    exact ⟨t2, st.trans a1, b1⟩
theorem vx_calll {S SX : Type} {post : Int64 → S → Prop} {px : SX → Prop} {B : S → State → Prop} {BX : String → SX → State → Prop} {AX : Nat → Prop} (hr : vx_Run p l e R s m args below meth c H locs cells slots mc ms (F0 m pc ls st0) rest (va_Ql post B A1 a) (vx_X px BX AX) free) (hS : va_S A0 H0 H locs) (hA : ∀ q, q < H.size → A1 q → A0 q) (hf : ∀ q, free q → A0 q) (hAX : ∀ q, q < H.size → AX q → A0 q)
    (kx : ∀ (E : String) (ce : Cell) (q9 : Addr) (u : SX) (t : State) (H1 : Heap) (locs1 : List Loc), t.heap = H1 → s.vm.Alike t.vm → px u → BX E u t → H.size ≤ H1.size → (∀ q : Nat, q < H.size → ¬ AX q → H1[q]? = H[q]?) → va_S A0 H0 H1 locs1 → H1[q9]? = some ce → ce.vm = .none → s.vm.findClass E = some ce.cls → vx_W p l e R s m args below meth c H1 locs1 (cells + mc) (slots + ms) Q (F0 m pc ls rest) q9)
    (kk : ∀ (r : Int64) (u : S) (t : State) (H1 : Heap) (locs1 : List Loc), t.heap = H1 → s.vm.Alike t.vm → post r u → B u t → H.size ≤ H1.size → (∀ q : Nat, q < H.size → ¬ A1 q → H1[q]? = H[q]?) → va_S A0 H0 H1 locs1 → W p l e R s m args below meth c H1 locs1 (cells + mc) (slots + ms) Q (F0 m (pc + 3) ls (.long r :: rest))) : W p l e R s m args below meth c H locs cells slots Q (F0 m pc ls st0) := by
  intro T hT X
  rcases hr T hT X with ⟨v, st₀, t, T', L, h0, X', hL, e1, e2, ⟨⟨r, u, hv, hp, hb⟩, hF⟩, st⟩ | ⟨q, st₀, t, T', L, E, ce, h0, X', hL, e1, e2, ⟨u, hp, hb, hF⟩, hce, hcv, hcl, st⟩
  · cases hv
    obtain ⟨k1, k2, k3⟩ := vx_keep h0 e1 hS hA hf hL hF
    obtain ⟨t2, a1, b1⟩ := kk r u t T'.heap (locs ++ L) e1.symm (by rw [← e2]; exact X'.warmed.alike) hp hb k1 k2 k3 T' rfl X'
    exact ⟨t2, st t2 a1, b1⟩
  · obtain ⟨k1, k2, k3⟩ := vx_keep h0 e1 hS hAX hf hL hF
    obtain ⟨t2, a1, b1⟩ := kx E ce q u t T'.heap (locs ++ L) e1.symm (by rw [← e2]; exact X'.warmed.alike) hp hb k1 k2 k3 (by rw [e1]; exact hce) hcv hcl T' rfl X'
    exact ⟨t2, st.trans a1, b1⟩
theorem vx_callf {S SX : Type} {post : UInt32 → S → Prop} {px : SX → Prop} {B : S → State → Prop} {BX : String → SX → State → Prop} {AX : Nat → Prop} (hr : vx_Run p l e R s m args below meth c H locs cells slots mc ms (F0 m pc ls st0) rest (va_Qf post B A1 a) (vx_X px BX AX) free) (hS : va_S A0 H0 H locs) (hA : ∀ q, q < H.size → A1 q → A0 q) (hf : ∀ q, free q → A0 q) (hAX : ∀ q, q < H.size → AX q → A0 q)
    (kx : ∀ (E : String) (ce : Cell) (q9 : Addr) (u : SX) (t : State) (H1 : Heap) (locs1 : List Loc), t.heap = H1 → s.vm.Alike t.vm → px u → BX E u t → H.size ≤ H1.size → (∀ q : Nat, q < H.size → ¬ AX q → H1[q]? = H[q]?) → va_S A0 H0 H1 locs1 → H1[q9]? = some ce → ce.vm = .none → s.vm.findClass E = some ce.cls → vx_W p l e R s m args below meth c H1 locs1 (cells + mc) (slots + ms) Q (F0 m pc ls rest) q9)
    (kk : ∀ (r : UInt32) (u : S) (t : State) (H1 : Heap) (locs1 : List Loc), t.heap = H1 → s.vm.Alike t.vm → post r u → B u t → H.size ≤ H1.size → (∀ q : Nat, q < H.size → ¬ A1 q → H1[q]? = H[q]?) → va_S A0 H0 H1 locs1 → W p l e R s m args below meth c H1 locs1 (cells + mc) (slots + ms) Q (F0 m (pc + 3) ls (.float r :: rest))) : W p l e R s m args below meth c H locs cells slots Q (F0 m pc ls st0) := by
  intro T hT X
  rcases hr T hT X with ⟨v, st₀, t, T', L, h0, X', hL, e1, e2, ⟨⟨r, u, hv, hp, hb⟩, hF⟩, st⟩ | ⟨q, st₀, t, T', L, E, ce, h0, X', hL, e1, e2, ⟨u, hp, hb, hF⟩, hce, hcv, hcl, st⟩
  · cases hv
    obtain ⟨k1, k2, k3⟩ := vx_keep h0 e1 hS hA hf hL hF
    obtain ⟨t2, a1, b1⟩ := kk r u t T'.heap (locs ++ L) e1.symm (by rw [← e2]; exact X'.warmed.alike) hp hb k1 k2 k3 T' rfl X'
    exact ⟨t2, st t2 a1, b1⟩
  · obtain ⟨k1, k2, k3⟩ := vx_keep h0 e1 hS hAX hf hL hF
    obtain ⟨t2, a1, b1⟩ := kx E ce q u t T'.heap (locs ++ L) e1.symm (by rw [← e2]; exact X'.warmed.alike) hp hb k1 k2 k3 (by rw [e1]; exact hce) hcv hcl T' rfl X'
    exact ⟨t2, st.trans a1, b1⟩
theorem vx_calld {S SX : Type} {post : UInt64 → S → Prop} {px : SX → Prop} {B : S → State → Prop} {BX : String → SX → State → Prop} {AX : Nat → Prop} (hr : vx_Run p l e R s m args below meth c H locs cells slots mc ms (F0 m pc ls st0) rest (va_Qd post B A1 a) (vx_X px BX AX) free) (hS : va_S A0 H0 H locs) (hA : ∀ q, q < H.size → A1 q → A0 q) (hf : ∀ q, free q → A0 q) (hAX : ∀ q, q < H.size → AX q → A0 q)
    (kx : ∀ (E : String) (ce : Cell) (q9 : Addr) (u : SX) (t : State) (H1 : Heap) (locs1 : List Loc), t.heap = H1 → s.vm.Alike t.vm → px u → BX E u t → H.size ≤ H1.size → (∀ q : Nat, q < H.size → ¬ AX q → H1[q]? = H[q]?) → va_S A0 H0 H1 locs1 → H1[q9]? = some ce → ce.vm = .none → s.vm.findClass E = some ce.cls → vx_W p l e R s m args below meth c H1 locs1 (cells + mc) (slots + ms) Q (F0 m pc ls rest) q9)
    (kk : ∀ (r : UInt64) (u : S) (t : State) (H1 : Heap) (locs1 : List Loc), t.heap = H1 → s.vm.Alike t.vm → post r u → B u t → H.size ≤ H1.size → (∀ q : Nat, q < H.size → ¬ A1 q → H1[q]? = H[q]?) → va_S A0 H0 H1 locs1 → W p l e R s m args below meth c H1 locs1 (cells + mc) (slots + ms) Q (F0 m (pc + 3) ls (.double r :: rest))) : W p l e R s m args below meth c H locs cells slots Q (F0 m pc ls st0) := by
  intro T hT X
  rcases hr T hT X with ⟨v, st₀, t, T', L, h0, X', hL, e1, e2, ⟨⟨r, u, hv, hp, hb⟩, hF⟩, st⟩ | ⟨q, st₀, t, T', L, E, ce, h0, X', hL, e1, e2, ⟨u, hp, hb, hF⟩, hce, hcv, hcl, st⟩
  · cases hv
    obtain ⟨k1, k2, k3⟩ := vx_keep h0 e1 hS hA hf hL hF
    obtain ⟨t2, a1, b1⟩ := kk r u t T'.heap (locs ++ L) e1.symm (by rw [← e2]; exact X'.warmed.alike) hp hb k1 k2 k3 T' rfl X'
    exact ⟨t2, st t2 a1, b1⟩
  · obtain ⟨k1, k2, k3⟩ := vx_keep h0 e1 hS hAX hf hL hF
    obtain ⟨t2, a1, b1⟩ := kx E ce q u t T'.heap (locs ++ L) e1.symm (by rw [← e2]; exact X'.warmed.alike) hp hb k1 k2 k3 (by rw [e1]; exact hce) hcv hcl T' rfl X'
    exact ⟨t2, st.trans a1, b1⟩
theorem vx_callv {S SX : Type} {post : S → Prop} {px : SX → Prop} {B : S → State → Prop} {BX : String → SX → State → Prop} {AX : Nat → Prop} (hr : vx_Run p l e R s m args below meth c H locs cells slots mc ms (F0 m pc ls st0) rest (va_Qv post B A1 a) (vx_X px BX AX) free) (hS : va_S A0 H0 H locs) (hA : ∀ q, q < H.size → A1 q → A0 q) (hf : ∀ q, free q → A0 q) (hAX : ∀ q, q < H.size → AX q → A0 q)
    (kx : ∀ (E : String) (ce : Cell) (q9 : Addr) (u : SX) (t : State) (H1 : Heap) (locs1 : List Loc), t.heap = H1 → s.vm.Alike t.vm → px u → BX E u t → H.size ≤ H1.size → (∀ q : Nat, q < H.size → ¬ AX q → H1[q]? = H[q]?) → va_S A0 H0 H1 locs1 → H1[q9]? = some ce → ce.vm = .none → s.vm.findClass E = some ce.cls → vx_W p l e R s m args below meth c H1 locs1 (cells + mc) (slots + ms) Q (F0 m pc ls rest) q9)
    (kk : ∀ (u : S) (t : State) (H1 : Heap) (locs1 : List Loc), t.heap = H1 → s.vm.Alike t.vm → post u → B u t → H.size ≤ H1.size → (∀ q : Nat, q < H.size → ¬ A1 q → H1[q]? = H[q]?) → va_S A0 H0 H1 locs1 → W p l e R s m args below meth c H1 locs1 (cells + mc) (slots + ms) Q (F0 m (pc + 3) ls (rest))) : W p l e R s m args below meth c H locs cells slots Q (F0 m pc ls st0) := by
  intro T hT X
  rcases hr T hT X with ⟨v, st₀, t, T', L, h0, X', hL, e1, e2, ⟨⟨u, hv, hp, hb⟩, hF⟩, st⟩ | ⟨q, st₀, t, T', L, E, ce, h0, X', hL, e1, e2, ⟨u, hp, hb, hF⟩, hce, hcv, hcl, st⟩
  · cases hv
    obtain ⟨k1, k2, k3⟩ := vx_keep h0 e1 hS hA hf hL hF
    obtain ⟨t2, a1, b1⟩ := kk u t T'.heap (locs ++ L) e1.symm (by rw [← e2]; exact X'.warmed.alike) hp hb k1 k2 k3 T' rfl X'
    exact ⟨t2, st t2 a1, b1⟩
  · obtain ⟨k1, k2, k3⟩ := vx_keep h0 e1 hS hAX hf hL hF
    obtain ⟨t2, a1, b1⟩ := kx E ce q u t T'.heap (locs ++ L) e1.symm (by rw [← e2]; exact X'.warmed.alike) hp hb k1 k2 k3 (by rw [e1]; exact hce) hcv hcl T' rfl X'
    exact ⟨t2, st.trans a1, b1⟩
/-- caught by the row x of this method's table; the rows ahead don't take it -/
theorem vx_catch {own name : String} {E : String} {ce : Cell} {q : Addr} (hown : s.vm.findClass own = some m.cls) (pre : List ExceptionTableEntry) (x : ExceptionTableEntry) (suf : List ExceptionTableEntry) (hsplit : c.exceptionTable.toList = pre ++ x :: suf)
    (hpass : ∀ z ∈ pre, covers z pc = false ∨ (z.catchType ≠ 0 ∧ ∃ nm : String, (Cond.classLink own z.catchType nm).before args s = true ∧ va_Nc E nm s)) (hx : covers x pc = true) (h0 : x.catchType ≠ 0)
    (hlink : (Cond.classLink own x.catchType name).before args s = true) (hcast : (Cond.castable E name).before args s = true) (hcell : H[q]? = some ce) (hv : ce.vm = .none) (hcl : s.vm.findClass E = some ce.cls)
    (kk : W p l e R s m args below meth c H locs cells slots Q (F0 m x.handlerPc ls [.ref q])) : vx_W p l e R s m args below meth c H locs cells slots Q (F0 m pc ls rest) q := by
  intro T hT X
  have hpl : e.platform.magicAccessors = ({} : Platform).magicAccessors := by rw [X.admits.platform]
  obtain ⟨c3, c4, hc3, hc4, hasg⟩ := Cond.castable_spec hcast
  cases Option.some.inj (hc3.symm.trans hcl)
  obtain ⟨c5, hc5, hcl5⟩ := Cond.classLink_spec hown hlink e.platform hpl
  cases Option.some.inj (hc4.symm.trans hc5)
  obtain ⟨vm', X', st⟩ := X.thenCaughtThrough q (g := F0 m pc ls rest) rfl (Steps.refl _) (by rw [hT]; exact hcell) (by rw [hv]; rfl) (by obtain ⟨k9, h9, -⟩ := Vm.findClass_spec hcl; exact ⟨k9, h9⟩) pre x suf hsplit
    (fun z hz => by
      rcases hpass z hz with h | ⟨hz0, nm, hl1, hn1⟩
      · exact Or.inl h
      · obtain ⟨c6, hc6, hcl6⟩ := Cond.classLink_spec hown hl1 e.platform hpl
        obtain ⟨a8, b8, h1, h2, h3⟩ := hn1
        cases Option.some.inj (h1.symm.trans hcl)
        cases Option.some.inj (h2.symm.trans hc6)
        exact Or.inr ⟨hz0, _, hcl6, h3⟩) hx (Or.inr ⟨h0, c4, hcl5, hasg⟩)
  obtain ⟨t, a1, b1⟩ := kk (T.setVm vm') hT X'
  exact ⟨t, st.trans a1, b1⟩
end Rows
section Ends
variable {p : Program} {l : Launch} {e : Env} {R : Room} {s : State} {m : MethodId} {args : Array Value} {below : List Frame} {meth : Method} {c : Code} {H : Heap} {locs : List Loc} {cells slots : Nat} {Q : State → Prop}
variable {mc ms : Nat} {free : Addr → Prop} {A0 A1 : Nat → Prop} {H0 : Heap} {a : Array Value} {ls : Array Slot} {st0 rest : List Value}
variable {Qc : Array Value → State → Outcome → State → Prop} {XC : String → State → State → Prop}
/-- what a body that may throw owes at its end -/
def vx_MQ (below : List Frame) (Qc : Array Value → State → Outcome → State → Prop) (XC : String → State → State → Prop) (a : Array Value) (s : State) (mc ms : Nat) (free : Addr → Prop) : State → Prop := fun t =>
  ∃ o, t.status = .running ∧ Ended t below o ∧ vx_Q Qc XC mc ms free a s o t
theorem vx_ret {g : JFrame} {mc ms : Nat} (k : W p l e R s m args below meth c H locs cells slots (MQ below Qc args s mc ms free) g) : W p l e R s m args below meth c H locs cells slots (vx_MQ below Qc XC args s mc ms free) g := by
  intro T hT X
  obtain ⟨t, a1, o, b1, b2, b3, b4⟩ := k T hT X
  exact ⟨t, a1, o, b1, b2, Or.inl ⟨b3, b4⟩⟩
/-- not caught here: it goes on to the caller -/
theorem vx_widen {g : JFrame} {q : Addr} {k n : Nat} (h1 : cells ≤ k) (h2 : slots ≤ n) (kk : vx_W p l e R s m args below meth c H locs k n Q g q) : vx_W p l e R s m args below meth c H locs cells slots Q g q := fun T hT X => kk T hT (stand_widen X h1 h2)
theorem vx_out {pc : Nat} {E : String} {ce : Cell} {q : Addr} {mc ms : Nat} (hout : ∀ x ∈ c.exceptionTable.toList, covers x pc = false) (hlocks : meth.locks = false) (hcell : H[q]? = some ce) (hv : ce.vm = .none) (hcl : s.vm.findClass E = some ce.cls)
    (hx : ∀ t : State, t.heap = H → s.vm.Alike t.vm → XC E s t) (hf : ∀ z ∈ locs, free z.base) (hc : cells ≤ mc) (hs : slots ≤ ms) :
    vx_W p l e R s m args below meth c H locs cells slots (vx_MQ below Qc XC args s mc ms free) (F0 m pc ls rest) q := by
  intro T hT X
  obtain ⟨st1, hrun, hend, hW, hsm⟩ := X.leaveThrown q (g := F0 m pc ls rest) rfl rfl rfl hout hlocks
  have hcell9 : (T.setFrames (.throwing q :: below)).heap[q]? = some ce := by
    show T.heap[q]? = some ce
    rw [hT]; exact hcell
  exact ⟨_, st1, .threw q, hrun, hend, Or.inr ⟨q, rfl, E, ce, locs, hx _ hT hW.alike, hcell9, hv, hcl, hW, hsm.mono hc hs, hf⟩⟩
theorem vx_frame {U : State} {k n : Nat} (h : s.sameButNew ({ U with vm := s.vm } : State) locs k n) : s.heap.size ≤ U.heap.size ∧ ∀ q : Nat, q < s.heap.size → (∀ z ∈ locs, z.base ≠ q) → U.heap[q]? = s.heap[q]? := by
  obtain ⟨-, h2, -, -, -, h6⟩ := h
  refine ⟨h2, fun q hq hz => ?_⟩
  obtain ⟨c9, e1, e2, e3, e4⟩ := h6 q _ (Array.getElem?_eq_getElem hq)
  have hs : c9.slots = (s.heap[q]).slots := Array.ext_getElem? fun i => e4 i fun hm => hz _ hm rfl
  have h9 : c9 = s.heap[q] := by
    rw [hs] at e2
    exact e2
  have e5 : U.heap[q]? = some c9 := e1
  rw [e5, h9, Array.getElem?_eq_getElem hq]
/-- the words of a throw but the four that speak of the heap -/
def vx_no (w : Cond) : Bool := decide (w ≠ .isRef (.static Bundle.tN "UNASSIGNED_STACK" Bundle.steD)) && decide (w ≠ .isRef (.static Bundle.tN "SUPPRESSED_SENTINEL" Bundle.listD)) && decide (w ≠ .laysStatic Bundle.tN "UNASSIGNED_STACK" Bundle.steD) && decide (w ≠ .laysStatic Bundle.tN "SUPPRESSED_SENTINEL" Bundle.listD)
def vx_at0 (own : String) (ic : Nat) (X : String) (names : List String) : List Cond := (Bundle.ownAtoms0 own ic X names).filter vx_no
def vx_atS (own : String) (ic : Nat) (X : String) (names : List String) : List Cond := (Bundle.ownAtoms own ic X names).filter vx_no
/-- a word that the tables alone decide, or a good one -/
def vx_ot (w : Cond) : Bool := w.onTables || goodWord w
theorem vx_ot_at {args a' : Array Value} {s U : State} {w : Cond} (hW : s.WarmedH U.vm) (hvm : s.vm = U.vm) (hg : vx_ot w = true) (h : w.before args s = true) : w.before a' U = true := by
  simp only [vx_ot, Bool.or_eq_true] at hg
  rcases hg with hg | hg
  · exact va_tabs hg hvm h
  · exact word_at hW (good_of_word hg) h
/-- a list's words: the good ones out of the method's own list, the others by premises of their own -/
theorem vx_hat {args : Array Value} {s : State} {L B : List Cond} (h1 : ∀ w ∈ L.filter goodWord, w.before args s = true) (h2 : ∀ w ∈ L.filter (fun w => !goodWord w), w ∈ B) (h3 : ∀ w ∈ B, w.before args s = true) : ∀ w ∈ L, w.before args s = true := by
  intro w hw
  by_cases g : goodWord w = true
  · exact h1 w (List.mem_filter.mpr ⟨hw, g⟩)
  · refine h3 w (h2 w (List.mem_filter.mpr ⟨hw, ?_⟩))
    show (!goodWord w) = true
    cases hgw : goodWord w
    · rfl
    · exact absurd hgw g
theorem vx_c {args : Array Value} {s : State} {w : Cond} {B : List Cond} (h : w.before args s = true) (t : ∀ w ∈ B, w.before args s = true) : ∀ w' ∈ w :: B, w'.before args s = true := fun w' h' => (List.mem_cons.mp h').elim (fun e => by rw [e]; exact h) (t w')
theorem vx_n {args : Array Value} {s : State} : ∀ w ∈ ([] : List Cond), w.before args s = true := fun _ h => nomatch h
theorem vx_own {args : Array Value} {s : State} {L : List Cond} (h1 : ∀ w ∈ L.filter vx_no, w.before args s = true)
    (hU : (Cond.isRef (.static Bundle.tN "UNASSIGNED_STACK" Bundle.steD)).before args s = true) (hN : (Cond.isRef (.static Bundle.tN "SUPPRESSED_SENTINEL" Bundle.listD)).before args s = true)
    (lU : (Cond.laysStatic Bundle.tN "UNASSIGNED_STACK" Bundle.steD).before args s = true) (lN : (Cond.laysStatic Bundle.tN "SUPPRESSED_SENTINEL" Bundle.listD).before args s = true) : ∀ w ∈ L, w.before args s = true := by
  intro w hw
  by_cases e1 : w = .isRef (.static Bundle.tN "UNASSIGNED_STACK" Bundle.steD)
  · rw [e1]; exact hU
  · by_cases e2 : w = .isRef (.static Bundle.tN "SUPPRESSED_SENTINEL" Bundle.listD)
    · rw [e2]; exact hN
    · by_cases e3 : w = .laysStatic Bundle.tN "UNASSIGNED_STACK" Bundle.steD
      · rw [e3]; exact lU
      · by_cases e4 : w = .laysStatic Bundle.tN "SUPPRESSED_SENTINEL" Bundle.listD
        · rw [e4]; exact lN
        · exact h1 w (List.mem_filter.mpr ⟨hw, by unfold vx_no; rw [decide_eq_true e1, decide_eq_true e2, decide_eq_true e3, decide_eq_true e4]; rfl⟩)
/-- where a static field lies, its class's statics cell in H -/
def vx_L (C n d : String) (A : Nat → Prop) (U : State) (H : Heap) : Prop := ∃ (c : ClassId) (k : Class) (i : Nat) (f : Field) (a : Nat) (cell : Cell), U.vm.findClass C = some c ∧ U.fieldFound? C n d = some (c, k, i, f) ∧ f.isStatic = true ∧ k.statics = some a ∧ H[a]? = some cell ∧ cell.vm.isStatics = true ∧ cell.cls = c ∧ f.slot < cell.slots.size ∧ k.staticTypes[f.slot]? = some f.type ∧ ¬ A a
theorem vx_L.moved {C n d : String} {A : Nat → Prop} {u U : State} {H : Heap} (hvm : u.vm.Alike U.vm) (h : vx_L C n d A u H) : vx_L C n d A U H := by
  obtain ⟨c, k, i, f, a, cell, h1, h2, h3, h4, h5, h6, h7, h8, h9, h10⟩ := h
  obtain ⟨k', hi', he⟩ := State.fieldFound?_setVm hvm h2
  exact ⟨c, k', i, f, a, cell, by rw [hvm.findClass]; exact h1, hi', h3, by rw [he]; exact h4, h5, h6, h7, h8, by rw [he]; exact h9, h10⟩
theorem vx_L.kept {C n d : String} {A : Nat → Prop} {U : State} {H H1 : Heap} (h : vx_L C n d A U H) (hq : ∀ a : Nat, a < H.size → ¬ A a → H1[a]? = H[a]?) : vx_L C n d A U H1 := by
  obtain ⟨c, k, i, f, a, cell, h1, h2, h3, h4, h5, h6, h7, h8, h9, h10⟩ := h
  exact ⟨c, k, i, f, a, cell, h1, h2, h3, h4, by rw [hq a (Array.getElem?_eq_some_iff.mp h5).1 h10]; exact h5, h6, h7, h8, h9, h10⟩
theorem vx_L.narrow {C n d : String} {A B : Nat → Prop} {U : State} {H : Heap} (h : vx_L C n d A U H) (hAB : ∀ q, B q → A q) : vx_L C n d B U H := by
  obtain ⟨c, k, i, f, a, cell, h1, h2, h3, h4, h5, h6, h7, h8, h9, h10⟩ := h
  exact ⟨c, k, i, f, a, cell, h1, h2, h3, h4, h5, h6, h7, h8, h9, fun z => h10 (hAB _ z)⟩
theorem vx_L.word {C n d : String} {A : Nat → Prop} {s : State} {args : Array Value} (h : vx_L C n d A s s.heap) : (Cond.laysStatic C n d).before args s = true := by
  obtain ⟨c, k, i, f, a, cell, h1, h2, h3, h4, h5, h6, h7, h8, h9, -⟩ := h
  show (Cond.laysStatic C n d).holds args s none s [] = true
  exact Cond.laysStatic_of h1 h2 h3 h4 h5 h6 h7 h8 h9
/-- .. and what it holds: null or some reference -/
def vx_Zq (C n d : String) (A : Nat → Prop) (U : State) (H : Heap) : Prop := va_Zq C n d A U H ∧ vx_L C n d A U H
theorem vx_Zq.moved {C n d : String} {A : Nat → Prop} {u U : State} {H : Heap} (hvm : u.vm.Alike U.vm) (h : vx_Zq C n d A u H) : vx_Zq C n d A U H := ⟨va_Zq.moved hvm h.1, vx_L.moved hvm h.2⟩
theorem vx_Zq.kept {C n d : String} {A : Nat → Prop} {U : State} {H H1 : Heap} (h : vx_Zq C n d A U H) (hq : ∀ a : Nat, a < H.size → ¬ A a → H1[a]? = H[a]?) : vx_Zq C n d A U H1 := ⟨va_Zq.kept h.1 hq, vx_L.kept h.2 hq⟩
theorem vx_Zq.narrow {C n d : String} {A B : Nat → Prop} {U : State} {H : Heap} (h : vx_Zq C n d A U H) (hAB : ∀ q, B q → A q) : vx_Zq C n d B U H := ⟨va_Zq.narrow h.1 hAB, vx_L.narrow h.2 hAB⟩
theorem vx_Zqof {args : Array Value} {s : State} {C n d : String} {A : Nat → Prop} (hl : (Cond.laysStatic C n d).before args s = true) (hini : (Cond.initialized C).before args s = true) (h : (Cond.isRef (.static C n d)).before args s = true) (hA : ∀ a : Nat, a < s.heap.size → ¬ A a) : vx_Zq C n d A s s.heap := by
  refine ⟨va_Zqof hl hini h hA, ?_⟩
  obtain ⟨c, k, i, f, a, cell, h1, h2, h3, h4, h5, h6, h7, h8, h9⟩ := Cond.laysStatic_spec hl
  exact ⟨c, k, i, f, a, cell, h1, h2, h3, h4, h5, h6, h7, h8, h9, hA a (Array.getElem?_eq_some_iff.mp h5).1⟩
theorem vx_isRef {C n d : String} {v : Value} {A : Nat → Prop} {s : State} {args : Array Value} (h : va_Z C n d v A s s.heap) (hv : v.isRef = true) : (Cond.isRef (.static C n d)).before args s = true := by
  obtain ⟨cf, kf, fi, f, a, cell, h1, h2, h3, h4, h5, h6, h7, -⟩ := h
  have he : (Term.static C n d).eval args s none [] s = some v := by
    simp [Term.eval, State.fieldNamed?, h1, h2, h4, h5, h6, h7]
  simp only [Cond.before, Cond.holds, Cond.value, he]
  cases v <;> simp_all [Value.isRef]
theorem vx_isRefq {C n d : String} {A : Nat → Prop} {s : State} {args : Array Value} (h : va_Zq C n d A s s.heap) : (Cond.isRef (.static C n d)).before args s = true := by
  rcases h with h | ⟨t, h⟩
  · exact vx_isRef h rfl
  · exact vx_isRef h rfl
/-- the same frame, seen from here: as if the method were called anew in this heap -/
theorem vx_rebase {T : State} (X : Stand p l e R s m args below meth c T locs cells slots) {R' : Room} (hf : R'.frames ≤ R.frames) (hl : R'.locals ≤ R.locals) (hc : cells + R'.cells ≤ R.cells) (hs : slots + R'.slots ≤ R.slots) :
    Stand p l e R' ((T.setVm s.vm).setFrames (.invoking m args :: below)) m args below meth c T [] 0 0 := by
  have htop : (T.setVm s.vm).topJava?.isSome := X.here.top
  have hF : ((T.setVm s.vm).setFrames (.invoking m args :: below)).frames = .invoking m args :: below := State.frames_setFrames _ (State.cur_lt_of_top htop)
  obtain ⟨g₀, hg0⟩ := Option.isSome_iff_exists.mp htop
  obtain ⟨r, hr⟩ := State.topJava?_eq_some.mp hg0
  have hl9 : e.platform.stackLimits (T.setVm s.vm).me = e.platform.stackLimits s.me := X.limits
  have hb9 : (T.setVm s.vm).me.stackBytes = s.me.stackBytes := X.bytes
  refine ⟨X.admits, X.cas, X.clock, hF, ?_, X.hears, X.method, X.code, X.here, X.tail, X.warmed, ?_, ?_, ?_⟩
  · have h := X.room
    have hU : ((T.setVm s.vm).setFrames (.invoking m args :: below)).localsInUse = s.localsInUse := by
      rw [State.localsInUse_invoking hF (meth := meth) (c := c) X.method X.code, State.localsInUse_invoking X.frames X.method X.code]
    simp only [State.hasRoom, Bool.and_eq_true, decide_eq_true_eq] at h ⊢
    obtain ⟨⟨⟨⟨h1, h2, h3, h4, h5, h6⟩, h7⟩, h8⟩, h9⟩ := h
    rw [X.frames, List.length_cons] at h2 h3
    have q1 := X.heapSize
    have q2 := X.used
    simp only [hF, hU, List.length_cons, State.stackLimits_setFrames, State.stackBytes_setFrames, hl9, hb9]
    refine ⟨⟨⟨⟨by omega, by omega, by omega, by omega, by omega, h6⟩, ?_⟩, ?_⟩, X.book⟩
    · show T.heap.size + R'.cells ≤ e.platform.maxCells
      omega
    · show T.slotsUsed + R'.slots ≤ e.platform.maxSlots
      omega
  · rw [State.stackLimits_setFrames]; rfl
  · rw [State.stackBytes_setFrames]; rfl
  · refine ⟨?_, Nat.le_refl _, Nat.le_refl _, ?_, ?_, fun a c9 h9 => ⟨c9, h9, rfl, rfl, fun _ _ => rfl⟩⟩
    · obtain ⟨t, ht, -⟩ := State.frames_cons hr
      show T.setVm s.vm = { ((T.setVm s.vm).setFrames (.invoking m args :: below)).setFrames (T.setVm s.vm).frames with heap := T.heap, slotsUsed := T.slotsUsed }
      rw [State.setFrames_setFrames, State.setFrames_self ht]
      rfl
    · show T.slotsUsed = T.slotsUsed + ((T.heap.toList.drop T.heap.size).map (·.slots.size)).sum
      rw [List.drop_eq_nil_of_le (Nat.le_of_eq Array.length_toList)]
      rfl
    · show ((T.heap.toList.drop T.heap.size).map (·.slots.size)).sum ≤ 0
      rw [List.drop_eq_nil_of_le (Nat.le_of_eq Array.length_toList)]
      exact Nat.le_refl _
/-- 'throw new E()': new; dup; invokespecial; athrow -/
theorem vx_throw0 {cc : ByteArray} {pc : Nat} (hexec : p.tables.exec = Jvm.exec) (hb : c.code = cc) (hl : l.stackTraces = false) {own cls : String} {names : List String} {ik ic mc ms : Nat} {A : Nat → Prop}
    (hown : s.vm.findClass own = some m.cls) (hcls : Bundle.fit cls = true) (hnames : ∀ n ∈ names, Bundle.fit n = true)
    (hk : (Cond.classLink own ik cls).before args s = true) (hini : (Cond.initialized cls).before args s = true) (hat : ∀ w ∈ vx_at0 own ic cls names, w.before args s = true)
    (hgood : ∀ w ∈ Cond.classLink own ik cls :: Cond.initialized cls :: vx_at0 own ic cls names, vx_ot w = true)
    (hU : vx_Zq Bundle.tN "UNASSIGNED_STACK" Bundle.steD A s s.heap) (hN : vx_Zq Bundle.tN "SUPPRESSED_SENTINEL" Bundle.listD A s s.heap) (hS : va_S A s.heap H locs) (hsize : ls.size = c.maxLocals)
    (d0 : decode cc pc = .ok (.new ik, 3)) (d3 : decode cc (pc + 3) = .ok (.dup, 1)) (d4 : decode cc (pc + 4) = .ok (.invokespecial ic, 3)) (d7 : decode cc (pc + 7) = .ok (.athrow, 1))
    (hout : ∀ x ∈ c.exceptionTable.toList, covers x (pc + 7) = false)
    (hRframes : names.length + 3 < R.frames) (hRlocals : (rest.map fun v => v.category).sum + (13 * (names.length + 1) + 42) ≤ R.locals) (hRcells : cells + 1 ≤ R.cells) (hRslots : slots + 6 ≤ R.slots) (hlocks : meth.locks = false)
    (hx : ∀ t : State, s.vm.Alike t.vm → H.size ≤ t.heap.size → (∀ q : Nat, q < H.size → t.heap[q]? = H[q]?) → XC cls s t)
    (hf : ∀ z ∈ locs, free z.base) (hc : cells + 1 ≤ mc) (hs : slots + 6 ≤ ms) :
    W p l e R s m args below meth c H locs cells slots (vx_MQ below Qc XC args s mc ms free) (F0 m pc ls rest) := by
  intro T hT X
  have htr : e.platform.stackTraces = false := (show e.platform.stackTraces = l.stackTraces by rw [X.admits.platform]).trans hl
  have Y := vx_rebase X (R' := { frames := R.frames, locals := R.locals, cells := 1, slots := 6 }) (Nat.le_refl _) (Nat.le_refl _) hRcells hRslots
  obtain ⟨s', hA⟩ : ∃ z, z = (T.setVm s.vm).setFrames (.invoking m args :: below) := ⟨_, rfl⟩
  rw [← hA] at Y
  have hvm : s'.vm = s.vm := by rw [hA]; rfl
  have hhp : s'.heap = H := by rw [hA]; exact hT
  have hW0 : s.WarmedH s'.vm := by rw [hvm]; exact State.WarmedH.refl s
  have hat' : ∀ w ∈ vx_at0 own ic cls names, w.before args s' = true := fun w hw => vx_ot_at hW0 hvm.symm (hgood w (List.mem_cons_of_mem _ (List.mem_cons_of_mem _ hw))) (hat w hw)
  have hk' : (Cond.classLink own ik cls).before args s' = true := vx_ot_at hW0 hvm.symm (hgood _ List.mem_cons_self) hk
  have hini' : (Cond.initialized cls).before args s' = true := vx_ot_at hW0 hvm.symm (hgood _ (List.mem_cons_of_mem _ List.mem_cons_self)) hini
  have hU' : vx_Zq Bundle.tN "UNASSIGNED_STACK" Bundle.steD A s' s'.heap := by rw [hhp]; exact vx_Zq.moved hW0.alike (hU.kept hS.2.1)
  have hN' : vx_Zq Bundle.tN "SUPPRESSED_SENTINEL" Bundle.listD A s' s'.heap := by rw [hhp]; exact vx_Zq.moved hW0.alike (hN.kept hS.2.1)
  have h : ∀ w ∈ Bundle.ownAtoms0 own ic cls names, w.before args s' = true := vx_own hat' (vx_isRefq hU'.1) (vx_isRefq hN'.1) hU'.2.word hN'.2.word
  have hown' : s'.vm.findClass own = some m.cls := by rw [hvm]; exact hown
  have hins : (Cond.instantiable cls 6).before args s' = true := h _ (by simp [Bundle.ownAtoms0])
  obtain ⟨vm₁, cX, kX, hfX, hkX, -, -, X₁, st1⟩ := Y.newCold hexec (own := own) (C := cls) (index := ik) (n := 6) hown' hk' hins hini'
    (g := F0 m pc ls rest) rfl (by rw [hb]; exact d0) (Nat.le_refl _) (Nat.le_refl _)
  generalize hT1 : (T.setVm vm₁).pushCell { cls := cX, slots := kX.instanceTypes.map defaultValue, vm := .none } = T1 at X₁ st1
  have hcat : (Value.ref T.heap.size).category = 1 := rfl
  have hcellA : T1.heap[T.heap.size]? = some (freshCell cX kX) := by rw [← hT1]; exact State.heap_pushCell_size _ _
  have d3' : decode c.code (pc + 3) = .ok (.dup, 1) := by rw [hb]; exact d3
  obtain ⟨U, hsteps, hrun, hend, hW, hsame, ce, hce, hO⟩ := X₁.ctorThrow0 hexec htr (own := own) (cls := cls) (names := names) (ic := ic) hown' hcls hnames h (fun x hx => nomatch hx) hfX hkX hcellA (by rw [hhp, hT]; exact Nat.le_refl _)
    (g := { method := m, pc := pc + 4, locals := ls, stack := .ref T.heap.size :: .ref T.heap.size :: rest, locked := none }) rfl hsize rfl rfl (rest := rest) rfl
    (by rw [hb]; exact d4) (by rw [hb]; exact d7) hout hRframes (by simp only [List.map_cons, List.sum_cons, hcat]; omega) hlocks
  obtain ⟨f1, f2⟩ := vx_frame hsame
  rw [hhp] at f1 f2
  have hWs : s.WarmedH U.vm := State.WarmedH.trans hW0 hW
  have hcl : s.vm.findClass cls = some ce.cls := by
    have h9 := hO.cls
    rw [hvm] at h9
    exact h9
  have hall : s.sameButNew ({ U with vm := s.vm } : State) locs mc ms := by
    subst hA
    obtain ⟨e1, e2⟩ := hsame
    rw [State.setFrames_setFrames] at e1
    have h2 : (T.setVm s.vm).sameButNew ({ U with vm := s.vm } : State) [] (0 + 1) (0 + 6) := ⟨e1, e2⟩
    have h3 := X.same.trans h2
    rw [List.append_nil] at h3
    exact h3.mono hc hs
  refine ⟨U, ?_, .threw T.heap.size, hrun, hend, Or.inr ⟨T.heap.size, rfl, cls, ce, locs, hx U hWs.alike f1 (fun q hq => f2 q hq (fun z hz => nomatch hz)), hce, hO.vm, hcl, hWs, hall, hf⟩⟩
  refine st1 _ ?_
  show Steps p.tables e below (T1.setTop { method := m, pc := pc + 3, locals := ls, stack := .ref T.heap.size :: rest, locked := none }) _
  jvm_step X₁.here [X₁.here.top, hexec, d3', Value.category]
  exact hsteps
/-- 'throw new E("text")': new; dup; ldc; invokespecial; athrow -/
theorem vx_throwS {cc : ByteArray} {pc : Nat} (hexec : p.tables.exec = Jvm.exec) (hb : c.code = cc) (hl : l.stackTraces = false) {own cls text : String} {names : List String} {ik is ic mc ms sa : Nat} {A : Nat → Prop}
    (hown : s.vm.findClass own = some m.cls) (hcls : Bundle.fit cls = true) (hnames : ∀ n ∈ names, Bundle.fit n = true)
    (hk : (Cond.classLink own ik cls).before args s = true) (hini : (Cond.initialized cls).before args s = true) (hstr : vk_R own is text sa s) (hat : ∀ w ∈ vx_atS own ic cls names, w.before args s = true)
    (hgood : ∀ w ∈ Cond.classLink own ik cls :: Cond.initialized cls :: vx_atS own ic cls names, vx_ot w = true)
    (hU : vx_Zq Bundle.tN "UNASSIGNED_STACK" Bundle.steD A s s.heap) (hN : vx_Zq Bundle.tN "SUPPRESSED_SENTINEL" Bundle.listD A s s.heap) (hS : va_S A s.heap H locs) (hsize : ls.size = c.maxLocals)
    (d0 : decode cc pc = .ok (.new ik, 3)) (d3 : decode cc (pc + 3) = .ok (.dup, 1)) (d4 : decode cc (pc + 4) = .ok (.ldc is, 2)) (d6 : decode cc (pc + 6) = .ok (.invokespecial ic, 3)) (d9 : decode cc (pc + 9) = .ok (.athrow, 1))
    (hout : ∀ x ∈ c.exceptionTable.toList, covers x (pc + 9) = false)
    (hRframes : names.length + 3 < R.frames) (hRlocals : (rest.map fun v => v.category).sum + (13 * (names.length + 1) + 43) ≤ R.locals) (hRcells : cells + 1 ≤ R.cells) (hRslots : slots + 6 ≤ R.slots) (hlocks : meth.locks = false)
    (hx : ∀ t : State, s.vm.Alike t.vm → H.size ≤ t.heap.size → (∀ q : Nat, q < H.size → t.heap[q]? = H[q]?) → XC cls s t)
    (hf : ∀ z ∈ locs, free z.base) (hc : cells + 1 ≤ mc) (hs : slots + 6 ≤ ms) :
    W p l e R s m args below meth c H locs cells slots (vx_MQ below Qc XC args s mc ms free) (F0 m pc ls rest) := by
  intro T hT X
  have htr : e.platform.stackTraces = false := (show e.platform.stackTraces = l.stackTraces by rw [X.admits.platform]).trans hl
  have Y := vx_rebase X (R' := { frames := R.frames, locals := R.locals, cells := 1, slots := 6 }) (Nat.le_refl _) (Nat.le_refl _) hRcells hRslots
  obtain ⟨s', hA⟩ : ∃ z, z = (T.setVm s.vm).setFrames (.invoking m args :: below) := ⟨_, rfl⟩
  rw [← hA] at Y
  have hvm : s'.vm = s.vm := by rw [hA]; rfl
  have hhp : s'.heap = H := by rw [hA]; exact hT
  have hW0 : s.WarmedH s'.vm := by rw [hvm]; exact State.WarmedH.refl s
  have hat' : ∀ w ∈ vx_atS own ic cls names, w.before args s' = true := fun w hw => vx_ot_at hW0 hvm.symm (hgood w (List.mem_cons_of_mem _ (List.mem_cons_of_mem _ hw))) (hat w hw)
  have hk' : (Cond.classLink own ik cls).before args s' = true := vx_ot_at hW0 hvm.symm (hgood _ List.mem_cons_self) hk
  have hini' : (Cond.initialized cls).before args s' = true := vx_ot_at hW0 hvm.symm (hgood _ (List.mem_cons_of_mem _ List.mem_cons_self)) hini
  have hU' : vx_Zq Bundle.tN "UNASSIGNED_STACK" Bundle.steD A s' s'.heap := by rw [hhp]; exact vx_Zq.moved hW0.alike (hU.kept hS.2.1)
  have hN' : vx_Zq Bundle.tN "SUPPRESSED_SENTINEL" Bundle.listD A s' s'.heap := by rw [hhp]; exact vx_Zq.moved hW0.alike (hN.kept hS.2.1)
  have h : ∀ w ∈ Bundle.ownAtoms own ic cls names, w.before args s' = true := vx_own hat' (vx_isRefq hU'.1) (vx_isRefq hN'.1) hU'.2.word hN'.2.word
  have hown' : s'.vm.findClass own = some m.cls := by rw [hvm]; exact hown
  have hins : (Cond.instantiable cls 6).before args s' = true := h _ (by simp [Bundle.ownAtoms])
  obtain ⟨vm₁, cX, kX, hfX, hkX, -, -, X₁, st1⟩ := Y.newCold hexec (own := own) (C := cls) (index := ik) (n := 6) hown' hk' hins hini'
    (g := F0 m pc ls rest) rfl (by rw [hb]; exact d0) (Nat.le_refl _) (Nat.le_refl _)
  generalize hT1 : (T.setVm vm₁).pushCell { cls := cX, slots := kX.instanceTypes.map defaultValue, vm := .none } = T1 at X₁ st1
  have hcat : (Value.ref T.heap.size).category = 1 := rfl
  have hcellA : T1.heap[T.heap.size]? = some (freshCell cX kX) := by rw [← hT1]; exact State.heap_pushCell_size _ _
  have d3' : decode c.code (pc + 3) = .ok (.dup, 1) := by rw [hb]; exact d3
  have d4' : decode c.code (pc + 4) = .ok (.ldc is, 2) := by rw [hb]; exact d4
  have hstr' : vk_R own is text sa s' := vk_R.warm hW0 hstr
  obtain ⟨U, hsteps, hrun, hend, hW, hsame, ce, hce, hO⟩ := X₁.ctorThrowS hexec htr (own := own) (cls := cls) (names := names) (ic := ic) hown' hcls hnames h (fun x hx => nomatch hx) hfX hkX hcellA (by rw [hhp, hT]; exact Nat.le_refl _) (msg := .ref sa) rfl
    (g := { method := m, pc := pc + 6, locals := ls, stack := .ref sa :: .ref T.heap.size :: .ref T.heap.size :: rest, locked := none }) rfl hsize rfl rfl (rest := rest) rfl
    (by rw [hb]; exact d6) (by rw [hb]; exact d9) hout hRframes (by simp only [List.map_cons, List.sum_cons, hcat]; omega) hlocks
  obtain ⟨f1, f2⟩ := vx_frame hsame
  rw [hhp] at f1 f2
  have hWs : s.WarmedH U.vm := State.WarmedH.trans hW0 hW
  have hcl : s.vm.findClass cls = some ce.cls := by
    have h9 := hO.cls
    rw [hvm] at h9
    exact h9
  have hall : s.sameButNew ({ U with vm := s.vm } : State) locs mc ms := by
    subst hA
    obtain ⟨e1, e2⟩ := hsame
    rw [State.setFrames_setFrames] at e1
    have h2 : (T.setVm s.vm).sameButNew ({ U with vm := s.vm } : State) [] (0 + 1) (0 + 6) := ⟨e1, e2⟩
    have h3 := X.same.trans h2
    rw [List.append_nil] at h3
    exact h3.mono hc hs
  refine ⟨U, ?_, .threw T.heap.size, hrun, hend, Or.inr ⟨T.heap.size, rfl, cls, ce, locs, hx U hWs.alike f1 (fun q hq => f2 q hq (fun z hz => nomatch hz)), hce, hO.vm, hcl, hWs, hall, hf⟩⟩
  refine st1 _ ?_
  show Steps p.tables e below (T1.setTop { method := m, pc := pc + 3, locals := ls, stack := .ref T.heap.size :: rest, locked := none }) _
  jvm_step X₁.here [X₁.here.top, hexec, d3', Value.category]
  exact X₁.ldcString hexec (own := own) (text := text) (index := is) (a := sa) hown' hstr'.1 hstr'.2
    (g := { method := m, pc := pc + 4, locals := ls, stack := .ref T.heap.size :: .ref T.heap.size :: rest, locked := none }) rfl d4' _ hsteps
/-- 'throw new E("text")', the text by a wide index -/
theorem vx_throwSW {cc : ByteArray} {pc : Nat} (hexec : p.tables.exec = Jvm.exec) (hb : c.code = cc) (hl : l.stackTraces = false) {own cls text : String} {names : List String} {ik is ic mc ms sa : Nat} {A : Nat → Prop}
    (hown : s.vm.findClass own = some m.cls) (hcls : Bundle.fit cls = true) (hnames : ∀ n ∈ names, Bundle.fit n = true)
    (hk : (Cond.classLink own ik cls).before args s = true) (hini : (Cond.initialized cls).before args s = true) (hstr : vk_R own is text sa s) (hat : ∀ w ∈ vx_atS own ic cls names, w.before args s = true)
    (hgood : ∀ w ∈ Cond.classLink own ik cls :: Cond.initialized cls :: vx_atS own ic cls names, vx_ot w = true)
    (hU : vx_Zq Bundle.tN "UNASSIGNED_STACK" Bundle.steD A s s.heap) (hN : vx_Zq Bundle.tN "SUPPRESSED_SENTINEL" Bundle.listD A s s.heap) (hS : va_S A s.heap H locs) (hsize : ls.size = c.maxLocals)
    (d0 : decode cc pc = .ok (.new ik, 3)) (d3 : decode cc (pc + 3) = .ok (.dup, 1)) (d4 : decode cc (pc + 4) = .ok (.ldc_w is, 3)) (d7 : decode cc (pc + 7) = .ok (.invokespecial ic, 3)) (d10 : decode cc (pc + 10) = .ok (.athrow, 1))
    (hout : ∀ x ∈ c.exceptionTable.toList, covers x (pc + 10) = false)
    (hRframes : names.length + 3 < R.frames) (hRlocals : (rest.map fun v => v.category).sum + (13 * (names.length + 1) + 43) ≤ R.locals) (hRcells : cells + 1 ≤ R.cells) (hRslots : slots + 6 ≤ R.slots) (hlocks : meth.locks = false)
    (hx : ∀ t : State, s.vm.Alike t.vm → H.size ≤ t.heap.size → (∀ q : Nat, q < H.size → t.heap[q]? = H[q]?) → XC cls s t)
    (hf : ∀ z ∈ locs, free z.base) (hc : cells + 1 ≤ mc) (hs : slots + 6 ≤ ms) :
    W p l e R s m args below meth c H locs cells slots (vx_MQ below Qc XC args s mc ms free) (F0 m pc ls rest) := by
  intro T hT X
  have htr : e.platform.stackTraces = false := (show e.platform.stackTraces = l.stackTraces by rw [X.admits.platform]).trans hl
  have Y := vx_rebase X (R' := { frames := R.frames, locals := R.locals, cells := 1, slots := 6 }) (Nat.le_refl _) (Nat.le_refl _) hRcells hRslots
  obtain ⟨s', hA⟩ : ∃ z, z = (T.setVm s.vm).setFrames (.invoking m args :: below) := ⟨_, rfl⟩
  rw [← hA] at Y
  have hvm : s'.vm = s.vm := by rw [hA]; rfl
  have hhp : s'.heap = H := by rw [hA]; exact hT
  have hW0 : s.WarmedH s'.vm := by rw [hvm]; exact State.WarmedH.refl s
  have hat' : ∀ w ∈ vx_atS own ic cls names, w.before args s' = true := fun w hw => vx_ot_at hW0 hvm.symm (hgood w (List.mem_cons_of_mem _ (List.mem_cons_of_mem _ hw))) (hat w hw)
  have hk' : (Cond.classLink own ik cls).before args s' = true := vx_ot_at hW0 hvm.symm (hgood _ List.mem_cons_self) hk
  have hini' : (Cond.initialized cls).before args s' = true := vx_ot_at hW0 hvm.symm (hgood _ (List.mem_cons_of_mem _ List.mem_cons_self)) hini
  have hU' : vx_Zq Bundle.tN "UNASSIGNED_STACK" Bundle.steD A s' s'.heap := by rw [hhp]; exact vx_Zq.moved hW0.alike (hU.kept hS.2.1)
  have hN' : vx_Zq Bundle.tN "SUPPRESSED_SENTINEL" Bundle.listD A s' s'.heap := by rw [hhp]; exact vx_Zq.moved hW0.alike (hN.kept hS.2.1)
  have h : ∀ w ∈ Bundle.ownAtoms own ic cls names, w.before args s' = true := vx_own hat' (vx_isRefq hU'.1) (vx_isRefq hN'.1) hU'.2.word hN'.2.word
  have hown' : s'.vm.findClass own = some m.cls := by rw [hvm]; exact hown
  have hins : (Cond.instantiable cls 6).before args s' = true := h _ (by simp [Bundle.ownAtoms])
  obtain ⟨vm₁, cX, kX, hfX, hkX, -, -, X₁, st1⟩ := Y.newCold hexec (own := own) (C := cls) (index := ik) (n := 6) hown' hk' hins hini'
    (g := F0 m pc ls rest) rfl (by rw [hb]; exact d0) (Nat.le_refl _) (Nat.le_refl _)
  generalize hT1 : (T.setVm vm₁).pushCell { cls := cX, slots := kX.instanceTypes.map defaultValue, vm := .none } = T1 at X₁ st1
  have hcat : (Value.ref T.heap.size).category = 1 := rfl
  have hcellA : T1.heap[T.heap.size]? = some (freshCell cX kX) := by rw [← hT1]; exact State.heap_pushCell_size _ _
  have d3' : decode c.code (pc + 3) = .ok (.dup, 1) := by rw [hb]; exact d3
  have d4' : decode c.code (pc + 4) = .ok (.ldc_w is, 3) := by rw [hb]; exact d4
  have hstr' : vk_R own is text sa s' := vk_R.warm hW0 hstr
  obtain ⟨U, hsteps, hrun, hend, hW, hsame, ce, hce, hO⟩ := X₁.ctorThrowS hexec htr (own := own) (cls := cls) (names := names) (ic := ic) hown' hcls hnames h (fun x hx => nomatch hx) hfX hkX hcellA (by rw [hhp, hT]; exact Nat.le_refl _) (msg := .ref sa) rfl
    (g := { method := m, pc := pc + 7, locals := ls, stack := .ref sa :: .ref T.heap.size :: .ref T.heap.size :: rest, locked := none }) rfl hsize rfl rfl (rest := rest) rfl
    (by rw [hb]; exact d7) (by rw [hb]; exact d10) hout hRframes (by simp only [List.map_cons, List.sum_cons, hcat]; omega) hlocks
  obtain ⟨f1, f2⟩ := vx_frame hsame
  rw [hhp] at f1 f2
  have hWs : s.WarmedH U.vm := State.WarmedH.trans hW0 hW
  have hcl : s.vm.findClass cls = some ce.cls := by
    have h9 := hO.cls
    rw [hvm] at h9
    exact h9
  have hall : s.sameButNew ({ U with vm := s.vm } : State) locs mc ms := by
    subst hA
    obtain ⟨e1, e2⟩ := hsame
    rw [State.setFrames_setFrames] at e1
    have h2 : (T.setVm s.vm).sameButNew ({ U with vm := s.vm } : State) [] (0 + 1) (0 + 6) := ⟨e1, e2⟩
    have h3 := X.same.trans h2
    rw [List.append_nil] at h3
    exact h3.mono hc hs
  refine ⟨U, ?_, .threw T.heap.size, hrun, hend, Or.inr ⟨T.heap.size, rfl, cls, ce, locs, hx U hWs.alike f1 (fun q hq => f2 q hq (fun z hz => nomatch hz)), hce, hO.vm, hcl, hWs, hall, hf⟩⟩
  refine st1 _ ?_
  show Steps p.tables e below (T1.setTop { method := m, pc := pc + 3, locals := ls, stack := .ref T.heap.size :: rest, locked := none }) _
  jvm_step X₁.here [X₁.here.top, hexec, d3', Value.category]
  exact X₁.ldcStringW hexec (own := own) (text := text) (index := is) (a := sa) hown' hstr'.1 hstr'.2
    (g := { method := m, pc := pc + 4, locals := ls, stack := .ref T.heap.size :: .ref T.heap.size :: rest, locked := none }) rfl d4' _ hsteps
end Ends
section Bodies
variable {l : Launch}
theorem vx_ofW {y : MethodName} {ws ws' : List Cond} {rm : Room} {Pc : Array Value → State → Prop} {Qc : Array Value → State → Outcome → State → Prop} {XC : String → State → State → Prop} {mc ms : Nat} {free : Addr → Prop} {cc : ByteArray} {maxL : Nat} {ret : Option FieldType}
    (hy : plainName y.cls = true) (hw : ws = Cond.code y cc maxL ret :: ws')
    (body : ∀ p e s m args below meth c s₁, BodyLoose p l y (headSpec ws rm) cc maxL ret e s m args below meth c s₁ → c.maxLocals = maxL → (∀ x ∈ c.exceptionTable.toList, False) → Pc args s →
      W p l e (headSpec ws rm).room s m args below meth c s.heap [] 0 0 (vx_MQ below Qc XC args s mc ms free) (entryFrame m args maxL)) : vx_Met l y ws rm Pc Qc XC mc ms free := by
  refine MetFree.of_bodyS (code := cc) (maxLocals := maxL) (ret := ret) hy ?_ ?_
  · intro args s m h hn
    obtain ⟨meth, c, h1, h2, h3, h4, h5, h6, -, -⟩ := Cond.code_spec hn (atoms_spec (ws := ws) h _ (by rw [hw]; exact List.mem_cons_self))
    exact ⟨meth, c, h1, h2, h3, h4, h5, h6⟩
  · intro p e s m args below meth c s₁ B hml hP _
    have hh0 : s₁.heap = s.heap := by rw [B.state]; rfl
    have ht : ∀ x ∈ c.exceptionTable.toList, False := by
      obtain ⟨meth9, c9, h1, h2, -, -, -, -, h7, -⟩ := Cond.code_spec B.named (atoms_spec (ws := ws) B.pre _ (by rw [hw]; exact List.mem_cons_self))
      cases Option.some.inj (h1.symm.trans B.method)
      cases Option.some.inj (h2.symm.trans (Stand.of_body B).code)
      intro x hx
      rw [Array.isEmpty_iff.mp h7] at hx
      cases hx
    obtain ⟨t, a1, o, b1, b2, b3⟩ := body p e s m args below meth c s₁ B hml ht hP s₁ hh0 (Stand.of_body B)
    exact ⟨t, o, a1, b1, b2, b3⟩
/-- the table of a body with handlers -/
theorem vx_table {p : Program} {x y : MethodName} {S : Spec} {cc bytes : ByteArray} {maxL maxL' : Nat} {ret ret' : Option FieldType} {e : Env} {s s₁ : State} {m : MethodId} {args : Array Value} {below : List Frame} {meth : Method} {c : Code} {hh : List (Nat × Nat × Nat × Nat)}
    (B : BodyLoose p l y S cc maxL ret e s m args below meth c s₁) (h : (Cond.codeWith y bytes maxL' ret' hh).before args s = true) : c.exceptionTable.toList = tableOf hh := by
  obtain ⟨m9, meth9, c9, hn9, h1, h2, -, -, h6, -⟩ := Cond.codeWith_spec h
  cases Option.some.inj (hn9.symm.trans B.named)
  cases Option.some.inj (h1.symm.trans B.method)
  cases Option.some.inj (h2.symm.trans (Stand.of_body B).code)
  rw [← h6, table_eq]
end Bodies
end VXA
/-! ===== END ===== -/
/-! ===== BEGIN a static call of a method with an exception table ===== -/
section VXS
variable {p : Program} {l : Launch} {e : Env} {R : Room} {s : State} {m : MethodId} {args : Array Value} {below : List Frame} {meth : Method} {c : Code} {T : State} {H : Heap} {locs : List Loc} {cells slots : Nat}
abbrev vx_CSW (R : Room) (s : State) (args : Array Value) (own : String) (index : Nat) (y : MethodName) (bytes : ByteArray) (maxL : Nat) (ret : Option FieldType) (hh : List (Nat × Nat × Nat × Nat)) (ws : List Cond) (rm : Room) (mc ms n : Nat) : Prop :=
  (rm.cells = mc ∧ rm.slots = ms ∧ rm.frames + 1 ≤ R.frames ∧ 8 + (maxL + 11) + rm.locals ≤ R.locals ∧ (∀ w ∈ ws, ∀ (a' : Array Value) (U : State), s.WarmedH U.vm → w.before a' U = true) ∧ Cond.codeWith y bytes maxL ret hh ∈ ws) ∧
  (Cond.codeWith y bytes maxL ret hh).before args s = true ∧ (Cond.initialized y.cls).before args s = true ∧ (y.cls ≠ "java/lang/invoke/MethodHandle" ∧ y.cls ≠ "java/lang/invoke/VarHandle") ∧
  (∀ sig, parseMethodDescriptor y.desc = some sig → n = sig.parameters.length) ∧ (Cond.methodLink own index y).before args s = true ∧ (Cond.static y).before args s = true
theorem vx_cwSW {own : String} {index maxL mc ms : Nat} {y : MethodName} {bytes : ByteArray} {ret : Option FieldType} {hh : List (Nat × Nat × Nat × Nat)} {Ts ws ws' : List Cond} {rm : Room} (n : Nat) (ht : ∀ w ∈ Ts, w.before args s = true) (hT : GoodIn Ts (va_wsS own index y ws)) (hw : ws = Cond.codeWith y bytes maxL ret hh :: ws') (hrc : rm.cells = mc) (hrs : rm.slots = ms)
    (hd : y.cls ≠ "java/lang/invoke/MethodHandle" ∧ y.cls ≠ "java/lang/invoke/VarHandle" ∧ (parseMethodDescriptor y.desc).map (fun d => d.parameters.length) = some n) (hR : rm.frames + 1 ≤ R.frames ∧ 8 + (maxL + 11) + rm.locals ≤ R.locals) :
    vx_CSW R s args own index y bytes maxL ret hh ws rm mc ms n := by
  have ok : ∀ w ∈ va_wsS own index y ws, w.before args s = true := fun w h => ht w (hT w h).1
  have hG : GoodIn Ts ws := fun w h => hT w (by unfold va_wsS; exact List.mem_append_right _ h)
  have hc : Cond.codeWith y bytes maxL ret hh ∈ ws := by rw [hw]; exact List.mem_cons_self
  refine ⟨⟨hrc, hrs, hR.1, hR.2, pay_in ht hG, hc⟩, ht _ (hG _ hc).1, ok _ (by simp [va_wsS]), ⟨hd.1, hd.2.1⟩, fun sig h => ?_, ok _ (by simp [va_wsS]), ok _ (by simp [va_wsS])⟩
  have h2 := hd.2.2
  rw [h] at h2
  exact (Option.some.inj h2).symm
theorem vx_callSW (X : Stand p l e R s m args below meth c T locs cells slots) (hexec : p.tables.exec = Jvm.exec) {own : String} {index : Nat} {y : MethodName} {bytes : ByteArray} {maxL : Nat} {ret : Option FieldType} {hh : List (Nat × Nat × Nat × Nat)}
    (hown : s.vm.findClass own = some m.cls) (hlink : (Cond.methodLink own index y).before args s = true) (hstat : (Cond.static y).before args s = true) (hinit : (Cond.initialized y.cls).before args s = true)
    (hcode : (Cond.codeWith y bytes maxL ret hh).before args s = true) (hy : y.cls ≠ "java/lang/invoke/MethodHandle" ∧ y.cls ≠ "java/lang/invoke/VarHandle")
    {W9 : Nat} {Pre : Pt → Array Value → Prop} {Post : Pt → Array Value → Option Value → Pt → Prop} (hK : Back l R p e below s args y 3 W9 Pre Post)
    {g : JFrame} (hg : g.method = m) (hsize : g.locals.size = c.maxLocals) {argsL rest : List Value} (hlen : ∀ sig, parseMethodDescriptor y.desc = some sig → argsL.length = sig.parameters.length)
    (hstack : g.stack = argsL.reverse ++ rest) (hW : 2 * g.monitorRoom + (rest.map fun v => v.category).sum ≤ W9) (hdg : decode c.code g.pc = .ok (.invokestatic index, 3))
    (hpre : ∀ vm₁, s.WarmedH vm₁ → Pre ⟨T.setVm vm₁, locs, cells, slots⟩ argsL.toArray) :
    ∃ (v : Option Value) (vm₁ : Vm) (B : Pt), s.WarmedH vm₁ ∧ Stand p l e R s m args below meth c B.U B.locs B.cells B.slots ∧ Post ⟨T.setVm vm₁, locs, cells, slots⟩ argsL.toArray v B ∧
      ∀ target, Steps p.tables e below (B.U.setTop { g with pc := g.pc + 3, stack := v.toList ++ rest }) target → Steps p.tables e below (T.setTop g) target := by
  obtain ⟨mk, methM, cM, hnamed, hmethM, -, -, -, -, -, -, hsigM⟩ := Cond.codeWith_spec hcode
  have hstatic : methM.isStatic = true := Cond.static_spec hnamed hmethM hstat
  obtain ⟨kP, hkP, -⟩ := className_of_methodNamed hnamed
  have hinitP : kP.init = .initialized := Cond.initialized_spec (findClass_of_methodNamed hnamed) hkP hinit
  obtain ⟨vm₁, X₁, hstep₁⟩ := X.invokestatic hexec hown hlink hnamed hmethM hstatic hkP hinitP hy (g := g) hg (argsL := argsL) (rest := rest) (hlen _ hsigM) hstack hdg
  obtain ⟨v, B, X', hpost, hsteps⟩ := hK m meth c ⟨T.setVm vm₁, locs, cells, slots⟩ { g with stack := rest } (.invokestatic index) mk argsL.toArray X₁ hg hsize hdg hW (X₁.named hnamed) (hpre vm₁ X₁.warmed)
  exact ⟨v, vm₁, B, X₁.warmed, X', hpost, fun target h => hstep₁ _ fun acts => by rw [doInvoke_state]; exact hsteps.trans h⟩
theorem vx_runSW {y : MethodName} {bytes cc : ByteArray} {maxL nL mc ms n index : Nat} {ret : Option FieldType} {hh : List (Nat × Nat × Nat × Nat)} {ws : List Cond} {rm : Room} {Pc : Array Value → State → Prop} {Qc : Array Value → State → Outcome → State → Prop} {free : Addr → Prop} {Ts : List Cond} {own : String} {As rest : List Value} {g : JFrame}
    (S : CallFix p m c cc nL s args Ts own) (hM : Met l y ws rm Pc Qc mc ms free) (cw : vx_CSW R s args own index y bytes maxL ret hh ws rm mc ms n) (hp : PreS s H Pc As)
    (hg : g.method = m) (hn : As.length = n) (hsize : g.locals.size = nL) (hstack : g.stack = As.reverse ++ rest) (hW : 2 * g.monitorRoom + (rest.map fun v => v.category).sum ≤ 8) (hdg : decode cc g.pc = .ok (.invokestatic index, 3)) (hf : cells + mc ≤ R.cells ∧ slots + ms ≤ R.slots) :
    va_Run p l e R s m args below meth c H locs cells slots mc ms g rest (Qc As.toArray) (free) := by
  obtain ⟨⟨hrc, hrs, hfr, hlo, hws, hcw⟩, hcode, hini, hy, hlen, hl, hstt⟩ := cw
  have hK : Back l R p e below s args y 3 8 (PreOf R mc ms Pc) (PostOf Qc mc ms free) := va_backW (hh := hh) (bytes := bytes) (maxL := maxL) (ret := ret) hM hp.1 hrc hrs hfr hlo hws hcw (fun a' U hW => word_at hW (Or.inl (by first | rfl | simp [Cond.onTables, Cond.keeps, Cond.steady])) hini)
  obtain ⟨hx, hb, hml, ho, -⟩ := S
  intro T hT X
  obtain ⟨v, vm₁, ⟨U', l2, c2, s2⟩, hW₁, X', ⟨g', mk, t, L, e1, e2, hq, h1, hL, h2, h3⟩, st⟩ := vx_callSW X hx (hh := hh) (bytes := bytes) (maxL := maxL) (ret := ret) ho hl hstt hini hcode hy hK hg (hsize.trans hml.symm) (argsL := As) (rest := rest) (fun sig h => hn.trans (hlen sig h)) hstack hW (by rw [hb]; exact hdg)
    (fun vm₁ hW₁ => ⟨hf.1, hf.2, hp.2 (T.setVm vm₁) hT hW₁⟩)
  dsimp only [Pt.U, Pt.locs, Pt.cells, Pt.slots] at X' e1 e2 h1 h2 h3 st
  subst h1; subst h2; subst h3
  exact ⟨v, (T.setVm vm₁).calling g' mk As.toArray, t, U', L, hT, X', hL, e1, e2, hq, st⟩
/-- not caught here, past rows that name other classes: it goes on to the caller -/
theorem vx_outP {p : Program} {l : Launch} {e : Env} {R : Room} {s : State} {m : MethodId} {args : Array Value} {below : List Frame} {meth : Method} {c : Code} {H : Heap} {locs : List Loc} {cells slots : Nat} {free : Addr → Prop} {ls : Array Slot} {rest : List Value} {Qc : Array Value → State → Outcome → State → Prop} {XC : String → State → State → Prop}
    {pc : Nat} {own E : String} {ce : Cell} {q : Addr} {mc ms : Nat} (hown : s.vm.findClass own = some m.cls) (hlocks : meth.locks = false)
    (hpass : ∀ z ∈ c.exceptionTable.toList, covers z pc = false ∨ (z.catchType ≠ 0 ∧ ∃ nm : String, (Cond.classLink own z.catchType nm).before args s = true ∧ va_Nc E nm s)) (hcell : H[q]? = some ce) (hv : ce.vm = .none) (hcl : s.vm.findClass E = some ce.cls)
    (hx : ∀ t : State, t.heap = H → s.vm.Alike t.vm → XC E s t) (hf : ∀ z ∈ locs, free z.base) (hc : cells ≤ mc) (hs : slots ≤ ms) :
    vx_W p l e R s m args below meth c H locs cells slots (vx_MQ below Qc XC args s mc ms free) (F0 m pc ls rest) q := by
  intro T hT X
  have hpl : e.platform.magicAccessors = ({} : Platform).magicAccessors := by rw [X.admits.platform]
  obtain ⟨vm', hW', X', st⟩ := X.outThrough hlocks q (g := F0 m pc ls rest) rfl rfl rfl (cell := ce) (by rw [hT]; exact hcell) (by rw [hv]; rfl)
    (by obtain ⟨k9, h9, -⟩ := Vm.findClass_spec hcl; exact ⟨k9, h9⟩) (fun z hz => by
      rcases hpass z hz with h | ⟨hz0, nm, hl1, hn1⟩
      · exact Or.inl h
      · obtain ⟨c6, hc6, hcl6⟩ := Cond.classLink_spec hown hl1 e.platform hpl
        obtain ⟨a8, b8, h1, h2, h3⟩ := hn1
        cases Option.some.inj (h1.symm.trans hcl)
        cases Option.some.inj (h2.symm.trans hc6)
        exact Or.inr ⟨hz0, _, hcl6, h3⟩)
  obtain ⟨g₀, hfr⟩ := X'.frames_eq
  have hcell9 : ((T.setVm vm').setFrames (.throwing q :: below)).heap[q]? = some ce := by
    show T.heap[q]? = some ce
    rw [hT]; exact hcell
  have hend : Ended ((T.setVm vm').setFrames (.throwing q :: below)) below (.threw q) := State.frames_setFrames _ (State.cur_lt_of_frames hfr)
  refine ⟨(T.setVm vm').setFrames (.throwing q :: below), ?_, .threw q, X'.here.running, hend, Or.inr ⟨q, rfl, E, ce, locs, hx _ hT (X'.ends _).1.alike, hcell9, hv, hcl, (X'.ends _).1, (X'.ends _).2.mono hc hs, hf⟩⟩
  rw [X.pushThrowing_eq]
  exact st
/-- a thing of a world lies in the heap -/
theorem vx_lt {D : va_G} {cl : List vw_C} {ws : va_W} {H1 : Heap} (h : va_P D cl ws H1) {k : Nat} {q : Nat × va_E} (hk : ws[k]? = some q) : q.1 < H1.size := (h k q hk).lt
end VXS
/-! ===== END ===== -/
/-! ===== BEGIN methods with a table of their own: called by a name, returning or throwing ===== -/
section VXH
/-! vx_backW, vx_callVX, vx_callSX, vx_callVW, vx_runVW, vx_runVX, vx_runSX, vx_ofWH follow the same proofs as their sisters above (Free/Laws.lean, Shelf42/LK1.lean); vx_outP calls Shelf42/NT130.lean (outThrough). -/
section
variable {l : Launch} {R : Room} {p : Program} {e : Env} {below : List Frame} {s : State} {sargs : Array Value} {y : MethodName} {len W9 : Nat}
theorem vx_backW {ws : List Cond} {rm : Room} {Pc : Array Value → State → Prop} {Qc : Array Value → State → Outcome → State → Prop} {XC : String → State → State → Prop} {mc ms : Nat} {free : Addr → Prop} {bytes : ByteArray} {maxL : Nat} {ret : Option FieldType} {hh : List (Nat × Nat × Nat × Nat)}
    (hM : vx_Met l y ws rm Pc Qc XC mc ms free) (hblind : FrameBlind Pc) (hrc : rm.cells = mc) (hrs : rm.slots = ms)
    (hframes : rm.frames + 1 ≤ R.frames) (hlocals : W9 + (maxL + 11) + rm.locals ≤ R.locals)
    (hws : ∀ w ∈ ws, ∀ a' U, s.WarmedH U.vm → w.before a' U = true) (hcode : Cond.codeWith y bytes maxL ret hh ∈ ws) (hinit : ∀ a' U, s.WarmedH U.vm → (Cond.initialized y.cls).before a' U = true) :
    vx_Back l R p e below s sargs y len W9 (PreOf R mc ms Pc) (PostOf Qc mc ms free) (vx_Post XC mc ms free) := by
  intro m meth c A g ig mk a X hg hsize hdg hW hn hp
  have h1 : (headSpec ws rm).pre.before a A.U = true := atoms_intro fun w hw => hws w hw _ _ X.warmed
  have h2 : (Cond.codeWith y bytes maxL ret hh).before a A.U = true := hws _ hcode _ _ X.warmed
  have h3 : (Cond.initialized y.cls).before a A.U = true := hinit _ _ X.warmed
  have h4 : A.cells + (headSpec ws rm).room.cells ≤ R.cells := by rw [show (headSpec ws rm).room.cells = mc from hrc]; exact hp.1
  have h5 : A.slots + (headSpec ws rm).room.slots ≤ R.slots := by rw [show (headSpec ws rm).room.slots = ms from hrs]; exact hp.2.1
  have hPc : Pc a (A.U.calling g mk a) := hblind _ _ _ _ hp.2.2
  obtain ⟨U, Ls, c0, s0⟩ := A
  dsimp only [Pt.U, Pt.locs, Pt.cells, Pt.slots] at h1 h2 h3 h4 h5 X hn hPc ⊢
  obtain ⟨m9, methY, cY, hn9, hmY, hcY, -, hlY, -⟩ := Cond.codeWith_spec h2
  cases Option.some.inj (hn9.symm.trans hn)
  obtain ⟨kY, hkY, -⟩ := className_of_methodNamed hn
  have hinitY : kY.init = .initialized := Cond.initialized_spec (findClass_of_methodNamed hn) hkY h3
  have h : At U g.method c below := by rw [hg]; exact X.here
  have hlocals9 : W9 + (maxL + 11) + (headSpec ws rm).room.locals ≤ R.locals := hlocals
  have happ : (headSpec ws rm).appliesLoose y e.platform (U.calling g mk a) = true :=
    Spec.appliesLoose_calling (g := g) h hdg hn hkY hinitY
      (X.room_calling (g := g) (R' := (headSpec ws rm).room) hsize hmY hcY hframes (by rw [hlY]; omega) h4 h5) h1
  obtain ⟨mid, hmid⟩ := h.above
  have hfr : (U.setTop g).frames = (.java g :: mid) ++ below := by rw [State.frames_setTop' g h.top, hmid]; rfl
  obtain ⟨o, s₂, hsteps, -, hend, hq⟩ := Steps.callFree hM p X.admits X.cas X.clock (acts := []) hfr happ hPc trivial
  have hq' : vx_Q Qc XC mc ms free a (U.calling g mk a) o s₂ := hq
  rw [State.frames_setTop' g h.top] at hend
  obtain ⟨g₀, hg0⟩ := Option.isSome_iff_exists.mp h.top
  obtain ⟨r, hr⟩ := State.topJava?_eq_some.mp hg0
  have hr' : (({ U with heap := s₂.heap, slotsUsed := s₂.slotsUsed } : State).setVm s₂.vm).frames = .java g₀ :: r := hr
  rcases hq' with ⟨hqc, L, hfe, hL⟩ | ⟨q, rfl, E, ce, L, hx, hce, hcv, hcl, hW₂, hsm, hL⟩
  · obtain ⟨⟨v, rfl⟩, hW₂, e2, q2, q3, q4, q5, q6⟩ := id hfe
    have e3 : s₂ = ({ (U.calling g mk a).setFrames s₂.frames with heap := s₂.heap, slotsUsed := s₂.slotsUsed } : State).setVm s₂.vm := by
      have : s₂ = ({ s₂ with vm := (U.calling g mk a).vm } : State).setVm s₂.vm := rfl
      rw [e2] at this
      exact this
    obtain ⟨c₂, i₂, len₂, hc₂, hd₂, hf₂⟩ := hend
    have hW' : U.WarmedH s₂.vm := hW₂
    have hcc : c₂ = c := by
      have h1 : s₂.code? g.method = U.code? g.method := by
        rw [State.code?_eq, State.code?_eq, hW'.alike.method?]
      exact Option.some.inj (hc₂.symm.trans (h1.trans h.code))
    subst hcc
    have hlen : len₂ = len := by rw [hdg] at hd₂; cases hd₂; rfl
    subst hlen
    have hs₂ : s₂ = (({ U with heap := s₂.heap, slotsUsed := s₂.slotsUsed } : State).setVm s₂.vm).setTop { g with pc := g.pc + len₂, stack := v.toList ++ g.stack } := by
      refine e3.trans ?_
      rw [hf₂, State.calling_eq h.top, State.setFrames_setFrames, State.setTop_of_frames _ hr', hr]
      rfl
    have hsame : U.sameButNew ({ U with heap := s₂.heap, slotsUsed := s₂.slotsUsed } : State) L mc ms := by
      refine ⟨?_, q2, q3, q4, q5, q6⟩
      obtain ⟨t, ht, -⟩ := State.frames_cons hr
      show ({ U with heap := s₂.heap, slotsUsed := s₂.slotsUsed } : State) = { U.setFrames U.frames with heap := s₂.heap, slotsUsed := s₂.slotsUsed }
      rw [State.setFrames_self ht]
    subst hg
    refine Or.inl ⟨v, ⟨(({ U with heap := s₂.heap, slotsUsed := s₂.slotsUsed } : State).setVm s₂.vm), Ls ++ L, c0 + mc, s0 + ms⟩,
      ⟨X.admits, X.cas, X.clock, X.frames, X.room, X.hears, X.method, X.code, (X.here.setHeapUsed s₂.heap s₂.slotsUsed).setVm hW'.alike, X.tail, State.WarmedH.trans X.warmed hW', X.limits, X.bytes, X.same.trans (hsame.setVm s.vm)⟩,
      ⟨g, mk, s₂, L, rfl, rfl, hqc, rfl, hL, rfl, rfl⟩, ?_⟩
    show Steps p.tables e below _ ((({ U with heap := s₂.heap, slotsUsed := s₂.slotsUsed } : State).setVm s₂.vm).setTop { g with pc := g.pc + len₂, stack := v.toList ++ g.stack })
    rw [← hs₂]
    exact hsteps
  · obtain ⟨e2, q2, q3, q4, q5, q6⟩ := id hsm
    have e3 : s₂ = ({ (U.calling g mk a).setFrames s₂.frames with heap := s₂.heap, slotsUsed := s₂.slotsUsed } : State).setVm s₂.vm := by
      have : s₂ = ({ s₂ with vm := (U.calling g mk a).vm } : State).setVm s₂.vm := rfl
      rw [e2] at this
      exact this
    have hf₂ : s₂.frames = .throwing q :: .java g :: U.frames.tail := hend
    have hW' : U.WarmedH s₂.vm := hW₂
    have hs₂ : s₂ = ((({ U with heap := s₂.heap, slotsUsed := s₂.slotsUsed } : State).setVm s₂.vm).setTop g).pushFrame (.throwing q) := by
      refine e3.trans ?_
      rw [hf₂, State.calling_eq h.top, State.setFrames_setFrames, State.pushFrame, State.frames_setTop _ hr', State.setTop_of_frames _ hr', State.setFrames_setFrames, hr]
      rfl
    have hsame : U.sameButNew ({ U with heap := s₂.heap, slotsUsed := s₂.slotsUsed } : State) L mc ms := by
      refine ⟨?_, q2, q3, q4, q5, q6⟩
      obtain ⟨t, ht, -⟩ := State.frames_cons hr
      show ({ U with heap := s₂.heap, slotsUsed := s₂.slotsUsed } : State) = { U.setFrames U.frames with heap := s₂.heap, slotsUsed := s₂.slotsUsed }
      rw [State.setFrames_self ht]
    subst hg
    refine Or.inr ⟨q, ⟨(({ U with heap := s₂.heap, slotsUsed := s₂.slotsUsed } : State).setVm s₂.vm), Ls ++ L, c0 + mc, s0 + ms⟩,
      ⟨X.admits, X.cas, X.clock, X.frames, X.room, X.hears, X.method, X.code, (X.here.setHeapUsed s₂.heap s₂.slotsUsed).setVm hW'.alike, X.tail, State.WarmedH.trans X.warmed hW', X.limits, X.bytes, X.same.trans (hsame.setVm s.vm)⟩,
      ⟨g, mk, s₂, L, E, ce, rfl, rfl, hx, hce, hcv, hcl, rfl, hL, rfl, rfl⟩, ?_⟩
    show Steps p.tables e below _ (((({ U with heap := s₂.heap, slotsUsed := s₂.slotsUsed } : State).setVm s₂.vm).setTop g).pushFrame (.throwing q))
    rw [← hs₂]
    exact hsteps
end
variable {p : Program} {l : Launch} {e : Env} {R : Room} {s : State} {m : MethodId} {args : Array Value} {below : List Frame} {meth : Method} {c : Code} {T : State} {H : Heap} {locs : List Loc} {cells slots : Nat}
theorem vx_callVX (X : Stand p l e R s m args below meth c T locs cells slots) (hexec : p.tables.exec = Jvm.exec) {own C : String} {index : Nat} {y : MethodName} {bytes : ByteArray} {maxL : Nat} {ret : Option FieldType} {hh : List (Nat × Nat × Nat × Nat)}
    (hown : s.vm.findClass own = some m.cls) (hlink : (Cond.methodLink own index y).before args s = true) (hinst : (Cond.instanceMethod y).before args s = true) (hsel : (Cond.selects C y y).before args s = true)
    (hcode : (Cond.codeWith y bytes maxL ret hh).before args s = true) (hy : y.cls ≠ "java/lang/invoke/MethodHandle" ∧ y.cls ≠ "java/lang/invoke/VarHandle")
    {W9 : Nat} {Pre : Pt → Array Value → Prop} {Post : Pt → Array Value → Option Value → Pt → Prop} {PostX : Pt → Array Value → Addr → Pt → Prop} (hK : vx_Back l R p e below s args y 3 W9 Pre Post PostX)
    {b : Addr} {cellB : Cell} (hcell : T.heap[b]? = some cellB) (hobj : cellB.vm.isStatics = false) (hcls : s.vm.findClass C = some cellB.cls)
    {g : JFrame} (hg : g.method = m) (hsize : g.locals.size = c.maxLocals) {argsL rest : List Value} (hlen : ∀ sig, parseMethodDescriptor y.desc = some sig → argsL.length = sig.parameters.length)
    (hstack : g.stack = argsL.reverse ++ .ref b :: rest) (hW : 2 * g.monitorRoom + (rest.map fun v => v.category).sum ≤ W9) (hdg : decode c.code g.pc = .ok (.invokevirtual index, 3))
    (hpre : ∀ vm₁, s.WarmedH vm₁ → Pre ⟨T.setVm vm₁, locs, cells, slots⟩ (Value.ref b :: argsL).toArray) :
    (∃ (v : Option Value) (vm₁ : Vm) (B : Pt), s.WarmedH vm₁ ∧ Stand p l e R s m args below meth c B.U B.locs B.cells B.slots ∧ Post ⟨T.setVm vm₁, locs, cells, slots⟩ (Value.ref b :: argsL).toArray v B ∧
      ∀ target, Steps p.tables e below (B.U.setTop { g with pc := g.pc + 3, stack := v.toList ++ rest }) target → Steps p.tables e below (T.setTop g) target) ∨
    (∃ (q : Addr) (vm₁ : Vm) (B : Pt), s.WarmedH vm₁ ∧ Stand p l e R s m args below meth c B.U B.locs B.cells B.slots ∧ PostX ⟨T.setVm vm₁, locs, cells, slots⟩ (Value.ref b :: argsL).toArray q B ∧
      Steps p.tables e below (T.setTop g) ((B.U.setTop { g with stack := rest }).pushFrame (.throwing q))) := by
  obtain ⟨mk, methM, hnamed, hmethM, hstM, habM⟩ := Cond.instanceMethod_spec hinst
  obtain ⟨m8, methM', cM, hn8, hmethM', -, -, -, -, -, -, hsigM⟩ := Cond.codeWith_spec hcode
  cases Option.some.inj (hn8.symm.trans hnamed)
  cases hmethM.symm.trans hmethM'
  obtain ⟨c2, r2, m2, q1, q2, q3, q4, kP, hkP, hkPi⟩ := Cond.selects_spec hsel
  cases hcls.symm.trans q1
  cases (State.methodFound?_of_named hnamed hy).symm.trans q2
  cases hnamed.symm.trans q3
  have hselP : selectMethod e.platform s.vm cellB.cls mk = .method mk := by rw [Launch.admits_selectMethod X.admits]; exact q4
  obtain ⟨vm₁, X₁, hstep₁⟩ := X.invokevirtual hexec hown hlink hnamed hmethM hstM hkP hkPi hy (a := b) (cell := cellB) hcell
    (fun z h => by rw [h] at hobj; cases hobj) hselP hmethM habM hkP hkPi (g := g) hg (argsL := argsL) (rest := rest) (hlen _ hsigM) hstack hdg
  rcases hK m meth c ⟨T.setVm vm₁, locs, cells, slots⟩ { g with stack := rest } (.invokevirtual index) mk (Value.ref b :: argsL).toArray X₁ hg hsize hdg hW (X₁.named hnamed) (hpre vm₁ X₁.warmed) with ⟨v, B, X', hpost, hsteps⟩ | ⟨q, B, X', hpost, hsteps⟩
  · exact Or.inl ⟨v, vm₁, B, X₁.warmed, X', hpost, fun target h => hstep₁ _ fun acts => by rw [doInvoke_state]; exact hsteps.trans h⟩
  · exact Or.inr ⟨q, vm₁, B, X₁.warmed, X', hpost, hstep₁ _ fun acts => by rw [doInvoke_state]; exact hsteps⟩
theorem vx_callSX (X : Stand p l e R s m args below meth c T locs cells slots) (hexec : p.tables.exec = Jvm.exec) {own : String} {index : Nat} {y : MethodName} {bytes : ByteArray} {maxL : Nat} {ret : Option FieldType} {hh : List (Nat × Nat × Nat × Nat)}
    (hown : s.vm.findClass own = some m.cls) (hlink : (Cond.methodLink own index y).before args s = true) (hstat : (Cond.static y).before args s = true) (hinit : (Cond.initialized y.cls).before args s = true)
    (hcode : (Cond.codeWith y bytes maxL ret hh).before args s = true) (hy : y.cls ≠ "java/lang/invoke/MethodHandle" ∧ y.cls ≠ "java/lang/invoke/VarHandle")
    {W9 : Nat} {Pre : Pt → Array Value → Prop} {Post : Pt → Array Value → Option Value → Pt → Prop} {PostX : Pt → Array Value → Addr → Pt → Prop} (hK : vx_Back l R p e below s args y 3 W9 Pre Post PostX)
    {g : JFrame} (hg : g.method = m) (hsize : g.locals.size = c.maxLocals) {argsL rest : List Value} (hlen : ∀ sig, parseMethodDescriptor y.desc = some sig → argsL.length = sig.parameters.length)
    (hstack : g.stack = argsL.reverse ++ rest) (hW : 2 * g.monitorRoom + (rest.map fun v => v.category).sum ≤ W9) (hdg : decode c.code g.pc = .ok (.invokestatic index, 3))
    (hpre : ∀ vm₁, s.WarmedH vm₁ → Pre ⟨T.setVm vm₁, locs, cells, slots⟩ argsL.toArray) :
    (∃ (v : Option Value) (vm₁ : Vm) (B : Pt), s.WarmedH vm₁ ∧ Stand p l e R s m args below meth c B.U B.locs B.cells B.slots ∧ Post ⟨T.setVm vm₁, locs, cells, slots⟩ argsL.toArray v B ∧
      ∀ target, Steps p.tables e below (B.U.setTop { g with pc := g.pc + 3, stack := v.toList ++ rest }) target → Steps p.tables e below (T.setTop g) target) ∨
    (∃ (q : Addr) (vm₁ : Vm) (B : Pt), s.WarmedH vm₁ ∧ Stand p l e R s m args below meth c B.U B.locs B.cells B.slots ∧ PostX ⟨T.setVm vm₁, locs, cells, slots⟩ argsL.toArray q B ∧
      Steps p.tables e below (T.setTop g) ((B.U.setTop { g with stack := rest }).pushFrame (.throwing q))) := by
  obtain ⟨mk, methM, cM, hnamed, hmethM, -, -, -, -, -, -, hsigM⟩ := Cond.codeWith_spec hcode
  have hstatic : methM.isStatic = true := Cond.static_spec hnamed hmethM hstat
  obtain ⟨kP, hkP, -⟩ := className_of_methodNamed hnamed
  have hinitP : kP.init = .initialized := Cond.initialized_spec (findClass_of_methodNamed hnamed) hkP hinit
  obtain ⟨vm₁, X₁, hstep₁⟩ := X.invokestatic hexec hown hlink hnamed hmethM hstatic hkP hinitP hy (g := g) hg (argsL := argsL) (rest := rest) (hlen _ hsigM) hstack hdg
  rcases hK m meth c ⟨T.setVm vm₁, locs, cells, slots⟩ { g with stack := rest } (.invokestatic index) mk argsL.toArray X₁ hg hsize hdg hW (X₁.named hnamed) (hpre vm₁ X₁.warmed) with ⟨v, B, X', hpost, hsteps⟩ | ⟨q, B, X', hpost, hsteps⟩
  · exact Or.inl ⟨v, vm₁, B, X₁.warmed, X', hpost, fun target h => hstep₁ _ fun acts => by rw [doInvoke_state]; exact hsteps.trans h⟩
  · exact Or.inr ⟨q, vm₁, B, X₁.warmed, X', hpost, hstep₁ _ fun acts => by rw [doInvoke_state]; exact hsteps⟩
theorem vx_callVW (X : Stand p l e R s m args below meth c T locs cells slots) (hexec : p.tables.exec = Jvm.exec) {own C : String} {index : Nat} {y : MethodName} {bytes : ByteArray} {maxL : Nat} {ret : Option FieldType} {hh : List (Nat × Nat × Nat × Nat)}
    (hown : s.vm.findClass own = some m.cls) (hlink : (Cond.methodLink own index y).before args s = true) (hinst : (Cond.instanceMethod y).before args s = true) (hsel : (Cond.selects C y y).before args s = true)
    (hcode : (Cond.codeWith y bytes maxL ret hh).before args s = true) (hy : y.cls ≠ "java/lang/invoke/MethodHandle" ∧ y.cls ≠ "java/lang/invoke/VarHandle")
    {W9 : Nat} {Pre : Pt → Array Value → Prop} {Post : Pt → Array Value → Option Value → Pt → Prop} (hK : Back l R p e below s args y 3 W9 Pre Post)
    {b : Addr} {cellB : Cell} (hcell : T.heap[b]? = some cellB) (hobj : cellB.vm.isStatics = false) (hcls : s.vm.findClass C = some cellB.cls)
    {g : JFrame} (hg : g.method = m) (hsize : g.locals.size = c.maxLocals) {argsL rest : List Value} (hlen : ∀ sig, parseMethodDescriptor y.desc = some sig → argsL.length = sig.parameters.length)
    (hstack : g.stack = argsL.reverse ++ .ref b :: rest) (hW : 2 * g.monitorRoom + (rest.map fun v => v.category).sum ≤ W9) (hdg : decode c.code g.pc = .ok (.invokevirtual index, 3))
    (hpre : ∀ vm₁, s.WarmedH vm₁ → Pre ⟨T.setVm vm₁, locs, cells, slots⟩ (Value.ref b :: argsL).toArray) :
    ∃ (v : Option Value) (vm₁ : Vm) (B : Pt), s.WarmedH vm₁ ∧ Stand p l e R s m args below meth c B.U B.locs B.cells B.slots ∧ Post ⟨T.setVm vm₁, locs, cells, slots⟩ (Value.ref b :: argsL).toArray v B ∧
      ∀ target, Steps p.tables e below (B.U.setTop { g with pc := g.pc + 3, stack := v.toList ++ rest }) target → Steps p.tables e below (T.setTop g) target := by
  obtain ⟨mk, methM, hnamed, hmethM, hstM, habM⟩ := Cond.instanceMethod_spec hinst
  obtain ⟨m8, methM', cM, hn8, hmethM', -, -, -, -, -, -, hsigM⟩ := Cond.codeWith_spec hcode
  cases Option.some.inj (hn8.symm.trans hnamed)
  cases hmethM.symm.trans hmethM'
  obtain ⟨c2, r2, m2, q1, q2, q3, q4, kP, hkP, hkPi⟩ := Cond.selects_spec hsel
  cases hcls.symm.trans q1
  cases (State.methodFound?_of_named hnamed hy).symm.trans q2
  cases hnamed.symm.trans q3
  have hselP : selectMethod e.platform s.vm cellB.cls mk = .method mk := by rw [Launch.admits_selectMethod X.admits]; exact q4
  obtain ⟨vm₁, X₁, hstep₁⟩ := X.invokevirtual hexec hown hlink hnamed hmethM hstM hkP hkPi hy (a := b) (cell := cellB) hcell
    (fun z h => by rw [h] at hobj; cases hobj) hselP hmethM habM hkP hkPi (g := g) hg (argsL := argsL) (rest := rest) (hlen _ hsigM) hstack hdg
  obtain ⟨v, B, X', hpost, hsteps⟩ := hK m meth c ⟨T.setVm vm₁, locs, cells, slots⟩ { g with stack := rest } (.invokevirtual index) mk (Value.ref b :: argsL).toArray X₁ hg hsize hdg hW (X₁.named hnamed) (hpre vm₁ X₁.warmed)
  exact ⟨v, vm₁, B, X₁.warmed, X', hpost, fun target h => hstep₁ _ fun acts => by rw [doInvoke_state]; exact hsteps.trans h⟩
abbrev vx_CVW (R : Room) (s : State) (args : Array Value) (own C : String) (index : Nat) (y : MethodName) (bytes : ByteArray) (maxL : Nat) (ret : Option FieldType) (hh : List (Nat × Nat × Nat × Nat)) (ws : List Cond) (rm : Room) (mc ms n : Nat) : Prop :=
  (rm.cells = mc ∧ rm.slots = ms ∧ rm.frames + 1 ≤ R.frames ∧ 8 + (maxL + 11) + rm.locals ≤ R.locals ∧ (∀ w ∈ ws, ∀ (a' : Array Value) (U : State), s.WarmedH U.vm → w.before a' U = true) ∧ Cond.codeWith y bytes maxL ret hh ∈ ws) ∧
  (Cond.codeWith y bytes maxL ret hh).before args s = true ∧ (Cond.initialized y.cls).before args s = true ∧ (y.cls ≠ "java/lang/invoke/MethodHandle" ∧ y.cls ≠ "java/lang/invoke/VarHandle") ∧
  (∀ sig, parseMethodDescriptor y.desc = some sig → n = sig.parameters.length) ∧ (Cond.methodLink own index y).before args s = true ∧ (Cond.instanceMethod y).before args s = true ∧ (Cond.selects C y y).before args s = true
theorem vx_cwVW {own C : String} {index maxL mc ms : Nat} {y : MethodName} {bytes : ByteArray} {ret : Option FieldType} {hh : List (Nat × Nat × Nat × Nat)} {Ts ws ws' : List Cond} {rm : Room} (n : Nat) (ht : ∀ w ∈ Ts, w.before args s = true) (hT : GoodIn Ts (wsV own index C y ws)) (hw : ws = Cond.codeWith y bytes maxL ret hh :: ws') (hrc : rm.cells = mc) (hrs : rm.slots = ms)
    (hd : y.cls = C ∧ y.cls ≠ "java/lang/invoke/MethodHandle" ∧ y.cls ≠ "java/lang/invoke/VarHandle" ∧ (parseMethodDescriptor y.desc).map (fun d => d.parameters.length) = some n) (hR : rm.frames + 1 ≤ R.frames ∧ 8 + (maxL + 11) + rm.locals ≤ R.locals) :
    vx_CVW R s args own C index y bytes maxL ret hh ws rm mc ms n := by
  obtain ⟨hC, hd⟩ := hd
  subst hC
  have ok : ∀ w ∈ wsV own index y.cls y ws, w.before args s = true := fun w h => ht w (hT w h).1
  have hG : GoodIn Ts ws := fun w h => hT w (by unfold wsV; exact List.mem_append_right _ h)
  have hc : Cond.codeWith y bytes maxL ret hh ∈ ws := by rw [hw]; exact List.mem_cons_self
  refine ⟨⟨hrc, hrs, hR.1, hR.2, pay_in ht hG, hc⟩, ht _ (hG _ hc).1, ok _ (by simp [wsV]), ⟨hd.1, hd.2.1⟩, fun sig h => ?_, ok _ (by simp [wsV]), ok _ (by simp [wsV]), ok _ (by simp [wsV])⟩
  have h2 := hd.2.2
  rw [h] at h2
  exact (Option.some.inj h2).symm
theorem vx_runVW {y : MethodName} {bytes cc : ByteArray} {maxL nL mc ms n index : Nat} {ret : Option FieldType} {hh : List (Nat × Nat × Nat × Nat)} {ws : List Cond} {rm : Room} {Pc : Array Value → State → Prop} {Qc : Array Value → State → Outcome → State → Prop} {free : Addr → Prop} {Ts : List Cond} {own C : String} {b : Addr} {As rest : List Value} {g : JFrame}
    (S : CallFix p m c cc nL s args Ts own) (hM : Met l y ws rm Pc Qc mc ms free) (cw : vx_CVW R s args own C index y bytes maxL ret hh ws rm mc ms n) (hp : PreV s H C b Pc As)
    (hg : g.method = m) (hn : As.length = n) (hsize : g.locals.size = nL) (hstack : g.stack = As.reverse ++ .ref b :: rest) (hW : 2 * g.monitorRoom + (rest.map fun v => v.category).sum ≤ 8) (hdg : decode cc g.pc = .ok (.invokevirtual index, 3)) (hf : cells + mc ≤ R.cells ∧ slots + ms ≤ R.slots) :
    va_Run p l e R s m args below meth c H locs cells slots mc ms g rest (Qc (Value.ref b :: As).toArray) free := by
  obtain ⟨⟨hrc, hrs, hfr, hlo, hws, hcw⟩, hcode, hini, hy, hlen, hl, hin, hse⟩ := cw
  have hK : Back l R p e below s args y 3 8 (PreOf R mc ms Pc) (PostOf Qc mc ms free) := va_backW (hh := hh) (bytes := bytes) (maxL := maxL) (ret := ret) hM hp.1 hrc hrs hfr hlo hws hcw (fun a' U hW => word_at hW (Or.inl (by first | rfl | simp [Cond.onTables, Cond.keeps, Cond.steady])) hini)
  obtain ⟨hx, hb, hml, ho, -⟩ := S
  obtain ⟨-, ⟨cellB, hcB, hoB, hclB⟩, hPc⟩ := hp
  intro T hT X
  obtain ⟨v, vm₁, ⟨U', l2, c2, s2⟩, hW₁, X', ⟨g', mk, t, L, e1, e2, hq, h1, hL, h2, h3⟩, st⟩ := vx_callVW X hx (C := C) (hh := hh) (bytes := bytes) (maxL := maxL) (ret := ret) ho hl hin hse hcode hy hK (by rw [hT]; exact hcB) hoB hclB hg (hsize.trans hml.symm) (argsL := As) (rest := rest) (fun sig h => hn.trans (hlen sig h)) hstack hW (by rw [hb]; exact hdg)
    (fun vm₁ hW₁ => ⟨hf.1, hf.2, hPc (T.setVm vm₁) hT hW₁⟩)
  dsimp only [Pt.U, Pt.locs, Pt.cells, Pt.slots] at X' e1 e2 h1 h2 h3 st
  subst h1; subst h2; subst h3
  exact ⟨v, (T.setVm vm₁).calling g' mk (Value.ref b :: As).toArray, t, U', L, hT, X', hL, e1, e2, hq, st⟩
section
variable {y : MethodName} {bytes cc : ByteArray} {maxL nL mc ms n index : Nat} {ret : Option FieldType} {ws : List Cond} {rm : Room} {Pc : Array Value → State → Prop} {Qc : Array Value → State → Outcome → State → Prop} {XC : String → State → State → Prop} {free : Addr → Prop} {Ts : List Cond} {own C : String} {b : Addr} {As rest : List Value} {g : JFrame}
theorem vx_runVX {hh : List (Nat × Nat × Nat × Nat)} (S : CallFix p m c cc nL s args Ts own) (hM : vx_Met l y ws rm Pc Qc XC mc ms free) (cw : vx_CVW R s args own C index y bytes maxL ret hh ws rm mc ms n) (hp : PreV s H C b Pc As)
    (hg : g.method = m) (hn : As.length = n) (hsize : g.locals.size = nL) (hstack : g.stack = As.reverse ++ .ref b :: rest) (hW : 2 * g.monitorRoom + (rest.map fun v => v.category).sum ≤ 8) (hdg : decode cc g.pc = .ok (.invokevirtual index, 3)) (hf : cells + mc ≤ R.cells ∧ slots + ms ≤ R.slots) :
    vx_Run p l e R s m args below meth c H locs cells slots mc ms g rest (Qc (Value.ref b :: As).toArray) XC free := by
  obtain ⟨⟨hrc, hrs, hfr, hlo, hws, hcw⟩, hcode, hini, hy, hlen, hl, hin, hse⟩ := cw
  have hK : vx_Back l R p e below s args y 3 8 (PreOf R mc ms Pc) (PostOf Qc mc ms free) (vx_Post XC mc ms free) := vx_backW (hh := hh) (bytes := bytes) (maxL := maxL) (ret := ret) hM hp.1 hrc hrs hfr hlo hws hcw (fun a' U hW => word_at hW (Or.inl (by first | rfl | simp [Cond.onTables, Cond.keeps, Cond.steady])) hini)
  obtain ⟨hx, hb, hml, ho, -⟩ := S
  obtain ⟨-, ⟨cellB, hcB, hoB, hclB⟩, hPc⟩ := hp
  intro T hT X
  rcases vx_callVX X hx (C := C) (hh := hh) (bytes := bytes) (maxL := maxL) (ret := ret) ho hl hin hse hcode hy hK (by rw [hT]; exact hcB) hoB hclB hg (hsize.trans hml.symm) (argsL := As) (rest := rest) (fun sig h => hn.trans (hlen sig h)) hstack hW (by rw [hb]; exact hdg)
    (fun vm₁ hW₁ => ⟨hf.1, hf.2, hPc (T.setVm vm₁) hT hW₁⟩) with ⟨v, vm₁, ⟨U', l2, c2, s2⟩, hW₁, X', ⟨g', mk, t, L, e1, e2, hq, h1, hL, h2, h3⟩, st⟩ | ⟨q, vm₁, ⟨U', l2, c2, s2⟩, hW₁, X', ⟨g', mk, t, L, E, ce, e1, e2, hq, hce, hcv, hcl, h1, hL, h2, h3⟩, st⟩
  · dsimp only [Pt.U, Pt.locs, Pt.cells, Pt.slots] at X' e1 e2 h1 h2 h3 st
    subst h1; subst h2; subst h3
    exact Or.inl ⟨v, (T.setVm vm₁).calling g' mk (Value.ref b :: As).toArray, t, U', L, hT, X', hL, e1, e2, hq, st⟩
  · dsimp only [Pt.U, Pt.locs, Pt.cells, Pt.slots] at X' e1 e2 h1 h2 h3 st hcl
    subst h1; subst h2; subst h3
    exact Or.inr ⟨q, (T.setVm vm₁).calling g' mk (Value.ref b :: As).toArray, t, U', L, E, ce, hT, X', hL, e1, e2, hq, hce, hcv, vx_cls hW₁ hcl, st⟩
theorem vx_runSX {hh : List (Nat × Nat × Nat × Nat)} (S : CallFix p m c cc nL s args Ts own) (hM : vx_Met l y ws rm Pc Qc XC mc ms free) (cw : vx_CSW R s args own index y bytes maxL ret hh ws rm mc ms n) (hp : PreS s H Pc As)
    (hg : g.method = m) (hn : As.length = n) (hsize : g.locals.size = nL) (hstack : g.stack = As.reverse ++ rest) (hW : 2 * g.monitorRoom + (rest.map fun v => v.category).sum ≤ 8) (hdg : decode cc g.pc = .ok (.invokestatic index, 3)) (hf : cells + mc ≤ R.cells ∧ slots + ms ≤ R.slots) :
    vx_Run p l e R s m args below meth c H locs cells slots mc ms g rest (Qc As.toArray) XC free := by
  obtain ⟨⟨hrc, hrs, hfr, hlo, hws, hcw⟩, hcode, hini, hy, hlen, hl, hstt⟩ := cw
  have hK : vx_Back l R p e below s args y 3 8 (PreOf R mc ms Pc) (PostOf Qc mc ms free) (vx_Post XC mc ms free) := vx_backW (hh := hh) (bytes := bytes) (maxL := maxL) (ret := ret) hM hp.1 hrc hrs hfr hlo hws hcw (fun a' U hW => word_at hW (Or.inl (by first | rfl | simp [Cond.onTables, Cond.keeps, Cond.steady])) hini)
  obtain ⟨hx, hb, hml, ho, -⟩ := S
  intro T hT X
  rcases vx_callSX X hx (hh := hh) (bytes := bytes) (maxL := maxL) (ret := ret) ho hl hstt hini hcode hy hK hg (hsize.trans hml.symm) (argsL := As) (rest := rest) (fun sig h => hn.trans (hlen sig h)) hstack hW (by rw [hb]; exact hdg)
    (fun vm₁ hW₁ => ⟨hf.1, hf.2, hp.2 (T.setVm vm₁) hT hW₁⟩) with ⟨v, vm₁, ⟨U', l2, c2, s2⟩, hW₁, X', ⟨g', mk, t, L, e1, e2, hq, h1, hL, h2, h3⟩, st⟩ | ⟨q, vm₁, ⟨U', l2, c2, s2⟩, hW₁, X', ⟨g', mk, t, L, E, ce, e1, e2, hq, hce, hcv, hcl, h1, hL, h2, h3⟩, st⟩
  · dsimp only [Pt.U, Pt.locs, Pt.cells, Pt.slots] at X' e1 e2 h1 h2 h3 st
    subst h1; subst h2; subst h3
    exact Or.inl ⟨v, (T.setVm vm₁).calling g' mk As.toArray, t, U', L, hT, X', hL, e1, e2, hq, st⟩
  · dsimp only [Pt.U, Pt.locs, Pt.cells, Pt.slots] at X' e1 e2 h1 h2 h3 st hcl
    subst h1; subst h2; subst h3
    exact Or.inr ⟨q, (T.setVm vm₁).calling g' mk As.toArray, t, U', L, E, ce, hT, X', hL, e1, e2, hq, hce, hcv, vx_cls hW₁ hcl, st⟩
end
end VXH
theorem vx_ofWH {l : Launch} {y : MethodName} {ws ws' : List Cond} {rm : Room} {Pc : Array Value → State → Prop} {Qc : Array Value → State → Outcome → State → Prop} {XC : String → State → State → Prop} {mc ms : Nat} {free : Addr → Prop} {cc : ByteArray} {maxL : Nat} {ret : Option FieldType} {hh : List (Nat × Nat × Nat × Nat)}
    (hy : plainName y.cls = true) (hw : ws = Cond.codeWith y cc maxL ret hh :: ws')
    (body : ∀ p e s m args below meth c s₁, BodyLoose p l y (headSpec ws rm) cc maxL ret e s m args below meth c s₁ → c.maxLocals = maxL → Pc args s →
      W p l e (headSpec ws rm).room s m args below meth c s.heap [] 0 0 (vx_MQ below Qc XC args s mc ms free) (entryFrame m args maxL)) : vx_Met l y ws rm Pc Qc XC mc ms free := by
  refine MetFree.of_bodyS (code := cc) (maxLocals := maxL) (ret := ret) hy ?_ ?_
  · intro args s m h hn
    obtain ⟨m9, meth, c, hn9, h1, h2, h3, h4, -, h5, h6, -⟩ := Cond.codeWith_spec (atoms_spec (ws := ws) h _ (by rw [hw]; exact List.mem_cons_self))
    cases hn.symm.trans hn9
    exact ⟨meth, c, h1, h2, h3, h4, h5, h6⟩
  · intro p e s m args below meth c s₁ B hml hP _
    have hh0 : s₁.heap = s.heap := by rw [B.state]; rfl
    obtain ⟨t, a1, o, b1, b2, b3⟩ := body p e s m args below meth c s₁ B hml hP s₁ hh0 (Stand.of_body B)
    exact ⟨t, o, a1, b1, b2, b3⟩
/-! ===== END ===== -/
end
section
/-! ===== BEGIN printed: names, fields, word lists, decode rows ===== -/
def RX0 : String := "FretRoots$BigNumbe\x72"
def TX0 : u_T := fun k => match k with
  | 0 => ("FretRoots$BigNumbe\x72", "digits", "[J", true)
  | _ => ("FretRoots$BigNumbe\x72", "used", "I", false)
def tyX0 : Nat → FieldType := fun k => match k with
  | 0 => .array .long
  | _ => .int
abbrev wsX00 : List Cond := u_ws RX0 TX0 2
theorem nmX0 : ∀ a, a < 2 → ∀ b, b < 2 → a ≠ b → (TX0 a).2.1 ≠ (TX0 b).2.1 := by decide +kernel
theorem tyX0_ok : ∀ k, k < 2 → parseFieldDescriptor (TX0 k).2.2.1 = some (tyX0 k) := by decide +kernel
abbrev cX0_init : ByteArray := prog_2_method_1_code
def yX0_init : MethodName := ⟨RX0, "<init>", "()V"⟩
abbrev cX0_setPower : ByteArray := prog_2_method_2_code
def yX0_setPower : MethodName := ⟨RX0, "setPowe\x72", "(JI)V"⟩
abbrev cX0_doubleTimes : ByteArray := prog_2_method_3_code
def yX0_doubleTimes : MethodName := ⟨RX0, "doubleTimes", "(I)V"⟩
abbrev cX0_compareWith : ByteArray := prog_2_method_4_code
def yX0_compareWith : MethodName := ⟨RX0, "compareWith", "(LFretRoots$BigNumber;)I"⟩
abbrev cX0_multiply : ByteArray := prog_2_method_5_code
def yX0_multiply : MethodName := ⟨RX0, "multiply", "(J)V"⟩
abbrev cX0_append : ByteArray := prog_2_method_6_code
def yX0_append : MethodName := ⟨RX0, "append", "(J)V"⟩
def RX1 : String := "FretRoots$Chain"
def TX1 : u_T := fun k => match k with
  | 0 => ("FretRoots$Chain", "above", "J", false)
  | 1 => ("FretRoots$Chain", "below", "J", false)
  | 2 => ("FretRoots$Chain", "octaves", "J", false)
  | _ => ("FretRoots$Chain", "steps", "J", false)
def tyX1 : Nat → FieldType := fun k => match k with
  | 0 => .long
  | 1 => .long
  | 2 => .long
  | _ => .long
abbrev wsX10 : List Cond := u_ws RX1 TX1 4
theorem nmX1 : ∀ a, a < 4 → ∀ b, b < 4 → a ≠ b → (TX1 a).2.1 ≠ (TX1 b).2.1 := by decide +kernel
theorem tyX1_ok : ∀ k, k < 4 → parseFieldDescriptor (TX1 k).2.2.1 = some (tyX1 k) := by decide +kernel
abbrev cX1_init : ByteArray := prog_3_method_1_code
def yX1_init : MethodName := ⟨RX1, "<init>", "()V"⟩
abbrev cX1_restart : ByteArray := prog_3_method_2_code
def yX1_restart : MethodName := ⟨RX1, "restart", "()V"⟩
abbrev cX1_advance : ByteArray := prog_3_method_3_code
def yX1_advance : MethodName := ⟨RX1, "advance", "(JJ)Z"⟩
abbrev cX1_settle : ByteArray := prog_3_method_4_code
def yX1_settle : MethodName := ⟨RX1, "settle", "(JJI)Z"⟩
abbrev cX1_productOrNone : ByteArray := prog_3_method_5_code
def yX1_productOrNone : MethodName := ⟨RX1, "productOrNone", "(JJ)J"⟩
abbrev cX1_oddPart : ByteArray := prog_3_method_6_code
def yX1_oddPart : MethodName := ⟨RX1, "oddPart", "(J)J"⟩
abbrev cX1_twosIn : ByteArray := prog_3_method_7_code
def yX1_twosIn : MethodName := ⟨RX1, "twosIn", "(J)I"⟩
def RX2 : String := "FretRoots$FretRow"
def TX2 : u_T := fun k => match k with
  | 0 => ("FretRoots$FretRow", "ends", "[J", true)
  | 1 => ("FretRoots$FretRow", "length", "J", false)
  | _ => ("FretRoots$FretRow", "whole", "J", false)
def tyX2 : Nat → FieldType := fun k => match k with
  | 0 => .array .long
  | 1 => .long
  | _ => .long
abbrev wsX20 : List Cond := u_ws RX2 TX2 3
theorem nmX2 : ∀ a, a < 3 → ∀ b, b < 3 → a ≠ b → (TX2 a).2.1 ≠ (TX2 b).2.1 := by decide +kernel
theorem tyX2_ok : ∀ k, k < 3 → parseFieldDescriptor (TX2 k).2.2.1 = some (tyX2 k) := by decide +kernel
abbrev cX2_init : ByteArray := prog_4_method_1_code
def yX2_init : MethodName := ⟨RX2, "<init>", "(I)V"⟩
abbrev cX2_measure : ByteArray := prog_4_method_2_code
def yX2_measure : MethodName := ⟨RX2, "measure", "(JI)V"⟩
def RX3 : String := "FretRoots"
def TX3 : u_T := fun k => match k with
  | 0 => ("FretRoots", "notes", "I", true)
  | 1 => ("FretRoots", "roots", "[D", true)
  | 2 => ("FretRoots", "justAbove", "[I", true)
  | 3 => ("FretRoots", "justBelow", "[I", true)
  | 4 => ("FretRoots", "scaleRow", "LFretRoots$FretRow;", true)
  | 5 => ("FretRoots", "bassRow", "LFretRoots$FretRow;", true)
  | 6 => ("FretRoots", "trebleRow", "LFretRoots$FretRow;", true)
  | 7 => ("FretRoots", "chain", "LFretRoots$Chain;", true)
  | 8 => ("FretRoots", "left", "LFretRoots$BigNumber;", true)
  | 9 => ("FretRoots", "right", "LFretRoots$BigNumber;", true)
  | 10 => ("FretRoots", "shift", "I", false)
  | _ => ("FretRoots", "span", "I", false)
def tyX3 : Nat → FieldType := fun k => match k with
  | 0 => .int
  | 1 => .array .double
  | 2 => .array .int
  | 3 => .array .int
  | 4 => .object "FretRoots$FretRow"
  | 5 => .object "FretRoots$FretRow"
  | 6 => .object "FretRoots$FretRow"
  | 7 => .object "FretRoots$Chain"
  | 8 => .object "FretRoots$BigNumbe\x72"
  | 9 => .object "FretRoots$BigNumbe\x72"
  | 10 => .int
  | _ => .int
abbrev wsX30 : List Cond := u_ws RX3 TX3 12
theorem nmX3 : ∀ a, a < 12 → ∀ b, b < 12 → a ≠ b → (TX3 a).2.1 ≠ (TX3 b).2.1 := by decide +kernel
theorem tyX3_ok : ∀ k, k < 12 → parseFieldDescriptor (TX3 k).2.2.1 = some (tyX3 k) := by decide +kernel
abbrev cX3_init : ByteArray := prog_1_method_1_code
def yX3_init : MethodName := ⟨RX3, "<init>", "(I)V"⟩
abbrev cX3_scale : ByteArray := prog_1_method_2_code
def yX3_scale : MethodName := ⟨RX3, "scale", "(JI)V"⟩
abbrev cX3_fret : ByteArray := prog_1_method_3_code
def yX3_fret : MethodName := ⟨RX3, "fret", "(IZ)J"⟩
abbrev cX3_exact : ByteArray := prog_1_method_4_code
def yX3_exact : MethodName := ⟨RX3, "exact", "(I)Z"⟩
abbrev cX3_just : ByteArray := prog_1_method_5_code
def yX3_just : MethodName := ⟨RX3, "just", "(III)V"⟩
abbrev cX3_justAt : ByteArray := prog_1_method_6_code
def yX3_justAt : MethodName := ⟨RX3, "justAt", "(II)I"⟩
abbrev cX3_leaves : ByteArray := prog_1_method_7_code
def yX3_leaves : MethodName := ⟨RX3, "leaves", "(I)J"⟩
abbrev cX3_beside : ByteArray := prog_1_method_8_code
def yX3_beside : MethodName := ⟨RX3, "beside", "(I)I"⟩
abbrev cX3_nearest : ByteArray := prog_1_method_9_code
def yX3_nearest : MethodName := ⟨RX3, "nearest", "(II)I"⟩
abbrev cX3_step : ByteArray := prog_1_method_10_code
def yX3_step : MethodName := ⟨RX3, "step", "(II)Z"⟩
abbrev cX3_clear : ByteArray := prog_1_method_11_code
def yX3_clear : MethodName := ⟨RX3, "clea\x72", "()V"⟩
abbrev cX3_rest : ByteArray := prog_1_method_12_code
def yX3_rest : MethodName := ⟨RX3, "rest", "(I)J"⟩
abbrev cX3_beat : ByteArray := prog_1_method_13_code
def yX3_beat : MethodName := ⟨RX3, "beat", "(IIII)J"⟩
abbrev cX3_fan : ByteArray := prog_1_method_14_code
def yX3_fan : MethodName := ⟨RX3, "fan", "(III)V"⟩
abbrev cX3_cross : ByteArray := prog_1_method_15_code
def yX3_cross : MethodName := ⟨RX3, "cross", "(III)J"⟩
abbrev cX3_upright : ByteArray := prog_1_method_16_code
def yX3_upright : MethodName := ⟨RX3, "upright", "()I"⟩
abbrev cX3_key : ByteArray := prog_1_method_17_code
def yX3_key : MethodName := ⟨RX3, "key", "(IJI)J"⟩
abbrev cX3_pull : ByteArray := prog_1_method_18_code
def yX3_pull : MethodName := ⟨RX3, "pull", "(DDD)D"⟩
abbrev cX3_pipe : ByteArray := prog_1_method_19_code
def yX3_pipe : MethodName := ⟨RX3, "pipe", "(DZD)D"⟩
abbrev cX3_needPlace : ByteArray := prog_1_method_20_code
def yX3_needPlace : MethodName := ⟨RX3, "needPlace", "(I)V"⟩
abbrev cX3_needPart : ByteArray := prog_1_method_21_code
def yX3_needPart : MethodName := ⟨RX3, "needPart", "(II)V"⟩
abbrev cX3_needWithin : ByteArray := prog_1_method_22_code
def yX3_needWithin : MethodName := ⟨RX3, "needWithin", "(JJJ)V"⟩
abbrev cX3_needReal : ByteArray := prog_1_method_23_code
def yX3_needReal : MethodName := ⟨RX3, "needReal", "(DDD)V"⟩
abbrev cX3_octaveOf : ByteArray := prog_1_method_24_code
def yX3_octaveOf : MethodName := ⟨RX3, "octaveOf", "(I)I"⟩
abbrev cX3_lowerEnd : ByteArray := prog_1_method_25_code
def yX3_lowerEnd : MethodName := ⟨RX3, "lowerEnd", "(LFretRoots$FretRow;I)J"⟩
abbrev cX3_endsMeet : ByteArray := prog_1_method_26_code
def yX3_endsMeet : MethodName := ⟨RX3, "endsMeet", "(IJ)Z"⟩
abbrev cX3_greatestEnd : ByteArray := prog_1_method_27_code
def yX3_greatestEnd : MethodName := ⟨RX3, "greatestEnd", "(JI)J"⟩
abbrev cX3_nextProbe : ByteArray := prog_1_method_28_code
def yX3_nextProbe : MethodName := ⟨RX3, "nextProbe", "(IJJJ)J"⟩
abbrev cX3_isNotAboveLeft : ByteArray := prog_1_method_29_code
def yX3_isNotAboveLeft : MethodName := ⟨RX3, "isNotAboveLeft", "(JI)Z"⟩
abbrev cX3_lastNotAbove : ByteArray := prog_1_method_30_code
def yX3_lastNotAbove : MethodName := ⟨RX3, "lastNotAbove", "(II)I"⟩
abbrev cX3_isPastMiddle : ByteArray := prog_1_method_31_code
def yX3_isPastMiddle : MethodName := ⟨RX3, "isPastMiddle", "(III)Z"⟩
abbrev cX3_rootsOfTwo : ByteArray := prog_1_method_32_code
def yX3_rootsOfTwo : MethodName := ⟨RX3, "rootsOfTwo", "(I)[D"⟩
abbrev cX3_rootOfTwo : ByteArray := prog_1_method_33_code
def yX3_rootOfTwo : MethodName := ⟨RX3, "rootOfTwo", "(I)D"⟩
abbrev cX3_quotient : ByteArray := prog_1_method_34_code
def yX3_quotient : MethodName := ⟨RX3, "quotient", "(JJ)J"⟩
abbrev cX3_commonDivisor : ByteArray := prog_1_method_35_code
def yX3_commonDivisor : MethodName := ⟨RX3, "commonDiviso\x72", "(JJ)J"⟩
def RX4 : String := "FretRootsModel"
def TX4 : u_T := fun k => match k with
  | 0 => ("FretRootsModel", "thrown", "I", false)
  | 1 => ("FretRootsModel", "notes", "I", false)
  | 2 => ("FretRootsModel", "length", "J", false)
  | 3 => ("FretRootsModel", "shift", "I", false)
  | 4 => ("FretRootsModel", "aboves", "[I", true)
  | 5 => ("FretRootsModel", "belows", "[I", true)
  | 6 => ("FretRootsModel", "chainAbove", "J", false)
  | 7 => ("FretRootsModel", "chainBelow", "J", false)
  | 8 => ("FretRootsModel", "octaves", "J", false)
  | 9 => ("FretRootsModel", "steps", "J", false)
  | 10 => ("FretRootsModel", "bass", "I", false)
  | 11 => ("FretRootsModel", "treble", "I", false)
  | 12 => ("FretRootsModel", "span", "I", false)
  | _ => ("FretRootsModel", "\x72", "[I", true)
def tyX4 : Nat → FieldType := fun k => match k with
  | 0 => .int
  | 1 => .int
  | 2 => .long
  | 3 => .int
  | 4 => .array .int
  | 5 => .array .int
  | 6 => .long
  | 7 => .long
  | 8 => .long
  | 9 => .long
  | 10 => .int
  | 11 => .int
  | 12 => .int
  | _ => .array .int
abbrev wsX40 : List Cond := u_ws RX4 TX4 14
theorem nmX4 : ∀ a, a < 14 → ∀ b, b < 14 → a ≠ b → (TX4 a).2.1 ≠ (TX4 b).2.1 := by decide +kernel
theorem tyX4_ok : ∀ k, k < 14 → parseFieldDescriptor (TX4 k).2.2.1 = some (tyX4 k) := by decide +kernel
abbrev cX4_init : ByteArray := prog_6_method_1_code
def yX4_init : MethodName := ⟨RX4, "<init>", "(I)V"⟩
abbrev cX4_thrown : ByteArray := prog_6_method_2_code
def yX4_thrown : MethodName := ⟨RX4, "thrown", "()I"⟩
abbrev cX4_isIn : ByteArray := prog_6_method_3_code
def yX4_isIn : MethodName := ⟨RX4, "isIn", "(JJJ)Z"⟩
abbrev cX4_noPlace : ByteArray := prog_6_method_4_code
def yX4_noPlace : MethodName := ⟨RX4, "noPlace", "(I)Z"⟩
abbrev cX4_set : ByteArray := prog_6_method_5_code
def yX4_set : MethodName := ⟨RX4, "set", "(IJ)V"⟩
abbrev cX4_times : ByteArray := prog_6_method_6_code
def yX4_times : MethodName := ⟨RX4, "times", "(IJ)V"⟩
abbrev cX4_power : ByteArray := prog_6_method_7_code
def yX4_power : MethodName := ⟨RX4, "powe\x72", "(IJI)V"⟩
abbrev cX4_twice : ByteArray := prog_6_method_8_code
def yX4_twice : MethodName := ⟨RX4, "twice", "(II)V"⟩
abbrev cX4_compare : ByteArray := prog_6_method_9_code
def yX4_compare : MethodName := ⟨RX4, "compare", "()I"⟩
abbrev cX4_scale : ByteArray := prog_6_method_10_code
def yX4_scale : MethodName := ⟨RX4, "scale", "(JI)V"⟩
abbrev cX4_side : ByteArray := prog_6_method_11_code
def yX4_side : MethodName := ⟨RX4, "side", "(JIJ)I"⟩
abbrev cX4_lower : ByteArray := prog_6_method_12_code
def yX4_lower : MethodName := ⟨RX4, "lowe\x72", "(IJ)J"⟩
abbrev cX4_fret : ByteArray := prog_6_method_13_code
def yX4_fret : MethodName := ⟨RX4, "fret", "(IZ)J"⟩
abbrev cX4_exact : ByteArray := prog_6_method_14_code
def yX4_exact : MethodName := ⟨RX4, "exact", "(I)Z"⟩
abbrev cX4_divisor : ByteArray := prog_6_method_15_code
def yX4_divisor : MethodName := ⟨RX4, "diviso\x72", "(JJ)J"⟩
abbrev cX4_isPart : ByteArray := prog_6_method_16_code
def yX4_isPart : MethodName := ⟨RX4, "isPart", "(I)Z"⟩
abbrev cX4_just : ByteArray := prog_6_method_17_code
def yX4_just : MethodName := ⟨RX4, "just", "(III)V"⟩
abbrev cX4_justAt : ByteArray := prog_6_method_18_code
def yX4_justAt : MethodName := ⟨RX4, "justAt", "(II)I"⟩
abbrev cX4_leaves : ByteArray := prog_6_method_19_code
def yX4_leaves : MethodName := ⟨RX4, "leaves", "(I)J"⟩
abbrev cX4_side_ : ByteArray := prog_6_method_20_code
def yX4_side_ : MethodName := ⟨RX4, "side", "(IIII)I"⟩
abbrev cX4_beside : ByteArray := prog_6_method_21_code
def yX4_beside : MethodName := ⟨RX4, "beside", "(I)I"⟩
abbrev cX4_nearest : ByteArray := prog_6_method_22_code
def yX4_nearest : MethodName := ⟨RX4, "nearest", "(II)I"⟩
abbrev cX4_isEven : ByteArray := prog_6_method_23_code
def yX4_isEven : MethodName := ⟨RX4, "isEven", "(I)Z"⟩
abbrev cX4_half : ByteArray := prog_6_method_24_code
def yX4_half : MethodName := ⟨RX4, "half", "(I)V"⟩
abbrev cX4_told : ByteArray := prog_6_method_25_code
def yX4_told : MethodName := ⟨RX4, "told", "(I)J"⟩
abbrev cX4_step : ByteArray := prog_6_method_26_code
def yX4_step : MethodName := ⟨RX4, "step", "(II)Z"⟩
abbrev cX4_down : ByteArray := prog_6_method_27_code
def yX4_down : MethodName := ⟨RX4, "down", "()V"⟩
abbrev cX4_clear : ByteArray := prog_6_method_28_code
def yX4_clear : MethodName := ⟨RX4, "clea\x72", "()V"⟩
abbrev cX4_rest : ByteArray := prog_6_method_29_code
def yX4_rest : MethodName := ⟨RX4, "rest", "(I)J"⟩
abbrev cX4_beat : ByteArray := prog_6_method_30_code
def yX4_beat : MethodName := ⟨RX4, "beat", "(IIII)J"⟩
abbrev cX4_fan : ByteArray := prog_6_method_31_code
def yX4_fan : MethodName := ⟨RX4, "fan", "(III)V"⟩
abbrev cX4_cross : ByteArray := prog_6_method_32_code
def yX4_cross : MethodName := ⟨RX4, "cross", "(III)J"⟩
abbrev cX4_upright : ByteArray := prog_6_method_33_code
def yX4_upright : MethodName := ⟨RX4, "upright", "()I"⟩
abbrev cX4_white : ByteArray := prog_6_method_34_code
def yX4_white : MethodName := ⟨RX4, "white", "(I)I"⟩
abbrev cX4_key : ByteArray := prog_6_method_35_code
def yX4_key : MethodName := ⟨RX4, "key", "(IJI)J"⟩
abbrev cX4_pull : ByteArray := prog_6_method_36_code
def yX4_pull : MethodName := ⟨RX4, "pull", "(DDD)D"⟩
abbrev cX4_pipe : ByteArray := prog_6_method_37_code
def yX4_pipe : MethodName := ⟨RX4, "pipe", "(DZD)D"⟩
def RJx145de : String := "java/io/Serializable"
def TJx145de : u_T := fun k => match k with
  | _ => ("", "", "", false)
def tyJx145de : Nat → FieldType := fun k => match k with
  | _ => .int
abbrev wsJx145de0 : List Cond := u_ws RJx145de TJx145de 0
theorem nmJx145de : ∀ a, a < 0 → ∀ b, b < 0 → a ≠ b → (TJx145de a).2.1 ≠ (TJx145de b).2.1 := by decide +kernel
theorem tyJx145de_ok : ∀ k, k < 0 → parseFieldDescriptor (TJx145de k).2.2.1 = some (tyJx145de k) := by decide +kernel
def RJx00060 : String := "java/lang/ArrayIndexOutOfBoundsException"
def TJx00060 : u_T := fun k => match k with
  | 0 => ("java/lang/Throwable", "cause", "Ljava/lang/Throwable;", false)
  | 1 => ("java/lang/Throwable", "stackTrace", "[Ljava/lang/StackTraceElement;", false)
  | 2 => ("java/lang/Throwable", "suppressedExceptions", "Ljava/util/List;", false)
  | 3 => ("java/lang/Throwable", "detailMessage", "Ljava/lang/String;", false)
  | 4 => ("java/lang/Throwable", "backtrace", "Ljava/lang/Object;", false)
  | _ => ("java/lang/Throwable", "depth", "I", false)
def tyJx00060 : Nat → FieldType := fun k => match k with
  | 0 => .object "java/lang/Throwable"
  | 1 => .array (.object "java/lang/StackTraceElement")
  | 2 => .object "java/util/List"
  | 3 => .object "java/lang/String"
  | 4 => .object "java/lang/Object"
  | _ => .int
abbrev wsJx000600 : List Cond := u_ws RJx00060 TJx00060 6
theorem nmJx00060 : ∀ a, a < 6 → ∀ b, b < 6 → a ≠ b → (TJx00060 a).2.1 ≠ (TJx00060 b).2.1 := by decide +kernel
theorem tyJx00060_ok : ∀ k, k < 6 → parseFieldDescriptor (TJx00060 k).2.2.1 = some (tyJx00060 k) := by decide +kernel
abbrev cJx00060_init_a7421 : ByteArray := prog_7_method_2_code
def yJx00060_init_a7421 : MethodName := ⟨RJx00060, "<init>", "(Ljava/lang/String;)V"⟩
def RJ9 : String := "java/lang/Math"
def TJ9 : u_T := fun k => match k with
  | _ => ("", "", "", false)
def tyJ9 : Nat → FieldType := fun k => match k with
  | _ => .int
abbrev wsJ90 : List Cond := u_ws RJ9 TJ9 0
theorem nmJ9 : ∀ a, a < 0 → ∀ b, b < 0 → a ≠ b → (TJ9 a).2.1 ≠ (TJ9 b).2.1 := by decide +kernel
theorem tyJ9_ok : ∀ k, k < 0 → parseFieldDescriptor (TJ9 k).2.2.1 = some (tyJ9 k) := by decide +kernel
abbrev cJ9_abs_067f4 : ByteArray := prog_11_method_61_code
def yJ9_abs_067f4 : MethodName := ⟨RJ9, "abs", "(J)J"⟩
abbrev cJ9_max_7cf53 : ByteArray := prog_11_method_65_code
def yJ9_max_7cf53 : MethodName := ⟨RJ9, "max", "(II)I"⟩
abbrev cJ9_max_f86c9 : ByteArray := prog_11_method_66_code
def yJ9_max_f86c9 : MethodName := ⟨RJ9, "max", "(JJ)J"⟩
abbrev cJ9_min_7cf53 : ByteArray := prog_11_method_69_code
def yJ9_min_7cf53 : MethodName := ⟨RJ9, "min", "(II)I"⟩
abbrev cJ9_min_f86c9 : ByteArray := prog_11_method_70_code
def yJ9_min_f86c9 : MethodName := ⟨RJ9, "min", "(JJ)J"⟩
def RJ0 : String := "java/lang/String"
def TJ0 : u_T := fun k => match k with
  | _ => ("", "", "", false)
def tyJ0 : Nat → FieldType := fun k => match k with
  | _ => .int
abbrev wsJ00 : List Cond := u_ws RJ0 TJ0 0
theorem nmJ0 : ∀ a, a < 0 → ∀ b, b < 0 → a ≠ b → (TJ0 a).2.1 ≠ (TJ0 b).2.1 := by decide +kernel
theorem tyJ0_ok : ∀ k, k < 0 → parseFieldDescriptor (TJ0 k).2.2.1 = some (tyJ0 k) := by decide +kernel
def RJ7 : String := "java/util/Arrays"
def TJ7 : u_T := fun k => match k with
  | _ => ("", "", "", false)
def tyJ7 : Nat → FieldType := fun k => match k with
  | _ => .int
abbrev wsJ70 : List Cond := u_ws RJ7 TJ7 0
theorem nmJ7 : ∀ a, a < 0 → ∀ b, b < 0 → a ≠ b → (TJ7 a).2.1 ≠ (TJ7 b).2.1 := by decide +kernel
theorem tyJ7_ok : ∀ k, k < 0 → parseFieldDescriptor (TJ7 k).2.2.1 = some (tyJ7 k) := by decide +kernel
abbrev cJ7_fill_d0a16 : ByteArray := prog_15_method_101_code
def yJ7_fill_d0a16 : MethodName := ⟨RJ7, "fill", "([JJ)V"⟩
abbrev cJ7_fill_53178 : ByteArray := prog_15_method_103_code
def yJ7_fill_53178 : MethodName := ⟨RJ7, "fill", "([II)V"⟩
def RL : String := "FretRootsLaw"
abbrev cL_cell : ByteArray := method_2_code
def yL_cell : MethodName := ⟨RL, "cell", "([II)I"⟩
abbrev cL_scale : ByteArray := method_3_code
def yL_scale : MethodName := ⟨RL, "scale", "(LFretRoots;JI)I"⟩
abbrev cL_fret : ByteArray := method_4_code
def yL_fret : MethodName := ⟨RL, "fret", "(LFretRoots;IZ[J)I"⟩
abbrev cL_exact : ByteArray := method_5_code
def yL_exact : MethodName := ⟨RL, "exact", "(LFretRoots;I[J)I"⟩
abbrev cL_just : ByteArray := method_6_code
def yL_just : MethodName := ⟨RL, "just", "(LFretRoots;III)I"⟩
abbrev cL_justAt : ByteArray := method_7_code
def yL_justAt : MethodName := ⟨RL, "justAt", "(LFretRoots;II[J)I"⟩
abbrev cL_leaves : ByteArray := method_8_code
def yL_leaves : MethodName := ⟨RL, "leaves", "(LFretRoots;I[J)I"⟩
abbrev cL_beside : ByteArray := method_9_code
def yL_beside : MethodName := ⟨RL, "beside", "(LFretRoots;I[J)I"⟩
abbrev cL_nearest : ByteArray := method_10_code
def yL_nearest : MethodName := ⟨RL, "nearest", "(LFretRoots;II[J)I"⟩
abbrev cL_step : ByteArray := method_11_code
def yL_step : MethodName := ⟨RL, "step", "(LFretRoots;II[J)I"⟩
abbrev cL_rest : ByteArray := method_12_code
def yL_rest : MethodName := ⟨RL, "rest", "(LFretRoots;I[J)I"⟩
abbrev cL_beat : ByteArray := method_13_code
def yL_beat : MethodName := ⟨RL, "beat", "(LFretRoots;IIII[J)I"⟩
abbrev cL_fan : ByteArray := method_14_code
def yL_fan : MethodName := ⟨RL, "fan", "(LFretRoots;III)I"⟩
abbrev cL_cross : ByteArray := method_15_code
def yL_cross : MethodName := ⟨RL, "cross", "(LFretRoots;III[J)I"⟩
abbrev cL_key : ByteArray := method_16_code
def yL_key : MethodName := ⟨RL, "key", "(LFretRoots;IJI[J)I"⟩
abbrev cL_pull : ByteArray := method_17_code
def yL_pull : MethodName := ⟨RL, "pull", "(LFretRoots;DDD[D)I"⟩
abbrev cL_pipe : ByteArray := method_18_code
def yL_pipe : MethodName := ⟨RL, "pipe", "(LFretRoots;DZD[D)I"⟩
abbrev cL_law : ByteArray := code
def yL_law : MethodName := ⟨RL, "law", "([I)Z"⟩
def wsX0_init : List Cond := .code yX0_init cX0_init 1 none :: ([.methodLink RX0 3 objectInit, .instanceMethod objectInit, .code objectInit ⟨#[0xb1]⟩ 1 none, .arrayClass .long, .fieldLink RX0 9 "FretRoots$BigNumbe\x72" "digits" "[J", .fieldLink RX0 13 "FretRoots$BigNumbe\x72" "used" "I"] ++ wsX00)
def wsX0_append : List Cond := .code yX0_append cX0_append 6 none :: ([.fieldLink RX0 13 "FretRoots$BigNumbe\x72" "used" "I", .fieldLink RX0 9 "FretRoots$BigNumbe\x72" "digits" "[J", .constantLong RX0 30 (67108863)] ++ wsX00)
def wsX0_multiply : List Cond := .code yX0_multiply cX0_multiply 8 none :: ([.fieldLink RX0 13 "FretRoots$BigNumbe\x72" "used" "I", .fieldLink RX0 9 "FretRoots$BigNumbe\x72" "digits" "[J", .constantLong RX0 30 (67108863), .methodLink RX0 17 yX0_append, .instanceMethod yX0_append, .selects RX0 yX0_append yX0_append, .initialized RX0, .code yX0_append cX0_append 6 none] ++ wsX00)
def wsX0_setPower : List Cond := .code yX0_setPower cX0_setPower 5 none :: ([.fieldLink RX0 13 "FretRoots$BigNumbe\x72" "used" "I", .methodLink RX0 17 yX0_append, .instanceMethod yX0_append, .selects RX0 yX0_append yX0_append, .initialized RX0, .code yX0_append cX0_append 6 none, .fieldLink RX0 9 "FretRoots$BigNumbe\x72" "digits" "[J", .constantLong RX0 30 (67108863), .methodLink RX0 21 yX0_multiply, .instanceMethod yX0_multiply, .selects RX0 yX0_multiply yX0_multiply, .code yX0_multiply cX0_multiply 8 none] ++ wsX00)
def wsX0_doubleTimes : List Cond := .code yX0_doubleTimes cX0_doubleTimes 3 none :: ([.methodLink RX0 24 Lib.Math.min.name, .static Lib.Math.min.name, .initialized "java/lang/Math", .code Lib.Math.min.name Lib.Math.min.code 2 (some .int), .methodLink RX0 21 yX0_multiply, .instanceMethod yX0_multiply, .selects RX0 yX0_multiply yX0_multiply, .initialized RX0, .code yX0_multiply cX0_multiply 8 none, .fieldLink RX0 13 "FretRoots$BigNumbe\x72" "used" "I", .fieldLink RX0 9 "FretRoots$BigNumbe\x72" "digits" "[J", .constantLong RX0 30 (67108863), .methodLink RX0 17 yX0_append, .instanceMethod yX0_append, .selects RX0 yX0_append yX0_append, .code yX0_append cX0_append 6 none] ++ wsX00)
def wsX0_compareWith : List Cond := .code yX0_compareWith cX0_compareWith 3 (some .int) :: ([.fieldLink RX0 13 "FretRoots$BigNumbe\x72" "used" "I", .methodLink RX0 24 Lib.Math.min.name, .static Lib.Math.min.name, .initialized "java/lang/Math", .code Lib.Math.min.name Lib.Math.min.code 2 (some .int), .fieldLink RX0 9 "FretRoots$BigNumbe\x72" "digits" "[J"] ++ wsX00)
def wsX1_init : List Cond := .code yX1_init cX1_init 1 none :: ([.methodLink RX1 3 objectInit, .instanceMethod objectInit, .code objectInit ⟨#[0xb1]⟩ 1 none, .fieldLink RX1 9 "FretRoots$Chain" "above" "J", .fieldLink RX1 15 "FretRoots$Chain" "below" "J", .fieldLink RX1 18 "FretRoots$Chain" "octaves" "J", .fieldLink RX1 21 "FretRoots$Chain" "steps" "J"] ++ wsX10)
def wsX1_restart : List Cond := .code yX1_restart cX1_restart 1 none :: ([.fieldLink RX1 9 "FretRoots$Chain" "above" "J", .fieldLink RX1 15 "FretRoots$Chain" "below" "J", .fieldLink RX1 18 "FretRoots$Chain" "octaves" "J", .fieldLink RX1 21 "FretRoots$Chain" "steps" "J"] ++ wsX10)
def wsX3_commonDivisor : List Cond := .code yX3_commonDivisor cX3_commonDivisor 11 (some .long) :: ([])
def wsX3_quotient : List Cond := .code yX3_quotient cX3_quotient 4 (some .long) :: ([])
def wsX1_twosIn : List Cond := .code yX1_twosIn cX1_twosIn 4 (some .int) :: ([])
def wsX1_oddPart : List Cond := .code yX1_oddPart cX1_oddPart 2 (some .long) :: ([.methodLink RX1 31 yX1_twosIn, .static yX1_twosIn, .initialized RX1, .code yX1_twosIn cX1_twosIn 4 (some .int)])
def wsX1_productOrNone : List Cond := .code yX1_productOrNone cX1_productOrNone 4 (some .long) :: ([.constantLong RX1 50 (1000000000000000), .constantLong RX1 42 (-1), .static yX3_quotient, .initialized RX3, .code yX3_quotient cX3_quotient 4 (some .long)])
def wsX1_settle : List Cond := .code yX1_settle cX1_settle 12 (some .boolean) :: ([.constantLong RX1 48 (2), .constantLong RX1 50 (1000000000000000), .fieldLink RX1 9 "FretRoots$Chain" "above" "J", .fieldLink RX1 15 "FretRoots$Chain" "below" "J", .fieldLink RX1 18 "FretRoots$Chain" "octaves" "J", .fieldLink RX1 21 "FretRoots$Chain" "steps" "J"] ++ wsX10)
def wsX1_advance_r1 : List Cond := [Cond.fieldLink RX1 9 "FretRoots$Chain" "above" "J", Cond.fieldLink RX1 15 "FretRoots$Chain" "below" "J", Cond.constantLong RX1 42 (-1), Cond.static yX3_commonDivisor, Cond.initialized RX3, Cond.code yX3_commonDivisor cX3_commonDivisor 11 (some .long), Cond.static yX3_quotient, Cond.code yX3_quotient cX3_quotient 4 (some .long), Cond.methodLink RX1 31 yX1_twosIn, Cond.static yX1_twosIn, Cond.initialized RX1, Cond.code yX1_twosIn cX1_twosIn 4 (some .int), Cond.methodLink RX1 35 yX1_oddPart, Cond.static yX1_oddPart, Cond.code yX1_oddPart cX1_oddPart 2 (some .long), Cond.methodLink RX1 39 yX1_productOrNone, Cond.static yX1_productOrNone, Cond.code yX1_productOrNone cX1_productOrNone 4 (some .long), Cond.constantLong RX1 50 (1000000000000000), Cond.methodLink RX1 44 yX1_settle, Cond.instanceMethod yX1_settle, Cond.selects RX1 yX1_settle yX1_settle, Cond.code yX1_settle cX1_settle 12 (some .boolean), Cond.constantLong RX1 48 (2)]
def wsX1_advance_r2 : List Cond := [Cond.fieldLink RX1 18 "FretRoots$Chain" "octaves" "J", Cond.fieldLink RX1 21 "FretRoots$Chain" "steps" "J"]
def wsX1_advance : List Cond := .code yX1_advance cX1_advance 22 (some .boolean) :: ((wsX1_advance_r1 ++ wsX1_advance_r2) ++ wsX10)
def wsJ7_fill_d0a16 : List Cond := .code yJ7_fill_d0a16 cJ7_fill_d0a16 5 none :: ([])
def wsX2_init : List Cond := .code yX2_init cX2_init 2 none :: ([.methodLink RX2 3 objectInit, .instanceMethod objectInit, .code objectInit ⟨#[0xb1]⟩ 1 none, .methodLink RX2 9 Lib.Math.max.name, .static Lib.Math.max.name, .initialized "java/lang/Math", .code Lib.Math.max.name Lib.Math.max.code 2 (some .int), .arrayClass .long, .fieldLink RX2 15 "FretRoots$FretRow" "ends" "[J", .constantLong RX2 21 (1000), .fieldLink RX2 23 "FretRoots$FretRow" "length" "J", .constantLong RX2 27 (256000), .fieldLink RX2 29 "FretRoots$FretRow" "whole" "J", .constantLong RX2 32 (-1), .methodLink RX2 34 yJ7_fill_d0a16, .static yJ7_fill_d0a16, .initialized RJ7, .code yJ7_fill_d0a16 cJ7_fill_d0a16 5 none] ++ wsX20)
def wsX2_measure : List Cond := .code yX2_measure cX2_measure 4 none :: ([.fieldLink RX2 23 "FretRoots$FretRow" "length" "J", .fieldLink RX2 29 "FretRoots$FretRow" "whole" "J", .fieldLink RX2 15 "FretRoots$FretRow" "ends" "[J", .constantLong RX2 32 (-1), .methodLink RX2 34 yJ7_fill_d0a16, .static yJ7_fill_d0a16, .initialized RJ7, .code yJ7_fill_d0a16 cJ7_fill_d0a16 5 none] ++ wsX20)
def wsX3_rootOfTwo : List Cond := .code yX3_rootOfTwo cX3_rootOfTwo 7 (some .double) :: ([.constantDouble RX3 196 (4611686018427387904)])
def wsX3_rootsOfTwo : List Cond := .code yX3_rootsOfTwo cX3_rootsOfTwo 7 (some (.array .double)) :: ([.methodLink RX3 39 Lib.Math.max.name, .static Lib.Math.max.name, .initialized "java/lang/Math", .code Lib.Math.max.name Lib.Math.max.code 2 (some .int), .arrayClass .double, .methodLink RX3 237 yX3_rootOfTwo, .static yX3_rootOfTwo, .initialized RX3, .code yX3_rootOfTwo cX3_rootOfTwo 7 (some .double), .constantDouble RX3 196 (4611686018427387904)])
def wsJ7_fill_53178 : List Cond := .code yJ7_fill_53178 cJ7_fill_53178 4 none :: ([])
def wsX3_init_r1 : List Cond := [Cond.methodLink RX3 1 objectInit, Cond.instanceMethod objectInit, Cond.code objectInit ⟨#[0xb1]⟩ 1 none, Cond.classLink RX3 7 RX1, Cond.instantiable RX1 4, Cond.initialized RX1, Cond.fieldLink RX3 10 "FretRoots" "chain" "LFretRoots$Chain;", Cond.classLink RX3 16 RX0, Cond.instantiable RX0 2, Cond.initialized RX0, Cond.fieldLink RX3 19 "FretRoots" "left" "LFretRoots$BigNumber;", Cond.fieldLink RX3 23 "FretRoots" "right" "LFretRoots$BigNumber;", Cond.fieldLink RX3 26 "FretRoots" "shift" "I", Cond.fieldLink RX3 30 "FretRoots" "span" "I", Cond.methodLink RX3 33 Lib.Math.min.name, Cond.static Lib.Math.min.name, Cond.initialized "java/lang/Math", Cond.code Lib.Math.min.name Lib.Math.min.code 2 (some .int), Cond.methodLink RX3 39 Lib.Math.max.name, Cond.static Lib.Math.max.name, Cond.code Lib.Math.max.name Lib.Math.max.code 2 (some .int), Cond.fieldLink RX3 42 "FretRoots" "notes" "I", Cond.fieldLink RX3 49 "FretRoots" "roots" "[D", Cond.arrayClass .int]
def wsX3_init_r2 : List Cond := [Cond.fieldLink RX3 53 "FretRoots" "justAbove" "[I", Cond.fieldLink RX3 57 "FretRoots" "justBelow" "[I", Cond.classLink RX3 66 RX2, Cond.instantiable RX2 3, Cond.initialized RX2, Cond.fieldLink RX3 71 "FretRoots" "scaleRow" "LFretRoots$FretRow;", Cond.fieldLink RX3 75 "FretRoots" "bassRow" "LFretRoots$FretRow;", Cond.fieldLink RX3 78 "FretRoots" "trebleRow" "LFretRoots$FretRow;", Cond.instanceMethod yX1_init, Cond.code yX1_init cX1_init 1 none, Cond.methodLink RX1 3 objectInit, Cond.fieldLink RX1 9 "FretRoots$Chain" "above" "J", Cond.fieldLink RX1 15 "FretRoots$Chain" "below" "J", Cond.fieldLink RX1 18 "FretRoots$Chain" "octaves" "J", Cond.fieldLink RX1 21 "FretRoots$Chain" "steps" "J", Cond.instanceMethod yX0_init, Cond.code yX0_init cX0_init 1 none, Cond.methodLink RX0 3 objectInit, Cond.arrayClass .long, Cond.fieldLink RX0 9 "FretRoots$BigNumbe\x72" "digits" "[J", Cond.fieldLink RX0 13 "FretRoots$BigNumbe\x72" "used" "I", Cond.methodLink RX3 45 yX3_rootsOfTwo, Cond.static yX3_rootsOfTwo, Cond.initialized RX3]
def wsX3_init_r3 : List Cond := [Cond.code yX3_rootsOfTwo cX3_rootsOfTwo 7 (some (.array .double)), Cond.arrayClass .double, Cond.methodLink RX3 237 yX3_rootOfTwo, Cond.static yX3_rootOfTwo, Cond.code yX3_rootOfTwo cX3_rootOfTwo 7 (some .double), Cond.constantDouble RX3 196 (4611686018427387904), Cond.methodLink RX3 60 yJ7_fill_53178, Cond.static yJ7_fill_53178, Cond.initialized RJ7, Cond.code yJ7_fill_53178 cJ7_fill_53178 4 none, Cond.methodLink RX3 68 yX2_init, Cond.instanceMethod yX2_init, Cond.code yX2_init cX2_init 2 none, Cond.methodLink RX2 3 objectInit, Cond.methodLink RX2 9 Lib.Math.max.name, Cond.fieldLink RX2 15 "FretRoots$FretRow" "ends" "[J", Cond.constantLong RX2 21 (1000), Cond.fieldLink RX2 23 "FretRoots$FretRow" "length" "J", Cond.constantLong RX2 27 (256000), Cond.fieldLink RX2 29 "FretRoots$FretRow" "whole" "J", Cond.constantLong RX2 32 (-1), Cond.methodLink RX2 34 yJ7_fill_d0a16, Cond.static yJ7_fill_d0a16, Cond.code yJ7_fill_d0a16 cJ7_fill_d0a16 5 none]
def wsX3_init : List Cond := .code yX3_init cX3_init 2 none :: ((wsX3_init_r1 ++ (wsX3_init_r2 ++ wsX3_init_r3)) ++ wsX10 ++ wsX30 ++ wsX00 ++ wsX20)
def wsX3_needWithin : List Cond := .code yX3_needWithin cX3_needWithin 6 none :: ([.classLink RX3 204 "java/lang/IllegalArgumentException", .initialized "java/lang/IllegalArgumentException"] ++ (vx_atS RX3 208 "java/lang/IllegalArgumentException" ["java/lang/RuntimeException", "java/lang/Exception"]).filter goodWord)
def wsX3_scale_r1 : List Cond := [Cond.constantLong RX3 81 (1000000), Cond.constantLong RX3 87 (16), Cond.fieldLink RX3 26 "FretRoots" "shift" "I", Cond.fieldLink RX3 71 "FretRoots" "scaleRow" "LFretRoots$FretRow;", Cond.fieldLink RX3 75 "FretRoots" "bassRow" "LFretRoots$FretRow;", Cond.fieldLink RX3 93 "FretRoots$FretRow" "length" "J", Cond.fieldLink RX3 78 "FretRoots" "trebleRow" "LFretRoots$FretRow;", Cond.methodLink RX3 83 yX3_needWithin, Cond.static yX3_needWithin, Cond.initialized RX3, Cond.code yX3_needWithin cX3_needWithin 6 none, Cond.classLink RX3 204 "java/lang/IllegalArgumentException", Cond.initialized "java/lang/IllegalArgumentException", Cond.methodLink RX3 89 yX2_measure, Cond.instanceMethod yX2_measure, Cond.selects RX2 yX2_measure yX2_measure, Cond.initialized RX2, Cond.code yX2_measure cX2_measure 4 none, Cond.fieldLink RX2 23 "FretRoots$FretRow" "length" "J", Cond.fieldLink RX2 29 "FretRoots$FretRow" "whole" "J", Cond.fieldLink RX2 15 "FretRoots$FretRow" "ends" "[J", Cond.constantLong RX2 32 (-1), Cond.methodLink RX2 34 yJ7_fill_d0a16, Cond.static yJ7_fill_d0a16]
def wsX3_scale_r2 : List Cond := [Cond.initialized RJ7, Cond.code yJ7_fill_d0a16 cJ7_fill_d0a16 5 none]
def wsX3_scale : List Cond := .code yX3_scale cX3_scale 4 none :: ((wsX3_scale_r1 ++ wsX3_scale_r2) ++ wsX30 ++ wsX20 ++ (vx_atS RX3 208 "java/lang/IllegalArgumentException" ["java/lang/RuntimeException", "java/lang/Exception"]).filter goodWord)
def wsX3_needPlace : List Cond := .code yX3_needPlace cX3_needPlace 2 none :: ([.fieldLink RX3 53 "FretRoots" "justAbove" "[I", .fieldLink RX3 57 "FretRoots" "justBelow" "[I", .classLink RX3 173 RJx00060, .instantiable RJx00060 6, .initialized RJx00060] ++ wsX30 ++ wsJx000600)
def wsX3_octaveOf : List Cond := .code yX3_octaveOf cX3_octaveOf 2 (some .int) :: ([.fieldLink RX3 42 "FretRoots" "notes" "I"] ++ wsX30)
def wsX3_nextProbe : List Cond := .code yX3_nextProbe cX3_nextProbe 9 (some .long) :: ([.constantLong RX3 231 (2), .methodLink RX3 233 Lib.MathLoose.min_long.x, .static Lib.MathLoose.min_long.x, .initialized "java/lang/Math", .code Lib.MathLoose.min_long.x Lib.MathLoose.min_long.code 4 (some .long), .methodLink RX3 235 Lib.MathLoose.max_long.x, .static Lib.MathLoose.max_long.x, .code Lib.MathLoose.max_long.x Lib.MathLoose.max_long.code 4 (some .long)])
def wsX3_isNotAboveLeft_r1 : List Cond := [Cond.fieldLink RX3 23 "FretRoots" "right" "LFretRoots$BigNumber;", Cond.fieldLink RX3 42 "FretRoots" "notes" "I", Cond.fieldLink RX3 19 "FretRoots" "left" "LFretRoots$BigNumber;", Cond.methodLink RX3 122 yX0_setPower, Cond.instanceMethod yX0_setPower, Cond.selects RX0 yX0_setPower yX0_setPower, Cond.initialized RX0, Cond.code yX0_setPower cX0_setPower 5 none, Cond.fieldLink RX0 13 "FretRoots$BigNumbe\x72" "used" "I", Cond.methodLink RX0 17 yX0_append, Cond.instanceMethod yX0_append, Cond.selects RX0 yX0_append yX0_append, Cond.code yX0_append cX0_append 6 none, Cond.fieldLink RX0 9 "FretRoots$BigNumbe\x72" "digits" "[J", Cond.constantLong RX0 30 (67108863), Cond.methodLink RX0 21 yX0_multiply, Cond.instanceMethod yX0_multiply, Cond.selects RX0 yX0_multiply yX0_multiply, Cond.code yX0_multiply cX0_multiply 8 none, Cond.methodLink RX3 125 yX0_doubleTimes, Cond.instanceMethod yX0_doubleTimes, Cond.selects RX0 yX0_doubleTimes yX0_doubleTimes, Cond.code yX0_doubleTimes cX0_doubleTimes 3 none, Cond.methodLink RX0 24 Lib.Math.min.name]
def wsX3_isNotAboveLeft_r2 : List Cond := [Cond.static Lib.Math.min.name, Cond.initialized "java/lang/Math", Cond.code Lib.Math.min.name Lib.Math.min.code 2 (some .int), Cond.methodLink RX3 128 yX0_compareWith, Cond.instanceMethod yX0_compareWith, Cond.selects RX0 yX0_compareWith yX0_compareWith, Cond.code yX0_compareWith cX0_compareWith 3 (some .int)]
def wsX3_isNotAboveLeft : List Cond := .code yX3_isNotAboveLeft cX3_isNotAboveLeft 4 (some .boolean) :: ((wsX3_isNotAboveLeft_r1 ++ wsX3_isNotAboveLeft_r2) ++ wsX30 ++ wsX00)
def wsX3_greatestEnd_r1 : List Cond := [Cond.fieldLink RX3 49 "FretRoots" "roots" "[D", Cond.fieldLink RX3 19 "FretRoots" "left" "LFretRoots$BigNumber;", Cond.fieldLink RX3 42 "FretRoots" "notes" "I", Cond.methodLink RX3 122 yX0_setPower, Cond.instanceMethod yX0_setPower, Cond.selects RX0 yX0_setPower yX0_setPower, Cond.initialized RX0, Cond.code yX0_setPower cX0_setPower 5 none, Cond.fieldLink RX0 13 "FretRoots$BigNumbe\x72" "used" "I", Cond.methodLink RX0 17 yX0_append, Cond.instanceMethod yX0_append, Cond.selects RX0 yX0_append yX0_append, Cond.code yX0_append cX0_append 6 none, Cond.fieldLink RX0 9 "FretRoots$BigNumbe\x72" "digits" "[J", Cond.constantLong RX0 30 (67108863), Cond.methodLink RX0 21 yX0_multiply, Cond.instanceMethod yX0_multiply, Cond.selects RX0 yX0_multiply yX0_multiply, Cond.code yX0_multiply cX0_multiply 8 none, Cond.methodLink RX3 223 yX3_nextProbe, Cond.static yX3_nextProbe, Cond.initialized RX3, Cond.code yX3_nextProbe cX3_nextProbe 9 (some .long), Cond.constantLong RX3 231 (2)]
def wsX3_greatestEnd_r2 : List Cond := [Cond.methodLink RX3 233 Lib.MathLoose.min_long.x, Cond.static Lib.MathLoose.min_long.x, Cond.initialized "java/lang/Math", Cond.code Lib.MathLoose.min_long.x Lib.MathLoose.min_long.code 4 (some .long), Cond.methodLink RX3 235 Lib.MathLoose.max_long.x, Cond.static Lib.MathLoose.max_long.x, Cond.code Lib.MathLoose.max_long.x Lib.MathLoose.max_long.code 4 (some .long), Cond.methodLink RX3 227 yX3_isNotAboveLeft, Cond.instanceMethod yX3_isNotAboveLeft, Cond.selects RX3 yX3_isNotAboveLeft yX3_isNotAboveLeft, Cond.code yX3_isNotAboveLeft cX3_isNotAboveLeft 4 (some .boolean), Cond.fieldLink RX3 23 "FretRoots" "right" "LFretRoots$BigNumber;", Cond.methodLink RX3 125 yX0_doubleTimes, Cond.instanceMethod yX0_doubleTimes, Cond.selects RX0 yX0_doubleTimes yX0_doubleTimes, Cond.code yX0_doubleTimes cX0_doubleTimes 3 none, Cond.methodLink RX0 24 Lib.Math.min.name, Cond.static Lib.Math.min.name, Cond.code Lib.Math.min.name Lib.Math.min.code 2 (some .int), Cond.methodLink RX3 128 yX0_compareWith, Cond.instanceMethod yX0_compareWith, Cond.selects RX0 yX0_compareWith yX0_compareWith, Cond.code yX0_compareWith cX0_compareWith 3 (some .int)]
def wsX3_greatestEnd : List Cond := .code yX3_greatestEnd cX3_greatestEnd 13 (some .long) :: ((wsX3_greatestEnd_r1 ++ wsX3_greatestEnd_r2) ++ wsX30 ++ wsX00)
def wsX3_lowerEnd_r1 : List Cond := [Cond.fieldLink RX3 42 "FretRoots" "notes" "I", Cond.fieldLink RX3 213 "FretRoots$FretRow" "ends" "[J", Cond.constantLong RX3 217 (-1), Cond.fieldLink RX3 119 "FretRoots$FretRow" "whole" "J", Cond.methodLink RX3 209 yX3_octaveOf, Cond.instanceMethod yX3_octaveOf, Cond.selects RX3 yX3_octaveOf yX3_octaveOf, Cond.initialized RX3, Cond.code yX3_octaveOf cX3_octaveOf 2 (some .int), Cond.methodLink RX3 219 yX3_greatestEnd, Cond.instanceMethod yX3_greatestEnd, Cond.selects RX3 yX3_greatestEnd yX3_greatestEnd, Cond.code yX3_greatestEnd cX3_greatestEnd 13 (some .long), Cond.fieldLink RX3 49 "FretRoots" "roots" "[D", Cond.fieldLink RX3 19 "FretRoots" "left" "LFretRoots$BigNumber;", Cond.methodLink RX3 122 yX0_setPower, Cond.instanceMethod yX0_setPower, Cond.selects RX0 yX0_setPower yX0_setPower, Cond.initialized RX0, Cond.code yX0_setPower cX0_setPower 5 none, Cond.fieldLink RX0 13 "FretRoots$BigNumbe\x72" "used" "I", Cond.methodLink RX0 17 yX0_append, Cond.instanceMethod yX0_append, Cond.selects RX0 yX0_append yX0_append]
def wsX3_lowerEnd_r2 : List Cond := [Cond.code yX0_append cX0_append 6 none, Cond.fieldLink RX0 9 "FretRoots$BigNumbe\x72" "digits" "[J", Cond.constantLong RX0 30 (67108863), Cond.methodLink RX0 21 yX0_multiply, Cond.instanceMethod yX0_multiply, Cond.selects RX0 yX0_multiply yX0_multiply, Cond.code yX0_multiply cX0_multiply 8 none, Cond.methodLink RX3 223 yX3_nextProbe, Cond.static yX3_nextProbe, Cond.code yX3_nextProbe cX3_nextProbe 9 (some .long), Cond.constantLong RX3 231 (2), Cond.methodLink RX3 233 Lib.MathLoose.min_long.x, Cond.static Lib.MathLoose.min_long.x, Cond.initialized "java/lang/Math", Cond.code Lib.MathLoose.min_long.x Lib.MathLoose.min_long.code 4 (some .long), Cond.methodLink RX3 235 Lib.MathLoose.max_long.x, Cond.static Lib.MathLoose.max_long.x, Cond.code Lib.MathLoose.max_long.x Lib.MathLoose.max_long.code 4 (some .long), Cond.methodLink RX3 227 yX3_isNotAboveLeft, Cond.instanceMethod yX3_isNotAboveLeft, Cond.selects RX3 yX3_isNotAboveLeft yX3_isNotAboveLeft, Cond.code yX3_isNotAboveLeft cX3_isNotAboveLeft 4 (some .boolean), Cond.fieldLink RX3 23 "FretRoots" "right" "LFretRoots$BigNumber;", Cond.methodLink RX3 125 yX0_doubleTimes]
def wsX3_lowerEnd_r3 : List Cond := [Cond.instanceMethod yX0_doubleTimes, Cond.selects RX0 yX0_doubleTimes yX0_doubleTimes, Cond.code yX0_doubleTimes cX0_doubleTimes 3 none, Cond.methodLink RX0 24 Lib.Math.min.name, Cond.static Lib.Math.min.name, Cond.code Lib.Math.min.name Lib.Math.min.code 2 (some .int), Cond.methodLink RX3 128 yX0_compareWith, Cond.instanceMethod yX0_compareWith, Cond.selects RX0 yX0_compareWith yX0_compareWith, Cond.code yX0_compareWith cX0_compareWith 3 (some .int)]
def wsX3_lowerEnd : List Cond := .code yX3_lowerEnd cX3_lowerEnd 5 (some .long) :: ((wsX3_lowerEnd_r1 ++ (wsX3_lowerEnd_r2 ++ wsX3_lowerEnd_r3)) ++ wsX30 ++ wsX20 ++ wsX00)
def wsX3_endsMeet : List Cond := .code yX3_endsMeet cX3_endsMeet 5 (some .boolean) :: ([.fieldLink RX3 42 "FretRoots" "notes" "I", .fieldLink RX3 71 "FretRoots" "scaleRow" "LFretRoots$FretRow;", .fieldLink RX3 119 "FretRoots$FretRow" "whole" "J", .methodLink RX3 209 yX3_octaveOf, .instanceMethod yX3_octaveOf, .selects RX3 yX3_octaveOf yX3_octaveOf, .initialized RX3, .code yX3_octaveOf cX3_octaveOf 2 (some .int)] ++ wsX30 ++ wsX20)
def wsX3_fret_r1 : List Cond := [Cond.fieldLink RX3 71 "FretRoots" "scaleRow" "LFretRoots$FretRow;", Cond.methodLink RX3 97 yX3_needPlace, Cond.instanceMethod yX3_needPlace, Cond.selects RX3 yX3_needPlace yX3_needPlace, Cond.initialized RX3, Cond.code yX3_needPlace cX3_needPlace 2 none, Cond.fieldLink RX3 53 "FretRoots" "justAbove" "[I", Cond.fieldLink RX3 57 "FretRoots" "justBelow" "[I", Cond.classLink RX3 173 RJx00060, Cond.instantiable RJx00060 6, Cond.initialized RJx00060, Cond.methodLink RX3 100 yX3_lowerEnd, Cond.instanceMethod yX3_lowerEnd, Cond.selects RX3 yX3_lowerEnd yX3_lowerEnd, Cond.code yX3_lowerEnd cX3_lowerEnd 5 (some .long), Cond.fieldLink RX3 42 "FretRoots" "notes" "I", Cond.fieldLink RX3 213 "FretRoots$FretRow" "ends" "[J", Cond.constantLong RX3 217 (-1), Cond.fieldLink RX3 119 "FretRoots$FretRow" "whole" "J", Cond.methodLink RX3 209 yX3_octaveOf, Cond.instanceMethod yX3_octaveOf, Cond.selects RX3 yX3_octaveOf yX3_octaveOf, Cond.code yX3_octaveOf cX3_octaveOf 2 (some .int), Cond.methodLink RX3 219 yX3_greatestEnd]
def wsX3_fret_r2 : List Cond := [Cond.instanceMethod yX3_greatestEnd, Cond.selects RX3 yX3_greatestEnd yX3_greatestEnd, Cond.code yX3_greatestEnd cX3_greatestEnd 13 (some .long), Cond.fieldLink RX3 49 "FretRoots" "roots" "[D", Cond.fieldLink RX3 19 "FretRoots" "left" "LFretRoots$BigNumber;", Cond.methodLink RX3 122 yX0_setPower, Cond.instanceMethod yX0_setPower, Cond.selects RX0 yX0_setPower yX0_setPower, Cond.initialized RX0, Cond.code yX0_setPower cX0_setPower 5 none, Cond.fieldLink RX0 13 "FretRoots$BigNumbe\x72" "used" "I", Cond.methodLink RX0 17 yX0_append, Cond.instanceMethod yX0_append, Cond.selects RX0 yX0_append yX0_append, Cond.code yX0_append cX0_append 6 none, Cond.fieldLink RX0 9 "FretRoots$BigNumbe\x72" "digits" "[J", Cond.constantLong RX0 30 (67108863), Cond.methodLink RX0 21 yX0_multiply, Cond.instanceMethod yX0_multiply, Cond.selects RX0 yX0_multiply yX0_multiply, Cond.code yX0_multiply cX0_multiply 8 none, Cond.methodLink RX3 223 yX3_nextProbe, Cond.static yX3_nextProbe, Cond.code yX3_nextProbe cX3_nextProbe 9 (some .long)]
def wsX3_fret_r3 : List Cond := [Cond.constantLong RX3 231 (2), Cond.methodLink RX3 233 Lib.MathLoose.min_long.x, Cond.static Lib.MathLoose.min_long.x, Cond.initialized "java/lang/Math", Cond.code Lib.MathLoose.min_long.x Lib.MathLoose.min_long.code 4 (some .long), Cond.methodLink RX3 235 Lib.MathLoose.max_long.x, Cond.static Lib.MathLoose.max_long.x, Cond.code Lib.MathLoose.max_long.x Lib.MathLoose.max_long.code 4 (some .long), Cond.methodLink RX3 227 yX3_isNotAboveLeft, Cond.instanceMethod yX3_isNotAboveLeft, Cond.selects RX3 yX3_isNotAboveLeft yX3_isNotAboveLeft, Cond.code yX3_isNotAboveLeft cX3_isNotAboveLeft 4 (some .boolean), Cond.fieldLink RX3 23 "FretRoots" "right" "LFretRoots$BigNumber;", Cond.methodLink RX3 125 yX0_doubleTimes, Cond.instanceMethod yX0_doubleTimes, Cond.selects RX0 yX0_doubleTimes yX0_doubleTimes, Cond.code yX0_doubleTimes cX0_doubleTimes 3 none, Cond.methodLink RX0 24 Lib.Math.min.name, Cond.static Lib.Math.min.name, Cond.code Lib.Math.min.name Lib.Math.min.code 2 (some .int), Cond.methodLink RX3 128 yX0_compareWith, Cond.instanceMethod yX0_compareWith, Cond.selects RX0 yX0_compareWith yX0_compareWith, Cond.code yX0_compareWith cX0_compareWith 3 (some .int)]
def wsX3_fret_r4 : List Cond := [Cond.methodLink RX3 104 yX3_endsMeet, Cond.instanceMethod yX3_endsMeet, Cond.selects RX3 yX3_endsMeet yX3_endsMeet, Cond.code yX3_endsMeet cX3_endsMeet 5 (some .boolean)]
def wsX3_fret : List Cond := .code yX3_fret cX3_fret 5 (some .long) :: ((wsX3_fret_r1 ++ (wsX3_fret_r2 ++ (wsX3_fret_r3 ++ wsX3_fret_r4))) ++ wsX30 ++ wsJx000600 ++ wsX20 ++ wsX00)
def wsX3_exact_r1 : List Cond := [Cond.fieldLink RX3 71 "FretRoots" "scaleRow" "LFretRoots$FretRow;", Cond.methodLink RX3 97 yX3_needPlace, Cond.instanceMethod yX3_needPlace, Cond.selects RX3 yX3_needPlace yX3_needPlace, Cond.initialized RX3, Cond.code yX3_needPlace cX3_needPlace 2 none, Cond.fieldLink RX3 53 "FretRoots" "justAbove" "[I", Cond.fieldLink RX3 57 "FretRoots" "justBelow" "[I", Cond.classLink RX3 173 RJx00060, Cond.instantiable RJx00060 6, Cond.initialized RJx00060, Cond.methodLink RX3 100 yX3_lowerEnd, Cond.instanceMethod yX3_lowerEnd, Cond.selects RX3 yX3_lowerEnd yX3_lowerEnd, Cond.code yX3_lowerEnd cX3_lowerEnd 5 (some .long), Cond.fieldLink RX3 42 "FretRoots" "notes" "I", Cond.fieldLink RX3 213 "FretRoots$FretRow" "ends" "[J", Cond.constantLong RX3 217 (-1), Cond.fieldLink RX3 119 "FretRoots$FretRow" "whole" "J", Cond.methodLink RX3 209 yX3_octaveOf, Cond.instanceMethod yX3_octaveOf, Cond.selects RX3 yX3_octaveOf yX3_octaveOf, Cond.code yX3_octaveOf cX3_octaveOf 2 (some .int), Cond.methodLink RX3 219 yX3_greatestEnd]
def wsX3_exact_r2 : List Cond := [Cond.instanceMethod yX3_greatestEnd, Cond.selects RX3 yX3_greatestEnd yX3_greatestEnd, Cond.code yX3_greatestEnd cX3_greatestEnd 13 (some .long), Cond.fieldLink RX3 49 "FretRoots" "roots" "[D", Cond.fieldLink RX3 19 "FretRoots" "left" "LFretRoots$BigNumber;", Cond.methodLink RX3 122 yX0_setPower, Cond.instanceMethod yX0_setPower, Cond.selects RX0 yX0_setPower yX0_setPower, Cond.initialized RX0, Cond.code yX0_setPower cX0_setPower 5 none, Cond.fieldLink RX0 13 "FretRoots$BigNumbe\x72" "used" "I", Cond.methodLink RX0 17 yX0_append, Cond.instanceMethod yX0_append, Cond.selects RX0 yX0_append yX0_append, Cond.code yX0_append cX0_append 6 none, Cond.fieldLink RX0 9 "FretRoots$BigNumbe\x72" "digits" "[J", Cond.constantLong RX0 30 (67108863), Cond.methodLink RX0 21 yX0_multiply, Cond.instanceMethod yX0_multiply, Cond.selects RX0 yX0_multiply yX0_multiply, Cond.code yX0_multiply cX0_multiply 8 none, Cond.methodLink RX3 223 yX3_nextProbe, Cond.static yX3_nextProbe, Cond.code yX3_nextProbe cX3_nextProbe 9 (some .long)]
def wsX3_exact_r3 : List Cond := [Cond.constantLong RX3 231 (2), Cond.methodLink RX3 233 Lib.MathLoose.min_long.x, Cond.static Lib.MathLoose.min_long.x, Cond.initialized "java/lang/Math", Cond.code Lib.MathLoose.min_long.x Lib.MathLoose.min_long.code 4 (some .long), Cond.methodLink RX3 235 Lib.MathLoose.max_long.x, Cond.static Lib.MathLoose.max_long.x, Cond.code Lib.MathLoose.max_long.x Lib.MathLoose.max_long.code 4 (some .long), Cond.methodLink RX3 227 yX3_isNotAboveLeft, Cond.instanceMethod yX3_isNotAboveLeft, Cond.selects RX3 yX3_isNotAboveLeft yX3_isNotAboveLeft, Cond.code yX3_isNotAboveLeft cX3_isNotAboveLeft 4 (some .boolean), Cond.fieldLink RX3 23 "FretRoots" "right" "LFretRoots$BigNumber;", Cond.methodLink RX3 125 yX0_doubleTimes, Cond.instanceMethod yX0_doubleTimes, Cond.selects RX0 yX0_doubleTimes yX0_doubleTimes, Cond.code yX0_doubleTimes cX0_doubleTimes 3 none, Cond.methodLink RX0 24 Lib.Math.min.name, Cond.static Lib.Math.min.name, Cond.code Lib.Math.min.name Lib.Math.min.code 2 (some .int), Cond.methodLink RX3 128 yX0_compareWith, Cond.instanceMethod yX0_compareWith, Cond.selects RX0 yX0_compareWith yX0_compareWith, Cond.code yX0_compareWith cX0_compareWith 3 (some .int)]
def wsX3_exact_r4 : List Cond := [Cond.methodLink RX3 104 yX3_endsMeet, Cond.instanceMethod yX3_endsMeet, Cond.selects RX3 yX3_endsMeet yX3_endsMeet, Cond.code yX3_endsMeet cX3_endsMeet 5 (some .boolean)]
def wsX3_exact : List Cond := .code yX3_exact cX3_exact 2 (some .boolean) :: ((wsX3_exact_r1 ++ (wsX3_exact_r2 ++ (wsX3_exact_r3 ++ wsX3_exact_r4))) ++ wsX30 ++ wsJx000600 ++ wsX20 ++ wsX00)
def wsX3_just : List Cond := .code yX3_just cX3_just 6 none :: ([.constantLong RX3 81 (1000000), .fieldLink RX3 53 "FretRoots" "justAbove" "[I", .fieldLink RX3 57 "FretRoots" "justBelow" "[I", .methodLink RX3 97 yX3_needPlace, .instanceMethod yX3_needPlace, .selects RX3 yX3_needPlace yX3_needPlace, .initialized RX3, .code yX3_needPlace cX3_needPlace 2 none, .classLink RX3 173 RJx00060, .instantiable RJx00060 6, .initialized RJx00060, .methodLink RX3 83 yX3_needWithin, .static yX3_needWithin, .code yX3_needWithin cX3_needWithin 6 none, .classLink RX3 204 "java/lang/IllegalArgumentException", .initialized "java/lang/IllegalArgumentException", .methodLink RX3 108 yX3_commonDivisor, .static yX3_commonDivisor, .code yX3_commonDivisor cX3_commonDivisor 11 (some .long), .methodLink RX3 112 yX3_quotient, .static yX3_quotient, .code yX3_quotient cX3_quotient 4 (some .long)] ++ wsX30 ++ wsJx000600 ++ (vx_atS RX3 208 "java/lang/IllegalArgumentException" ["java/lang/RuntimeException", "java/lang/Exception"]).filter goodWord)
def wsX3_needPart : List Cond := .code yX3_needPart cX3_needPart 2 none :: ([.classLink RX3 173 RJx00060, .instantiable RJx00060 6, .initialized RJx00060] ++ wsJx000600)
def wsX3_justAt : List Cond := .code yX3_justAt cX3_justAt 3 (some .int) :: ([.fieldLink RX3 53 "FretRoots" "justAbove" "[I", .fieldLink RX3 57 "FretRoots" "justBelow" "[I", .methodLink RX3 97 yX3_needPlace, .instanceMethod yX3_needPlace, .selects RX3 yX3_needPlace yX3_needPlace, .initialized RX3, .code yX3_needPlace cX3_needPlace 2 none, .classLink RX3 173 RJx00060, .instantiable RJx00060 6, .initialized RJx00060, .methodLink RX3 115 yX3_needPart, .static yX3_needPart, .code yX3_needPart cX3_needPart 2 none] ++ wsX30 ++ wsJx000600)
def wsX3_leaves : List Cond := .code yX3_leaves cX3_leaves 2 (some .long) :: ([.fieldLink RX3 71 "FretRoots" "scaleRow" "LFretRoots$FretRow;", .fieldLink RX3 119 "FretRoots$FretRow" "whole" "J", .fieldLink RX3 57 "FretRoots" "justBelow" "[I", .fieldLink RX3 53 "FretRoots" "justAbove" "[I", .methodLink RX3 97 yX3_needPlace, .instanceMethod yX3_needPlace, .selects RX3 yX3_needPlace yX3_needPlace, .initialized RX3, .code yX3_needPlace cX3_needPlace 2 none, .classLink RX3 173 RJx00060, .instantiable RJx00060 6, .initialized RJx00060, .methodLink RX3 112 yX3_quotient, .static yX3_quotient, .code yX3_quotient cX3_quotient 4 (some .long)] ++ wsX30 ++ wsX20 ++ wsJx000600)
def wsX3_beside_r1 : List Cond := [Cond.fieldLink RX3 19 "FretRoots" "left" "LFretRoots$BigNumber;", Cond.fieldLink RX3 53 "FretRoots" "justAbove" "[I", Cond.fieldLink RX3 42 "FretRoots" "notes" "I", Cond.fieldLink RX3 23 "FretRoots" "right" "LFretRoots$BigNumber;", Cond.fieldLink RX3 57 "FretRoots" "justBelow" "[I", Cond.methodLink RX3 97 yX3_needPlace, Cond.instanceMethod yX3_needPlace, Cond.selects RX3 yX3_needPlace yX3_needPlace, Cond.initialized RX3, Cond.code yX3_needPlace cX3_needPlace 2 none, Cond.classLink RX3 173 RJx00060, Cond.instantiable RJx00060 6, Cond.initialized RJx00060, Cond.methodLink RX3 122 yX0_setPower, Cond.instanceMethod yX0_setPower, Cond.selects RX0 yX0_setPower yX0_setPower, Cond.initialized RX0, Cond.code yX0_setPower cX0_setPower 5 none, Cond.fieldLink RX0 13 "FretRoots$BigNumbe\x72" "used" "I", Cond.methodLink RX0 17 yX0_append, Cond.instanceMethod yX0_append, Cond.selects RX0 yX0_append yX0_append, Cond.code yX0_append cX0_append 6 none, Cond.fieldLink RX0 9 "FretRoots$BigNumbe\x72" "digits" "[J"]
def wsX3_beside_r2 : List Cond := [Cond.constantLong RX0 30 (67108863), Cond.methodLink RX0 21 yX0_multiply, Cond.instanceMethod yX0_multiply, Cond.selects RX0 yX0_multiply yX0_multiply, Cond.code yX0_multiply cX0_multiply 8 none, Cond.methodLink RX3 125 yX0_doubleTimes, Cond.instanceMethod yX0_doubleTimes, Cond.selects RX0 yX0_doubleTimes yX0_doubleTimes, Cond.code yX0_doubleTimes cX0_doubleTimes 3 none, Cond.methodLink RX0 24 Lib.Math.min.name, Cond.static Lib.Math.min.name, Cond.initialized "java/lang/Math", Cond.code Lib.Math.min.name Lib.Math.min.code 2 (some .int), Cond.methodLink RX3 128 yX0_compareWith, Cond.instanceMethod yX0_compareWith, Cond.selects RX0 yX0_compareWith yX0_compareWith, Cond.code yX0_compareWith cX0_compareWith 3 (some .int)]
def wsX3_beside : List Cond := .code yX3_beside cX3_beside 2 (some .int) :: ((wsX3_beside_r1 ++ wsX3_beside_r2) ++ wsX30 ++ wsJx000600 ++ wsX00)
def wsX3_lastNotAbove_r1 : List Cond := [Cond.fieldLink RX3 19 "FretRoots" "left" "LFretRoots$BigNumber;", Cond.fieldLink RX3 42 "FretRoots" "notes" "I", Cond.fieldLink RX3 23 "FretRoots" "right" "LFretRoots$BigNumber;", Cond.methodLink RX3 122 yX0_setPower, Cond.instanceMethod yX0_setPower, Cond.selects RX0 yX0_setPower yX0_setPower, Cond.initialized RX0, Cond.code yX0_setPower cX0_setPower 5 none, Cond.fieldLink RX0 13 "FretRoots$BigNumbe\x72" "used" "I", Cond.methodLink RX0 17 yX0_append, Cond.instanceMethod yX0_append, Cond.selects RX0 yX0_append yX0_append, Cond.code yX0_append cX0_append 6 none, Cond.fieldLink RX0 9 "FretRoots$BigNumbe\x72" "digits" "[J", Cond.constantLong RX0 30 (67108863), Cond.methodLink RX0 21 yX0_multiply, Cond.instanceMethod yX0_multiply, Cond.selects RX0 yX0_multiply yX0_multiply, Cond.code yX0_multiply cX0_multiply 8 none, Cond.methodLink RX3 125 yX0_doubleTimes, Cond.instanceMethod yX0_doubleTimes, Cond.selects RX0 yX0_doubleTimes yX0_doubleTimes, Cond.code yX0_doubleTimes cX0_doubleTimes 3 none, Cond.methodLink RX0 24 Lib.Math.min.name]
def wsX3_lastNotAbove_r2 : List Cond := [Cond.static Lib.Math.min.name, Cond.initialized "java/lang/Math", Cond.code Lib.Math.min.name Lib.Math.min.code 2 (some .int), Cond.methodLink RX3 128 yX0_compareWith, Cond.instanceMethod yX0_compareWith, Cond.selects RX0 yX0_compareWith yX0_compareWith, Cond.code yX0_compareWith cX0_compareWith 3 (some .int)]
def wsX3_lastNotAbove : List Cond := .code yX3_lastNotAbove cX3_lastNotAbove 4 (some .int) :: ((wsX3_lastNotAbove_r1 ++ wsX3_lastNotAbove_r2) ++ wsX30 ++ wsX00)
def wsX3_isPastMiddle_r1 : List Cond := [Cond.fieldLink RX3 19 "FretRoots" "left" "LFretRoots$BigNumber;", Cond.fieldLink RX3 42 "FretRoots" "notes" "I", Cond.fieldLink RX3 23 "FretRoots" "right" "LFretRoots$BigNumber;", Cond.methodLink RX3 122 yX0_setPower, Cond.instanceMethod yX0_setPower, Cond.selects RX0 yX0_setPower yX0_setPower, Cond.initialized RX0, Cond.code yX0_setPower cX0_setPower 5 none, Cond.fieldLink RX0 13 "FretRoots$BigNumbe\x72" "used" "I", Cond.methodLink RX0 17 yX0_append, Cond.instanceMethod yX0_append, Cond.selects RX0 yX0_append yX0_append, Cond.code yX0_append cX0_append 6 none, Cond.fieldLink RX0 9 "FretRoots$BigNumbe\x72" "digits" "[J", Cond.constantLong RX0 30 (67108863), Cond.methodLink RX0 21 yX0_multiply, Cond.instanceMethod yX0_multiply, Cond.selects RX0 yX0_multiply yX0_multiply, Cond.code yX0_multiply cX0_multiply 8 none, Cond.methodLink RX3 125 yX0_doubleTimes, Cond.instanceMethod yX0_doubleTimes, Cond.selects RX0 yX0_doubleTimes yX0_doubleTimes, Cond.code yX0_doubleTimes cX0_doubleTimes 3 none, Cond.methodLink RX0 24 Lib.Math.min.name]
def wsX3_isPastMiddle_r2 : List Cond := [Cond.static Lib.Math.min.name, Cond.initialized "java/lang/Math", Cond.code Lib.Math.min.name Lib.Math.min.code 2 (some .int), Cond.methodLink RX3 128 yX0_compareWith, Cond.instanceMethod yX0_compareWith, Cond.selects RX0 yX0_compareWith yX0_compareWith, Cond.code yX0_compareWith cX0_compareWith 3 (some .int)]
def wsX3_isPastMiddle : List Cond := .code yX3_isPastMiddle cX3_isPastMiddle 4 (some .boolean) :: ((wsX3_isPastMiddle_r1 ++ wsX3_isPastMiddle_r2) ++ wsX30 ++ wsX00)
def wsX3_nearest_r1 : List Cond := [Cond.constantLong RX3 81 (1000000), Cond.fieldLink RX3 42 "FretRoots" "notes" "I", Cond.methodLink RX3 83 yX3_needWithin, Cond.static yX3_needWithin, Cond.initialized RX3, Cond.code yX3_needWithin cX3_needWithin 6 none, Cond.classLink RX3 204 "java/lang/IllegalArgumentException", Cond.initialized "java/lang/IllegalArgumentException", Cond.methodLink RX3 132 yX3_lastNotAbove, Cond.instanceMethod yX3_lastNotAbove, Cond.selects RX3 yX3_lastNotAbove yX3_lastNotAbove, Cond.code yX3_lastNotAbove cX3_lastNotAbove 4 (some .int), Cond.fieldLink RX3 19 "FretRoots" "left" "LFretRoots$BigNumber;", Cond.fieldLink RX3 23 "FretRoots" "right" "LFretRoots$BigNumber;", Cond.methodLink RX3 122 yX0_setPower, Cond.instanceMethod yX0_setPower, Cond.selects RX0 yX0_setPower yX0_setPower, Cond.initialized RX0, Cond.code yX0_setPower cX0_setPower 5 none, Cond.fieldLink RX0 13 "FretRoots$BigNumbe\x72" "used" "I", Cond.methodLink RX0 17 yX0_append, Cond.instanceMethod yX0_append, Cond.selects RX0 yX0_append yX0_append, Cond.code yX0_append cX0_append 6 none]
def wsX3_nearest_r2 : List Cond := [Cond.fieldLink RX0 9 "FretRoots$BigNumbe\x72" "digits" "[J", Cond.constantLong RX0 30 (67108863), Cond.methodLink RX0 21 yX0_multiply, Cond.instanceMethod yX0_multiply, Cond.selects RX0 yX0_multiply yX0_multiply, Cond.code yX0_multiply cX0_multiply 8 none, Cond.methodLink RX3 125 yX0_doubleTimes, Cond.instanceMethod yX0_doubleTimes, Cond.selects RX0 yX0_doubleTimes yX0_doubleTimes, Cond.code yX0_doubleTimes cX0_doubleTimes 3 none, Cond.methodLink RX0 24 Lib.Math.min.name, Cond.static Lib.Math.min.name, Cond.initialized "java/lang/Math", Cond.code Lib.Math.min.name Lib.Math.min.code 2 (some .int), Cond.methodLink RX3 128 yX0_compareWith, Cond.instanceMethod yX0_compareWith, Cond.selects RX0 yX0_compareWith yX0_compareWith, Cond.code yX0_compareWith cX0_compareWith 3 (some .int), Cond.methodLink RX3 135 yX3_isPastMiddle, Cond.instanceMethod yX3_isPastMiddle, Cond.selects RX3 yX3_isPastMiddle yX3_isPastMiddle, Cond.code yX3_isPastMiddle cX3_isPastMiddle 4 (some .boolean)]
def wsX3_nearest : List Cond := .code yX3_nearest cX3_nearest 4 (some .int) :: ((wsX3_nearest_r1 ++ wsX3_nearest_r2) ++ wsX30 ++ wsX00 ++ (vx_atS RX3 208 "java/lang/IllegalArgumentException" ["java/lang/RuntimeException", "java/lang/Exception"]).filter goodWord)
def wsX3_step_r1 : List Cond := [Cond.constantLong RX3 81 (1000000), Cond.fieldLink RX3 10 "FretRoots" "chain" "LFretRoots$Chain;", Cond.methodLink RX3 83 yX3_needWithin, Cond.static yX3_needWithin, Cond.initialized RX3, Cond.code yX3_needWithin cX3_needWithin 6 none, Cond.classLink RX3 204 "java/lang/IllegalArgumentException", Cond.initialized "java/lang/IllegalArgumentException", Cond.methodLink RX3 108 yX3_commonDivisor, Cond.static yX3_commonDivisor, Cond.code yX3_commonDivisor cX3_commonDivisor 11 (some .long), Cond.methodLink RX3 112 yX3_quotient, Cond.static yX3_quotient, Cond.code yX3_quotient cX3_quotient 4 (some .long), Cond.methodLink RX3 139 yX1_advance, Cond.instanceMethod yX1_advance, Cond.selects RX1 yX1_advance yX1_advance, Cond.initialized RX1, Cond.code yX1_advance cX1_advance 22 (some .boolean), Cond.fieldLink RX1 9 "FretRoots$Chain" "above" "J", Cond.fieldLink RX1 15 "FretRoots$Chain" "below" "J", Cond.constantLong RX1 42 (-1), Cond.methodLink RX1 31 yX1_twosIn, Cond.static yX1_twosIn]
def wsX3_step_r2 : List Cond := [Cond.code yX1_twosIn cX1_twosIn 4 (some .int), Cond.methodLink RX1 35 yX1_oddPart, Cond.static yX1_oddPart, Cond.code yX1_oddPart cX1_oddPart 2 (some .long), Cond.methodLink RX1 39 yX1_productOrNone, Cond.static yX1_productOrNone, Cond.code yX1_productOrNone cX1_productOrNone 4 (some .long), Cond.constantLong RX1 50 (1000000000000000), Cond.methodLink RX1 44 yX1_settle, Cond.instanceMethod yX1_settle, Cond.selects RX1 yX1_settle yX1_settle, Cond.code yX1_settle cX1_settle 12 (some .boolean), Cond.constantLong RX1 48 (2), Cond.fieldLink RX1 18 "FretRoots$Chain" "octaves" "J", Cond.fieldLink RX1 21 "FretRoots$Chain" "steps" "J"]
def wsX3_step : List Cond := .code yX3_step cX3_step 5 (some .boolean) :: ((wsX3_step_r1 ++ wsX3_step_r2) ++ wsX30 ++ wsX10 ++ (vx_atS RX3 208 "java/lang/IllegalArgumentException" ["java/lang/RuntimeException", "java/lang/Exception"]).filter goodWord)
def wsX3_clear : List Cond := .code yX3_clear cX3_clear 1 none :: ([.fieldLink RX3 10 "FretRoots" "chain" "LFretRoots$Chain;", .methodLink RX3 143 yX1_restart, .instanceMethod yX1_restart, .selects RX1 yX1_restart yX1_restart, .initialized RX1, .code yX1_restart cX1_restart 1 none, .fieldLink RX1 9 "FretRoots$Chain" "above" "J", .fieldLink RX1 15 "FretRoots$Chain" "below" "J", .fieldLink RX1 18 "FretRoots$Chain" "octaves" "J", .fieldLink RX1 21 "FretRoots$Chain" "steps" "J"] ++ wsX30 ++ wsX10)
def wsX3_rest : List Cond := .code yX3_rest cX3_rest 2 (some .long) :: ([.fieldLink RX3 10 "FretRoots" "chain" "LFretRoots$Chain;", .fieldLink RX3 146 "FretRoots$Chain" "above" "J", .fieldLink RX3 149 "FretRoots$Chain" "below" "J", .fieldLink RX3 152 "FretRoots$Chain" "octaves" "J", .fieldLink RX3 155 "FretRoots$Chain" "steps" "J", .methodLink RX3 115 yX3_needPart, .static yX3_needPart, .initialized RX3, .code yX3_needPart cX3_needPart 2 none, .classLink RX3 173 RJx00060, .instantiable RJx00060 6, .initialized RJx00060] ++ wsX30 ++ wsX10 ++ wsJx000600)
def wsX3_beat_r1 : List Cond := [Cond.constantLong RX3 158 (100000), Cond.fieldLink RX3 53 "FretRoots" "justAbove" "[I", Cond.fieldLink RX3 57 "FretRoots" "justBelow" "[I", Cond.methodLink RX3 97 yX3_needPlace, Cond.instanceMethod yX3_needPlace, Cond.selects RX3 yX3_needPlace yX3_needPlace, Cond.initialized RX3, Cond.code yX3_needPlace cX3_needPlace 2 none, Cond.classLink RX3 173 RJx00060, Cond.instantiable RJx00060 6, Cond.initialized RJx00060, Cond.methodLink RX3 115 yX3_needPart, Cond.static yX3_needPart, Cond.code yX3_needPart cX3_needPart 2 none, Cond.methodLink RX3 83 yX3_needWithin, Cond.static yX3_needWithin, Cond.code yX3_needWithin cX3_needWithin 6 none, Cond.classLink RX3 204 "java/lang/IllegalArgumentException", Cond.initialized "java/lang/IllegalArgumentException", Cond.methodLink RX3 108 yX3_commonDivisor, Cond.static yX3_commonDivisor, Cond.code yX3_commonDivisor cX3_commonDivisor 11 (some .long), Cond.methodLink RX3 112 yX3_quotient, Cond.static yX3_quotient]
def wsX3_beat_r2 : List Cond := [Cond.code yX3_quotient cX3_quotient 4 (some .long)]
def wsX3_beat : List Cond := .code yX3_beat cX3_beat 11 (some .long) :: ((wsX3_beat_r1 ++ wsX3_beat_r2) ++ wsX30 ++ wsJx000600 ++ (vx_atS RX3 208 "java/lang/IllegalArgumentException" ["java/lang/RuntimeException", "java/lang/Exception"]).filter goodWord)
def wsX3_fan_r1 : List Cond := [Cond.constantLong RX3 81 (1000000), Cond.constantLong RX3 160 (1000), Cond.fieldLink RX3 30 "FretRoots" "span" "I", Cond.fieldLink RX3 75 "FretRoots" "bassRow" "LFretRoots$FretRow;", Cond.fieldLink RX3 26 "FretRoots" "shift" "I", Cond.fieldLink RX3 78 "FretRoots" "trebleRow" "LFretRoots$FretRow;", Cond.methodLink RX3 83 yX3_needWithin, Cond.static yX3_needWithin, Cond.initialized RX3, Cond.code yX3_needWithin cX3_needWithin 6 none, Cond.classLink RX3 204 "java/lang/IllegalArgumentException", Cond.initialized "java/lang/IllegalArgumentException", Cond.methodLink RX3 89 yX2_measure, Cond.instanceMethod yX2_measure, Cond.selects RX2 yX2_measure yX2_measure, Cond.initialized RX2, Cond.code yX2_measure cX2_measure 4 none, Cond.fieldLink RX2 23 "FretRoots$FretRow" "length" "J", Cond.fieldLink RX2 29 "FretRoots$FretRow" "whole" "J", Cond.fieldLink RX2 15 "FretRoots$FretRow" "ends" "[J", Cond.constantLong RX2 32 (-1), Cond.methodLink RX2 34 yJ7_fill_d0a16, Cond.static yJ7_fill_d0a16, Cond.initialized RJ7]
def wsX3_fan_r2 : List Cond := [Cond.code yJ7_fill_d0a16 cJ7_fill_d0a16 5 none]
def wsX3_fan : List Cond := .code yX3_fan cX3_fan 4 none :: ((wsX3_fan_r1 ++ wsX3_fan_r2) ++ wsX30 ++ wsX20 ++ (vx_atS RX3 208 "java/lang/IllegalArgumentException" ["java/lang/RuntimeException", "java/lang/Exception"]).filter goodWord)
def wsX3_cross_r1 : List Cond := [Cond.fieldLink RX3 30 "FretRoots" "span" "I", Cond.fieldLink RX3 75 "FretRoots" "bassRow" "LFretRoots$FretRow;", Cond.fieldLink RX3 78 "FretRoots" "trebleRow" "LFretRoots$FretRow;", Cond.methodLink RX3 97 yX3_needPlace, Cond.instanceMethod yX3_needPlace, Cond.selects RX3 yX3_needPlace yX3_needPlace, Cond.initialized RX3, Cond.code yX3_needPlace cX3_needPlace 2 none, Cond.fieldLink RX3 53 "FretRoots" "justAbove" "[I", Cond.fieldLink RX3 57 "FretRoots" "justBelow" "[I", Cond.classLink RX3 173 RJx00060, Cond.instantiable RJx00060 6, Cond.initialized RJx00060, Cond.methodLink RX3 115 yX3_needPart, Cond.static yX3_needPart, Cond.code yX3_needPart cX3_needPart 2 none, Cond.methodLink RX3 83 yX3_needWithin, Cond.static yX3_needWithin, Cond.code yX3_needWithin cX3_needWithin 6 none, Cond.classLink RX3 204 "java/lang/IllegalArgumentException", Cond.initialized "java/lang/IllegalArgumentException", Cond.methodLink RX3 100 yX3_lowerEnd, Cond.instanceMethod yX3_lowerEnd, Cond.selects RX3 yX3_lowerEnd yX3_lowerEnd]
def wsX3_cross_r2 : List Cond := [Cond.code yX3_lowerEnd cX3_lowerEnd 5 (some .long), Cond.fieldLink RX3 42 "FretRoots" "notes" "I", Cond.fieldLink RX3 213 "FretRoots$FretRow" "ends" "[J", Cond.constantLong RX3 217 (-1), Cond.fieldLink RX3 119 "FretRoots$FretRow" "whole" "J", Cond.methodLink RX3 209 yX3_octaveOf, Cond.instanceMethod yX3_octaveOf, Cond.selects RX3 yX3_octaveOf yX3_octaveOf, Cond.code yX3_octaveOf cX3_octaveOf 2 (some .int), Cond.methodLink RX3 219 yX3_greatestEnd, Cond.instanceMethod yX3_greatestEnd, Cond.selects RX3 yX3_greatestEnd yX3_greatestEnd, Cond.code yX3_greatestEnd cX3_greatestEnd 13 (some .long), Cond.fieldLink RX3 49 "FretRoots" "roots" "[D", Cond.fieldLink RX3 19 "FretRoots" "left" "LFretRoots$BigNumber;", Cond.methodLink RX3 122 yX0_setPower, Cond.instanceMethod yX0_setPower, Cond.selects RX0 yX0_setPower yX0_setPower, Cond.initialized RX0, Cond.code yX0_setPower cX0_setPower 5 none, Cond.fieldLink RX0 13 "FretRoots$BigNumbe\x72" "used" "I", Cond.methodLink RX0 17 yX0_append, Cond.instanceMethod yX0_append, Cond.selects RX0 yX0_append yX0_append]
def wsX3_cross_r3 : List Cond := [Cond.code yX0_append cX0_append 6 none, Cond.fieldLink RX0 9 "FretRoots$BigNumbe\x72" "digits" "[J", Cond.constantLong RX0 30 (67108863), Cond.methodLink RX0 21 yX0_multiply, Cond.instanceMethod yX0_multiply, Cond.selects RX0 yX0_multiply yX0_multiply, Cond.code yX0_multiply cX0_multiply 8 none, Cond.methodLink RX3 223 yX3_nextProbe, Cond.static yX3_nextProbe, Cond.code yX3_nextProbe cX3_nextProbe 9 (some .long), Cond.constantLong RX3 231 (2), Cond.methodLink RX3 233 Lib.MathLoose.min_long.x, Cond.static Lib.MathLoose.min_long.x, Cond.initialized "java/lang/Math", Cond.code Lib.MathLoose.min_long.x Lib.MathLoose.min_long.code 4 (some .long), Cond.methodLink RX3 235 Lib.MathLoose.max_long.x, Cond.static Lib.MathLoose.max_long.x, Cond.code Lib.MathLoose.max_long.x Lib.MathLoose.max_long.code 4 (some .long), Cond.methodLink RX3 227 yX3_isNotAboveLeft, Cond.instanceMethod yX3_isNotAboveLeft, Cond.selects RX3 yX3_isNotAboveLeft yX3_isNotAboveLeft, Cond.code yX3_isNotAboveLeft cX3_isNotAboveLeft 4 (some .boolean), Cond.fieldLink RX3 23 "FretRoots" "right" "LFretRoots$BigNumber;", Cond.methodLink RX3 125 yX0_doubleTimes]
def wsX3_cross_r4 : List Cond := [Cond.instanceMethod yX0_doubleTimes, Cond.selects RX0 yX0_doubleTimes yX0_doubleTimes, Cond.code yX0_doubleTimes cX0_doubleTimes 3 none, Cond.methodLink RX0 24 Lib.Math.min.name, Cond.static Lib.Math.min.name, Cond.code Lib.Math.min.name Lib.Math.min.code 2 (some .int), Cond.methodLink RX3 128 yX0_compareWith, Cond.instanceMethod yX0_compareWith, Cond.selects RX0 yX0_compareWith yX0_compareWith, Cond.code yX0_compareWith cX0_compareWith 3 (some .int), Cond.methodLink RX3 112 yX3_quotient, Cond.static yX3_quotient, Cond.code yX3_quotient cX3_quotient 4 (some .long)]
def wsX3_cross : List Cond := .code yX3_cross cX3_cross 8 (some .long) :: ((wsX3_cross_r1 ++ (wsX3_cross_r2 ++ (wsX3_cross_r3 ++ wsX3_cross_r4))) ++ wsX30 ++ wsJx000600 ++ wsX20 ++ wsX00 ++ (vx_atS RX3 208 "java/lang/IllegalArgumentException" ["java/lang/RuntimeException", "java/lang/Exception"]).filter goodWord)
def wsX3_upright_r1 : List Cond := [Cond.constantLong RX3 164 (9223372036854775807), Cond.fieldLink RX3 42 "FretRoots" "notes" "I", Cond.fieldLink RX3 75 "FretRoots" "bassRow" "LFretRoots$FretRow;", Cond.fieldLink RX3 78 "FretRoots" "trebleRow" "LFretRoots$FretRow;", Cond.methodLink RX3 166 Lib.MathLoose.abs_long.x, Cond.static Lib.MathLoose.abs_long.x, Cond.initialized "java/lang/Math", Cond.code Lib.MathLoose.abs_long.x Lib.MathLoose.abs_long.code 2 (some .long), Cond.methodLink RX3 100 yX3_lowerEnd, Cond.instanceMethod yX3_lowerEnd, Cond.selects RX3 yX3_lowerEnd yX3_lowerEnd, Cond.initialized RX3, Cond.code yX3_lowerEnd cX3_lowerEnd 5 (some .long), Cond.fieldLink RX3 213 "FretRoots$FretRow" "ends" "[J", Cond.constantLong RX3 217 (-1), Cond.fieldLink RX3 119 "FretRoots$FretRow" "whole" "J", Cond.methodLink RX3 209 yX3_octaveOf, Cond.instanceMethod yX3_octaveOf, Cond.selects RX3 yX3_octaveOf yX3_octaveOf, Cond.code yX3_octaveOf cX3_octaveOf 2 (some .int), Cond.methodLink RX3 219 yX3_greatestEnd, Cond.instanceMethod yX3_greatestEnd, Cond.selects RX3 yX3_greatestEnd yX3_greatestEnd, Cond.code yX3_greatestEnd cX3_greatestEnd 13 (some .long)]
def wsX3_upright_r2 : List Cond := [Cond.fieldLink RX3 49 "FretRoots" "roots" "[D", Cond.fieldLink RX3 19 "FretRoots" "left" "LFretRoots$BigNumber;", Cond.methodLink RX3 122 yX0_setPower, Cond.instanceMethod yX0_setPower, Cond.selects RX0 yX0_setPower yX0_setPower, Cond.initialized RX0, Cond.code yX0_setPower cX0_setPower 5 none, Cond.fieldLink RX0 13 "FretRoots$BigNumbe\x72" "used" "I", Cond.methodLink RX0 17 yX0_append, Cond.instanceMethod yX0_append, Cond.selects RX0 yX0_append yX0_append, Cond.code yX0_append cX0_append 6 none, Cond.fieldLink RX0 9 "FretRoots$BigNumbe\x72" "digits" "[J", Cond.constantLong RX0 30 (67108863), Cond.methodLink RX0 21 yX0_multiply, Cond.instanceMethod yX0_multiply, Cond.selects RX0 yX0_multiply yX0_multiply, Cond.code yX0_multiply cX0_multiply 8 none, Cond.methodLink RX3 223 yX3_nextProbe, Cond.static yX3_nextProbe, Cond.code yX3_nextProbe cX3_nextProbe 9 (some .long), Cond.constantLong RX3 231 (2), Cond.methodLink RX3 233 Lib.MathLoose.min_long.x, Cond.static Lib.MathLoose.min_long.x]
def wsX3_upright_r3 : List Cond := [Cond.code Lib.MathLoose.min_long.x Lib.MathLoose.min_long.code 4 (some .long), Cond.methodLink RX3 235 Lib.MathLoose.max_long.x, Cond.static Lib.MathLoose.max_long.x, Cond.code Lib.MathLoose.max_long.x Lib.MathLoose.max_long.code 4 (some .long), Cond.methodLink RX3 227 yX3_isNotAboveLeft, Cond.instanceMethod yX3_isNotAboveLeft, Cond.selects RX3 yX3_isNotAboveLeft yX3_isNotAboveLeft, Cond.code yX3_isNotAboveLeft cX3_isNotAboveLeft 4 (some .boolean), Cond.fieldLink RX3 23 "FretRoots" "right" "LFretRoots$BigNumber;", Cond.methodLink RX3 125 yX0_doubleTimes, Cond.instanceMethod yX0_doubleTimes, Cond.selects RX0 yX0_doubleTimes yX0_doubleTimes, Cond.code yX0_doubleTimes cX0_doubleTimes 3 none, Cond.methodLink RX0 24 Lib.Math.min.name, Cond.static Lib.Math.min.name, Cond.code Lib.Math.min.name Lib.Math.min.code 2 (some .int), Cond.methodLink RX3 128 yX0_compareWith, Cond.instanceMethod yX0_compareWith, Cond.selects RX0 yX0_compareWith yX0_compareWith, Cond.code yX0_compareWith cX0_compareWith 3 (some .int)]
def wsX3_upright : List Cond := .code yX3_upright cX3_upright 7 (some .int) :: ((wsX3_upright_r1 ++ (wsX3_upright_r2 ++ wsX3_upright_r3)) ++ wsX30 ++ wsX20 ++ wsX00)
def wsX3_key : List Cond := .code yX3_key cX3_key 7 (some .long) :: ([.fieldLink RX3 170 "FretRoots" "WHITE_KEYS" "[I", .classLink RX3 173 RJx00060, .instantiable RJx00060 6, .initialized RJx00060, .constantLong RX3 81 (1000000), .constantLong RX3 180 (24), .constantLong RX3 182 (84), .methodLink RX3 115 yX3_needPart, .static yX3_needPart, .initialized RX3, .code yX3_needPart cX3_needPart 2 none, .methodLink RX3 83 yX3_needWithin, .static yX3_needWithin, .code yX3_needWithin cX3_needWithin 6 none, .classLink RX3 204 "java/lang/IllegalArgumentException", .initialized "java/lang/IllegalArgumentException"] ++ wsJx000600 ++ (vx_atS RX3 208 "java/lang/IllegalArgumentException" ["java/lang/RuntimeException", "java/lang/Exception"]).filter goodWord)
def wsX3_needReal : List Cond := .code yX3_needReal cX3_needReal 6 none :: ([.classLink RX3 204 "java/lang/IllegalArgumentException", .initialized "java/lang/IllegalArgumentException"] ++ (vx_atS RX3 208 "java/lang/IllegalArgumentException" ["java/lang/RuntimeException", "java/lang/Exception"]).filter goodWord)
def wsX3_pull : List Cond := .code yX3_pull cX3_pull 7 (some .double) :: ([.constantDouble RX3 184 (4666723172467343360), .constantDouble RX3 190 (4616189618054758400), .methodLink RX3 186 yX3_needReal, .static yX3_needReal, .initialized RX3, .code yX3_needReal cX3_needReal 6 none, .classLink RX3 204 "java/lang/IllegalArgumentException", .initialized "java/lang/IllegalArgumentException"] ++ (vx_atS RX3 208 "java/lang/IllegalArgumentException" ["java/lang/RuntimeException", "java/lang/Exception"]).filter goodWord)
def wsX3_pipe : List Cond := .code yX3_pipe cX3_pipe 6 (some .double) :: ([.constantDouble RX3 184 (4666723172467343360), .constantDouble RX3 192 (4636737291354636288), .constantDouble RX3 194 (4644688959446712320), .constantDouble RX3 196 (4611686018427387904), .constantDouble RX3 190 (4616189618054758400), .constantDouble RX3 198 (4604930618986332160), .methodLink RX3 186 yX3_needReal, .static yX3_needReal, .initialized RX3, .code yX3_needReal cX3_needReal 6 none, .classLink RX3 204 "java/lang/IllegalArgumentException", .initialized "java/lang/IllegalArgumentException"] ++ (vx_atS RX3 208 "java/lang/IllegalArgumentException" ["java/lang/RuntimeException", "java/lang/Exception"]).filter goodWord)
def wsX4_init : List Cond := .code yX4_init cX4_init 3 none :: ([.methodLink RX4 1 objectInit, .instanceMethod objectInit, .code objectInit ⟨#[0xb1]⟩ 1 none, .constantLong RX4 7 (1000), .fieldLink RX4 9 "FretRootsModel" "length" "J", .fieldLink RX4 15 "FretRootsModel" "shift" "I", .arrayClass .int, .fieldLink RX4 19 "FretRootsModel" "aboves" "[I", .fieldLink RX4 23 "FretRootsModel" "belows" "[I", .fieldLink RX4 26 "FretRootsModel" "chainAbove" "J", .fieldLink RX4 29 "FretRootsModel" "chainBelow" "J", .fieldLink RX4 32 "FretRootsModel" "bass" "I", .fieldLink RX4 35 "FretRootsModel" "treble" "I", .fieldLink RX4 38 "FretRootsModel" "span" "I", .fieldLink RX4 41 "FretRootsModel" "\x72" "[I", .fieldLink RX4 44 "FretRootsModel" "notes" "I"] ++ wsX40)
def wsX4_thrown : List Cond := .code yX4_thrown cX4_thrown 1 (some .int) :: ([.fieldLink RX4 47 "FretRootsModel" "thrown" "I"] ++ wsX40)
def wsX4_isIn : List Cond := .code yX4_isIn cX4_isIn 6 (some .boolean) :: ([])
def wsX4_noPlace : List Cond := .code yX4_noPlace cX4_noPlace 2 (some .boolean) :: ([.constantLong RX4 50 (2), .fieldLink RX4 44 "FretRootsModel" "notes" "I", .methodLink RX4 52 yX4_isIn, .static yX4_isIn, .initialized RX4, .code yX4_isIn cX4_isIn 6 (some .boolean)] ++ wsX40)
def wsX4_set : List Cond := .code yX4_set cX4_set 5 none :: ([.fieldLink RX4 41 "FretRootsModel" "\x72" "[I"] ++ wsX40)
def wsX4_times : List Cond := .code yX4_times cX4_times 21 none :: ([.constantLong RX4 56 (32767), .fieldLink RX4 41 "FretRootsModel" "\x72" "[I"] ++ wsX40)
def wsX4_power : List Cond := .code yX4_power cX4_power 6 none :: ([.methodLink RX4 58 yX4_set, .instanceMethod yX4_set, .selects RX4 yX4_set yX4_set, .initialized RX4, .code yX4_set cX4_set 5 none, .fieldLink RX4 41 "FretRootsModel" "\x72" "[I", .methodLink RX4 62 yX4_times, .instanceMethod yX4_times, .selects RX4 yX4_times yX4_times, .code yX4_times cX4_times 21 none, .constantLong RX4 56 (32767)] ++ wsX40)
def wsX4_twice : List Cond := .code yX4_twice cX4_twice 4 none :: ([.constantLong RX4 50 (2), .methodLink RX4 62 yX4_times, .instanceMethod yX4_times, .selects RX4 yX4_times yX4_times, .initialized RX4, .code yX4_times cX4_times 21 none, .constantLong RX4 56 (32767), .fieldLink RX4 41 "FretRootsModel" "\x72" "[I"] ++ wsX40)
def wsX4_compare : List Cond := .code yX4_compare cX4_compare 3 (some .int) :: ([.fieldLink RX4 41 "FretRootsModel" "\x72" "[I"] ++ wsX40)
def wsX4_scale : List Cond := .code yX4_scale cX4_scale 4 none :: ([.constantLong RX4 65 (1000000), .constantLong RX4 67 (16), .fieldLink RX4 47 "FretRootsModel" "thrown" "I", .fieldLink RX4 9 "FretRootsModel" "length" "J", .fieldLink RX4 15 "FretRootsModel" "shift" "I", .methodLink RX4 52 yX4_isIn, .static yX4_isIn, .initialized RX4, .code yX4_isIn cX4_isIn 6 (some .boolean)] ++ wsX40)
def wsX4_side_r1 : List Cond := [Cond.fieldLink RX4 44 "FretRootsModel" "notes" "I", Cond.methodLink RX4 69 yX4_power, Cond.instanceMethod yX4_power, Cond.selects RX4 yX4_power yX4_power, Cond.initialized RX4, Cond.code yX4_power cX4_power 6 none, Cond.methodLink RX4 58 yX4_set, Cond.instanceMethod yX4_set, Cond.selects RX4 yX4_set yX4_set, Cond.code yX4_set cX4_set 5 none, Cond.fieldLink RX4 41 "FretRootsModel" "\x72" "[I", Cond.methodLink RX4 62 yX4_times, Cond.instanceMethod yX4_times, Cond.selects RX4 yX4_times yX4_times, Cond.code yX4_times cX4_times 21 none, Cond.constantLong RX4 56 (32767), Cond.methodLink RX4 73 yX4_twice, Cond.instanceMethod yX4_twice, Cond.selects RX4 yX4_twice yX4_twice, Cond.code yX4_twice cX4_twice 4 none, Cond.constantLong RX4 50 (2), Cond.methodLink RX4 77 yX4_compare, Cond.instanceMethod yX4_compare, Cond.selects RX4 yX4_compare yX4_compare]
def wsX4_side_r2 : List Cond := [Cond.code yX4_compare cX4_compare 3 (some .int)]
def wsX4_side : List Cond := .code yX4_side cX4_side 6 (some .int) :: ((wsX4_side_r1 ++ wsX4_side_r2) ++ wsX40)
def wsX4_lower_r1 : List Cond := [Cond.fieldLink RX4 15 "FretRootsModel" "shift" "I", Cond.constantLong RX4 50 (2), Cond.methodLink RX4 81 yX4_side, Cond.instanceMethod yX4_side, Cond.selects RX4 yX4_side yX4_side, Cond.initialized RX4, Cond.code yX4_side cX4_side 6 (some .int), Cond.fieldLink RX4 44 "FretRootsModel" "notes" "I", Cond.methodLink RX4 69 yX4_power, Cond.instanceMethod yX4_power, Cond.selects RX4 yX4_power yX4_power, Cond.code yX4_power cX4_power 6 none, Cond.methodLink RX4 58 yX4_set, Cond.instanceMethod yX4_set, Cond.selects RX4 yX4_set yX4_set, Cond.code yX4_set cX4_set 5 none, Cond.fieldLink RX4 41 "FretRootsModel" "\x72" "[I", Cond.methodLink RX4 62 yX4_times, Cond.instanceMethod yX4_times, Cond.selects RX4 yX4_times yX4_times, Cond.code yX4_times cX4_times 21 none, Cond.constantLong RX4 56 (32767), Cond.methodLink RX4 73 yX4_twice, Cond.instanceMethod yX4_twice]
def wsX4_lower_r2 : List Cond := [Cond.selects RX4 yX4_twice yX4_twice, Cond.code yX4_twice cX4_twice 4 none, Cond.methodLink RX4 77 yX4_compare, Cond.instanceMethod yX4_compare, Cond.selects RX4 yX4_compare yX4_compare, Cond.code yX4_compare cX4_compare 3 (some .int)]
def wsX4_lower : List Cond := .code yX4_lower cX4_lower 12 (some .long) :: ((wsX4_lower_r1 ++ wsX4_lower_r2) ++ wsX40)
def wsX4_fret_r1 : List Cond := [Cond.fieldLink RX4 47 "FretRootsModel" "thrown" "I", Cond.fieldLink RX4 9 "FretRootsModel" "length" "J", Cond.fieldLink RX4 15 "FretRootsModel" "shift" "I", Cond.methodLink RX4 85 yX4_noPlace, Cond.instanceMethod yX4_noPlace, Cond.selects RX4 yX4_noPlace yX4_noPlace, Cond.initialized RX4, Cond.code yX4_noPlace cX4_noPlace 2 (some .boolean), Cond.constantLong RX4 50 (2), Cond.fieldLink RX4 44 "FretRootsModel" "notes" "I", Cond.methodLink RX4 52 yX4_isIn, Cond.static yX4_isIn, Cond.code yX4_isIn cX4_isIn 6 (some .boolean), Cond.methodLink RX4 89 yX4_lower, Cond.instanceMethod yX4_lower, Cond.selects RX4 yX4_lower yX4_lower, Cond.code yX4_lower cX4_lower 12 (some .long), Cond.methodLink RX4 81 yX4_side, Cond.instanceMethod yX4_side, Cond.selects RX4 yX4_side yX4_side, Cond.code yX4_side cX4_side 6 (some .int), Cond.methodLink RX4 69 yX4_power, Cond.instanceMethod yX4_power, Cond.selects RX4 yX4_power yX4_power]
def wsX4_fret_r2 : List Cond := [Cond.code yX4_power cX4_power 6 none, Cond.methodLink RX4 58 yX4_set, Cond.instanceMethod yX4_set, Cond.selects RX4 yX4_set yX4_set, Cond.code yX4_set cX4_set 5 none, Cond.fieldLink RX4 41 "FretRootsModel" "\x72" "[I", Cond.methodLink RX4 62 yX4_times, Cond.instanceMethod yX4_times, Cond.selects RX4 yX4_times yX4_times, Cond.code yX4_times cX4_times 21 none, Cond.constantLong RX4 56 (32767), Cond.methodLink RX4 73 yX4_twice, Cond.instanceMethod yX4_twice, Cond.selects RX4 yX4_twice yX4_twice, Cond.code yX4_twice cX4_twice 4 none, Cond.methodLink RX4 77 yX4_compare, Cond.instanceMethod yX4_compare, Cond.selects RX4 yX4_compare yX4_compare, Cond.code yX4_compare cX4_compare 3 (some .int)]
def wsX4_fret : List Cond := .code yX4_fret cX4_fret 5 (some .long) :: ((wsX4_fret_r1 ++ wsX4_fret_r2) ++ wsX40)
def wsX4_exact_r1 : List Cond := [Cond.fieldLink RX4 47 "FretRootsModel" "thrown" "I", Cond.fieldLink RX4 9 "FretRootsModel" "length" "J", Cond.fieldLink RX4 15 "FretRootsModel" "shift" "I", Cond.methodLink RX4 85 yX4_noPlace, Cond.instanceMethod yX4_noPlace, Cond.selects RX4 yX4_noPlace yX4_noPlace, Cond.initialized RX4, Cond.code yX4_noPlace cX4_noPlace 2 (some .boolean), Cond.constantLong RX4 50 (2), Cond.fieldLink RX4 44 "FretRootsModel" "notes" "I", Cond.methodLink RX4 52 yX4_isIn, Cond.static yX4_isIn, Cond.code yX4_isIn cX4_isIn 6 (some .boolean), Cond.methodLink RX4 89 yX4_lower, Cond.instanceMethod yX4_lower, Cond.selects RX4 yX4_lower yX4_lower, Cond.code yX4_lower cX4_lower 12 (some .long), Cond.methodLink RX4 81 yX4_side, Cond.instanceMethod yX4_side, Cond.selects RX4 yX4_side yX4_side, Cond.code yX4_side cX4_side 6 (some .int), Cond.methodLink RX4 69 yX4_power, Cond.instanceMethod yX4_power, Cond.selects RX4 yX4_power yX4_power]
def wsX4_exact_r2 : List Cond := [Cond.code yX4_power cX4_power 6 none, Cond.methodLink RX4 58 yX4_set, Cond.instanceMethod yX4_set, Cond.selects RX4 yX4_set yX4_set, Cond.code yX4_set cX4_set 5 none, Cond.fieldLink RX4 41 "FretRootsModel" "\x72" "[I", Cond.methodLink RX4 62 yX4_times, Cond.instanceMethod yX4_times, Cond.selects RX4 yX4_times yX4_times, Cond.code yX4_times cX4_times 21 none, Cond.constantLong RX4 56 (32767), Cond.methodLink RX4 73 yX4_twice, Cond.instanceMethod yX4_twice, Cond.selects RX4 yX4_twice yX4_twice, Cond.code yX4_twice cX4_twice 4 none, Cond.methodLink RX4 77 yX4_compare, Cond.instanceMethod yX4_compare, Cond.selects RX4 yX4_compare yX4_compare, Cond.code yX4_compare cX4_compare 3 (some .int)]
def wsX4_exact : List Cond := .code yX4_exact cX4_exact 2 (some .boolean) :: ((wsX4_exact_r1 ++ wsX4_exact_r2) ++ wsX40)
def wsX4_divisor : List Cond := .code yX4_divisor cX4_divisor 10 (some .long) :: ([])
def wsX4_isPart : List Cond := .code yX4_isPart cX4_isPart 1 (some .boolean) :: ([.constantLong RX4 65 (1000000), .methodLink RX4 52 yX4_isIn, .static yX4_isIn, .initialized RX4, .code yX4_isIn cX4_isIn 6 (some .boolean)])
def wsX4_just : List Cond := .code yX4_just cX4_just 5 none :: ([.fieldLink RX4 47 "FretRootsModel" "thrown" "I", .fieldLink RX4 19 "FretRootsModel" "aboves" "[I", .fieldLink RX4 23 "FretRootsModel" "belows" "[I", .methodLink RX4 85 yX4_noPlace, .instanceMethod yX4_noPlace, .selects RX4 yX4_noPlace yX4_noPlace, .initialized RX4, .code yX4_noPlace cX4_noPlace 2 (some .boolean), .constantLong RX4 50 (2), .fieldLink RX4 44 "FretRootsModel" "notes" "I", .methodLink RX4 52 yX4_isIn, .static yX4_isIn, .code yX4_isIn cX4_isIn 6 (some .boolean), .methodLink RX4 93 yX4_isPart, .static yX4_isPart, .code yX4_isPart cX4_isPart 1 (some .boolean), .constantLong RX4 65 (1000000), .methodLink RX4 96 yX4_divisor, .static yX4_divisor, .code yX4_divisor cX4_divisor 10 (some .long)] ++ wsX40)
def wsX4_justAt : List Cond := .code yX4_justAt cX4_justAt 3 (some .int) :: ([.fieldLink RX4 47 "FretRootsModel" "thrown" "I", .fieldLink RX4 19 "FretRootsModel" "aboves" "[I", .fieldLink RX4 23 "FretRootsModel" "belows" "[I", .methodLink RX4 85 yX4_noPlace, .instanceMethod yX4_noPlace, .selects RX4 yX4_noPlace yX4_noPlace, .initialized RX4, .code yX4_noPlace cX4_noPlace 2 (some .boolean), .constantLong RX4 50 (2), .fieldLink RX4 44 "FretRootsModel" "notes" "I", .methodLink RX4 52 yX4_isIn, .static yX4_isIn, .code yX4_isIn cX4_isIn 6 (some .boolean)] ++ wsX40)
def wsX4_leaves : List Cond := .code yX4_leaves cX4_leaves 2 (some .long) :: ([.fieldLink RX4 47 "FretRootsModel" "thrown" "I", .fieldLink RX4 9 "FretRootsModel" "length" "J", .fieldLink RX4 15 "FretRootsModel" "shift" "I", .fieldLink RX4 23 "FretRootsModel" "belows" "[I", .fieldLink RX4 19 "FretRootsModel" "aboves" "[I", .methodLink RX4 85 yX4_noPlace, .instanceMethod yX4_noPlace, .selects RX4 yX4_noPlace yX4_noPlace, .initialized RX4, .code yX4_noPlace cX4_noPlace 2 (some .boolean), .constantLong RX4 50 (2), .fieldLink RX4 44 "FretRootsModel" "notes" "I", .methodLink RX4 52 yX4_isIn, .static yX4_isIn, .code yX4_isIn cX4_isIn 6 (some .boolean)] ++ wsX40)
def wsX4_side_ : List Cond := .code yX4_side_ cX4_side_ 5 (some .int) :: ([.methodLink RX4 69 yX4_power, .instanceMethod yX4_power, .selects RX4 yX4_power yX4_power, .initialized RX4, .code yX4_power cX4_power 6 none, .methodLink RX4 58 yX4_set, .instanceMethod yX4_set, .selects RX4 yX4_set yX4_set, .code yX4_set cX4_set 5 none, .fieldLink RX4 41 "FretRootsModel" "\x72" "[I", .methodLink RX4 62 yX4_times, .instanceMethod yX4_times, .selects RX4 yX4_times yX4_times, .code yX4_times cX4_times 21 none, .constantLong RX4 56 (32767), .methodLink RX4 73 yX4_twice, .instanceMethod yX4_twice, .selects RX4 yX4_twice yX4_twice, .code yX4_twice cX4_twice 4 none, .constantLong RX4 50 (2), .methodLink RX4 77 yX4_compare, .instanceMethod yX4_compare, .selects RX4 yX4_compare yX4_compare, .code yX4_compare cX4_compare 3 (some .int)] ++ wsX40)
def wsX4_beside_r1 : List Cond := [Cond.fieldLink RX4 47 "FretRootsModel" "thrown" "I", Cond.fieldLink RX4 19 "FretRootsModel" "aboves" "[I", Cond.fieldLink RX4 23 "FretRootsModel" "belows" "[I", Cond.fieldLink RX4 44 "FretRootsModel" "notes" "I", Cond.methodLink RX4 85 yX4_noPlace, Cond.instanceMethod yX4_noPlace, Cond.selects RX4 yX4_noPlace yX4_noPlace, Cond.initialized RX4, Cond.code yX4_noPlace cX4_noPlace 2 (some .boolean), Cond.constantLong RX4 50 (2), Cond.methodLink RX4 52 yX4_isIn, Cond.static yX4_isIn, Cond.code yX4_isIn cX4_isIn 6 (some .boolean), Cond.methodLink RX4 100 yX4_side_, Cond.instanceMethod yX4_side_, Cond.selects RX4 yX4_side_ yX4_side_, Cond.code yX4_side_ cX4_side_ 5 (some .int), Cond.methodLink RX4 69 yX4_power, Cond.instanceMethod yX4_power, Cond.selects RX4 yX4_power yX4_power, Cond.code yX4_power cX4_power 6 none, Cond.methodLink RX4 58 yX4_set, Cond.instanceMethod yX4_set, Cond.selects RX4 yX4_set yX4_set]
def wsX4_beside_r2 : List Cond := [Cond.code yX4_set cX4_set 5 none, Cond.fieldLink RX4 41 "FretRootsModel" "\x72" "[I", Cond.methodLink RX4 62 yX4_times, Cond.instanceMethod yX4_times, Cond.selects RX4 yX4_times yX4_times, Cond.code yX4_times cX4_times 21 none, Cond.constantLong RX4 56 (32767), Cond.methodLink RX4 73 yX4_twice, Cond.instanceMethod yX4_twice, Cond.selects RX4 yX4_twice yX4_twice, Cond.code yX4_twice cX4_twice 4 none, Cond.methodLink RX4 77 yX4_compare, Cond.instanceMethod yX4_compare, Cond.selects RX4 yX4_compare yX4_compare, Cond.code yX4_compare cX4_compare 3 (some .int)]
def wsX4_beside : List Cond := .code yX4_beside cX4_beside 2 (some .int) :: ((wsX4_beside_r1 ++ wsX4_beside_r2) ++ wsX40)
def wsX4_nearest_r1 : List Cond := [Cond.fieldLink RX4 47 "FretRootsModel" "thrown" "I", Cond.fieldLink RX4 44 "FretRootsModel" "notes" "I", Cond.methodLink RX4 93 yX4_isPart, Cond.static yX4_isPart, Cond.initialized RX4, Cond.code yX4_isPart cX4_isPart 1 (some .boolean), Cond.constantLong RX4 65 (1000000), Cond.methodLink RX4 52 yX4_isIn, Cond.static yX4_isIn, Cond.code yX4_isIn cX4_isIn 6 (some .boolean), Cond.methodLink RX4 100 yX4_side_, Cond.instanceMethod yX4_side_, Cond.selects RX4 yX4_side_ yX4_side_, Cond.code yX4_side_ cX4_side_ 5 (some .int), Cond.methodLink RX4 69 yX4_power, Cond.instanceMethod yX4_power, Cond.selects RX4 yX4_power yX4_power, Cond.code yX4_power cX4_power 6 none, Cond.methodLink RX4 58 yX4_set, Cond.instanceMethod yX4_set, Cond.selects RX4 yX4_set yX4_set, Cond.code yX4_set cX4_set 5 none, Cond.fieldLink RX4 41 "FretRootsModel" "\x72" "[I", Cond.methodLink RX4 62 yX4_times]
def wsX4_nearest_r2 : List Cond := [Cond.instanceMethod yX4_times, Cond.selects RX4 yX4_times yX4_times, Cond.code yX4_times cX4_times 21 none, Cond.constantLong RX4 56 (32767), Cond.methodLink RX4 73 yX4_twice, Cond.instanceMethod yX4_twice, Cond.selects RX4 yX4_twice yX4_twice, Cond.code yX4_twice cX4_twice 4 none, Cond.constantLong RX4 50 (2), Cond.methodLink RX4 77 yX4_compare, Cond.instanceMethod yX4_compare, Cond.selects RX4 yX4_compare yX4_compare, Cond.code yX4_compare cX4_compare 3 (some .int)]
def wsX4_nearest : List Cond := .code yX4_nearest cX4_nearest 4 (some .int) :: ((wsX4_nearest_r1 ++ wsX4_nearest_r2) ++ wsX40)
def wsX4_isEven : List Cond := .code yX4_isEven cX4_isEven 2 (some .boolean) :: ([.fieldLink RX4 41 "FretRootsModel" "\x72" "[I"] ++ wsX40)
def wsX4_half : List Cond := .code yX4_half cX4_half 4 none :: ([.fieldLink RX4 41 "FretRootsModel" "\x72" "[I"] ++ wsX40)
def wsX4_told : List Cond := .code yX4_told cX4_told 5 (some .long) :: ([.constantLong RX4 103 (30517578125), .constantLong RX4 105 (1000000000000001), .constantLong RX4 107 (32768), .fieldLink RX4 41 "FretRootsModel" "\x72" "[I", .constantLong RX4 109 (1000000000000000)] ++ wsX40)
def wsX4_down : List Cond := .code yX4_down cX4_down 1 none :: ([.constantLong RX4 50 (2), .methodLink RX4 118 yX4_isEven, .instanceMethod yX4_isEven, .selects RX4 yX4_isEven yX4_isEven, .initialized RX4, .code yX4_isEven cX4_isEven 2 (some .boolean), .fieldLink RX4 41 "FretRootsModel" "\x72" "[I", .methodLink RX4 111 yX4_half, .instanceMethod yX4_half, .selects RX4 yX4_half yX4_half, .code yX4_half cX4_half 4 none, .methodLink RX4 62 yX4_times, .instanceMethod yX4_times, .selects RX4 yX4_times yX4_times, .code yX4_times cX4_times 21 none, .constantLong RX4 56 (32767)] ++ wsX40)
def wsX4_step_r1 : List Cond := [Cond.fieldLink RX4 47 "FretRootsModel" "thrown" "I", Cond.fieldLink RX4 26 "FretRootsModel" "chainAbove" "J", Cond.fieldLink RX4 29 "FretRootsModel" "chainBelow" "J", Cond.constantLong RX4 50 (2), Cond.constantLong RX4 109 (1000000000000000), Cond.fieldLink RX4 125 "FretRootsModel" "octaves" "J", Cond.fieldLink RX4 128 "FretRootsModel" "steps" "J", Cond.methodLink RX4 93 yX4_isPart, Cond.static yX4_isPart, Cond.initialized RX4, Cond.code yX4_isPart cX4_isPart 1 (some .boolean), Cond.constantLong RX4 65 (1000000), Cond.methodLink RX4 52 yX4_isIn, Cond.static yX4_isIn, Cond.code yX4_isIn cX4_isIn 6 (some .boolean), Cond.methodLink RX4 96 yX4_divisor, Cond.static yX4_divisor, Cond.code yX4_divisor cX4_divisor 10 (some .long), Cond.methodLink RX4 58 yX4_set, Cond.instanceMethod yX4_set, Cond.selects RX4 yX4_set yX4_set, Cond.code yX4_set cX4_set 5 none, Cond.fieldLink RX4 41 "FretRootsModel" "\x72" "[I", Cond.methodLink RX4 62 yX4_times]
def wsX4_step_r2 : List Cond := [Cond.instanceMethod yX4_times, Cond.selects RX4 yX4_times yX4_times, Cond.code yX4_times cX4_times 21 none, Cond.constantLong RX4 56 (32767), Cond.methodLink RX4 77 yX4_compare, Cond.instanceMethod yX4_compare, Cond.selects RX4 yX4_compare yX4_compare, Cond.code yX4_compare cX4_compare 3 (some .int), Cond.methodLink RX4 111 yX4_half, Cond.instanceMethod yX4_half, Cond.selects RX4 yX4_half yX4_half, Cond.code yX4_half cX4_half 4 none, Cond.methodLink RX4 115 yX4_down, Cond.instanceMethod yX4_down, Cond.selects RX4 yX4_down yX4_down, Cond.code yX4_down cX4_down 1 none, Cond.methodLink RX4 118 yX4_isEven, Cond.instanceMethod yX4_isEven, Cond.selects RX4 yX4_isEven yX4_isEven, Cond.code yX4_isEven cX4_isEven 2 (some .boolean), Cond.methodLink RX4 121 yX4_told, Cond.instanceMethod yX4_told, Cond.selects RX4 yX4_told yX4_told, Cond.code yX4_told cX4_told 5 (some .long)]
def wsX4_step_r3 : List Cond := [Cond.constantLong RX4 103 (30517578125), Cond.constantLong RX4 105 (1000000000000001), Cond.constantLong RX4 107 (32768)]
def wsX4_step : List Cond := .code yX4_step cX4_step 16 (some .boolean) :: ((wsX4_step_r1 ++ (wsX4_step_r2 ++ wsX4_step_r3)) ++ wsX40)
def wsX4_clear : List Cond := .code yX4_clear cX4_clear 1 none :: ([.fieldLink RX4 47 "FretRootsModel" "thrown" "I", .fieldLink RX4 26 "FretRootsModel" "chainAbove" "J", .fieldLink RX4 29 "FretRootsModel" "chainBelow" "J", .fieldLink RX4 125 "FretRootsModel" "octaves" "J", .fieldLink RX4 128 "FretRootsModel" "steps" "J"] ++ wsX40)
def wsX4_rest : List Cond := .code yX4_rest cX4_rest 2 (some .long) :: ([.constantLong RX4 131 (3), .fieldLink RX4 47 "FretRootsModel" "thrown" "I", .fieldLink RX4 26 "FretRootsModel" "chainAbove" "J", .fieldLink RX4 29 "FretRootsModel" "chainBelow" "J", .fieldLink RX4 125 "FretRootsModel" "octaves" "J", .fieldLink RX4 128 "FretRootsModel" "steps" "J", .methodLink RX4 52 yX4_isIn, .static yX4_isIn, .initialized RX4, .code yX4_isIn cX4_isIn 6 (some .boolean)] ++ wsX40)
def wsX4_beat : List Cond := .code yX4_beat cX4_beat 11 (some .long) :: ([.constantLong RX4 133 (100000), .fieldLink RX4 47 "FretRootsModel" "thrown" "I", .fieldLink RX4 19 "FretRootsModel" "aboves" "[I", .fieldLink RX4 23 "FretRootsModel" "belows" "[I", .methodLink RX4 85 yX4_noPlace, .instanceMethod yX4_noPlace, .selects RX4 yX4_noPlace yX4_noPlace, .initialized RX4, .code yX4_noPlace cX4_noPlace 2 (some .boolean), .constantLong RX4 50 (2), .fieldLink RX4 44 "FretRootsModel" "notes" "I", .methodLink RX4 52 yX4_isIn, .static yX4_isIn, .code yX4_isIn cX4_isIn 6 (some .boolean), .methodLink RX4 96 yX4_divisor, .static yX4_divisor, .code yX4_divisor cX4_divisor 10 (some .long)] ++ wsX40)
def wsX4_fan : List Cond := .code yX4_fan cX4_fan 4 none :: ([.constantLong RX4 7 (1000), .fieldLink RX4 47 "FretRootsModel" "thrown" "I", .fieldLink RX4 32 "FretRootsModel" "bass" "I", .fieldLink RX4 35 "FretRootsModel" "treble" "I", .fieldLink RX4 38 "FretRootsModel" "span" "I", .methodLink RX4 93 yX4_isPart, .static yX4_isPart, .initialized RX4, .code yX4_isPart cX4_isPart 1 (some .boolean), .constantLong RX4 65 (1000000), .methodLink RX4 52 yX4_isIn, .static yX4_isIn, .code yX4_isIn cX4_isIn 6 (some .boolean)] ++ wsX40)
def wsX4_cross_r1 : List Cond := [Cond.fieldLink RX4 38 "FretRootsModel" "span" "I", Cond.fieldLink RX4 47 "FretRootsModel" "thrown" "I", Cond.fieldLink RX4 32 "FretRootsModel" "bass" "I", Cond.fieldLink RX4 35 "FretRootsModel" "treble" "I", Cond.methodLink RX4 85 yX4_noPlace, Cond.instanceMethod yX4_noPlace, Cond.selects RX4 yX4_noPlace yX4_noPlace, Cond.initialized RX4, Cond.code yX4_noPlace cX4_noPlace 2 (some .boolean), Cond.constantLong RX4 50 (2), Cond.fieldLink RX4 44 "FretRootsModel" "notes" "I", Cond.methodLink RX4 52 yX4_isIn, Cond.static yX4_isIn, Cond.code yX4_isIn cX4_isIn 6 (some .boolean), Cond.methodLink RX4 89 yX4_lower, Cond.instanceMethod yX4_lower, Cond.selects RX4 yX4_lower yX4_lower, Cond.code yX4_lower cX4_lower 12 (some .long), Cond.fieldLink RX4 15 "FretRootsModel" "shift" "I", Cond.methodLink RX4 81 yX4_side, Cond.instanceMethod yX4_side, Cond.selects RX4 yX4_side yX4_side, Cond.code yX4_side cX4_side 6 (some .int), Cond.methodLink RX4 69 yX4_power]
def wsX4_cross_r2 : List Cond := [Cond.instanceMethod yX4_power, Cond.selects RX4 yX4_power yX4_power, Cond.code yX4_power cX4_power 6 none, Cond.methodLink RX4 58 yX4_set, Cond.instanceMethod yX4_set, Cond.selects RX4 yX4_set yX4_set, Cond.code yX4_set cX4_set 5 none, Cond.fieldLink RX4 41 "FretRootsModel" "\x72" "[I", Cond.methodLink RX4 62 yX4_times, Cond.instanceMethod yX4_times, Cond.selects RX4 yX4_times yX4_times, Cond.code yX4_times cX4_times 21 none, Cond.constantLong RX4 56 (32767), Cond.methodLink RX4 73 yX4_twice, Cond.instanceMethod yX4_twice, Cond.selects RX4 yX4_twice yX4_twice, Cond.code yX4_twice cX4_twice 4 none, Cond.methodLink RX4 77 yX4_compare, Cond.instanceMethod yX4_compare, Cond.selects RX4 yX4_compare yX4_compare, Cond.code yX4_compare cX4_compare 3 (some .int)]
def wsX4_cross : List Cond := .code yX4_cross cX4_cross 6 (some .long) :: ((wsX4_cross_r1 ++ wsX4_cross_r2) ++ wsX40)
def wsX4_upright_r1 : List Cond := [Cond.fieldLink RX4 47 "FretRootsModel" "thrown" "I", Cond.fieldLink RX4 44 "FretRootsModel" "notes" "I", Cond.fieldLink RX4 32 "FretRootsModel" "bass" "I", Cond.fieldLink RX4 35 "FretRootsModel" "treble" "I", Cond.methodLink RX4 89 yX4_lower, Cond.instanceMethod yX4_lower, Cond.selects RX4 yX4_lower yX4_lower, Cond.initialized RX4, Cond.code yX4_lower cX4_lower 12 (some .long), Cond.fieldLink RX4 15 "FretRootsModel" "shift" "I", Cond.constantLong RX4 50 (2), Cond.methodLink RX4 81 yX4_side, Cond.instanceMethod yX4_side, Cond.selects RX4 yX4_side yX4_side, Cond.code yX4_side cX4_side 6 (some .int), Cond.methodLink RX4 69 yX4_power, Cond.instanceMethod yX4_power, Cond.selects RX4 yX4_power yX4_power, Cond.code yX4_power cX4_power 6 none, Cond.methodLink RX4 58 yX4_set, Cond.instanceMethod yX4_set, Cond.selects RX4 yX4_set yX4_set, Cond.code yX4_set cX4_set 5 none, Cond.fieldLink RX4 41 "FretRootsModel" "\x72" "[I"]
def wsX4_upright_r2 : List Cond := [Cond.methodLink RX4 62 yX4_times, Cond.instanceMethod yX4_times, Cond.selects RX4 yX4_times yX4_times, Cond.code yX4_times cX4_times 21 none, Cond.constantLong RX4 56 (32767), Cond.methodLink RX4 73 yX4_twice, Cond.instanceMethod yX4_twice, Cond.selects RX4 yX4_twice yX4_twice, Cond.code yX4_twice cX4_twice 4 none, Cond.methodLink RX4 77 yX4_compare, Cond.instanceMethod yX4_compare, Cond.selects RX4 yX4_compare yX4_compare, Cond.code yX4_compare cX4_compare 3 (some .int)]
def wsX4_upright : List Cond := .code yX4_upright cX4_upright 7 (some .int) :: ((wsX4_upright_r1 ++ wsX4_upright_r2) ++ wsX40)
def wsX4_white : List Cond := .code yX4_white cX4_white 2 (some .int) :: ([])
def wsX4_key : List Cond := .code yX4_key cX4_key 6 (some .long) :: ([.constantLong RX4 135 (11), .constantLong RX4 131 (3), .constantLong RX4 65 (1000000), .fieldLink RX4 47 "FretRootsModel" "thrown" "I", .constantLong RX4 141 (24), .constantLong RX4 143 (84), .constantLong RX4 50 (2), .constantLong RX4 145 (12), .methodLink RX4 52 yX4_isIn, .static yX4_isIn, .initialized RX4, .code yX4_isIn cX4_isIn 6 (some .boolean), .methodLink RX4 137 yX4_white, .static yX4_white, .code yX4_white cX4_white 2 (some .int)] ++ wsX40)
def wsX4_pull : List Cond := .code yX4_pull cX4_pull 8 (some .double) :: ([.constantDouble RX4 147 (4666723172467343360), .fieldLink RX4 47 "FretRootsModel" "thrown" "I", .constantDouble RX4 149 (4616189618054758400)] ++ wsX40)
def wsX4_pipe : List Cond := .code yX4_pipe cX4_pipe 7 (some .double) :: ([.constantDouble RX4 147 (4666723172467343360), .constantDouble RX4 151 (4636737291354636288), .fieldLink RX4 47 "FretRootsModel" "thrown" "I", .constantDouble RX4 153 (4644688959446712320), .constantDouble RX4 155 (4611686018427387904), .constantDouble RX4 149 (4616189618054758400), .constantDouble RX4 157 (4604930618986332160)] ++ wsX40)
def wsJx00060_init_a7421 : List Cond := .code yJx00060_init_a7421 cJx00060_init_a7421 2 none :: ([])
def wsJ9_abs_067f4 : List Cond := .code yJ9_abs_067f4 cJ9_abs_067f4 2 (some .long) :: ([])
def wsJ9_max_7cf53 : List Cond := .code yJ9_max_7cf53 cJ9_max_7cf53 2 (some .int) :: ([])
def wsJ9_max_f86c9 : List Cond := .code yJ9_max_f86c9 cJ9_max_f86c9 4 (some .long) :: ([])
def wsJ9_min_7cf53 : List Cond := .code yJ9_min_7cf53 cJ9_min_7cf53 2 (some .int) :: ([])
def wsJ9_min_f86c9 : List Cond := .code yJ9_min_f86c9 cJ9_min_f86c9 4 (some .long) :: ([])
def wsL_cell : List Cond := .code yL_cell cL_cell 2 (some .int) :: ([])
def wsL_scale_r1 : List Cond := [Cond.classLink RL 13 "java/lang/IllegalArgumentException", Cond.methodLink RL 7 yX3_scale, Cond.instanceMethod yX3_scale, Cond.selects RX3 yX3_scale yX3_scale, Cond.initialized RX3, Cond.code yX3_scale cX3_scale 4 none, Cond.constantLong RX3 81 (1000000), Cond.constantLong RX3 87 (16), Cond.fieldLink RX3 26 "FretRoots" "shift" "I", Cond.fieldLink RX3 71 "FretRoots" "scaleRow" "LFretRoots$FretRow;", Cond.fieldLink RX3 75 "FretRoots" "bassRow" "LFretRoots$FretRow;", Cond.fieldLink RX3 93 "FretRoots$FretRow" "length" "J", Cond.fieldLink RX3 78 "FretRoots" "trebleRow" "LFretRoots$FretRow;", Cond.methodLink RX3 83 yX3_needWithin, Cond.static yX3_needWithin, Cond.code yX3_needWithin cX3_needWithin 6 none, Cond.classLink RX3 204 "java/lang/IllegalArgumentException", Cond.initialized "java/lang/IllegalArgumentException", Cond.methodLink RX3 89 yX2_measure, Cond.instanceMethod yX2_measure, Cond.selects RX2 yX2_measure yX2_measure, Cond.initialized RX2, Cond.code yX2_measure cX2_measure 4 none, Cond.fieldLink RX2 23 "FretRoots$FretRow" "length" "J"]
def wsL_scale_r2 : List Cond := [Cond.fieldLink RX2 29 "FretRoots$FretRow" "whole" "J", Cond.fieldLink RX2 15 "FretRoots$FretRow" "ends" "[J", Cond.constantLong RX2 32 (-1), Cond.methodLink RX2 34 yJ7_fill_d0a16, Cond.static yJ7_fill_d0a16, Cond.initialized RJ7, Cond.code yJ7_fill_d0a16 cJ7_fill_d0a16 5 none]
def wsL_scale : List Cond := .codeWith yL_scale cL_scale 5 (some .int) [(0, 6, 9, 13)] :: ((wsL_scale_r1 ++ wsL_scale_r2) ++ wsX30 ++ wsX20 ++ (vx_atS RX3 208 "java/lang/IllegalArgumentException" ["java/lang/RuntimeException", "java/lang/Exception"]).filter goodWord)
def wsL_fret_r1 : List Cond := [Cond.methodLink RL 15 yX3_fret, Cond.instanceMethod yX3_fret, Cond.selects RX3 yX3_fret yX3_fret, Cond.initialized RX3, Cond.code yX3_fret cX3_fret 5 (some .long), Cond.fieldLink RX3 71 "FretRoots" "scaleRow" "LFretRoots$FretRow;", Cond.methodLink RX3 97 yX3_needPlace, Cond.instanceMethod yX3_needPlace, Cond.selects RX3 yX3_needPlace yX3_needPlace, Cond.code yX3_needPlace cX3_needPlace 2 none, Cond.fieldLink RX3 53 "FretRoots" "justAbove" "[I", Cond.fieldLink RX3 57 "FretRoots" "justBelow" "[I", Cond.classLink RX3 173 RJx00060, Cond.instantiable RJx00060 6, Cond.initialized RJx00060, Cond.methodLink RX3 100 yX3_lowerEnd, Cond.instanceMethod yX3_lowerEnd, Cond.selects RX3 yX3_lowerEnd yX3_lowerEnd, Cond.code yX3_lowerEnd cX3_lowerEnd 5 (some .long), Cond.fieldLink RX3 42 "FretRoots" "notes" "I", Cond.fieldLink RX3 213 "FretRoots$FretRow" "ends" "[J", Cond.constantLong RX3 217 (-1), Cond.fieldLink RX3 119 "FretRoots$FretRow" "whole" "J", Cond.methodLink RX3 209 yX3_octaveOf]
def wsL_fret_r2 : List Cond := [Cond.instanceMethod yX3_octaveOf, Cond.selects RX3 yX3_octaveOf yX3_octaveOf, Cond.code yX3_octaveOf cX3_octaveOf 2 (some .int), Cond.methodLink RX3 219 yX3_greatestEnd, Cond.instanceMethod yX3_greatestEnd, Cond.selects RX3 yX3_greatestEnd yX3_greatestEnd, Cond.code yX3_greatestEnd cX3_greatestEnd 13 (some .long), Cond.fieldLink RX3 49 "FretRoots" "roots" "[D", Cond.fieldLink RX3 19 "FretRoots" "left" "LFretRoots$BigNumber;", Cond.methodLink RX3 122 yX0_setPower, Cond.instanceMethod yX0_setPower, Cond.selects RX0 yX0_setPower yX0_setPower, Cond.initialized RX0, Cond.code yX0_setPower cX0_setPower 5 none, Cond.fieldLink RX0 13 "FretRoots$BigNumbe\x72" "used" "I", Cond.methodLink RX0 17 yX0_append, Cond.instanceMethod yX0_append, Cond.selects RX0 yX0_append yX0_append, Cond.code yX0_append cX0_append 6 none, Cond.fieldLink RX0 9 "FretRoots$BigNumbe\x72" "digits" "[J", Cond.constantLong RX0 30 (67108863), Cond.methodLink RX0 21 yX0_multiply, Cond.instanceMethod yX0_multiply, Cond.selects RX0 yX0_multiply yX0_multiply]
def wsL_fret_r3 : List Cond := [Cond.code yX0_multiply cX0_multiply 8 none, Cond.methodLink RX3 223 yX3_nextProbe, Cond.static yX3_nextProbe, Cond.code yX3_nextProbe cX3_nextProbe 9 (some .long), Cond.constantLong RX3 231 (2), Cond.methodLink RX3 233 Lib.MathLoose.min_long.x, Cond.static Lib.MathLoose.min_long.x, Cond.initialized "java/lang/Math", Cond.code Lib.MathLoose.min_long.x Lib.MathLoose.min_long.code 4 (some .long), Cond.methodLink RX3 235 Lib.MathLoose.max_long.x, Cond.static Lib.MathLoose.max_long.x, Cond.code Lib.MathLoose.max_long.x Lib.MathLoose.max_long.code 4 (some .long), Cond.methodLink RX3 227 yX3_isNotAboveLeft, Cond.instanceMethod yX3_isNotAboveLeft, Cond.selects RX3 yX3_isNotAboveLeft yX3_isNotAboveLeft, Cond.code yX3_isNotAboveLeft cX3_isNotAboveLeft 4 (some .boolean), Cond.fieldLink RX3 23 "FretRoots" "right" "LFretRoots$BigNumber;", Cond.methodLink RX3 125 yX0_doubleTimes, Cond.instanceMethod yX0_doubleTimes, Cond.selects RX0 yX0_doubleTimes yX0_doubleTimes, Cond.code yX0_doubleTimes cX0_doubleTimes 3 none, Cond.methodLink RX0 24 Lib.Math.min.name, Cond.static Lib.Math.min.name, Cond.code Lib.Math.min.name Lib.Math.min.code 2 (some .int)]
def wsL_fret_r4 : List Cond := [Cond.methodLink RX3 128 yX0_compareWith, Cond.instanceMethod yX0_compareWith, Cond.selects RX0 yX0_compareWith yX0_compareWith, Cond.code yX0_compareWith cX0_compareWith 3 (some .int), Cond.methodLink RX3 104 yX3_endsMeet, Cond.instanceMethod yX3_endsMeet, Cond.selects RX3 yX3_endsMeet yX3_endsMeet, Cond.code yX3_endsMeet cX3_endsMeet 5 (some .boolean)]
def wsL_fret : List Cond := .codeWith yL_fret cL_fret 5 (some .int) [(0, 9, 12, 19)] :: ((wsL_fret_r1 ++ (wsL_fret_r2 ++ (wsL_fret_r3 ++ wsL_fret_r4))) ++ wsX30 ++ wsJx000600 ++ wsX20 ++ wsX00)
def wsL_exact_r1 : List Cond := [Cond.methodLink RL 21 yX3_exact, Cond.instanceMethod yX3_exact, Cond.selects RX3 yX3_exact yX3_exact, Cond.initialized RX3, Cond.code yX3_exact cX3_exact 2 (some .boolean), Cond.fieldLink RX3 71 "FretRoots" "scaleRow" "LFretRoots$FretRow;", Cond.methodLink RX3 97 yX3_needPlace, Cond.instanceMethod yX3_needPlace, Cond.selects RX3 yX3_needPlace yX3_needPlace, Cond.code yX3_needPlace cX3_needPlace 2 none, Cond.fieldLink RX3 53 "FretRoots" "justAbove" "[I", Cond.fieldLink RX3 57 "FretRoots" "justBelow" "[I", Cond.classLink RX3 173 RJx00060, Cond.instantiable RJx00060 6, Cond.initialized RJx00060, Cond.methodLink RX3 100 yX3_lowerEnd, Cond.instanceMethod yX3_lowerEnd, Cond.selects RX3 yX3_lowerEnd yX3_lowerEnd, Cond.code yX3_lowerEnd cX3_lowerEnd 5 (some .long), Cond.fieldLink RX3 42 "FretRoots" "notes" "I", Cond.fieldLink RX3 213 "FretRoots$FretRow" "ends" "[J", Cond.constantLong RX3 217 (-1), Cond.fieldLink RX3 119 "FretRoots$FretRow" "whole" "J", Cond.methodLink RX3 209 yX3_octaveOf]
def wsL_exact_r2 : List Cond := [Cond.instanceMethod yX3_octaveOf, Cond.selects RX3 yX3_octaveOf yX3_octaveOf, Cond.code yX3_octaveOf cX3_octaveOf 2 (some .int), Cond.methodLink RX3 219 yX3_greatestEnd, Cond.instanceMethod yX3_greatestEnd, Cond.selects RX3 yX3_greatestEnd yX3_greatestEnd, Cond.code yX3_greatestEnd cX3_greatestEnd 13 (some .long), Cond.fieldLink RX3 49 "FretRoots" "roots" "[D", Cond.fieldLink RX3 19 "FretRoots" "left" "LFretRoots$BigNumber;", Cond.methodLink RX3 122 yX0_setPower, Cond.instanceMethod yX0_setPower, Cond.selects RX0 yX0_setPower yX0_setPower, Cond.initialized RX0, Cond.code yX0_setPower cX0_setPower 5 none, Cond.fieldLink RX0 13 "FretRoots$BigNumbe\x72" "used" "I", Cond.methodLink RX0 17 yX0_append, Cond.instanceMethod yX0_append, Cond.selects RX0 yX0_append yX0_append, Cond.code yX0_append cX0_append 6 none, Cond.fieldLink RX0 9 "FretRoots$BigNumbe\x72" "digits" "[J", Cond.constantLong RX0 30 (67108863), Cond.methodLink RX0 21 yX0_multiply, Cond.instanceMethod yX0_multiply, Cond.selects RX0 yX0_multiply yX0_multiply]
def wsL_exact_r3 : List Cond := [Cond.code yX0_multiply cX0_multiply 8 none, Cond.methodLink RX3 223 yX3_nextProbe, Cond.static yX3_nextProbe, Cond.code yX3_nextProbe cX3_nextProbe 9 (some .long), Cond.constantLong RX3 231 (2), Cond.methodLink RX3 233 Lib.MathLoose.min_long.x, Cond.static Lib.MathLoose.min_long.x, Cond.initialized "java/lang/Math", Cond.code Lib.MathLoose.min_long.x Lib.MathLoose.min_long.code 4 (some .long), Cond.methodLink RX3 235 Lib.MathLoose.max_long.x, Cond.static Lib.MathLoose.max_long.x, Cond.code Lib.MathLoose.max_long.x Lib.MathLoose.max_long.code 4 (some .long), Cond.methodLink RX3 227 yX3_isNotAboveLeft, Cond.instanceMethod yX3_isNotAboveLeft, Cond.selects RX3 yX3_isNotAboveLeft yX3_isNotAboveLeft, Cond.code yX3_isNotAboveLeft cX3_isNotAboveLeft 4 (some .boolean), Cond.fieldLink RX3 23 "FretRoots" "right" "LFretRoots$BigNumber;", Cond.methodLink RX3 125 yX0_doubleTimes, Cond.instanceMethod yX0_doubleTimes, Cond.selects RX0 yX0_doubleTimes yX0_doubleTimes, Cond.code yX0_doubleTimes cX0_doubleTimes 3 none, Cond.methodLink RX0 24 Lib.Math.min.name, Cond.static Lib.Math.min.name, Cond.code Lib.Math.min.name Lib.Math.min.code 2 (some .int)]
def wsL_exact_r4 : List Cond := [Cond.methodLink RX3 128 yX0_compareWith, Cond.instanceMethod yX0_compareWith, Cond.selects RX0 yX0_compareWith yX0_compareWith, Cond.code yX0_compareWith cX0_compareWith 3 (some .int), Cond.methodLink RX3 104 yX3_endsMeet, Cond.instanceMethod yX3_endsMeet, Cond.selects RX3 yX3_endsMeet yX3_endsMeet, Cond.code yX3_endsMeet cX3_endsMeet 5 (some .boolean)]
def wsL_exact : List Cond := .codeWith yL_exact cL_exact 4 (some .int) [(0, 16, 19, 19)] :: ((wsL_exact_r1 ++ (wsL_exact_r2 ++ (wsL_exact_r3 ++ wsL_exact_r4))) ++ wsX30 ++ wsJx000600 ++ wsX20 ++ wsX00)
def wsL_just_r1 : List Cond := [Cond.classLink RL 19 "java/lang/ArrayIndexOutOfBoundsException", Cond.classLink RL 13 "java/lang/IllegalArgumentException", Cond.methodLink RL 25 yX3_just, Cond.instanceMethod yX3_just, Cond.selects RX3 yX3_just yX3_just, Cond.initialized RX3, Cond.code yX3_just cX3_just 6 none, Cond.constantLong RX3 81 (1000000), Cond.fieldLink RX3 53 "FretRoots" "justAbove" "[I", Cond.fieldLink RX3 57 "FretRoots" "justBelow" "[I", Cond.methodLink RX3 97 yX3_needPlace, Cond.instanceMethod yX3_needPlace, Cond.selects RX3 yX3_needPlace yX3_needPlace, Cond.code yX3_needPlace cX3_needPlace 2 none, Cond.classLink RX3 173 RJx00060, Cond.instantiable RJx00060 6, Cond.initialized RJx00060, Cond.methodLink RX3 83 yX3_needWithin, Cond.static yX3_needWithin, Cond.code yX3_needWithin cX3_needWithin 6 none, Cond.classLink RX3 204 "java/lang/IllegalArgumentException", Cond.initialized "java/lang/IllegalArgumentException", Cond.methodLink RX3 108 yX3_commonDivisor, Cond.static yX3_commonDivisor]
def wsL_just_r2 : List Cond := [Cond.code yX3_commonDivisor cX3_commonDivisor 11 (some .long), Cond.methodLink RX3 112 yX3_quotient, Cond.static yX3_quotient, Cond.code yX3_quotient cX3_quotient 4 (some .long)]
def wsL_just : List Cond := .codeWith yL_just cL_just 5 (some .int) [(0, 7, 10, 19), (0, 7, 14, 13)] :: ((wsL_just_r1 ++ wsL_just_r2) ++ wsX30 ++ wsJx000600 ++ (vx_atS RX3 208 "java/lang/IllegalArgumentException" ["java/lang/RuntimeException", "java/lang/Exception"]).filter goodWord)
def wsL_justAt : List Cond := .codeWith yL_justAt cL_justAt 5 (some .int) [(0, 10, 13, 19)] :: ([.methodLink RL 29 yX3_justAt, .instanceMethod yX3_justAt, .selects RX3 yX3_justAt yX3_justAt, .initialized RX3, .code yX3_justAt cX3_justAt 3 (some .int), .fieldLink RX3 53 "FretRoots" "justAbove" "[I", .fieldLink RX3 57 "FretRoots" "justBelow" "[I", .methodLink RX3 97 yX3_needPlace, .instanceMethod yX3_needPlace, .selects RX3 yX3_needPlace yX3_needPlace, .code yX3_needPlace cX3_needPlace 2 none, .classLink RX3 173 RJx00060, .instantiable RJx00060 6, .initialized RJx00060, .methodLink RX3 115 yX3_needPart, .static yX3_needPart, .code yX3_needPart cX3_needPart 2 none] ++ wsX30 ++ wsJx000600)
def wsL_leaves : List Cond := .codeWith yL_leaves cL_leaves 4 (some .int) [(0, 8, 11, 19)] :: ([.methodLink RL 33 yX3_leaves, .instanceMethod yX3_leaves, .selects RX3 yX3_leaves yX3_leaves, .initialized RX3, .code yX3_leaves cX3_leaves 2 (some .long), .fieldLink RX3 71 "FretRoots" "scaleRow" "LFretRoots$FretRow;", .fieldLink RX3 119 "FretRoots$FretRow" "whole" "J", .fieldLink RX3 57 "FretRoots" "justBelow" "[I", .fieldLink RX3 53 "FretRoots" "justAbove" "[I", .methodLink RX3 97 yX3_needPlace, .instanceMethod yX3_needPlace, .selects RX3 yX3_needPlace yX3_needPlace, .code yX3_needPlace cX3_needPlace 2 none, .classLink RX3 173 RJx00060, .instantiable RJx00060 6, .initialized RJx00060, .methodLink RX3 112 yX3_quotient, .static yX3_quotient, .code yX3_quotient cX3_quotient 4 (some .long)] ++ wsX30 ++ wsX20 ++ wsJx000600)
def wsL_beside_r1 : List Cond := [Cond.methodLink RL 37 yX3_beside, Cond.instanceMethod yX3_beside, Cond.selects RX3 yX3_beside yX3_beside, Cond.initialized RX3, Cond.code yX3_beside cX3_beside 2 (some .int), Cond.fieldLink RX3 19 "FretRoots" "left" "LFretRoots$BigNumber;", Cond.fieldLink RX3 53 "FretRoots" "justAbove" "[I", Cond.fieldLink RX3 42 "FretRoots" "notes" "I", Cond.fieldLink RX3 23 "FretRoots" "right" "LFretRoots$BigNumber;", Cond.fieldLink RX3 57 "FretRoots" "justBelow" "[I", Cond.methodLink RX3 97 yX3_needPlace, Cond.instanceMethod yX3_needPlace, Cond.selects RX3 yX3_needPlace yX3_needPlace, Cond.code yX3_needPlace cX3_needPlace 2 none, Cond.classLink RX3 173 RJx00060, Cond.instantiable RJx00060 6, Cond.initialized RJx00060, Cond.methodLink RX3 122 yX0_setPower, Cond.instanceMethod yX0_setPower, Cond.selects RX0 yX0_setPower yX0_setPower, Cond.initialized RX0, Cond.code yX0_setPower cX0_setPower 5 none, Cond.fieldLink RX0 13 "FretRoots$BigNumbe\x72" "used" "I", Cond.methodLink RX0 17 yX0_append]
def wsL_beside_r2 : List Cond := [Cond.instanceMethod yX0_append, Cond.selects RX0 yX0_append yX0_append, Cond.code yX0_append cX0_append 6 none, Cond.fieldLink RX0 9 "FretRoots$BigNumbe\x72" "digits" "[J", Cond.constantLong RX0 30 (67108863), Cond.methodLink RX0 21 yX0_multiply, Cond.instanceMethod yX0_multiply, Cond.selects RX0 yX0_multiply yX0_multiply, Cond.code yX0_multiply cX0_multiply 8 none, Cond.methodLink RX3 125 yX0_doubleTimes, Cond.instanceMethod yX0_doubleTimes, Cond.selects RX0 yX0_doubleTimes yX0_doubleTimes, Cond.code yX0_doubleTimes cX0_doubleTimes 3 none, Cond.methodLink RX0 24 Lib.Math.min.name, Cond.static Lib.Math.min.name, Cond.initialized "java/lang/Math", Cond.code Lib.Math.min.name Lib.Math.min.code 2 (some .int), Cond.methodLink RX3 128 yX0_compareWith, Cond.instanceMethod yX0_compareWith, Cond.selects RX0 yX0_compareWith yX0_compareWith, Cond.code yX0_compareWith cX0_compareWith 3 (some .int)]
def wsL_beside : List Cond := .codeWith yL_beside cL_beside 4 (some .int) [(0, 9, 12, 19)] :: ((wsL_beside_r1 ++ wsL_beside_r2) ++ wsX30 ++ wsJx000600 ++ wsX00)
def wsL_nearest_r1 : List Cond := [Cond.classLink RL 13 "java/lang/IllegalArgumentException", Cond.methodLink RL 41 yX3_nearest, Cond.instanceMethod yX3_nearest, Cond.selects RX3 yX3_nearest yX3_nearest, Cond.initialized RX3, Cond.code yX3_nearest cX3_nearest 4 (some .int), Cond.constantLong RX3 81 (1000000), Cond.fieldLink RX3 42 "FretRoots" "notes" "I", Cond.methodLink RX3 83 yX3_needWithin, Cond.static yX3_needWithin, Cond.code yX3_needWithin cX3_needWithin 6 none, Cond.classLink RX3 204 "java/lang/IllegalArgumentException", Cond.initialized "java/lang/IllegalArgumentException", Cond.methodLink RX3 132 yX3_lastNotAbove, Cond.instanceMethod yX3_lastNotAbove, Cond.selects RX3 yX3_lastNotAbove yX3_lastNotAbove, Cond.code yX3_lastNotAbove cX3_lastNotAbove 4 (some .int), Cond.fieldLink RX3 19 "FretRoots" "left" "LFretRoots$BigNumber;", Cond.fieldLink RX3 23 "FretRoots" "right" "LFretRoots$BigNumber;", Cond.methodLink RX3 122 yX0_setPower, Cond.instanceMethod yX0_setPower, Cond.selects RX0 yX0_setPower yX0_setPower, Cond.initialized RX0, Cond.code yX0_setPower cX0_setPower 5 none]
def wsL_nearest_r2 : List Cond := [Cond.fieldLink RX0 13 "FretRoots$BigNumbe\x72" "used" "I", Cond.methodLink RX0 17 yX0_append, Cond.instanceMethod yX0_append, Cond.selects RX0 yX0_append yX0_append, Cond.code yX0_append cX0_append 6 none, Cond.fieldLink RX0 9 "FretRoots$BigNumbe\x72" "digits" "[J", Cond.constantLong RX0 30 (67108863), Cond.methodLink RX0 21 yX0_multiply, Cond.instanceMethod yX0_multiply, Cond.selects RX0 yX0_multiply yX0_multiply, Cond.code yX0_multiply cX0_multiply 8 none, Cond.methodLink RX3 125 yX0_doubleTimes, Cond.instanceMethod yX0_doubleTimes, Cond.selects RX0 yX0_doubleTimes yX0_doubleTimes, Cond.code yX0_doubleTimes cX0_doubleTimes 3 none, Cond.methodLink RX0 24 Lib.Math.min.name, Cond.static Lib.Math.min.name, Cond.initialized "java/lang/Math", Cond.code Lib.Math.min.name Lib.Math.min.code 2 (some .int), Cond.methodLink RX3 128 yX0_compareWith, Cond.instanceMethod yX0_compareWith, Cond.selects RX0 yX0_compareWith yX0_compareWith, Cond.code yX0_compareWith cX0_compareWith 3 (some .int), Cond.methodLink RX3 135 yX3_isPastMiddle]
def wsL_nearest_r3 : List Cond := [Cond.instanceMethod yX3_isPastMiddle, Cond.selects RX3 yX3_isPastMiddle yX3_isPastMiddle, Cond.code yX3_isPastMiddle cX3_isPastMiddle 4 (some .boolean)]
def wsL_nearest : List Cond := .codeWith yL_nearest cL_nearest 5 (some .int) [(0, 10, 13, 13)] :: ((wsL_nearest_r1 ++ (wsL_nearest_r2 ++ wsL_nearest_r3)) ++ wsX30 ++ wsX00 ++ (vx_atS RX3 208 "java/lang/IllegalArgumentException" ["java/lang/RuntimeException", "java/lang/Exception"]).filter goodWord)
def wsL_step_r1 : List Cond := [Cond.classLink RL 13 "java/lang/IllegalArgumentException", Cond.methodLink RL 44 yX3_step, Cond.instanceMethod yX3_step, Cond.selects RX3 yX3_step yX3_step, Cond.initialized RX3, Cond.code yX3_step cX3_step 5 (some .boolean), Cond.constantLong RX3 81 (1000000), Cond.fieldLink RX3 10 "FretRoots" "chain" "LFretRoots$Chain;", Cond.methodLink RX3 83 yX3_needWithin, Cond.static yX3_needWithin, Cond.code yX3_needWithin cX3_needWithin 6 none, Cond.classLink RX3 204 "java/lang/IllegalArgumentException", Cond.initialized "java/lang/IllegalArgumentException", Cond.methodLink RX3 108 yX3_commonDivisor, Cond.static yX3_commonDivisor, Cond.code yX3_commonDivisor cX3_commonDivisor 11 (some .long), Cond.methodLink RX3 112 yX3_quotient, Cond.static yX3_quotient, Cond.code yX3_quotient cX3_quotient 4 (some .long), Cond.methodLink RX3 139 yX1_advance, Cond.instanceMethod yX1_advance, Cond.selects RX1 yX1_advance yX1_advance, Cond.initialized RX1, Cond.code yX1_advance cX1_advance 22 (some .boolean)]
def wsL_step_r2 : List Cond := [Cond.fieldLink RX1 9 "FretRoots$Chain" "above" "J", Cond.fieldLink RX1 15 "FretRoots$Chain" "below" "J", Cond.constantLong RX1 42 (-1), Cond.methodLink RX1 31 yX1_twosIn, Cond.static yX1_twosIn, Cond.code yX1_twosIn cX1_twosIn 4 (some .int), Cond.methodLink RX1 35 yX1_oddPart, Cond.static yX1_oddPart, Cond.code yX1_oddPart cX1_oddPart 2 (some .long), Cond.methodLink RX1 39 yX1_productOrNone, Cond.static yX1_productOrNone, Cond.code yX1_productOrNone cX1_productOrNone 4 (some .long), Cond.constantLong RX1 50 (1000000000000000), Cond.methodLink RX1 44 yX1_settle, Cond.instanceMethod yX1_settle, Cond.selects RX1 yX1_settle yX1_settle, Cond.code yX1_settle cX1_settle 12 (some .boolean), Cond.constantLong RX1 48 (2), Cond.fieldLink RX1 18 "FretRoots$Chain" "octaves" "J", Cond.fieldLink RX1 21 "FretRoots$Chain" "steps" "J"]
def wsL_step : List Cond := .codeWith yL_step cL_step 5 (some .int) [(0, 17, 20, 13)] :: ((wsL_step_r1 ++ wsL_step_r2) ++ wsX30 ++ wsX10 ++ (vx_atS RX3 208 "java/lang/IllegalArgumentException" ["java/lang/RuntimeException", "java/lang/Exception"]).filter goodWord)
def wsL_rest : List Cond := .codeWith yL_rest cL_rest 4 (some .int) [(0, 8, 11, 19)] :: ([.methodLink RL 48 yX3_rest, .instanceMethod yX3_rest, .selects RX3 yX3_rest yX3_rest, .initialized RX3, .code yX3_rest cX3_rest 2 (some .long), .fieldLink RX3 10 "FretRoots" "chain" "LFretRoots$Chain;", .fieldLink RX3 146 "FretRoots$Chain" "above" "J", .fieldLink RX3 149 "FretRoots$Chain" "below" "J", .fieldLink RX3 152 "FretRoots$Chain" "octaves" "J", .fieldLink RX3 155 "FretRoots$Chain" "steps" "J", .methodLink RX3 115 yX3_needPart, .static yX3_needPart, .code yX3_needPart cX3_needPart 2 none, .classLink RX3 173 RJx00060, .instantiable RJx00060 6, .initialized RJx00060] ++ wsX30 ++ wsX10 ++ wsJx000600)
def wsL_beat_r1 : List Cond := [Cond.classLink RL 19 "java/lang/ArrayIndexOutOfBoundsException", Cond.classLink RL 13 "java/lang/IllegalArgumentException", Cond.methodLink RL 51 yX3_beat, Cond.instanceMethod yX3_beat, Cond.selects RX3 yX3_beat yX3_beat, Cond.initialized RX3, Cond.code yX3_beat cX3_beat 11 (some .long), Cond.constantLong RX3 158 (100000), Cond.fieldLink RX3 53 "FretRoots" "justAbove" "[I", Cond.fieldLink RX3 57 "FretRoots" "justBelow" "[I", Cond.methodLink RX3 97 yX3_needPlace, Cond.instanceMethod yX3_needPlace, Cond.selects RX3 yX3_needPlace yX3_needPlace, Cond.code yX3_needPlace cX3_needPlace 2 none, Cond.classLink RX3 173 RJx00060, Cond.instantiable RJx00060 6, Cond.initialized RJx00060, Cond.methodLink RX3 115 yX3_needPart, Cond.static yX3_needPart, Cond.code yX3_needPart cX3_needPart 2 none, Cond.methodLink RX3 83 yX3_needWithin, Cond.static yX3_needWithin, Cond.code yX3_needWithin cX3_needWithin 6 none, Cond.classLink RX3 204 "java/lang/IllegalArgumentException"]
def wsL_beat_r2 : List Cond := [Cond.initialized "java/lang/IllegalArgumentException", Cond.methodLink RX3 108 yX3_commonDivisor, Cond.static yX3_commonDivisor, Cond.code yX3_commonDivisor cX3_commonDivisor 11 (some .long), Cond.methodLink RX3 112 yX3_quotient, Cond.static yX3_quotient, Cond.code yX3_quotient cX3_quotient 4 (some .long)]
def wsL_beat : List Cond := .codeWith yL_beat cL_beat 7 (some .int) [(0, 13, 16, 19), (0, 13, 20, 13)] :: ((wsL_beat_r1 ++ wsL_beat_r2) ++ wsX30 ++ wsJx000600 ++ (vx_atS RX3 208 "java/lang/IllegalArgumentException" ["java/lang/RuntimeException", "java/lang/Exception"]).filter goodWord)
def wsL_fan_r1 : List Cond := [Cond.classLink RL 13 "java/lang/IllegalArgumentException", Cond.methodLink RL 55 yX3_fan, Cond.instanceMethod yX3_fan, Cond.selects RX3 yX3_fan yX3_fan, Cond.initialized RX3, Cond.code yX3_fan cX3_fan 4 none, Cond.constantLong RX3 81 (1000000), Cond.constantLong RX3 160 (1000), Cond.fieldLink RX3 30 "FretRoots" "span" "I", Cond.fieldLink RX3 75 "FretRoots" "bassRow" "LFretRoots$FretRow;", Cond.fieldLink RX3 26 "FretRoots" "shift" "I", Cond.fieldLink RX3 78 "FretRoots" "trebleRow" "LFretRoots$FretRow;", Cond.methodLink RX3 83 yX3_needWithin, Cond.static yX3_needWithin, Cond.code yX3_needWithin cX3_needWithin 6 none, Cond.classLink RX3 204 "java/lang/IllegalArgumentException", Cond.initialized "java/lang/IllegalArgumentException", Cond.methodLink RX3 89 yX2_measure, Cond.instanceMethod yX2_measure, Cond.selects RX2 yX2_measure yX2_measure, Cond.initialized RX2, Cond.code yX2_measure cX2_measure 4 none, Cond.fieldLink RX2 23 "FretRoots$FretRow" "length" "J", Cond.fieldLink RX2 29 "FretRoots$FretRow" "whole" "J"]
def wsL_fan_r2 : List Cond := [Cond.fieldLink RX2 15 "FretRoots$FretRow" "ends" "[J", Cond.constantLong RX2 32 (-1), Cond.methodLink RX2 34 yJ7_fill_d0a16, Cond.static yJ7_fill_d0a16, Cond.initialized RJ7, Cond.code yJ7_fill_d0a16 cJ7_fill_d0a16 5 none]
def wsL_fan : List Cond := .codeWith yL_fan cL_fan 5 (some .int) [(0, 7, 10, 13)] :: ((wsL_fan_r1 ++ wsL_fan_r2) ++ wsX30 ++ wsX20 ++ (vx_atS RX3 208 "java/lang/IllegalArgumentException" ["java/lang/RuntimeException", "java/lang/Exception"]).filter goodWord)
def wsL_cross_r1 : List Cond := [Cond.classLink RL 19 "java/lang/ArrayIndexOutOfBoundsException", Cond.classLink RL 13 "java/lang/IllegalArgumentException", Cond.methodLink RL 58 yX3_cross, Cond.instanceMethod yX3_cross, Cond.selects RX3 yX3_cross yX3_cross, Cond.initialized RX3, Cond.code yX3_cross cX3_cross 8 (some .long), Cond.fieldLink RX3 30 "FretRoots" "span" "I", Cond.fieldLink RX3 75 "FretRoots" "bassRow" "LFretRoots$FretRow;", Cond.fieldLink RX3 78 "FretRoots" "trebleRow" "LFretRoots$FretRow;", Cond.methodLink RX3 97 yX3_needPlace, Cond.instanceMethod yX3_needPlace, Cond.selects RX3 yX3_needPlace yX3_needPlace, Cond.code yX3_needPlace cX3_needPlace 2 none, Cond.fieldLink RX3 53 "FretRoots" "justAbove" "[I", Cond.fieldLink RX3 57 "FretRoots" "justBelow" "[I", Cond.classLink RX3 173 RJx00060, Cond.instantiable RJx00060 6, Cond.initialized RJx00060, Cond.methodLink RX3 115 yX3_needPart, Cond.static yX3_needPart, Cond.code yX3_needPart cX3_needPart 2 none, Cond.methodLink RX3 83 yX3_needWithin, Cond.static yX3_needWithin]
def wsL_cross_r2 : List Cond := [Cond.code yX3_needWithin cX3_needWithin 6 none, Cond.classLink RX3 204 "java/lang/IllegalArgumentException", Cond.initialized "java/lang/IllegalArgumentException", Cond.methodLink RX3 100 yX3_lowerEnd, Cond.instanceMethod yX3_lowerEnd, Cond.selects RX3 yX3_lowerEnd yX3_lowerEnd, Cond.code yX3_lowerEnd cX3_lowerEnd 5 (some .long), Cond.fieldLink RX3 42 "FretRoots" "notes" "I", Cond.fieldLink RX3 213 "FretRoots$FretRow" "ends" "[J", Cond.constantLong RX3 217 (-1), Cond.fieldLink RX3 119 "FretRoots$FretRow" "whole" "J", Cond.methodLink RX3 209 yX3_octaveOf, Cond.instanceMethod yX3_octaveOf, Cond.selects RX3 yX3_octaveOf yX3_octaveOf, Cond.code yX3_octaveOf cX3_octaveOf 2 (some .int), Cond.methodLink RX3 219 yX3_greatestEnd, Cond.instanceMethod yX3_greatestEnd, Cond.selects RX3 yX3_greatestEnd yX3_greatestEnd, Cond.code yX3_greatestEnd cX3_greatestEnd 13 (some .long), Cond.fieldLink RX3 49 "FretRoots" "roots" "[D", Cond.fieldLink RX3 19 "FretRoots" "left" "LFretRoots$BigNumber;", Cond.methodLink RX3 122 yX0_setPower, Cond.instanceMethod yX0_setPower, Cond.selects RX0 yX0_setPower yX0_setPower]
def wsL_cross_r3 : List Cond := [Cond.initialized RX0, Cond.code yX0_setPower cX0_setPower 5 none, Cond.fieldLink RX0 13 "FretRoots$BigNumbe\x72" "used" "I", Cond.methodLink RX0 17 yX0_append, Cond.instanceMethod yX0_append, Cond.selects RX0 yX0_append yX0_append, Cond.code yX0_append cX0_append 6 none, Cond.fieldLink RX0 9 "FretRoots$BigNumbe\x72" "digits" "[J", Cond.constantLong RX0 30 (67108863), Cond.methodLink RX0 21 yX0_multiply, Cond.instanceMethod yX0_multiply, Cond.selects RX0 yX0_multiply yX0_multiply, Cond.code yX0_multiply cX0_multiply 8 none, Cond.methodLink RX3 223 yX3_nextProbe, Cond.static yX3_nextProbe, Cond.code yX3_nextProbe cX3_nextProbe 9 (some .long), Cond.constantLong RX3 231 (2), Cond.methodLink RX3 233 Lib.MathLoose.min_long.x, Cond.static Lib.MathLoose.min_long.x, Cond.initialized "java/lang/Math", Cond.code Lib.MathLoose.min_long.x Lib.MathLoose.min_long.code 4 (some .long), Cond.methodLink RX3 235 Lib.MathLoose.max_long.x, Cond.static Lib.MathLoose.max_long.x, Cond.code Lib.MathLoose.max_long.x Lib.MathLoose.max_long.code 4 (some .long)]
def wsL_cross_r4 : List Cond := [Cond.methodLink RX3 227 yX3_isNotAboveLeft, Cond.instanceMethod yX3_isNotAboveLeft, Cond.selects RX3 yX3_isNotAboveLeft yX3_isNotAboveLeft, Cond.code yX3_isNotAboveLeft cX3_isNotAboveLeft 4 (some .boolean), Cond.fieldLink RX3 23 "FretRoots" "right" "LFretRoots$BigNumber;", Cond.methodLink RX3 125 yX0_doubleTimes, Cond.instanceMethod yX0_doubleTimes, Cond.selects RX0 yX0_doubleTimes yX0_doubleTimes, Cond.code yX0_doubleTimes cX0_doubleTimes 3 none, Cond.methodLink RX0 24 Lib.Math.min.name, Cond.static Lib.Math.min.name, Cond.code Lib.Math.min.name Lib.Math.min.code 2 (some .int), Cond.methodLink RX3 128 yX0_compareWith, Cond.instanceMethod yX0_compareWith, Cond.selects RX0 yX0_compareWith yX0_compareWith, Cond.code yX0_compareWith cX0_compareWith 3 (some .int), Cond.methodLink RX3 112 yX3_quotient, Cond.static yX3_quotient, Cond.code yX3_quotient cX3_quotient 4 (some .long)]
def wsL_cross : List Cond := .codeWith yL_cross cL_cross 6 (some .int) [(0, 11, 14, 19), (0, 11, 18, 13)] :: ((wsL_cross_r1 ++ (wsL_cross_r2 ++ (wsL_cross_r3 ++ wsL_cross_r4))) ++ wsX30 ++ wsJx000600 ++ wsX20 ++ wsX00 ++ (vx_atS RX3 208 "java/lang/IllegalArgumentException" ["java/lang/RuntimeException", "java/lang/Exception"]).filter goodWord)
def wsL_key : List Cond := .codeWith yL_key cL_key 7 (some .int) [(0, 12, 15, 19), (0, 12, 19, 13)] :: ([.classLink RL 19 "java/lang/ArrayIndexOutOfBoundsException", .classLink RL 13 "java/lang/IllegalArgumentException", .methodLink RL 62 yX3_key, .instanceMethod yX3_key, .selects RX3 yX3_key yX3_key, .initialized RX3, .code yX3_key cX3_key 7 (some .long), .fieldLink RX3 170 "FretRoots" "WHITE_KEYS" "[I", .classLink RX3 173 RJx00060, .instantiable RJx00060 6, .initialized RJx00060, .constantLong RX3 81 (1000000), .constantLong RX3 180 (24), .constantLong RX3 182 (84), .methodLink RX3 115 yX3_needPart, .static yX3_needPart, .code yX3_needPart cX3_needPart 2 none, .methodLink RX3 83 yX3_needWithin, .static yX3_needWithin, .code yX3_needWithin cX3_needWithin 6 none, .classLink RX3 204 "java/lang/IllegalArgumentException", .initialized "java/lang/IllegalArgumentException"] ++ wsJx000600 ++ (vx_atS RX3 208 "java/lang/IllegalArgumentException" ["java/lang/RuntimeException", "java/lang/Exception"]).filter goodWord)
def wsL_pull : List Cond := .codeWith yL_pull cL_pull 9 (some .int) [(0, 12, 15, 13)] :: ([.classLink RL 13 "java/lang/IllegalArgumentException", .methodLink RL 66 yX3_pull, .instanceMethod yX3_pull, .selects RX3 yX3_pull yX3_pull, .initialized RX3, .code yX3_pull cX3_pull 7 (some .double), .constantDouble RX3 184 (4666723172467343360), .constantDouble RX3 190 (4616189618054758400), .methodLink RX3 186 yX3_needReal, .static yX3_needReal, .code yX3_needReal cX3_needReal 6 none, .classLink RX3 204 "java/lang/IllegalArgumentException", .initialized "java/lang/IllegalArgumentException"] ++ (vx_atS RX3 208 "java/lang/IllegalArgumentException" ["java/lang/RuntimeException", "java/lang/Exception"]).filter goodWord)
def wsL_pipe : List Cond := .codeWith yL_pipe cL_pipe 8 (some .int) [(0, 12, 15, 13)] :: ([.classLink RL 13 "java/lang/IllegalArgumentException", .methodLink RL 70 yX3_pipe, .instanceMethod yX3_pipe, .selects RX3 yX3_pipe yX3_pipe, .initialized RX3, .code yX3_pipe cX3_pipe 6 (some .double), .constantDouble RX3 184 (4666723172467343360), .constantDouble RX3 192 (4636737291354636288), .constantDouble RX3 194 (4644688959446712320), .constantDouble RX3 196 (4611686018427387904), .constantDouble RX3 190 (4616189618054758400), .constantDouble RX3 198 (4604930618986332160), .methodLink RX3 186 yX3_needReal, .static yX3_needReal, .code yX3_needReal cX3_needReal 6 none, .classLink RX3 204 "java/lang/IllegalArgumentException", .initialized "java/lang/IllegalArgumentException"] ++ (vx_atS RX3 208 "java/lang/IllegalArgumentException" ["java/lang/RuntimeException", "java/lang/Exception"]).filter goodWord)
def wsL_law0_r1 : List Cond := [Cond.classLink RL 8 RX3, Cond.instantiable RX3 12, Cond.initialized RX3, Cond.classLink RL 83 RX4, Cond.instantiable RX4 14, Cond.initialized RX4, Cond.arrayClass .long, Cond.arrayClass .double, Cond.constantLong RL 86 (4294967295), Cond.constantDouble RL 150 (4593671619917905920), Cond.methodLink RL 74 yL_cell, Cond.static yL_cell, Cond.initialized RL, Cond.code yL_cell cL_cell 2 (some .int), Cond.methodLink RL 80 yX3_init, Cond.instanceMethod yX3_init, Cond.code yX3_init cX3_init 2 none, Cond.methodLink RX3 1 objectInit, Cond.instanceMethod objectInit, Cond.code objectInit ⟨#[0xb1]⟩ 1 none, Cond.classLink RX3 7 RX1, Cond.instantiable RX1 4, Cond.initialized RX1, Cond.fieldLink RX3 10 "FretRoots" "chain" "LFretRoots$Chain;"]
def wsL_law0_r2 : List Cond := [Cond.classLink RX3 16 RX0, Cond.instantiable RX0 2, Cond.initialized RX0, Cond.fieldLink RX3 19 "FretRoots" "left" "LFretRoots$BigNumber;", Cond.fieldLink RX3 23 "FretRoots" "right" "LFretRoots$BigNumber;", Cond.fieldLink RX3 26 "FretRoots" "shift" "I", Cond.fieldLink RX3 30 "FretRoots" "span" "I", Cond.methodLink RX3 33 Lib.Math.min.name, Cond.static Lib.Math.min.name, Cond.initialized "java/lang/Math", Cond.code Lib.Math.min.name Lib.Math.min.code 2 (some .int), Cond.methodLink RX3 39 Lib.Math.max.name, Cond.static Lib.Math.max.name, Cond.code Lib.Math.max.name Lib.Math.max.code 2 (some .int), Cond.fieldLink RX3 42 "FretRoots" "notes" "I", Cond.fieldLink RX3 49 "FretRoots" "roots" "[D", Cond.arrayClass .int, Cond.fieldLink RX3 53 "FretRoots" "justAbove" "[I", Cond.fieldLink RX3 57 "FretRoots" "justBelow" "[I", Cond.classLink RX3 66 RX2, Cond.instantiable RX2 3, Cond.initialized RX2, Cond.fieldLink RX3 71 "FretRoots" "scaleRow" "LFretRoots$FretRow;", Cond.fieldLink RX3 75 "FretRoots" "bassRow" "LFretRoots$FretRow;"]
def wsL_law0_r3 : List Cond := [Cond.fieldLink RX3 78 "FretRoots" "trebleRow" "LFretRoots$FretRow;", Cond.instanceMethod yX1_init, Cond.code yX1_init cX1_init 1 none, Cond.methodLink RX1 3 objectInit, Cond.fieldLink RX1 9 "FretRoots$Chain" "above" "J", Cond.fieldLink RX1 15 "FretRoots$Chain" "below" "J", Cond.fieldLink RX1 18 "FretRoots$Chain" "octaves" "J", Cond.fieldLink RX1 21 "FretRoots$Chain" "steps" "J", Cond.instanceMethod yX0_init, Cond.code yX0_init cX0_init 1 none, Cond.methodLink RX0 3 objectInit, Cond.fieldLink RX0 9 "FretRoots$BigNumbe\x72" "digits" "[J", Cond.fieldLink RX0 13 "FretRoots$BigNumbe\x72" "used" "I", Cond.methodLink RX3 45 yX3_rootsOfTwo, Cond.static yX3_rootsOfTwo, Cond.code yX3_rootsOfTwo cX3_rootsOfTwo 7 (some (.array .double)), Cond.methodLink RX3 237 yX3_rootOfTwo, Cond.static yX3_rootOfTwo, Cond.code yX3_rootOfTwo cX3_rootOfTwo 7 (some .double), Cond.constantDouble RX3 196 (4611686018427387904), Cond.methodLink RX3 60 yJ7_fill_53178, Cond.static yJ7_fill_53178, Cond.initialized RJ7, Cond.code yJ7_fill_53178 cJ7_fill_53178 4 none]
def wsL_law0_r4 : List Cond := [Cond.methodLink RX3 68 yX2_init, Cond.instanceMethod yX2_init, Cond.code yX2_init cX2_init 2 none, Cond.methodLink RX2 3 objectInit, Cond.methodLink RX2 9 Lib.Math.max.name, Cond.fieldLink RX2 15 "FretRoots$FretRow" "ends" "[J", Cond.constantLong RX2 21 (1000), Cond.fieldLink RX2 23 "FretRoots$FretRow" "length" "J", Cond.constantLong RX2 27 (256000), Cond.fieldLink RX2 29 "FretRoots$FretRow" "whole" "J", Cond.constantLong RX2 32 (-1), Cond.methodLink RX2 34 yJ7_fill_d0a16, Cond.static yJ7_fill_d0a16, Cond.code yJ7_fill_d0a16 cJ7_fill_d0a16 5 none, Cond.methodLink RL 85 yX4_init, Cond.instanceMethod yX4_init, Cond.code yX4_init cX4_init 3 none, Cond.methodLink RX4 1 objectInit, Cond.constantLong RX4 7 (1000), Cond.fieldLink RX4 9 "FretRootsModel" "length" "J", Cond.fieldLink RX4 15 "FretRootsModel" "shift" "I", Cond.fieldLink RX4 19 "FretRootsModel" "aboves" "[I", Cond.fieldLink RX4 23 "FretRootsModel" "belows" "[I", Cond.fieldLink RX4 26 "FretRootsModel" "chainAbove" "J"]
def wsL_law0_r5 : List Cond := [Cond.fieldLink RX4 29 "FretRootsModel" "chainBelow" "J", Cond.fieldLink RX4 32 "FretRootsModel" "bass" "I", Cond.fieldLink RX4 35 "FretRootsModel" "treble" "I", Cond.fieldLink RX4 38 "FretRootsModel" "span" "I", Cond.fieldLink RX4 41 "FretRootsModel" "\x72" "[I", Cond.fieldLink RX4 44 "FretRootsModel" "notes" "I", Cond.methodLink RL 88 yL_scale, Cond.static yL_scale, Cond.codeWith yL_scale cL_scale 5 (some .int) [(0, 6, 9, 13)], Cond.classLink RL 13 "java/lang/IllegalArgumentException", Cond.methodLink RL 7 yX3_scale, Cond.instanceMethod yX3_scale, Cond.selects RX3 yX3_scale yX3_scale, Cond.code yX3_scale cX3_scale 4 none, Cond.constantLong RX3 81 (1000000), Cond.constantLong RX3 87 (16), Cond.fieldLink RX3 93 "FretRoots$FretRow" "length" "J", Cond.methodLink RX3 83 yX3_needWithin, Cond.static yX3_needWithin, Cond.code yX3_needWithin cX3_needWithin 6 none, Cond.classLink RX3 204 "java/lang/IllegalArgumentException", Cond.initialized "java/lang/IllegalArgumentException", Cond.methodLink RX3 89 yX2_measure, Cond.instanceMethod yX2_measure]
def wsL_law0_r6 : List Cond := [Cond.selects RX2 yX2_measure yX2_measure, Cond.code yX2_measure cX2_measure 4 none, Cond.methodLink RL 91 yX4_scale, Cond.instanceMethod yX4_scale, Cond.selects RX4 yX4_scale yX4_scale, Cond.code yX4_scale cX4_scale 4 none, Cond.constantLong RX4 65 (1000000), Cond.constantLong RX4 67 (16), Cond.fieldLink RX4 47 "FretRootsModel" "thrown" "I", Cond.methodLink RX4 52 yX4_isIn, Cond.static yX4_isIn, Cond.code yX4_isIn cX4_isIn 6 (some .boolean), Cond.methodLink RL 92 yX4_thrown, Cond.instanceMethod yX4_thrown, Cond.selects RX4 yX4_thrown yX4_thrown, Cond.code yX4_thrown cX4_thrown 1 (some .int), Cond.methodLink RL 96 yL_fret, Cond.static yL_fret, Cond.codeWith yL_fret cL_fret 5 (some .int) [(0, 9, 12, 19)], Cond.methodLink RL 15 yX3_fret, Cond.instanceMethod yX3_fret, Cond.selects RX3 yX3_fret yX3_fret, Cond.code yX3_fret cX3_fret 5 (some .long), Cond.methodLink RX3 97 yX3_needPlace]
def wsL_law0_r7 : List Cond := [Cond.instanceMethod yX3_needPlace, Cond.selects RX3 yX3_needPlace yX3_needPlace, Cond.code yX3_needPlace cX3_needPlace 2 none, Cond.classLink RX3 173 RJx00060, Cond.instantiable RJx00060 6, Cond.initialized RJx00060, Cond.methodLink RX3 100 yX3_lowerEnd, Cond.instanceMethod yX3_lowerEnd, Cond.selects RX3 yX3_lowerEnd yX3_lowerEnd, Cond.code yX3_lowerEnd cX3_lowerEnd 5 (some .long), Cond.fieldLink RX3 213 "FretRoots$FretRow" "ends" "[J", Cond.constantLong RX3 217 (-1), Cond.fieldLink RX3 119 "FretRoots$FretRow" "whole" "J", Cond.methodLink RX3 209 yX3_octaveOf, Cond.instanceMethod yX3_octaveOf, Cond.selects RX3 yX3_octaveOf yX3_octaveOf, Cond.code yX3_octaveOf cX3_octaveOf 2 (some .int), Cond.methodLink RX3 219 yX3_greatestEnd, Cond.instanceMethod yX3_greatestEnd, Cond.selects RX3 yX3_greatestEnd yX3_greatestEnd, Cond.code yX3_greatestEnd cX3_greatestEnd 13 (some .long), Cond.methodLink RX3 122 yX0_setPower, Cond.instanceMethod yX0_setPower, Cond.selects RX0 yX0_setPower yX0_setPower]
def wsL_law0_r8 : List Cond := [Cond.code yX0_setPower cX0_setPower 5 none, Cond.methodLink RX0 17 yX0_append, Cond.instanceMethod yX0_append, Cond.selects RX0 yX0_append yX0_append, Cond.code yX0_append cX0_append 6 none, Cond.constantLong RX0 30 (67108863), Cond.methodLink RX0 21 yX0_multiply, Cond.instanceMethod yX0_multiply, Cond.selects RX0 yX0_multiply yX0_multiply, Cond.code yX0_multiply cX0_multiply 8 none, Cond.methodLink RX3 223 yX3_nextProbe, Cond.static yX3_nextProbe, Cond.code yX3_nextProbe cX3_nextProbe 9 (some .long), Cond.constantLong RX3 231 (2), Cond.methodLink RX3 233 Lib.MathLoose.min_long.x, Cond.static Lib.MathLoose.min_long.x, Cond.code Lib.MathLoose.min_long.x Lib.MathLoose.min_long.code 4 (some .long), Cond.methodLink RX3 235 Lib.MathLoose.max_long.x, Cond.static Lib.MathLoose.max_long.x, Cond.code Lib.MathLoose.max_long.x Lib.MathLoose.max_long.code 4 (some .long), Cond.methodLink RX3 227 yX3_isNotAboveLeft, Cond.instanceMethod yX3_isNotAboveLeft, Cond.selects RX3 yX3_isNotAboveLeft yX3_isNotAboveLeft, Cond.code yX3_isNotAboveLeft cX3_isNotAboveLeft 4 (some .boolean)]
def wsL_law0_r9 : List Cond := [Cond.methodLink RX3 125 yX0_doubleTimes, Cond.instanceMethod yX0_doubleTimes, Cond.selects RX0 yX0_doubleTimes yX0_doubleTimes, Cond.code yX0_doubleTimes cX0_doubleTimes 3 none, Cond.methodLink RX0 24 Lib.Math.min.name, Cond.methodLink RX3 128 yX0_compareWith, Cond.instanceMethod yX0_compareWith, Cond.selects RX0 yX0_compareWith yX0_compareWith, Cond.code yX0_compareWith cX0_compareWith 3 (some .int), Cond.methodLink RX3 104 yX3_endsMeet, Cond.instanceMethod yX3_endsMeet, Cond.selects RX3 yX3_endsMeet yX3_endsMeet, Cond.code yX3_endsMeet cX3_endsMeet 5 (some .boolean), Cond.methodLink RL 99 yX4_fret, Cond.instanceMethod yX4_fret, Cond.selects RX4 yX4_fret yX4_fret, Cond.code yX4_fret cX4_fret 5 (some .long), Cond.methodLink RX4 85 yX4_noPlace, Cond.instanceMethod yX4_noPlace, Cond.selects RX4 yX4_noPlace yX4_noPlace, Cond.code yX4_noPlace cX4_noPlace 2 (some .boolean), Cond.constantLong RX4 50 (2), Cond.methodLink RX4 89 yX4_lower, Cond.instanceMethod yX4_lower]
def wsL_law0_r10 : List Cond := [Cond.selects RX4 yX4_lower yX4_lower, Cond.code yX4_lower cX4_lower 12 (some .long), Cond.methodLink RX4 81 yX4_side, Cond.instanceMethod yX4_side, Cond.selects RX4 yX4_side yX4_side, Cond.code yX4_side cX4_side 6 (some .int), Cond.methodLink RX4 69 yX4_power, Cond.instanceMethod yX4_power, Cond.selects RX4 yX4_power yX4_power, Cond.code yX4_power cX4_power 6 none, Cond.methodLink RX4 58 yX4_set, Cond.instanceMethod yX4_set, Cond.selects RX4 yX4_set yX4_set, Cond.code yX4_set cX4_set 5 none, Cond.methodLink RX4 62 yX4_times, Cond.instanceMethod yX4_times, Cond.selects RX4 yX4_times yX4_times, Cond.code yX4_times cX4_times 21 none, Cond.constantLong RX4 56 (32767), Cond.methodLink RX4 73 yX4_twice, Cond.instanceMethod yX4_twice, Cond.selects RX4 yX4_twice yX4_twice, Cond.code yX4_twice cX4_twice 4 none, Cond.methodLink RX4 77 yX4_compare]
def wsL_law0_r11 : List Cond := [Cond.instanceMethod yX4_compare, Cond.selects RX4 yX4_compare yX4_compare, Cond.code yX4_compare cX4_compare 3 (some .int), Cond.methodLink RL 100 yL_exact, Cond.static yL_exact, Cond.codeWith yL_exact cL_exact 4 (some .int) [(0, 16, 19, 19)], Cond.methodLink RL 21 yX3_exact, Cond.instanceMethod yX3_exact, Cond.selects RX3 yX3_exact yX3_exact, Cond.code yX3_exact cX3_exact 2 (some .boolean), Cond.methodLink RL 103 yX4_exact, Cond.instanceMethod yX4_exact, Cond.selects RX4 yX4_exact yX4_exact, Cond.code yX4_exact cX4_exact 2 (some .boolean), Cond.methodLink RL 104 yL_just, Cond.static yL_just, Cond.codeWith yL_just cL_just 5 (some .int) [(0, 7, 10, 19), (0, 7, 14, 13)], Cond.classLink RL 19 "java/lang/ArrayIndexOutOfBoundsException", Cond.methodLink RL 25 yX3_just, Cond.instanceMethod yX3_just, Cond.selects RX3 yX3_just yX3_just, Cond.code yX3_just cX3_just 6 none, Cond.methodLink RX3 108 yX3_commonDivisor, Cond.static yX3_commonDivisor]
def wsL_law0_r12 : List Cond := [Cond.code yX3_commonDivisor cX3_commonDivisor 11 (some .long), Cond.methodLink RX3 112 yX3_quotient, Cond.static yX3_quotient, Cond.code yX3_quotient cX3_quotient 4 (some .long), Cond.methodLink RL 107 yX4_just, Cond.instanceMethod yX4_just, Cond.selects RX4 yX4_just yX4_just, Cond.code yX4_just cX4_just 5 none, Cond.methodLink RX4 93 yX4_isPart, Cond.static yX4_isPart, Cond.code yX4_isPart cX4_isPart 1 (some .boolean), Cond.methodLink RX4 96 yX4_divisor, Cond.static yX4_divisor, Cond.code yX4_divisor cX4_divisor 10 (some .long), Cond.methodLink RL 108 yL_justAt, Cond.static yL_justAt, Cond.codeWith yL_justAt cL_justAt 5 (some .int) [(0, 10, 13, 19)], Cond.methodLink RL 29 yX3_justAt, Cond.instanceMethod yX3_justAt, Cond.selects RX3 yX3_justAt yX3_justAt, Cond.code yX3_justAt cX3_justAt 3 (some .int), Cond.methodLink RX3 115 yX3_needPart, Cond.static yX3_needPart, Cond.code yX3_needPart cX3_needPart 2 none]
def wsL_law0_r13 : List Cond := [Cond.methodLink RL 111 yX4_justAt, Cond.instanceMethod yX4_justAt, Cond.selects RX4 yX4_justAt yX4_justAt, Cond.code yX4_justAt cX4_justAt 3 (some .int), Cond.methodLink RL 112 yL_leaves, Cond.static yL_leaves, Cond.codeWith yL_leaves cL_leaves 4 (some .int) [(0, 8, 11, 19)], Cond.methodLink RL 33 yX3_leaves, Cond.instanceMethod yX3_leaves, Cond.selects RX3 yX3_leaves yX3_leaves, Cond.code yX3_leaves cX3_leaves 2 (some .long), Cond.methodLink RL 114 yX4_leaves, Cond.instanceMethod yX4_leaves, Cond.selects RX4 yX4_leaves yX4_leaves, Cond.code yX4_leaves cX4_leaves 2 (some .long), Cond.methodLink RL 115 yL_beside, Cond.static yL_beside, Cond.codeWith yL_beside cL_beside 4 (some .int) [(0, 9, 12, 19)], Cond.methodLink RL 37 yX3_beside, Cond.instanceMethod yX3_beside, Cond.selects RX3 yX3_beside yX3_beside, Cond.code yX3_beside cX3_beside 2 (some .int), Cond.methodLink RL 117 yX4_beside, Cond.instanceMethod yX4_beside]
def wsL_law0_r14 : List Cond := [Cond.selects RX4 yX4_beside yX4_beside, Cond.code yX4_beside cX4_beside 2 (some .int), Cond.methodLink RX4 100 yX4_side_, Cond.instanceMethod yX4_side_, Cond.selects RX4 yX4_side_ yX4_side_, Cond.code yX4_side_ cX4_side_ 5 (some .int), Cond.methodLink RL 118 yL_nearest, Cond.static yL_nearest, Cond.codeWith yL_nearest cL_nearest 5 (some .int) [(0, 10, 13, 13)], Cond.methodLink RL 41 yX3_nearest, Cond.instanceMethod yX3_nearest, Cond.selects RX3 yX3_nearest yX3_nearest, Cond.code yX3_nearest cX3_nearest 4 (some .int), Cond.methodLink RX3 132 yX3_lastNotAbove, Cond.instanceMethod yX3_lastNotAbove, Cond.selects RX3 yX3_lastNotAbove yX3_lastNotAbove, Cond.code yX3_lastNotAbove cX3_lastNotAbove 4 (some .int), Cond.methodLink RX3 135 yX3_isPastMiddle, Cond.instanceMethod yX3_isPastMiddle, Cond.selects RX3 yX3_isPastMiddle yX3_isPastMiddle, Cond.code yX3_isPastMiddle cX3_isPastMiddle 4 (some .boolean), Cond.methodLink RL 120 yX4_nearest, Cond.instanceMethod yX4_nearest, Cond.selects RX4 yX4_nearest yX4_nearest]
def wsL_law0_r15 : List Cond := [Cond.code yX4_nearest cX4_nearest 4 (some .int), Cond.methodLink RL 121 yL_step, Cond.static yL_step, Cond.codeWith yL_step cL_step 5 (some .int) [(0, 17, 20, 13)], Cond.methodLink RL 44 yX3_step, Cond.instanceMethod yX3_step, Cond.selects RX3 yX3_step yX3_step, Cond.code yX3_step cX3_step 5 (some .boolean), Cond.methodLink RX3 139 yX1_advance, Cond.instanceMethod yX1_advance, Cond.selects RX1 yX1_advance yX1_advance, Cond.code yX1_advance cX1_advance 22 (some .boolean), Cond.constantLong RX1 42 (-1), Cond.methodLink RX1 31 yX1_twosIn, Cond.static yX1_twosIn, Cond.code yX1_twosIn cX1_twosIn 4 (some .int), Cond.methodLink RX1 35 yX1_oddPart, Cond.static yX1_oddPart, Cond.code yX1_oddPart cX1_oddPart 2 (some .long), Cond.methodLink RX1 39 yX1_productOrNone, Cond.static yX1_productOrNone, Cond.code yX1_productOrNone cX1_productOrNone 4 (some .long), Cond.constantLong RX1 50 (1000000000000000), Cond.methodLink RX1 44 yX1_settle]
def wsL_law0_r16 : List Cond := [Cond.instanceMethod yX1_settle, Cond.selects RX1 yX1_settle yX1_settle, Cond.code yX1_settle cX1_settle 12 (some .boolean), Cond.constantLong RX1 48 (2), Cond.methodLink RL 123 yX4_step, Cond.instanceMethod yX4_step, Cond.selects RX4 yX4_step yX4_step, Cond.code yX4_step cX4_step 16 (some .boolean), Cond.constantLong RX4 109 (1000000000000000), Cond.fieldLink RX4 125 "FretRootsModel" "octaves" "J", Cond.fieldLink RX4 128 "FretRootsModel" "steps" "J", Cond.methodLink RX4 111 yX4_half, Cond.instanceMethod yX4_half, Cond.selects RX4 yX4_half yX4_half, Cond.code yX4_half cX4_half 4 none, Cond.methodLink RX4 115 yX4_down, Cond.instanceMethod yX4_down, Cond.selects RX4 yX4_down yX4_down, Cond.code yX4_down cX4_down 1 none, Cond.methodLink RX4 118 yX4_isEven, Cond.instanceMethod yX4_isEven, Cond.selects RX4 yX4_isEven yX4_isEven, Cond.code yX4_isEven cX4_isEven 2 (some .boolean), Cond.methodLink RX4 121 yX4_told]
def wsL_law0_r17 : List Cond := [Cond.instanceMethod yX4_told, Cond.selects RX4 yX4_told yX4_told, Cond.code yX4_told cX4_told 5 (some .long), Cond.constantLong RX4 103 (30517578125), Cond.constantLong RX4 105 (1000000000000001), Cond.constantLong RX4 107 (32768), Cond.methodLink RL 124 yX3_clear, Cond.instanceMethod yX3_clear, Cond.selects RX3 yX3_clear yX3_clear, Cond.code yX3_clear cX3_clear 1 none, Cond.methodLink RX3 143 yX1_restart, Cond.instanceMethod yX1_restart, Cond.selects RX1 yX1_restart yX1_restart, Cond.code yX1_restart cX1_restart 1 none, Cond.methodLink RL 127 yX4_clear, Cond.instanceMethod yX4_clear, Cond.selects RX4 yX4_clear yX4_clear, Cond.code yX4_clear cX4_clear 1 none, Cond.methodLink RL 128 yL_rest, Cond.static yL_rest, Cond.codeWith yL_rest cL_rest 4 (some .int) [(0, 8, 11, 19)], Cond.methodLink RL 48 yX3_rest, Cond.instanceMethod yX3_rest, Cond.selects RX3 yX3_rest yX3_rest]
def wsL_law0_r18 : List Cond := [Cond.code yX3_rest cX3_rest 2 (some .long), Cond.fieldLink RX3 146 "FretRoots$Chain" "above" "J", Cond.fieldLink RX3 149 "FretRoots$Chain" "below" "J", Cond.fieldLink RX3 152 "FretRoots$Chain" "octaves" "J", Cond.fieldLink RX3 155 "FretRoots$Chain" "steps" "J", Cond.methodLink RL 130 yX4_rest, Cond.instanceMethod yX4_rest, Cond.selects RX4 yX4_rest yX4_rest, Cond.code yX4_rest cX4_rest 2 (some .long), Cond.constantLong RX4 131 (3), Cond.methodLink RL 131 yL_beat, Cond.static yL_beat, Cond.codeWith yL_beat cL_beat 7 (some .int) [(0, 13, 16, 19), (0, 13, 20, 13)], Cond.methodLink RL 51 yX3_beat, Cond.instanceMethod yX3_beat, Cond.selects RX3 yX3_beat yX3_beat, Cond.code yX3_beat cX3_beat 11 (some .long), Cond.constantLong RX3 158 (100000), Cond.methodLink RL 134 yX4_beat, Cond.instanceMethod yX4_beat, Cond.selects RX4 yX4_beat yX4_beat, Cond.code yX4_beat cX4_beat 11 (some .long), Cond.constantLong RX4 133 (100000), Cond.methodLink RL 135 yL_fan]
def wsL_law0_r19 : List Cond := [Cond.static yL_fan, Cond.codeWith yL_fan cL_fan 5 (some .int) [(0, 7, 10, 13)], Cond.methodLink RL 55 yX3_fan, Cond.instanceMethod yX3_fan, Cond.selects RX3 yX3_fan yX3_fan, Cond.code yX3_fan cX3_fan 4 none, Cond.constantLong RX3 160 (1000), Cond.methodLink RL 137 yX4_fan, Cond.instanceMethod yX4_fan, Cond.selects RX4 yX4_fan yX4_fan, Cond.code yX4_fan cX4_fan 4 none, Cond.methodLink RL 138 yL_cross, Cond.static yL_cross, Cond.codeWith yL_cross cL_cross 6 (some .int) [(0, 11, 14, 19), (0, 11, 18, 13)], Cond.methodLink RL 58 yX3_cross, Cond.instanceMethod yX3_cross, Cond.selects RX3 yX3_cross yX3_cross, Cond.code yX3_cross cX3_cross 8 (some .long), Cond.methodLink RL 141 yX4_cross, Cond.instanceMethod yX4_cross, Cond.selects RX4 yX4_cross yX4_cross, Cond.code yX4_cross cX4_cross 6 (some .long), Cond.methodLink RL 142 yX3_upright, Cond.instanceMethod yX3_upright]
def wsL_law0_r20 : List Cond := [Cond.selects RX3 yX3_upright yX3_upright, Cond.code yX3_upright cX3_upright 7 (some .int), Cond.constantLong RX3 164 (9223372036854775807), Cond.methodLink RX3 166 Lib.MathLoose.abs_long.x, Cond.static Lib.MathLoose.abs_long.x, Cond.code Lib.MathLoose.abs_long.x Lib.MathLoose.abs_long.code 2 (some .long), Cond.methodLink RL 145 yX4_upright, Cond.instanceMethod yX4_upright, Cond.selects RX4 yX4_upright yX4_upright, Cond.code yX4_upright cX4_upright 7 (some .int), Cond.methodLink RL 146 yL_key, Cond.static yL_key, Cond.codeWith yL_key cL_key 7 (some .int) [(0, 12, 15, 19), (0, 12, 19, 13)], Cond.methodLink RL 62 yX3_key, Cond.instanceMethod yX3_key, Cond.selects RX3 yX3_key yX3_key, Cond.code yX3_key cX3_key 7 (some .long), Cond.fieldLink RX3 170 "FretRoots" "WHITE_KEYS" "[I", Cond.constantLong RX3 180 (24), Cond.constantLong RX3 182 (84), Cond.methodLink RL 149 yX4_key, Cond.instanceMethod yX4_key, Cond.selects RX4 yX4_key yX4_key, Cond.code yX4_key cX4_key 6 (some .long)]
def wsL_law0_r21 : List Cond := [Cond.constantLong RX4 135 (11), Cond.constantLong RX4 141 (24), Cond.constantLong RX4 143 (84), Cond.constantLong RX4 145 (12), Cond.methodLink RX4 137 yX4_white, Cond.static yX4_white, Cond.code yX4_white cX4_white 2 (some .int), Cond.methodLink RL 152 yL_pull, Cond.static yL_pull, Cond.codeWith yL_pull cL_pull 9 (some .int) [(0, 12, 15, 13)], Cond.methodLink RL 66 yX3_pull, Cond.instanceMethod yX3_pull, Cond.selects RX3 yX3_pull yX3_pull, Cond.code yX3_pull cX3_pull 7 (some .double), Cond.constantDouble RX3 184 (4666723172467343360), Cond.constantDouble RX3 190 (4616189618054758400), Cond.methodLink RX3 186 yX3_needReal, Cond.static yX3_needReal, Cond.code yX3_needReal cX3_needReal 6 none, Cond.methodLink RL 155 yX4_pull, Cond.instanceMethod yX4_pull, Cond.selects RX4 yX4_pull yX4_pull, Cond.code yX4_pull cX4_pull 8 (some .double), Cond.constantDouble RX4 147 (4666723172467343360)]
def wsL_law0_r22 : List Cond := [Cond.constantDouble RX4 149 (4616189618054758400), Cond.methodLink RL 156 yL_pipe, Cond.static yL_pipe, Cond.codeWith yL_pipe cL_pipe 8 (some .int) [(0, 12, 15, 13)], Cond.methodLink RL 70 yX3_pipe, Cond.instanceMethod yX3_pipe, Cond.selects RX3 yX3_pipe yX3_pipe, Cond.code yX3_pipe cX3_pipe 6 (some .double), Cond.constantDouble RX3 192 (4636737291354636288), Cond.constantDouble RX3 194 (4644688959446712320), Cond.constantDouble RX3 198 (4604930618986332160), Cond.methodLink RL 159 yX4_pipe, Cond.instanceMethod yX4_pipe, Cond.selects RX4 yX4_pipe yX4_pipe, Cond.code yX4_pipe cX4_pipe 7 (some .double), Cond.constantDouble RX4 151 (4636737291354636288), Cond.constantDouble RX4 153 (4644688959446712320), Cond.constantDouble RX4 155 (4611686018427387904), Cond.constantDouble RX4 157 (4604930618986332160)]
def wsL_law0 : List Cond := (wsL_law0_r1 ++ (wsL_law0_r2 ++ (wsL_law0_r3 ++ (wsL_law0_r4 ++ (wsL_law0_r5 ++ (wsL_law0_r6 ++ (wsL_law0_r7 ++ (wsL_law0_r8 ++ (wsL_law0_r9 ++ (wsL_law0_r10 ++ (wsL_law0_r11 ++ (wsL_law0_r12 ++ (wsL_law0_r13 ++ (wsL_law0_r14 ++ (wsL_law0_r15 ++ (wsL_law0_r16 ++ (wsL_law0_r17 ++ (wsL_law0_r18 ++ (wsL_law0_r19 ++ (wsL_law0_r20 ++ (wsL_law0_r21 ++ wsL_law0_r22))))))))))))))))))))) ++ wsX30 ++ wsX40 ++ wsX10 ++ wsX00 ++ wsX20 ++ wsJx000600 ++ ([] : List Cond)
def wsL_law : List Cond := wsL_law0 ++ (vx_atS RX3 208 "java/lang/IllegalArgumentException" ["java/lang/RuntimeException", "java/lang/Exception"]).filter goodWord
theorem dX0_init_0 : decode cX0_init 0 = .ok (.aload_n 0, 1) := by decide +kernel
theorem dX0_init_1 : decode cX0_init 1 = .ok (.invokespecial 3, 3) := by decide +kernel
theorem dX0_init_4 : decode cX0_init 4 = .ok (.aload_n 0, 1) := by decide +kernel
theorem dX0_init_5 : decode cX0_init 5 = .ok (.bipush 40, 2) := by decide +kernel
theorem dX0_init_7 : decode cX0_init 7 = .ok (.newarray .long, 2) := by decide +kernel
theorem dX0_init_9 : decode cX0_init 9 = .ok (.putfield 9, 3) := by decide +kernel
theorem dX0_init_12 : decode cX0_init 12 = .ok (.aload_n 0, 1) := by decide +kernel
theorem dX0_init_13 : decode cX0_init 13 = .ok (.iconst 0, 1) := by decide +kernel
theorem dX0_init_14 : decode cX0_init 14 = .ok (.putfield 13, 3) := by decide +kernel
theorem dX0_init_17 : decode cX0_init 17 = .ok (.return_, 1) := by decide +kernel
set_option maxRecDepth 20000 in
theorem ggX0_setPower_X0_append : GoodIn wsX0_setPower wsX0_append := goodIn_r _ [6, 1, 7, 8, 13, 14] (by decide +kernel) (by decide +kernel)
set_option maxRecDepth 20000 in
theorem gX0_setPower_X0_append : GoodIn wsX0_setPower (wsV RX0 17 RX0 yX0_append wsX0_append) := goodIn_app (goodIn_of _ (by decide +kernel)) ggX0_setPower_X0_append
set_option maxRecDepth 20000 in
theorem ggX0_setPower_X0_multiply : GoodIn wsX0_setPower wsX0_multiply := goodIn_r _ [12, 1, 7, 8, 2, 3, 4, 5, 6, 13, 14] (by decide +kernel) (by decide +kernel)
set_option maxRecDepth 20000 in
theorem gX0_setPower_X0_multiply : GoodIn wsX0_setPower (wsV RX0 21 RX0 yX0_multiply wsX0_multiply) := goodIn_app (goodIn_of _ (by decide +kernel)) ggX0_setPower_X0_multiply
theorem dX0_setPower_0 : decode cX0_setPower 0 = .ok (.aload_n 0, 1) := by decide +kernel
theorem dX0_setPower_1 : decode cX0_setPower 1 = .ok (.iconst 0, 1) := by decide +kernel
theorem dX0_setPower_2 : decode cX0_setPower 2 = .ok (.putfield 13, 3) := by decide +kernel
theorem dX0_setPower_5 : decode cX0_setPower 5 = .ok (.aload_n 0, 1) := by decide +kernel
theorem dX0_setPower_6 : decode cX0_setPower 6 = .ok (.lconst 1, 1) := by decide +kernel
theorem dX0_setPower_7 : decode cX0_setPower 7 = .ok (.invokevirtual 17, 3) := by decide +kernel
theorem dX0_setPower_10 : decode cX0_setPower 10 = .ok (.iconst 0, 1) := by decide +kernel
theorem dX0_setPower_11 : decode cX0_setPower 11 = .ok (.istore 4, 2) := by decide +kernel
theorem dX0_setPower_13 : decode cX0_setPower 13 = .ok (.iload 4, 2) := by decide +kernel
theorem dX0_setPower_15 : decode cX0_setPower 15 = .ok (.iload_n 3, 1) := by decide +kernel
theorem dX0_setPower_16 : decode cX0_setPower 16 = .ok (.if_icmp .ge 14, 3) := by decide +kernel
theorem dX0_setPower_19 : decode cX0_setPower 19 = .ok (.aload_n 0, 1) := by decide +kernel
theorem dX0_setPower_20 : decode cX0_setPower 20 = .ok (.lload_n 1, 1) := by decide +kernel
theorem dX0_setPower_21 : decode cX0_setPower 21 = .ok (.invokevirtual 21, 3) := by decide +kernel
theorem dX0_setPower_24 : decode cX0_setPower 24 = .ok (.iinc 4 1, 3) := by decide +kernel
theorem dX0_setPower_27 : decode cX0_setPower 27 = .ok (.goto (-14), 3) := by decide +kernel
theorem dX0_setPower_30 : decode cX0_setPower 30 = .ok (.return_, 1) := by decide +kernel
set_option maxRecDepth 20000 in
theorem ggX0_doubleTimes_X0_multiply : GoodIn wsX0_doubleTimes wsX0_multiply := goodIn_r _ [9, 10, 11, 12, 13, 14, 15, 8, 16, 17, 18] (by decide +kernel) (by decide +kernel)
set_option maxRecDepth 20000 in
theorem gX0_doubleTimes_X0_multiply : GoodIn wsX0_doubleTimes (wsV RX0 21 RX0 yX0_multiply wsX0_multiply) := goodIn_app (goodIn_of _ (by decide +kernel)) ggX0_doubleTimes_X0_multiply
theorem dX0_doubleTimes_0 : decode cX0_doubleTimes 0 = .ok (.iload_n 1, 1) := by decide +kernel
theorem dX0_doubleTimes_1 : decode cX0_doubleTimes 1 = .ok (.istore_n 2, 1) := by decide +kernel
theorem dX0_doubleTimes_2 : decode cX0_doubleTimes 2 = .ok (.iload_n 2, 1) := by decide +kernel
theorem dX0_doubleTimes_3 : decode cX0_doubleTimes 3 = .ok (.ifCond .le 23, 3) := by decide +kernel
theorem dX0_doubleTimes_6 : decode cX0_doubleTimes 6 = .ok (.aload_n 0, 1) := by decide +kernel
theorem dX0_doubleTimes_7 : decode cX0_doubleTimes 7 = .ok (.lconst 1, 1) := by decide +kernel
theorem dX0_doubleTimes_8 : decode cX0_doubleTimes 8 = .ok (.iload_n 2, 1) := by decide +kernel
theorem dX0_doubleTimes_9 : decode cX0_doubleTimes 9 = .ok (.bipush 26, 2) := by decide +kernel
theorem dX0_doubleTimes_11 : decode cX0_doubleTimes 11 = .ok (.invokestatic 24, 3) := by decide +kernel
theorem dX0_doubleTimes_14 : decode cX0_doubleTimes 14 = .ok (.lshl, 1) := by decide +kernel
theorem dX0_doubleTimes_15 : decode cX0_doubleTimes 15 = .ok (.invokevirtual 21, 3) := by decide +kernel
theorem dX0_doubleTimes_18 : decode cX0_doubleTimes 18 = .ok (.iload_n 2, 1) := by decide +kernel
theorem dX0_doubleTimes_19 : decode cX0_doubleTimes 19 = .ok (.bipush 26, 2) := by decide +kernel
theorem dX0_doubleTimes_21 : decode cX0_doubleTimes 21 = .ok (.isub, 1) := by decide +kernel
theorem dX0_doubleTimes_22 : decode cX0_doubleTimes 22 = .ok (.istore_n 2, 1) := by decide +kernel
theorem dX0_doubleTimes_23 : decode cX0_doubleTimes 23 = .ok (.goto (-21), 3) := by decide +kernel
theorem dX0_doubleTimes_26 : decode cX0_doubleTimes 26 = .ok (.return_, 1) := by decide +kernel
theorem dX0_compareWith_0 : decode cX0_compareWith 0 = .ok (.aload_n 0, 1) := by decide +kernel
theorem dX0_compareWith_1 : decode cX0_compareWith 1 = .ok (.getfield 13, 3) := by decide +kernel
theorem dX0_compareWith_4 : decode cX0_compareWith 4 = .ok (.aload_n 1, 1) := by decide +kernel
theorem dX0_compareWith_5 : decode cX0_compareWith 5 = .ok (.getfield 13, 3) := by decide +kernel
theorem dX0_compareWith_8 : decode cX0_compareWith 8 = .ok (.if_icmp .eq 20, 3) := by decide +kernel
theorem dX0_compareWith_11 : decode cX0_compareWith 11 = .ok (.aload_n 0, 1) := by decide +kernel
theorem dX0_compareWith_12 : decode cX0_compareWith 12 = .ok (.getfield 13, 3) := by decide +kernel
theorem dX0_compareWith_15 : decode cX0_compareWith 15 = .ok (.aload_n 1, 1) := by decide +kernel
theorem dX0_compareWith_16 : decode cX0_compareWith 16 = .ok (.getfield 13, 3) := by decide +kernel
theorem dX0_compareWith_19 : decode cX0_compareWith 19 = .ok (.if_icmp .ge 7, 3) := by decide +kernel
theorem dX0_compareWith_22 : decode cX0_compareWith 22 = .ok (.iconst (-1), 1) := by decide +kernel
theorem dX0_compareWith_23 : decode cX0_compareWith 23 = .ok (.goto 4, 3) := by decide +kernel
theorem dX0_compareWith_26 : decode cX0_compareWith 26 = .ok (.iconst 1, 1) := by decide +kernel
theorem dX0_compareWith_27 : decode cX0_compareWith 27 = .ok (.ireturn, 1) := by decide +kernel
theorem dX0_compareWith_28 : decode cX0_compareWith 28 = .ok (.aload_n 0, 1) := by decide +kernel
theorem dX0_compareWith_29 : decode cX0_compareWith 29 = .ok (.getfield 13, 3) := by decide +kernel
theorem dX0_compareWith_32 : decode cX0_compareWith 32 = .ok (.bipush 40, 2) := by decide +kernel
theorem dX0_compareWith_34 : decode cX0_compareWith 34 = .ok (.invokestatic 24, 3) := by decide +kernel
theorem dX0_compareWith_37 : decode cX0_compareWith 37 = .ok (.iconst 1, 1) := by decide +kernel
theorem dX0_compareWith_38 : decode cX0_compareWith 38 = .ok (.isub, 1) := by decide +kernel
theorem dX0_compareWith_39 : decode cX0_compareWith 39 = .ok (.istore_n 2, 1) := by decide +kernel
theorem dX0_compareWith_40 : decode cX0_compareWith 40 = .ok (.iload_n 2, 1) := by decide +kernel
theorem dX0_compareWith_41 : decode cX0_compareWith 41 = .ok (.ifCond .lt 47, 3) := by decide +kernel
theorem dX0_compareWith_44 : decode cX0_compareWith 44 = .ok (.aload_n 0, 1) := by decide +kernel
theorem dX0_compareWith_45 : decode cX0_compareWith 45 = .ok (.getfield 9, 3) := by decide +kernel
theorem dX0_compareWith_48 : decode cX0_compareWith 48 = .ok (.iload_n 2, 1) := by decide +kernel
theorem dX0_compareWith_49 : decode cX0_compareWith 49 = .ok (.laload, 1) := by decide +kernel
theorem dX0_compareWith_50 : decode cX0_compareWith 50 = .ok (.aload_n 1, 1) := by decide +kernel
theorem dX0_compareWith_51 : decode cX0_compareWith 51 = .ok (.getfield 9, 3) := by decide +kernel
theorem dX0_compareWith_54 : decode cX0_compareWith 54 = .ok (.iload_n 2, 1) := by decide +kernel
theorem dX0_compareWith_55 : decode cX0_compareWith 55 = .ok (.laload, 1) := by decide +kernel
theorem dX0_compareWith_56 : decode cX0_compareWith 56 = .ok (.lcmp, 1) := by decide +kernel
theorem dX0_compareWith_57 : decode cX0_compareWith 57 = .ok (.ifCond .eq 25, 3) := by decide +kernel
theorem dX0_compareWith_60 : decode cX0_compareWith 60 = .ok (.aload_n 0, 1) := by decide +kernel
theorem dX0_compareWith_61 : decode cX0_compareWith 61 = .ok (.getfield 9, 3) := by decide +kernel
theorem dX0_compareWith_64 : decode cX0_compareWith 64 = .ok (.iload_n 2, 1) := by decide +kernel
theorem dX0_compareWith_65 : decode cX0_compareWith 65 = .ok (.laload, 1) := by decide +kernel
theorem dX0_compareWith_66 : decode cX0_compareWith 66 = .ok (.aload_n 1, 1) := by decide +kernel
theorem dX0_compareWith_67 : decode cX0_compareWith 67 = .ok (.getfield 9, 3) := by decide +kernel
theorem dX0_compareWith_70 : decode cX0_compareWith 70 = .ok (.iload_n 2, 1) := by decide +kernel
theorem dX0_compareWith_71 : decode cX0_compareWith 71 = .ok (.laload, 1) := by decide +kernel
theorem dX0_compareWith_72 : decode cX0_compareWith 72 = .ok (.lcmp, 1) := by decide +kernel
theorem dX0_compareWith_73 : decode cX0_compareWith 73 = .ok (.ifCond .ge 7, 3) := by decide +kernel
theorem dX0_compareWith_76 : decode cX0_compareWith 76 = .ok (.iconst (-1), 1) := by decide +kernel
theorem dX0_compareWith_77 : decode cX0_compareWith 77 = .ok (.goto 4, 3) := by decide +kernel
theorem dX0_compareWith_80 : decode cX0_compareWith 80 = .ok (.iconst 1, 1) := by decide +kernel
theorem dX0_compareWith_81 : decode cX0_compareWith 81 = .ok (.ireturn, 1) := by decide +kernel
theorem dX0_compareWith_82 : decode cX0_compareWith 82 = .ok (.iinc 2 (-1), 3) := by decide +kernel
theorem dX0_compareWith_85 : decode cX0_compareWith 85 = .ok (.goto (-45), 3) := by decide +kernel
theorem dX0_compareWith_88 : decode cX0_compareWith 88 = .ok (.iconst 0, 1) := by decide +kernel
theorem dX0_compareWith_89 : decode cX0_compareWith 89 = .ok (.ireturn, 1) := by decide +kernel
set_option maxRecDepth 20000 in
theorem ggX0_multiply_X0_append : GoodIn wsX0_multiply wsX0_append := goodIn_r _ [8, 1, 2, 3, 9, 10] (by decide +kernel) (by decide +kernel)
set_option maxRecDepth 20000 in
theorem gX0_multiply_X0_append : GoodIn wsX0_multiply (wsV RX0 17 RX0 yX0_append wsX0_append) := goodIn_app (goodIn_of _ (by decide +kernel)) ggX0_multiply_X0_append
theorem dX0_multiply_0 : decode cX0_multiply 0 = .ok (.lconst 0, 1) := by decide +kernel
theorem dX0_multiply_1 : decode cX0_multiply 1 = .ok (.lstore_n 3, 1) := by decide +kernel
theorem dX0_multiply_2 : decode cX0_multiply 2 = .ok (.iconst 0, 1) := by decide +kernel
theorem dX0_multiply_3 : decode cX0_multiply 3 = .ok (.istore 5, 2) := by decide +kernel
theorem dX0_multiply_5 : decode cX0_multiply 5 = .ok (.iload 5, 2) := by decide +kernel
theorem dX0_multiply_7 : decode cX0_multiply 7 = .ok (.aload_n 0, 1) := by decide +kernel
theorem dX0_multiply_8 : decode cX0_multiply 8 = .ok (.getfield 13, 3) := by decide +kernel
theorem dX0_multiply_11 : decode cX0_multiply 11 = .ok (.if_icmp .ge 51, 3) := by decide +kernel
theorem dX0_multiply_14 : decode cX0_multiply 14 = .ok (.iload 5, 2) := by decide +kernel
theorem dX0_multiply_16 : decode cX0_multiply 16 = .ok (.aload_n 0, 1) := by decide +kernel
theorem dX0_multiply_17 : decode cX0_multiply 17 = .ok (.getfield 9, 3) := by decide +kernel
theorem dX0_multiply_20 : decode cX0_multiply 20 = .ok (.arraylength, 1) := by decide +kernel
theorem dX0_multiply_21 : decode cX0_multiply 21 = .ok (.if_icmp .ge 41, 3) := by decide +kernel
theorem dX0_multiply_24 : decode cX0_multiply 24 = .ok (.aload_n 0, 1) := by decide +kernel
theorem dX0_multiply_25 : decode cX0_multiply 25 = .ok (.getfield 9, 3) := by decide +kernel
theorem dX0_multiply_28 : decode cX0_multiply 28 = .ok (.iload 5, 2) := by decide +kernel
theorem dX0_multiply_30 : decode cX0_multiply 30 = .ok (.laload, 1) := by decide +kernel
theorem dX0_multiply_31 : decode cX0_multiply 31 = .ok (.lload_n 1, 1) := by decide +kernel
theorem dX0_multiply_32 : decode cX0_multiply 32 = .ok (.lmul, 1) := by decide +kernel
theorem dX0_multiply_33 : decode cX0_multiply 33 = .ok (.lload_n 3, 1) := by decide +kernel
theorem dX0_multiply_34 : decode cX0_multiply 34 = .ok (.ladd, 1) := by decide +kernel
theorem dX0_multiply_35 : decode cX0_multiply 35 = .ok (.lstore 6, 2) := by decide +kernel
theorem dX0_multiply_37 : decode cX0_multiply 37 = .ok (.aload_n 0, 1) := by decide +kernel
theorem dX0_multiply_38 : decode cX0_multiply 38 = .ok (.getfield 9, 3) := by decide +kernel
theorem dX0_multiply_41 : decode cX0_multiply 41 = .ok (.iload 5, 2) := by decide +kernel
theorem dX0_multiply_43 : decode cX0_multiply 43 = .ok (.lload 6, 2) := by decide +kernel
theorem dX0_multiply_45 : decode cX0_multiply 45 = .ok (.ldc2_w 30, 3) := by decide +kernel
theorem dX0_multiply_48 : decode cX0_multiply 48 = .ok (.land, 1) := by decide +kernel
theorem dX0_multiply_49 : decode cX0_multiply 49 = .ok (.lastore, 1) := by decide +kernel
theorem dX0_multiply_50 : decode cX0_multiply 50 = .ok (.lload 6, 2) := by decide +kernel
theorem dX0_multiply_52 : decode cX0_multiply 52 = .ok (.bipush 26, 2) := by decide +kernel
theorem dX0_multiply_54 : decode cX0_multiply 54 = .ok (.lshr, 1) := by decide +kernel
theorem dX0_multiply_55 : decode cX0_multiply 55 = .ok (.lstore_n 3, 1) := by decide +kernel
theorem dX0_multiply_56 : decode cX0_multiply 56 = .ok (.iinc 5 1, 3) := by decide +kernel
theorem dX0_multiply_59 : decode cX0_multiply 59 = .ok (.goto (-54), 3) := by decide +kernel
theorem dX0_multiply_62 : decode cX0_multiply 62 = .ok (.aload_n 0, 1) := by decide +kernel
theorem dX0_multiply_63 : decode cX0_multiply 63 = .ok (.lload_n 3, 1) := by decide +kernel
theorem dX0_multiply_64 : decode cX0_multiply 64 = .ok (.invokevirtual 17, 3) := by decide +kernel
theorem dX0_multiply_67 : decode cX0_multiply 67 = .ok (.return_, 1) := by decide +kernel
theorem dX0_append_0 : decode cX0_append 0 = .ok (.lload_n 1, 1) := by decide +kernel
theorem dX0_append_1 : decode cX0_append 1 = .ok (.lstore_n 3, 1) := by decide +kernel
theorem dX0_append_2 : decode cX0_append 2 = .ok (.aload_n 0, 1) := by decide +kernel
theorem dX0_append_3 : decode cX0_append 3 = .ok (.getfield 13, 3) := by decide +kernel
theorem dX0_append_6 : decode cX0_append 6 = .ok (.istore 5, 2) := by decide +kernel
theorem dX0_append_8 : decode cX0_append 8 = .ok (.lload_n 3, 1) := by decide +kernel
theorem dX0_append_9 : decode cX0_append 9 = .ok (.lconst 0, 1) := by decide +kernel
theorem dX0_append_10 : decode cX0_append 10 = .ok (.lcmp, 1) := by decide +kernel
theorem dX0_append_11 : decode cX0_append 11 = .ok (.ifCond .le 44, 3) := by decide +kernel
theorem dX0_append_14 : decode cX0_append 14 = .ok (.iload 5, 2) := by decide +kernel
theorem dX0_append_16 : decode cX0_append 16 = .ok (.aload_n 0, 1) := by decide +kernel
theorem dX0_append_17 : decode cX0_append 17 = .ok (.getfield 9, 3) := by decide +kernel
theorem dX0_append_20 : decode cX0_append 20 = .ok (.arraylength, 1) := by decide +kernel
theorem dX0_append_21 : decode cX0_append 21 = .ok (.if_icmp .ge 34, 3) := by decide +kernel
theorem dX0_append_24 : decode cX0_append 24 = .ok (.aload_n 0, 1) := by decide +kernel
theorem dX0_append_25 : decode cX0_append 25 = .ok (.getfield 9, 3) := by decide +kernel
theorem dX0_append_28 : decode cX0_append 28 = .ok (.iload 5, 2) := by decide +kernel
theorem dX0_append_30 : decode cX0_append 30 = .ok (.lload_n 3, 1) := by decide +kernel
theorem dX0_append_31 : decode cX0_append 31 = .ok (.ldc2_w 30, 3) := by decide +kernel
theorem dX0_append_34 : decode cX0_append 34 = .ok (.land, 1) := by decide +kernel
theorem dX0_append_35 : decode cX0_append 35 = .ok (.lastore, 1) := by decide +kernel
theorem dX0_append_36 : decode cX0_append 36 = .ok (.lload_n 3, 1) := by decide +kernel
theorem dX0_append_37 : decode cX0_append 37 = .ok (.bipush 26, 2) := by decide +kernel
theorem dX0_append_39 : decode cX0_append 39 = .ok (.lshr, 1) := by decide +kernel
theorem dX0_append_40 : decode cX0_append 40 = .ok (.lstore_n 3, 1) := by decide +kernel
theorem dX0_append_41 : decode cX0_append 41 = .ok (.aload_n 0, 1) := by decide +kernel
theorem dX0_append_42 : decode cX0_append 42 = .ok (.iload 5, 2) := by decide +kernel
theorem dX0_append_44 : decode cX0_append 44 = .ok (.iconst 1, 1) := by decide +kernel
theorem dX0_append_45 : decode cX0_append 45 = .ok (.iadd, 1) := by decide +kernel
theorem dX0_append_46 : decode cX0_append 46 = .ok (.putfield 13, 3) := by decide +kernel
theorem dX0_append_49 : decode cX0_append 49 = .ok (.iinc 5 1, 3) := by decide +kernel
theorem dX0_append_52 : decode cX0_append 52 = .ok (.goto (-44), 3) := by decide +kernel
theorem dX0_append_55 : decode cX0_append 55 = .ok (.return_, 1) := by decide +kernel
theorem dX1_init_0 : decode cX1_init 0 = .ok (.aload_n 0, 1) := by decide +kernel
theorem dX1_init_1 : decode cX1_init 1 = .ok (.invokespecial 3, 3) := by decide +kernel
theorem dX1_init_4 : decode cX1_init 4 = .ok (.aload_n 0, 1) := by decide +kernel
theorem dX1_init_5 : decode cX1_init 5 = .ok (.lconst 1, 1) := by decide +kernel
theorem dX1_init_6 : decode cX1_init 6 = .ok (.putfield 9, 3) := by decide +kernel
theorem dX1_init_9 : decode cX1_init 9 = .ok (.aload_n 0, 1) := by decide +kernel
theorem dX1_init_10 : decode cX1_init 10 = .ok (.lconst 1, 1) := by decide +kernel
theorem dX1_init_11 : decode cX1_init 11 = .ok (.putfield 15, 3) := by decide +kernel
theorem dX1_init_14 : decode cX1_init 14 = .ok (.aload_n 0, 1) := by decide +kernel
theorem dX1_init_15 : decode cX1_init 15 = .ok (.lconst 0, 1) := by decide +kernel
theorem dX1_init_16 : decode cX1_init 16 = .ok (.putfield 18, 3) := by decide +kernel
theorem dX1_init_19 : decode cX1_init 19 = .ok (.aload_n 0, 1) := by decide +kernel
theorem dX1_init_20 : decode cX1_init 20 = .ok (.lconst 0, 1) := by decide +kernel
theorem dX1_init_21 : decode cX1_init 21 = .ok (.putfield 21, 3) := by decide +kernel
theorem dX1_init_24 : decode cX1_init 24 = .ok (.return_, 1) := by decide +kernel
theorem dX1_restart_0 : decode cX1_restart 0 = .ok (.aload_n 0, 1) := by decide +kernel
theorem dX1_restart_1 : decode cX1_restart 1 = .ok (.lconst 1, 1) := by decide +kernel
theorem dX1_restart_2 : decode cX1_restart 2 = .ok (.putfield 9, 3) := by decide +kernel
theorem dX1_restart_5 : decode cX1_restart 5 = .ok (.aload_n 0, 1) := by decide +kernel
theorem dX1_restart_6 : decode cX1_restart 6 = .ok (.lconst 1, 1) := by decide +kernel
theorem dX1_restart_7 : decode cX1_restart 7 = .ok (.putfield 15, 3) := by decide +kernel
theorem dX1_restart_10 : decode cX1_restart 10 = .ok (.aload_n 0, 1) := by decide +kernel
theorem dX1_restart_11 : decode cX1_restart 11 = .ok (.lconst 0, 1) := by decide +kernel
theorem dX1_restart_12 : decode cX1_restart 12 = .ok (.putfield 18, 3) := by decide +kernel
theorem dX1_restart_15 : decode cX1_restart 15 = .ok (.aload_n 0, 1) := by decide +kernel
theorem dX1_restart_16 : decode cX1_restart 16 = .ok (.lconst 0, 1) := by decide +kernel
theorem dX1_restart_17 : decode cX1_restart 17 = .ok (.putfield 21, 3) := by decide +kernel
theorem dX1_restart_20 : decode cX1_restart 20 = .ok (.return_, 1) := by decide +kernel
set_option maxRecDepth 20000 in
theorem ggX1_advance_X3_commonDivisor : GoodIn wsX1_advance wsX3_commonDivisor := goodIn_r _ [6] (by decide +kernel) (by decide +kernel)
set_option maxRecDepth 20000 in
theorem gX1_advance_X3_commonDivisor_n24 : GoodIn wsX1_advance (wsX3_commonDivisor) := ggX1_advance_X3_commonDivisor
set_option maxRecDepth 20000 in
theorem ggX1_advance_X3_quotient : GoodIn wsX1_advance wsX3_quotient := goodIn_r _ [8] (by decide +kernel) (by decide +kernel)
set_option maxRecDepth 20000 in
theorem gX1_advance_X3_quotient_n28 : GoodIn wsX1_advance (wsX3_quotient) := ggX1_advance_X3_quotient
set_option maxRecDepth 20000 in
theorem ggX1_advance_X1_twosIn : GoodIn wsX1_advance wsX1_twosIn := goodIn_r _ [12] (by decide +kernel) (by decide +kernel)
set_option maxRecDepth 20000 in
theorem gX1_advance_X1_twosIn : GoodIn wsX1_advance (va_wsS RX1 31 yX1_twosIn wsX1_twosIn) := goodIn_app (goodIn_of _ (by decide +kernel)) ggX1_advance_X1_twosIn
set_option maxRecDepth 20000 in
theorem ggX1_advance_X1_oddPart : GoodIn wsX1_advance wsX1_oddPart := goodIn_r _ [15, 9, 10, 11, 12] (by decide +kernel) (by decide +kernel)
set_option maxRecDepth 20000 in
theorem gX1_advance_X1_oddPart : GoodIn wsX1_advance (va_wsS RX1 35 yX1_oddPart wsX1_oddPart) := goodIn_app (goodIn_of _ (by decide +kernel)) ggX1_advance_X1_oddPart
set_option maxRecDepth 20000 in
theorem ggX1_advance_X1_productOrNone : GoodIn wsX1_advance wsX1_productOrNone := goodIn_r _ [18, 19, 3, 7, 5, 8] (by decide +kernel) (by decide +kernel)
set_option maxRecDepth 20000 in
theorem gX1_advance_X1_productOrNone : GoodIn wsX1_advance (va_wsS RX1 39 yX1_productOrNone wsX1_productOrNone) := goodIn_app (goodIn_of _ (by decide +kernel)) ggX1_advance_X1_productOrNone
set_option maxRecDepth 20000 in
theorem ggX1_advance_X1_settle : GoodIn wsX1_advance wsX1_settle := goodIn_r _ [23, 24, 19, 1, 2, 25, 26, 27, 28, 29, 30] (by decide +kernel) (by decide +kernel)
set_option maxRecDepth 20000 in
theorem gX1_advance_X1_settle : GoodIn wsX1_advance (wsV RX1 44 RX1 yX1_settle wsX1_settle) := goodIn_app (goodIn_of _ (by decide +kernel)) ggX1_advance_X1_settle
theorem dX1_advance_0 : decode cX1_advance 0 = .ok (.aload_n 0, 1) := by decide +kernel
theorem dX1_advance_1 : decode cX1_advance 1 = .ok (.getfield 9, 3) := by decide +kernel
theorem dX1_advance_4 : decode cX1_advance 4 = .ok (.lload_n 3, 1) := by decide +kernel
theorem dX1_advance_5 : decode cX1_advance 5 = .ok (.invokestatic 24, 3) := by decide +kernel
theorem dX1_advance_8 : decode cX1_advance 8 = .ok (.lstore 5, 2) := by decide +kernel
theorem dX1_advance_10 : decode cX1_advance 10 = .ok (.lload_n 1, 1) := by decide +kernel
theorem dX1_advance_11 : decode cX1_advance 11 = .ok (.aload_n 0, 1) := by decide +kernel
theorem dX1_advance_12 : decode cX1_advance 12 = .ok (.getfield 15, 3) := by decide +kernel
theorem dX1_advance_15 : decode cX1_advance 15 = .ok (.invokestatic 24, 3) := by decide +kernel
theorem dX1_advance_18 : decode cX1_advance 18 = .ok (.lstore 7, 2) := by decide +kernel
theorem dX1_advance_20 : decode cX1_advance 20 = .ok (.aload_n 0, 1) := by decide +kernel
theorem dX1_advance_21 : decode cX1_advance 21 = .ok (.getfield 9, 3) := by decide +kernel
theorem dX1_advance_24 : decode cX1_advance 24 = .ok (.lload 5, 2) := by decide +kernel
theorem dX1_advance_26 : decode cX1_advance 26 = .ok (.invokestatic 28, 3) := by decide +kernel
theorem dX1_advance_29 : decode cX1_advance 29 = .ok (.lstore 9, 2) := by decide +kernel
theorem dX1_advance_31 : decode cX1_advance 31 = .ok (.lload_n 1, 1) := by decide +kernel
theorem dX1_advance_32 : decode cX1_advance 32 = .ok (.lload 7, 2) := by decide +kernel
theorem dX1_advance_34 : decode cX1_advance 34 = .ok (.invokestatic 28, 3) := by decide +kernel
theorem dX1_advance_37 : decode cX1_advance 37 = .ok (.lstore 11, 2) := by decide +kernel
theorem dX1_advance_39 : decode cX1_advance 39 = .ok (.aload_n 0, 1) := by decide +kernel
theorem dX1_advance_40 : decode cX1_advance 40 = .ok (.getfield 15, 3) := by decide +kernel
theorem dX1_advance_43 : decode cX1_advance 43 = .ok (.lload 7, 2) := by decide +kernel
theorem dX1_advance_45 : decode cX1_advance 45 = .ok (.invokestatic 28, 3) := by decide +kernel
theorem dX1_advance_48 : decode cX1_advance 48 = .ok (.lstore 13, 2) := by decide +kernel
theorem dX1_advance_50 : decode cX1_advance 50 = .ok (.lload_n 3, 1) := by decide +kernel
theorem dX1_advance_51 : decode cX1_advance 51 = .ok (.lload 5, 2) := by decide +kernel
theorem dX1_advance_53 : decode cX1_advance 53 = .ok (.invokestatic 28, 3) := by decide +kernel
theorem dX1_advance_56 : decode cX1_advance 56 = .ok (.lstore 15, 2) := by decide +kernel
theorem dX1_advance_58 : decode cX1_advance 58 = .ok (.lload 9, 2) := by decide +kernel
theorem dX1_advance_60 : decode cX1_advance 60 = .ok (.invokestatic 31, 3) := by decide +kernel
theorem dX1_advance_63 : decode cX1_advance 63 = .ok (.lload 11, 2) := by decide +kernel
theorem dX1_advance_65 : decode cX1_advance 65 = .ok (.invokestatic 31, 3) := by decide +kernel
theorem dX1_advance_68 : decode cX1_advance 68 = .ok (.iadd, 1) := by decide +kernel
theorem dX1_advance_69 : decode cX1_advance 69 = .ok (.lload 13, 2) := by decide +kernel
theorem dX1_advance_71 : decode cX1_advance 71 = .ok (.invokestatic 31, 3) := by decide +kernel
theorem dX1_advance_74 : decode cX1_advance 74 = .ok (.isub, 1) := by decide +kernel
theorem dX1_advance_75 : decode cX1_advance 75 = .ok (.lload 15, 2) := by decide +kernel
theorem dX1_advance_77 : decode cX1_advance 77 = .ok (.invokestatic 31, 3) := by decide +kernel
theorem dX1_advance_80 : decode cX1_advance 80 = .ok (.isub, 1) := by decide +kernel
theorem dX1_advance_81 : decode cX1_advance 81 = .ok (.istore 17, 2) := by decide +kernel
theorem dX1_advance_83 : decode cX1_advance 83 = .ok (.lload 9, 2) := by decide +kernel
theorem dX1_advance_85 : decode cX1_advance 85 = .ok (.invokestatic 35, 3) := by decide +kernel
theorem dX1_advance_88 : decode cX1_advance 88 = .ok (.lload 11, 2) := by decide +kernel
theorem dX1_advance_90 : decode cX1_advance 90 = .ok (.invokestatic 35, 3) := by decide +kernel
theorem dX1_advance_93 : decode cX1_advance 93 = .ok (.invokestatic 39, 3) := by decide +kernel
theorem dX1_advance_96 : decode cX1_advance 96 = .ok (.lstore 18, 2) := by decide +kernel
theorem dX1_advance_98 : decode cX1_advance 98 = .ok (.lload 13, 2) := by decide +kernel
theorem dX1_advance_100 : decode cX1_advance 100 = .ok (.invokestatic 35, 3) := by decide +kernel
theorem dX1_advance_103 : decode cX1_advance 103 = .ok (.lload 15, 2) := by decide +kernel
theorem dX1_advance_105 : decode cX1_advance 105 = .ok (.invokestatic 35, 3) := by decide +kernel
theorem dX1_advance_108 : decode cX1_advance 108 = .ok (.invokestatic 39, 3) := by decide +kernel
theorem dX1_advance_111 : decode cX1_advance 111 = .ok (.lstore 20, 2) := by decide +kernel
theorem dX1_advance_113 : decode cX1_advance 113 = .ok (.lload 18, 2) := by decide +kernel
theorem dX1_advance_115 : decode cX1_advance 115 = .ok (.ldc2_w 42, 3) := by decide +kernel
theorem dX1_advance_118 : decode cX1_advance 118 = .ok (.lcmp, 1) := by decide +kernel
theorem dX1_advance_119 : decode cX1_advance 119 = .ok (.ifCond .eq 29, 3) := by decide +kernel
theorem dX1_advance_122 : decode cX1_advance 122 = .ok (.lload 20, 2) := by decide +kernel
theorem dX1_advance_124 : decode cX1_advance 124 = .ok (.ldc2_w 42, 3) := by decide +kernel
theorem dX1_advance_127 : decode cX1_advance 127 = .ok (.lcmp, 1) := by decide +kernel
theorem dX1_advance_128 : decode cX1_advance 128 = .ok (.ifCond .eq 20, 3) := by decide +kernel
theorem dX1_advance_131 : decode cX1_advance 131 = .ok (.aload_n 0, 1) := by decide +kernel
theorem dX1_advance_132 : decode cX1_advance 132 = .ok (.lload 18, 2) := by decide +kernel
theorem dX1_advance_134 : decode cX1_advance 134 = .ok (.lload 20, 2) := by decide +kernel
theorem dX1_advance_136 : decode cX1_advance 136 = .ok (.iload 17, 2) := by decide +kernel
theorem dX1_advance_138 : decode cX1_advance 138 = .ok (.invokevirtual 44, 3) := by decide +kernel
theorem dX1_advance_141 : decode cX1_advance 141 = .ok (.ifCond .eq 7, 3) := by decide +kernel
theorem dX1_advance_144 : decode cX1_advance 144 = .ok (.iconst 1, 1) := by decide +kernel
theorem dX1_advance_145 : decode cX1_advance 145 = .ok (.goto 4, 3) := by decide +kernel
theorem dX1_advance_148 : decode cX1_advance 148 = .ok (.iconst 0, 1) := by decide +kernel
theorem dX1_advance_149 : decode cX1_advance 149 = .ok (.ireturn, 1) := by decide +kernel
theorem dX1_settle_0 : decode cX1_settle 0 = .ok (.lload_n 1, 1) := by decide +kernel
theorem dX1_settle_1 : decode cX1_settle 1 = .ok (.lstore 6, 2) := by decide +kernel
theorem dX1_settle_3 : decode cX1_settle 3 = .ok (.lload_n 3, 1) := by decide +kernel
theorem dX1_settle_4 : decode cX1_settle 4 = .ok (.lstore 8, 2) := by decide +kernel
theorem dX1_settle_6 : decode cX1_settle 6 = .ok (.iconst 0, 1) := by decide +kernel
theorem dX1_settle_7 : decode cX1_settle 7 = .ok (.istore 10, 2) := by decide +kernel
theorem dX1_settle_9 : decode cX1_settle 9 = .ok (.iconst 0, 1) := by decide +kernel
theorem dX1_settle_10 : decode cX1_settle 10 = .ok (.istore 11, 2) := by decide +kernel
theorem dX1_settle_12 : decode cX1_settle 12 = .ok (.iload 11, 2) := by decide +kernel
theorem dX1_settle_14 : decode cX1_settle 14 = .ok (.bipush 64, 2) := by decide +kernel
theorem dX1_settle_16 : decode cX1_settle 16 = .ok (.if_icmp .ge 32, 3) := by decide +kernel
theorem dX1_settle_19 : decode cX1_settle 19 = .ok (.lload 6, 2) := by decide +kernel
theorem dX1_settle_21 : decode cX1_settle 21 = .ok (.ldc2_w 48, 3) := by decide +kernel
theorem dX1_settle_24 : decode cX1_settle 24 = .ok (.lload 8, 2) := by decide +kernel
theorem dX1_settle_26 : decode cX1_settle 26 = .ok (.lmul, 1) := by decide +kernel
theorem dX1_settle_27 : decode cX1_settle 27 = .ok (.lcmp, 1) := by decide +kernel
theorem dX1_settle_28 : decode cX1_settle 28 = .ok (.ifCond .lt 20, 3) := by decide +kernel
theorem dX1_settle_31 : decode cX1_settle 31 = .ok (.ldc2_w 48, 3) := by decide +kernel
theorem dX1_settle_34 : decode cX1_settle 34 = .ok (.lload 8, 2) := by decide +kernel
theorem dX1_settle_36 : decode cX1_settle 36 = .ok (.lmul, 1) := by decide +kernel
theorem dX1_settle_37 : decode cX1_settle 37 = .ok (.lstore 8, 2) := by decide +kernel
theorem dX1_settle_39 : decode cX1_settle 39 = .ok (.iinc 10 (-1), 3) := by decide +kernel
theorem dX1_settle_42 : decode cX1_settle 42 = .ok (.iinc 11 1, 3) := by decide +kernel
theorem dX1_settle_45 : decode cX1_settle 45 = .ok (.goto (-33), 3) := by decide +kernel
theorem dX1_settle_48 : decode cX1_settle 48 = .ok (.iconst 0, 1) := by decide +kernel
theorem dX1_settle_49 : decode cX1_settle 49 = .ok (.istore 11, 2) := by decide +kernel
theorem dX1_settle_51 : decode cX1_settle 51 = .ok (.iload 11, 2) := by decide +kernel
theorem dX1_settle_53 : decode cX1_settle 53 = .ok (.bipush 64, 2) := by decide +kernel
theorem dX1_settle_55 : decode cX1_settle 55 = .ok (.if_icmp .ge 28, 3) := by decide +kernel
theorem dX1_settle_58 : decode cX1_settle 58 = .ok (.lload 6, 2) := by decide +kernel
theorem dX1_settle_60 : decode cX1_settle 60 = .ok (.lload 8, 2) := by decide +kernel
theorem dX1_settle_62 : decode cX1_settle 62 = .ok (.lcmp, 1) := by decide +kernel
theorem dX1_settle_63 : decode cX1_settle 63 = .ok (.ifCond .ge 20, 3) := by decide +kernel
theorem dX1_settle_66 : decode cX1_settle 66 = .ok (.ldc2_w 48, 3) := by decide +kernel
theorem dX1_settle_69 : decode cX1_settle 69 = .ok (.lload 6, 2) := by decide +kernel
theorem dX1_settle_71 : decode cX1_settle 71 = .ok (.lmul, 1) := by decide +kernel
theorem dX1_settle_72 : decode cX1_settle 72 = .ok (.lstore 6, 2) := by decide +kernel
theorem dX1_settle_74 : decode cX1_settle 74 = .ok (.iinc 10 1, 3) := by decide +kernel
theorem dX1_settle_77 : decode cX1_settle 77 = .ok (.iinc 11 1, 3) := by decide +kernel
theorem dX1_settle_80 : decode cX1_settle 80 = .ok (.goto (-29), 3) := by decide +kernel
theorem dX1_settle_83 : decode cX1_settle 83 = .ok (.lload 6, 2) := by decide +kernel
theorem dX1_settle_85 : decode cX1_settle 85 = .ok (.ldc2_w 50, 3) := by decide +kernel
theorem dX1_settle_88 : decode cX1_settle 88 = .ok (.lcmp, 1) := by decide +kernel
theorem dX1_settle_89 : decode cX1_settle 89 = .ok (.ifCond .gt 12, 3) := by decide +kernel
theorem dX1_settle_92 : decode cX1_settle 92 = .ok (.lload 8, 2) := by decide +kernel
theorem dX1_settle_94 : decode cX1_settle 94 = .ok (.ldc2_w 50, 3) := by decide +kernel
theorem dX1_settle_97 : decode cX1_settle 97 = .ok (.lcmp, 1) := by decide +kernel
theorem dX1_settle_98 : decode cX1_settle 98 = .ok (.ifCond .le 5, 3) := by decide +kernel
theorem dX1_settle_101 : decode cX1_settle 101 = .ok (.iconst 0, 1) := by decide +kernel
theorem dX1_settle_102 : decode cX1_settle 102 = .ok (.ireturn, 1) := by decide +kernel
theorem dX1_settle_103 : decode cX1_settle 103 = .ok (.aload_n 0, 1) := by decide +kernel
theorem dX1_settle_104 : decode cX1_settle 104 = .ok (.lload 6, 2) := by decide +kernel
theorem dX1_settle_106 : decode cX1_settle 106 = .ok (.putfield 9, 3) := by decide +kernel
theorem dX1_settle_109 : decode cX1_settle 109 = .ok (.aload_n 0, 1) := by decide +kernel
theorem dX1_settle_110 : decode cX1_settle 110 = .ok (.lload 8, 2) := by decide +kernel
theorem dX1_settle_112 : decode cX1_settle 112 = .ok (.putfield 15, 3) := by decide +kernel
theorem dX1_settle_115 : decode cX1_settle 115 = .ok (.aload_n 0, 1) := by decide +kernel
theorem dX1_settle_116 : decode cX1_settle 116 = .ok (.aload_n 0, 1) := by decide +kernel
theorem dX1_settle_117 : decode cX1_settle 117 = .ok (.getfield 18, 3) := by decide +kernel
theorem dX1_settle_120 : decode cX1_settle 120 = .ok (.iload 5, 2) := by decide +kernel
theorem dX1_settle_122 : decode cX1_settle 122 = .ok (.i2l, 1) := by decide +kernel
theorem dX1_settle_123 : decode cX1_settle 123 = .ok (.ladd, 1) := by decide +kernel
theorem dX1_settle_124 : decode cX1_settle 124 = .ok (.iload 10, 2) := by decide +kernel
theorem dX1_settle_126 : decode cX1_settle 126 = .ok (.i2l, 1) := by decide +kernel
theorem dX1_settle_127 : decode cX1_settle 127 = .ok (.lsub, 1) := by decide +kernel
theorem dX1_settle_128 : decode cX1_settle 128 = .ok (.putfield 18, 3) := by decide +kernel
theorem dX1_settle_131 : decode cX1_settle 131 = .ok (.aload_n 0, 1) := by decide +kernel
theorem dX1_settle_132 : decode cX1_settle 132 = .ok (.dup, 1) := by decide +kernel
theorem dX1_settle_133 : decode cX1_settle 133 = .ok (.getfield 21, 3) := by decide +kernel
theorem dX1_settle_136 : decode cX1_settle 136 = .ok (.lconst 1, 1) := by decide +kernel
theorem dX1_settle_137 : decode cX1_settle 137 = .ok (.ladd, 1) := by decide +kernel
theorem dX1_settle_138 : decode cX1_settle 138 = .ok (.putfield 21, 3) := by decide +kernel
theorem dX1_settle_141 : decode cX1_settle 141 = .ok (.iconst 1, 1) := by decide +kernel
theorem dX1_settle_142 : decode cX1_settle 142 = .ok (.ireturn, 1) := by decide +kernel
set_option maxRecDepth 20000 in
theorem ggX1_productOrNone_X3_quotient : GoodIn wsX1_productOrNone wsX3_quotient := goodIn_r _ [5] (by decide +kernel) (by decide +kernel)
set_option maxRecDepth 20000 in
theorem gX1_productOrNone_X3_quotient_n28 : GoodIn wsX1_productOrNone (wsX3_quotient) := ggX1_productOrNone_X3_quotient
theorem dX1_productOrNone_0 : decode cX1_productOrNone 0 = .ok (.lload_n 0, 1) := by decide +kernel
theorem dX1_productOrNone_1 : decode cX1_productOrNone 1 = .ok (.ldc2_w 50, 3) := by decide +kernel
theorem dX1_productOrNone_4 : decode cX1_productOrNone 4 = .ok (.lload_n 2, 1) := by decide +kernel
theorem dX1_productOrNone_5 : decode cX1_productOrNone 5 = .ok (.invokestatic 28, 3) := by decide +kernel
theorem dX1_productOrNone_8 : decode cX1_productOrNone 8 = .ok (.lcmp, 1) := by decide +kernel
theorem dX1_productOrNone_9 : decode cX1_productOrNone 9 = .ok (.ifCond .le 9, 3) := by decide +kernel
theorem dX1_productOrNone_12 : decode cX1_productOrNone 12 = .ok (.ldc2_w 42, 3) := by decide +kernel
theorem dX1_productOrNone_15 : decode cX1_productOrNone 15 = .ok (.goto 6, 3) := by decide +kernel
theorem dX1_productOrNone_18 : decode cX1_productOrNone 18 = .ok (.lload_n 0, 1) := by decide +kernel
theorem dX1_productOrNone_19 : decode cX1_productOrNone 19 = .ok (.lload_n 2, 1) := by decide +kernel
theorem dX1_productOrNone_20 : decode cX1_productOrNone 20 = .ok (.lmul, 1) := by decide +kernel
theorem dX1_productOrNone_21 : decode cX1_productOrNone 21 = .ok (.lreturn, 1) := by decide +kernel
set_option maxRecDepth 20000 in
theorem ggX1_oddPart_X1_twosIn : GoodIn wsX1_oddPart wsX1_twosIn := goodIn_r _ [4] (by decide +kernel) (by decide +kernel)
set_option maxRecDepth 20000 in
theorem gX1_oddPart_X1_twosIn : GoodIn wsX1_oddPart (va_wsS RX1 31 yX1_twosIn wsX1_twosIn) := goodIn_app (goodIn_of _ (by decide +kernel)) ggX1_oddPart_X1_twosIn
theorem dX1_oddPart_0 : decode cX1_oddPart 0 = .ok (.lload_n 0, 1) := by decide +kernel
theorem dX1_oddPart_1 : decode cX1_oddPart 1 = .ok (.lload_n 0, 1) := by decide +kernel
theorem dX1_oddPart_2 : decode cX1_oddPart 2 = .ok (.invokestatic 31, 3) := by decide +kernel
theorem dX1_oddPart_5 : decode cX1_oddPart 5 = .ok (.lshr, 1) := by decide +kernel
theorem dX1_oddPart_6 : decode cX1_oddPart 6 = .ok (.lreturn, 1) := by decide +kernel
theorem dX1_twosIn_0 : decode cX1_twosIn 0 = .ok (.iconst 0, 1) := by decide +kernel
theorem dX1_twosIn_1 : decode cX1_twosIn 1 = .ok (.istore_n 2, 1) := by decide +kernel
theorem dX1_twosIn_2 : decode cX1_twosIn 2 = .ok (.iconst 0, 1) := by decide +kernel
theorem dX1_twosIn_3 : decode cX1_twosIn 3 = .ok (.istore_n 3, 1) := by decide +kernel
theorem dX1_twosIn_4 : decode cX1_twosIn 4 = .ok (.iload_n 3, 1) := by decide +kernel
theorem dX1_twosIn_5 : decode cX1_twosIn 5 = .ok (.bipush 63, 2) := by decide +kernel
theorem dX1_twosIn_7 : decode cX1_twosIn 7 = .ok (.if_icmp .ge 22, 3) := by decide +kernel
theorem dX1_twosIn_10 : decode cX1_twosIn 10 = .ok (.lload_n 0, 1) := by decide +kernel
theorem dX1_twosIn_11 : decode cX1_twosIn 11 = .ok (.iload_n 3, 1) := by decide +kernel
theorem dX1_twosIn_12 : decode cX1_twosIn 12 = .ok (.lshr, 1) := by decide +kernel
theorem dX1_twosIn_13 : decode cX1_twosIn 13 = .ok (.lconst 1, 1) := by decide +kernel
theorem dX1_twosIn_14 : decode cX1_twosIn 14 = .ok (.land, 1) := by decide +kernel
theorem dX1_twosIn_15 : decode cX1_twosIn 15 = .ok (.lconst 0, 1) := by decide +kernel
theorem dX1_twosIn_16 : decode cX1_twosIn 16 = .ok (.lcmp, 1) := by decide +kernel
theorem dX1_twosIn_17 : decode cX1_twosIn 17 = .ok (.ifCond .ne 12, 3) := by decide +kernel
theorem dX1_twosIn_20 : decode cX1_twosIn 20 = .ok (.iinc 2 1, 3) := by decide +kernel
theorem dX1_twosIn_23 : decode cX1_twosIn 23 = .ok (.iinc 3 1, 3) := by decide +kernel
theorem dX1_twosIn_26 : decode cX1_twosIn 26 = .ok (.goto (-22), 3) := by decide +kernel
theorem dX1_twosIn_29 : decode cX1_twosIn 29 = .ok (.iload_n 2, 1) := by decide +kernel
theorem dX1_twosIn_30 : decode cX1_twosIn 30 = .ok (.ireturn, 1) := by decide +kernel
set_option maxRecDepth 20000 in
theorem ggX2_init_J7_fill_d0a16 : GoodIn wsX2_init wsJ7_fill_d0a16 := goodIn_r _ [18] (by decide +kernel) (by decide +kernel)
set_option maxRecDepth 20000 in
theorem gX2_init_J7_fill_d0a16 : GoodIn wsX2_init (va_wsS RX2 34 yJ7_fill_d0a16 wsJ7_fill_d0a16) := goodIn_app (goodIn_of _ (by decide +kernel)) ggX2_init_J7_fill_d0a16
theorem dX2_init_0 : decode cX2_init 0 = .ok (.aload_n 0, 1) := by decide +kernel
theorem dX2_init_1 : decode cX2_init 1 = .ok (.invokespecial 3, 3) := by decide +kernel
theorem dX2_init_4 : decode cX2_init 4 = .ok (.aload_n 0, 1) := by decide +kernel
theorem dX2_init_5 : decode cX2_init 5 = .ok (.iconst 1, 1) := by decide +kernel
theorem dX2_init_6 : decode cX2_init 6 = .ok (.iload_n 1, 1) := by decide +kernel
theorem dX2_init_7 : decode cX2_init 7 = .ok (.invokestatic 9, 3) := by decide +kernel
theorem dX2_init_10 : decode cX2_init 10 = .ok (.newarray .long, 2) := by decide +kernel
theorem dX2_init_12 : decode cX2_init 12 = .ok (.putfield 15, 3) := by decide +kernel
theorem dX2_init_15 : decode cX2_init 15 = .ok (.aload_n 0, 1) := by decide +kernel
theorem dX2_init_16 : decode cX2_init 16 = .ok (.ldc2_w 21, 3) := by decide +kernel
theorem dX2_init_19 : decode cX2_init 19 = .ok (.putfield 23, 3) := by decide +kernel
theorem dX2_init_22 : decode cX2_init 22 = .ok (.aload_n 0, 1) := by decide +kernel
theorem dX2_init_23 : decode cX2_init 23 = .ok (.ldc2_w 27, 3) := by decide +kernel
theorem dX2_init_26 : decode cX2_init 26 = .ok (.putfield 29, 3) := by decide +kernel
theorem dX2_init_29 : decode cX2_init 29 = .ok (.aload_n 0, 1) := by decide +kernel
theorem dX2_init_30 : decode cX2_init 30 = .ok (.getfield 15, 3) := by decide +kernel
theorem dX2_init_33 : decode cX2_init 33 = .ok (.ldc2_w 32, 3) := by decide +kernel
theorem dX2_init_36 : decode cX2_init 36 = .ok (.invokestatic 34, 3) := by decide +kernel
theorem dX2_init_39 : decode cX2_init 39 = .ok (.return_, 1) := by decide +kernel
set_option maxRecDepth 20000 in
theorem ggX2_measure_J7_fill_d0a16 : GoodIn wsX2_measure wsJ7_fill_d0a16 := goodIn_r _ [8] (by decide +kernel) (by decide +kernel)
set_option maxRecDepth 20000 in
theorem gX2_measure_J7_fill_d0a16 : GoodIn wsX2_measure (va_wsS RX2 34 yJ7_fill_d0a16 wsJ7_fill_d0a16) := goodIn_app (goodIn_of _ (by decide +kernel)) ggX2_measure_J7_fill_d0a16
theorem dX2_measure_0 : decode cX2_measure 0 = .ok (.aload_n 0, 1) := by decide +kernel
theorem dX2_measure_1 : decode cX2_measure 1 = .ok (.lload_n 1, 1) := by decide +kernel
theorem dX2_measure_2 : decode cX2_measure 2 = .ok (.putfield 23, 3) := by decide +kernel
theorem dX2_measure_5 : decode cX2_measure 5 = .ok (.aload_n 0, 1) := by decide +kernel
theorem dX2_measure_6 : decode cX2_measure 6 = .ok (.lload_n 1, 1) := by decide +kernel
theorem dX2_measure_7 : decode cX2_measure 7 = .ok (.iload_n 3, 1) := by decide +kernel
theorem dX2_measure_8 : decode cX2_measure 8 = .ok (.lshl, 1) := by decide +kernel
theorem dX2_measure_9 : decode cX2_measure 9 = .ok (.putfield 29, 3) := by decide +kernel
theorem dX2_measure_12 : decode cX2_measure 12 = .ok (.aload_n 0, 1) := by decide +kernel
theorem dX2_measure_13 : decode cX2_measure 13 = .ok (.getfield 15, 3) := by decide +kernel
theorem dX2_measure_16 : decode cX2_measure 16 = .ok (.ldc2_w 32, 3) := by decide +kernel
theorem dX2_measure_19 : decode cX2_measure 19 = .ok (.invokestatic 34, 3) := by decide +kernel
theorem dX2_measure_22 : decode cX2_measure 22 = .ok (.return_, 1) := by decide +kernel
set_option maxRecDepth 20000 in
theorem ggX3_init_X1_init : GoodIn wsX3_init wsX1_init := goodIn_r _ [34, 35, 2, 3, 36, 37, 38, 39, 73, 74, 75, 76] (by decide +kernel) (by decide +kernel)
set_option maxRecDepth 20000 in
theorem gX3_init_X1_init_n9 : GoodIn wsX3_init (wsX1_init) := ggX3_init_X1_init
set_option maxRecDepth 20000 in
theorem ggX3_init_X0_init : GoodIn wsX3_init wsX0_init := goodIn_r _ [41, 42, 2, 3, 43, 44, 45, 89, 90] (by decide +kernel) (by decide +kernel)
set_option maxRecDepth 20000 in
theorem gX3_init_X0_init_n18 : GoodIn wsX3_init (wsX0_init) := ggX3_init_X0_init
set_option maxRecDepth 20000 in
theorem ggX3_init_X3_rootsOfTwo : GoodIn wsX3_init wsX3_rootsOfTwo := goodIn_r _ [49, 19, 20, 17, 21, 50, 51, 52, 48, 53, 54] (by decide +kernel) (by decide +kernel)
set_option maxRecDepth 20000 in
theorem gX3_init_X3_rootsOfTwo : GoodIn wsX3_init (va_wsS RX3 45 yX3_rootsOfTwo wsX3_rootsOfTwo) := goodIn_app (goodIn_of _ (by decide +kernel)) ggX3_init_X3_rootsOfTwo
set_option maxRecDepth 20000 in
theorem ggX3_init_J7_fill_53178 : GoodIn wsX3_init wsJ7_fill_53178 := goodIn_r _ [58] (by decide +kernel) (by decide +kernel)
set_option maxRecDepth 20000 in
theorem gX3_init_J7_fill_53178 : GoodIn wsX3_init (va_wsS RX3 60 yJ7_fill_53178 wsJ7_fill_53178) := goodIn_app (goodIn_of _ (by decide +kernel)) ggX3_init_J7_fill_53178
set_option maxRecDepth 20000 in
theorem ggX3_init_X2_init : GoodIn wsX3_init wsX2_init := goodIn_r _ [61, 62, 2, 3, 63, 20, 17, 21, 43, 64, 65, 66, 67, 68, 69, 70, 71, 57, 72, 91, 92, 93] (by decide +kernel) (by decide +kernel)
set_option maxRecDepth 20000 in
theorem gX3_init_X2_init : GoodIn wsX3_init (wsX2_init) := ggX3_init_X2_init
theorem dX3_init_0 : decode cX3_init 0 = .ok (.aload_n 0, 1) := by decide +kernel
theorem dX3_init_1 : decode cX3_init 1 = .ok (.invokespecial 1, 3) := by decide +kernel
theorem dX3_init_4 : decode cX3_init 4 = .ok (.aload_n 0, 1) := by decide +kernel
theorem dX3_init_5 : decode cX3_init 5 = .ok (.new 7, 3) := by decide +kernel
theorem dX3_init_8 : decode cX3_init 8 = .ok (.dup, 1) := by decide +kernel
theorem dX3_init_9 : decode cX3_init 9 = .ok (.invokespecial 9, 3) := by decide +kernel
theorem dX3_init_12 : decode cX3_init 12 = .ok (.putfield 10, 3) := by decide +kernel
theorem dX3_init_15 : decode cX3_init 15 = .ok (.aload_n 0, 1) := by decide +kernel
theorem dX3_init_16 : decode cX3_init 16 = .ok (.new 16, 3) := by decide +kernel
theorem dX3_init_19 : decode cX3_init 19 = .ok (.dup, 1) := by decide +kernel
theorem dX3_init_20 : decode cX3_init 20 = .ok (.invokespecial 18, 3) := by decide +kernel
theorem dX3_init_23 : decode cX3_init 23 = .ok (.putfield 19, 3) := by decide +kernel
theorem dX3_init_26 : decode cX3_init 26 = .ok (.aload_n 0, 1) := by decide +kernel
theorem dX3_init_27 : decode cX3_init 27 = .ok (.new 16, 3) := by decide +kernel
theorem dX3_init_30 : decode cX3_init 30 = .ok (.dup, 1) := by decide +kernel
theorem dX3_init_31 : decode cX3_init 31 = .ok (.invokespecial 18, 3) := by decide +kernel
theorem dX3_init_34 : decode cX3_init 34 = .ok (.putfield 23, 3) := by decide +kernel
theorem dX3_init_37 : decode cX3_init 37 = .ok (.aload_n 0, 1) := by decide +kernel
theorem dX3_init_38 : decode cX3_init 38 = .ok (.bipush 8, 2) := by decide +kernel
theorem dX3_init_40 : decode cX3_init 40 = .ok (.putfield 26, 3) := by decide +kernel
theorem dX3_init_43 : decode cX3_init 43 = .ok (.aload_n 0, 1) := by decide +kernel
theorem dX3_init_44 : decode cX3_init 44 = .ok (.iconst 1, 1) := by decide +kernel
theorem dX3_init_45 : decode cX3_init 45 = .ok (.putfield 30, 3) := by decide +kernel
theorem dX3_init_48 : decode cX3_init 48 = .ok (.aload_n 0, 1) := by decide +kernel
theorem dX3_init_49 : decode cX3_init 49 = .ok (.iconst 1, 1) := by decide +kernel
theorem dX3_init_50 : decode cX3_init 50 = .ok (.bipush 24, 2) := by decide +kernel
theorem dX3_init_52 : decode cX3_init 52 = .ok (.iload_n 1, 1) := by decide +kernel
theorem dX3_init_53 : decode cX3_init 53 = .ok (.invokestatic 33, 3) := by decide +kernel
theorem dX3_init_56 : decode cX3_init 56 = .ok (.invokestatic 39, 3) := by decide +kernel
theorem dX3_init_59 : decode cX3_init 59 = .ok (.putfield 42, 3) := by decide +kernel
theorem dX3_init_62 : decode cX3_init 62 = .ok (.aload_n 0, 1) := by decide +kernel
theorem dX3_init_63 : decode cX3_init 63 = .ok (.aload_n 0, 1) := by decide +kernel
theorem dX3_init_64 : decode cX3_init 64 = .ok (.getfield 42, 3) := by decide +kernel
theorem dX3_init_67 : decode cX3_init 67 = .ok (.invokestatic 45, 3) := by decide +kernel
theorem dX3_init_70 : decode cX3_init 70 = .ok (.putfield 49, 3) := by decide +kernel
theorem dX3_init_73 : decode cX3_init 73 = .ok (.aload_n 0, 1) := by decide +kernel
theorem dX3_init_74 : decode cX3_init 74 = .ok (.iconst 2, 1) := by decide +kernel
theorem dX3_init_75 : decode cX3_init 75 = .ok (.aload_n 0, 1) := by decide +kernel
theorem dX3_init_76 : decode cX3_init 76 = .ok (.getfield 42, 3) := by decide +kernel
theorem dX3_init_79 : decode cX3_init 79 = .ok (.imul, 1) := by decide +kernel
theorem dX3_init_80 : decode cX3_init 80 = .ok (.iconst 1, 1) := by decide +kernel
theorem dX3_init_81 : decode cX3_init 81 = .ok (.iadd, 1) := by decide +kernel
theorem dX3_init_82 : decode cX3_init 82 = .ok (.newarray .int, 2) := by decide +kernel
theorem dX3_init_84 : decode cX3_init 84 = .ok (.putfield 53, 3) := by decide +kernel
theorem dX3_init_87 : decode cX3_init 87 = .ok (.aload_n 0, 1) := by decide +kernel
theorem dX3_init_88 : decode cX3_init 88 = .ok (.iconst 2, 1) := by decide +kernel
theorem dX3_init_89 : decode cX3_init 89 = .ok (.aload_n 0, 1) := by decide +kernel
theorem dX3_init_90 : decode cX3_init 90 = .ok (.getfield 42, 3) := by decide +kernel
theorem dX3_init_93 : decode cX3_init 93 = .ok (.imul, 1) := by decide +kernel
theorem dX3_init_94 : decode cX3_init 94 = .ok (.iconst 1, 1) := by decide +kernel
theorem dX3_init_95 : decode cX3_init 95 = .ok (.iadd, 1) := by decide +kernel
theorem dX3_init_96 : decode cX3_init 96 = .ok (.newarray .int, 2) := by decide +kernel
theorem dX3_init_98 : decode cX3_init 98 = .ok (.putfield 57, 3) := by decide +kernel
theorem dX3_init_101 : decode cX3_init 101 = .ok (.aload_n 0, 1) := by decide +kernel
theorem dX3_init_102 : decode cX3_init 102 = .ok (.getfield 53, 3) := by decide +kernel
theorem dX3_init_105 : decode cX3_init 105 = .ok (.iconst 1, 1) := by decide +kernel
theorem dX3_init_106 : decode cX3_init 106 = .ok (.invokestatic 60, 3) := by decide +kernel
theorem dX3_init_109 : decode cX3_init 109 = .ok (.aload_n 0, 1) := by decide +kernel
theorem dX3_init_110 : decode cX3_init 110 = .ok (.getfield 57, 3) := by decide +kernel
theorem dX3_init_113 : decode cX3_init 113 = .ok (.iconst 1, 1) := by decide +kernel
theorem dX3_init_114 : decode cX3_init 114 = .ok (.invokestatic 60, 3) := by decide +kernel
theorem dX3_init_117 : decode cX3_init 117 = .ok (.aload_n 0, 1) := by decide +kernel
theorem dX3_init_118 : decode cX3_init 118 = .ok (.new 66, 3) := by decide +kernel
theorem dX3_init_121 : decode cX3_init 121 = .ok (.dup, 1) := by decide +kernel
theorem dX3_init_122 : decode cX3_init 122 = .ok (.aload_n 0, 1) := by decide +kernel
theorem dX3_init_123 : decode cX3_init 123 = .ok (.getfield 42, 3) := by decide +kernel
theorem dX3_init_126 : decode cX3_init 126 = .ok (.invokespecial 68, 3) := by decide +kernel
theorem dX3_init_129 : decode cX3_init 129 = .ok (.putfield 71, 3) := by decide +kernel
theorem dX3_init_132 : decode cX3_init 132 = .ok (.aload_n 0, 1) := by decide +kernel
theorem dX3_init_133 : decode cX3_init 133 = .ok (.new 66, 3) := by decide +kernel
theorem dX3_init_136 : decode cX3_init 136 = .ok (.dup, 1) := by decide +kernel
theorem dX3_init_137 : decode cX3_init 137 = .ok (.aload_n 0, 1) := by decide +kernel
theorem dX3_init_138 : decode cX3_init 138 = .ok (.getfield 42, 3) := by decide +kernel
theorem dX3_init_141 : decode cX3_init 141 = .ok (.invokespecial 68, 3) := by decide +kernel
theorem dX3_init_144 : decode cX3_init 144 = .ok (.putfield 75, 3) := by decide +kernel
theorem dX3_init_147 : decode cX3_init 147 = .ok (.aload_n 0, 1) := by decide +kernel
theorem dX3_init_148 : decode cX3_init 148 = .ok (.new 66, 3) := by decide +kernel
theorem dX3_init_151 : decode cX3_init 151 = .ok (.dup, 1) := by decide +kernel
theorem dX3_init_152 : decode cX3_init 152 = .ok (.aload_n 0, 1) := by decide +kernel
theorem dX3_init_153 : decode cX3_init 153 = .ok (.getfield 42, 3) := by decide +kernel
theorem dX3_init_156 : decode cX3_init 156 = .ok (.invokespecial 68, 3) := by decide +kernel
theorem dX3_init_159 : decode cX3_init 159 = .ok (.putfield 78, 3) := by decide +kernel
theorem dX3_init_162 : decode cX3_init 162 = .ok (.return_, 1) := by decide +kernel
set_option maxRecDepth 20000 in
theorem ggX3_scale_X3_needWithin : GoodIn wsX3_scale wsX3_needWithin := goodIn_ca (goodIn_r _ [11, 12, 13] (by decide +kernel) (by decide +kernel)) (goodIn_sub (fun _ h => List.mem_cons_of_mem _ (List.mem_append_right _ h)) (by decide +kernel))
set_option maxRecDepth 20000 in
theorem gX3_scale_X3_needWithin : GoodIn wsX3_scale (va_wsS RX3 83 yX3_needWithin wsX3_needWithin) := goodIn_app (goodIn_of _ (by decide +kernel)) ggX3_scale_X3_needWithin
set_option maxRecDepth 20000 in
theorem ggX3_scale_X2_measure : GoodIn wsX3_scale wsX2_measure := goodIn_r _ [18, 19, 20, 21, 22, 23, 24, 25, 26, 39, 40, 41] (by decide +kernel) (by decide +kernel)
set_option maxRecDepth 20000 in
theorem gX3_scale_X2_measure : GoodIn wsX3_scale (wsV RX3 89 RX2 yX2_measure wsX2_measure) := goodIn_app (goodIn_of _ (by decide +kernel)) ggX3_scale_X2_measure
theorem dX3_scale_0 : decode cX3_scale 0 = .ok (.lload_n 1, 1) := by decide +kernel
theorem dX3_scale_1 : decode cX3_scale 1 = .ok (.lconst 1, 1) := by decide +kernel
theorem dX3_scale_2 : decode cX3_scale 2 = .ok (.ldc2_w 81, 3) := by decide +kernel
theorem dX3_scale_5 : decode cX3_scale 5 = .ok (.invokestatic 83, 3) := by decide +kernel
theorem dX3_scale_8 : decode cX3_scale 8 = .ok (.iload_n 3, 1) := by decide +kernel
theorem dX3_scale_9 : decode cX3_scale 9 = .ok (.i2l, 1) := by decide +kernel
theorem dX3_scale_10 : decode cX3_scale 10 = .ok (.lconst 0, 1) := by decide +kernel
theorem dX3_scale_11 : decode cX3_scale 11 = .ok (.ldc2_w 87, 3) := by decide +kernel
theorem dX3_scale_14 : decode cX3_scale 14 = .ok (.invokestatic 83, 3) := by decide +kernel
theorem dX3_scale_17 : decode cX3_scale 17 = .ok (.aload_n 0, 1) := by decide +kernel
theorem dX3_scale_18 : decode cX3_scale 18 = .ok (.iload_n 3, 1) := by decide +kernel
theorem dX3_scale_19 : decode cX3_scale 19 = .ok (.putfield 26, 3) := by decide +kernel
theorem dX3_scale_22 : decode cX3_scale 22 = .ok (.aload_n 0, 1) := by decide +kernel
theorem dX3_scale_23 : decode cX3_scale 23 = .ok (.getfield 71, 3) := by decide +kernel
theorem dX3_scale_26 : decode cX3_scale 26 = .ok (.lload_n 1, 1) := by decide +kernel
theorem dX3_scale_27 : decode cX3_scale 27 = .ok (.iload_n 3, 1) := by decide +kernel
theorem dX3_scale_28 : decode cX3_scale 28 = .ok (.invokevirtual 89, 3) := by decide +kernel
theorem dX3_scale_31 : decode cX3_scale 31 = .ok (.aload_n 0, 1) := by decide +kernel
theorem dX3_scale_32 : decode cX3_scale 32 = .ok (.getfield 75, 3) := by decide +kernel
theorem dX3_scale_35 : decode cX3_scale 35 = .ok (.aload_n 0, 1) := by decide +kernel
theorem dX3_scale_36 : decode cX3_scale 36 = .ok (.getfield 75, 3) := by decide +kernel
theorem dX3_scale_39 : decode cX3_scale 39 = .ok (.getfield 93, 3) := by decide +kernel
theorem dX3_scale_42 : decode cX3_scale 42 = .ok (.iload_n 3, 1) := by decide +kernel
theorem dX3_scale_43 : decode cX3_scale 43 = .ok (.invokevirtual 89, 3) := by decide +kernel
theorem dX3_scale_46 : decode cX3_scale 46 = .ok (.aload_n 0, 1) := by decide +kernel
theorem dX3_scale_47 : decode cX3_scale 47 = .ok (.getfield 78, 3) := by decide +kernel
theorem dX3_scale_50 : decode cX3_scale 50 = .ok (.aload_n 0, 1) := by decide +kernel
theorem dX3_scale_51 : decode cX3_scale 51 = .ok (.getfield 78, 3) := by decide +kernel
theorem dX3_scale_54 : decode cX3_scale 54 = .ok (.getfield 93, 3) := by decide +kernel
theorem dX3_scale_57 : decode cX3_scale 57 = .ok (.iload_n 3, 1) := by decide +kernel
theorem dX3_scale_58 : decode cX3_scale 58 = .ok (.invokevirtual 89, 3) := by decide +kernel
theorem dX3_scale_61 : decode cX3_scale 61 = .ok (.return_, 1) := by decide +kernel
set_option maxRecDepth 20000 in
theorem ggX3_fret_X3_needPlace : GoodIn wsX3_fret wsX3_needPlace := goodIn_r _ [6, 7, 8, 9, 10, 11, 77, 78, 79, 80, 81, 82, 83, 84, 85, 86, 87, 88, 89, 90, 91, 92, 93, 94] (by decide +kernel) (by decide +kernel)
set_option maxRecDepth 20000 in
theorem gX3_fret_X3_needPlace : GoodIn wsX3_fret (wsV RX3 97 RX3 yX3_needPlace wsX3_needPlace) := goodIn_app (goodIn_of _ (by decide +kernel)) ggX3_fret_X3_needPlace
set_option maxRecDepth 20000 in
theorem ggX3_fret_X3_lowerEnd : GoodIn wsX3_fret wsX3_lowerEnd := goodIn_r _ [15, 16, 17, 18, 19, 20, 21, 22, 5, 23, 24, 25, 26, 27, 28, 29, 30, 31, 32, 33, 34, 35, 36, 37, 38, 39, 40, 41, 42, 43, 44, 45, 46, 47, 48, 49, 50, 51, 52, 53, 54, 55, 56, 57, 58, 59, 60, 61, 62, 63, 64, 65, 66, 67, 68, 69, 70, 71, 72, 77, 78, 79, 80, 81, 82, 83, 84, 85, 86, 87, 88, 95, 96, 97, 98, 99] (by decide +kernel) (by decide +kernel)
set_option maxRecDepth 20000 in
theorem gX3_fret_X3_lowerEnd : GoodIn wsX3_fret (wsV RX3 100 RX3 yX3_lowerEnd wsX3_lowerEnd) := goodIn_app (goodIn_of _ (by decide +kernel)) ggX3_fret_X3_lowerEnd
set_option maxRecDepth 20000 in
theorem ggX3_fret_X3_endsMeet : GoodIn wsX3_fret wsX3_endsMeet := goodIn_r _ [76, 16, 1, 19, 20, 21, 22, 5, 23, 77, 78, 79, 80, 81, 82, 83, 84, 85, 86, 87, 88, 95, 96, 97] (by decide +kernel) (by decide +kernel)
set_option maxRecDepth 20000 in
theorem gX3_fret_X3_endsMeet : GoodIn wsX3_fret (wsV RX3 104 RX3 yX3_endsMeet wsX3_endsMeet) := goodIn_app (goodIn_of _ (by decide +kernel)) ggX3_fret_X3_endsMeet
theorem dX3_fret_0 : decode cX3_fret 0 = .ok (.aload_n 0, 1) := by decide +kernel
theorem dX3_fret_1 : decode cX3_fret 1 = .ok (.iload_n 1, 1) := by decide +kernel
theorem dX3_fret_2 : decode cX3_fret 2 = .ok (.invokevirtual 97, 3) := by decide +kernel
theorem dX3_fret_5 : decode cX3_fret 5 = .ok (.aload_n 0, 1) := by decide +kernel
theorem dX3_fret_6 : decode cX3_fret 6 = .ok (.aload_n 0, 1) := by decide +kernel
theorem dX3_fret_7 : decode cX3_fret 7 = .ok (.getfield 71, 3) := by decide +kernel
theorem dX3_fret_10 : decode cX3_fret 10 = .ok (.iload_n 1, 1) := by decide +kernel
theorem dX3_fret_11 : decode cX3_fret 11 = .ok (.invokevirtual 100, 3) := by decide +kernel
theorem dX3_fret_14 : decode cX3_fret 14 = .ok (.lstore_n 3, 1) := by decide +kernel
theorem dX3_fret_15 : decode cX3_fret 15 = .ok (.iload_n 2, 1) := by decide +kernel
theorem dX3_fret_16 : decode cX3_fret 16 = .ok (.ifCond .eq 18, 3) := by decide +kernel
theorem dX3_fret_19 : decode cX3_fret 19 = .ok (.aload_n 0, 1) := by decide +kernel
theorem dX3_fret_20 : decode cX3_fret 20 = .ok (.iload_n 1, 1) := by decide +kernel
theorem dX3_fret_21 : decode cX3_fret 21 = .ok (.lload_n 3, 1) := by decide +kernel
theorem dX3_fret_22 : decode cX3_fret 22 = .ok (.invokevirtual 104, 3) := by decide +kernel
theorem dX3_fret_25 : decode cX3_fret 25 = .ok (.ifCond .ne 9, 3) := by decide +kernel
theorem dX3_fret_28 : decode cX3_fret 28 = .ok (.lload_n 3, 1) := by decide +kernel
theorem dX3_fret_29 : decode cX3_fret 29 = .ok (.lconst 1, 1) := by decide +kernel
theorem dX3_fret_30 : decode cX3_fret 30 = .ok (.ladd, 1) := by decide +kernel
theorem dX3_fret_31 : decode cX3_fret 31 = .ok (.goto 4, 3) := by decide +kernel
theorem dX3_fret_34 : decode cX3_fret 34 = .ok (.lload_n 3, 1) := by decide +kernel
theorem dX3_fret_35 : decode cX3_fret 35 = .ok (.lreturn, 1) := by decide +kernel
set_option maxRecDepth 20000 in
theorem ggX3_exact_X3_needPlace : GoodIn wsX3_exact wsX3_needPlace := goodIn_r _ [6, 7, 8, 9, 10, 11, 77, 78, 79, 80, 81, 82, 83, 84, 85, 86, 87, 88, 89, 90, 91, 92, 93, 94] (by decide +kernel) (by decide +kernel)
set_option maxRecDepth 20000 in
theorem gX3_exact_X3_needPlace : GoodIn wsX3_exact (wsV RX3 97 RX3 yX3_needPlace wsX3_needPlace) := goodIn_app (goodIn_of _ (by decide +kernel)) ggX3_exact_X3_needPlace
set_option maxRecDepth 20000 in
theorem ggX3_exact_X3_lowerEnd : GoodIn wsX3_exact wsX3_lowerEnd := goodIn_r _ [15, 16, 17, 18, 19, 20, 21, 22, 5, 23, 24, 25, 26, 27, 28, 29, 30, 31, 32, 33, 34, 35, 36, 37, 38, 39, 40, 41, 42, 43, 44, 45, 46, 47, 48, 49, 50, 51, 52, 53, 54, 55, 56, 57, 58, 59, 60, 61, 62, 63, 64, 65, 66, 67, 68, 69, 70, 71, 72, 77, 78, 79, 80, 81, 82, 83, 84, 85, 86, 87, 88, 95, 96, 97, 98, 99] (by decide +kernel) (by decide +kernel)
set_option maxRecDepth 20000 in
theorem gX3_exact_X3_lowerEnd : GoodIn wsX3_exact (wsV RX3 100 RX3 yX3_lowerEnd wsX3_lowerEnd) := goodIn_app (goodIn_of _ (by decide +kernel)) ggX3_exact_X3_lowerEnd
set_option maxRecDepth 20000 in
theorem ggX3_exact_X3_endsMeet : GoodIn wsX3_exact wsX3_endsMeet := goodIn_r _ [76, 16, 1, 19, 20, 21, 22, 5, 23, 77, 78, 79, 80, 81, 82, 83, 84, 85, 86, 87, 88, 95, 96, 97] (by decide +kernel) (by decide +kernel)
set_option maxRecDepth 20000 in
theorem gX3_exact_X3_endsMeet : GoodIn wsX3_exact (wsV RX3 104 RX3 yX3_endsMeet wsX3_endsMeet) := goodIn_app (goodIn_of _ (by decide +kernel)) ggX3_exact_X3_endsMeet
theorem dX3_exact_0 : decode cX3_exact 0 = .ok (.aload_n 0, 1) := by decide +kernel
theorem dX3_exact_1 : decode cX3_exact 1 = .ok (.iload_n 1, 1) := by decide +kernel
theorem dX3_exact_2 : decode cX3_exact 2 = .ok (.invokevirtual 97, 3) := by decide +kernel
theorem dX3_exact_5 : decode cX3_exact 5 = .ok (.aload_n 0, 1) := by decide +kernel
theorem dX3_exact_6 : decode cX3_exact 6 = .ok (.iload_n 1, 1) := by decide +kernel
theorem dX3_exact_7 : decode cX3_exact 7 = .ok (.aload_n 0, 1) := by decide +kernel
theorem dX3_exact_8 : decode cX3_exact 8 = .ok (.aload_n 0, 1) := by decide +kernel
theorem dX3_exact_9 : decode cX3_exact 9 = .ok (.getfield 71, 3) := by decide +kernel
theorem dX3_exact_12 : decode cX3_exact 12 = .ok (.iload_n 1, 1) := by decide +kernel
theorem dX3_exact_13 : decode cX3_exact 13 = .ok (.invokevirtual 100, 3) := by decide +kernel
theorem dX3_exact_16 : decode cX3_exact 16 = .ok (.invokevirtual 104, 3) := by decide +kernel
theorem dX3_exact_19 : decode cX3_exact 19 = .ok (.ireturn, 1) := by decide +kernel
set_option maxRecDepth 20000 in
theorem ggX3_just_X3_needPlace : GoodIn wsX3_just wsX3_needPlace := goodIn_r _ [8, 2, 3, 9, 10, 11, 23, 24, 25, 26, 27, 28, 29, 30, 31, 32, 33, 34, 35, 36, 37, 38, 39, 40] (by decide +kernel) (by decide +kernel)
set_option maxRecDepth 20000 in
theorem gX3_just_X3_needPlace : GoodIn wsX3_just (wsV RX3 97 RX3 yX3_needPlace wsX3_needPlace) := goodIn_app (goodIn_of _ (by decide +kernel)) ggX3_just_X3_needPlace
set_option maxRecDepth 20000 in
theorem ggX3_just_X3_needWithin : GoodIn wsX3_just wsX3_needWithin := goodIn_ca (goodIn_r _ [14, 15, 16] (by decide +kernel) (by decide +kernel)) (goodIn_sub (fun _ h => List.mem_cons_of_mem _ (List.mem_append_right _ h)) (by decide +kernel))
set_option maxRecDepth 20000 in
theorem gX3_just_X3_needWithin : GoodIn wsX3_just (va_wsS RX3 83 yX3_needWithin wsX3_needWithin) := goodIn_app (goodIn_of _ (by decide +kernel)) ggX3_just_X3_needWithin
set_option maxRecDepth 20000 in
theorem ggX3_just_X3_commonDivisor : GoodIn wsX3_just wsX3_commonDivisor := goodIn_r _ [19] (by decide +kernel) (by decide +kernel)
set_option maxRecDepth 20000 in
theorem gX3_just_X3_commonDivisor : GoodIn wsX3_just (va_wsS RX3 108 yX3_commonDivisor wsX3_commonDivisor) := goodIn_app (goodIn_of _ (by decide +kernel)) ggX3_just_X3_commonDivisor
set_option maxRecDepth 20000 in
theorem ggX3_just_X3_quotient : GoodIn wsX3_just wsX3_quotient := goodIn_r _ [22] (by decide +kernel) (by decide +kernel)
set_option maxRecDepth 20000 in
theorem gX3_just_X3_quotient : GoodIn wsX3_just (va_wsS RX3 112 yX3_quotient wsX3_quotient) := goodIn_app (goodIn_of _ (by decide +kernel)) ggX3_just_X3_quotient
theorem dX3_just_0 : decode cX3_just 0 = .ok (.aload_n 0, 1) := by decide +kernel
theorem dX3_just_1 : decode cX3_just 1 = .ok (.iload_n 1, 1) := by decide +kernel
theorem dX3_just_2 : decode cX3_just 2 = .ok (.invokevirtual 97, 3) := by decide +kernel
theorem dX3_just_5 : decode cX3_just 5 = .ok (.iload_n 2, 1) := by decide +kernel
theorem dX3_just_6 : decode cX3_just 6 = .ok (.i2l, 1) := by decide +kernel
theorem dX3_just_7 : decode cX3_just 7 = .ok (.lconst 1, 1) := by decide +kernel
theorem dX3_just_8 : decode cX3_just 8 = .ok (.ldc2_w 81, 3) := by decide +kernel
theorem dX3_just_11 : decode cX3_just 11 = .ok (.invokestatic 83, 3) := by decide +kernel
theorem dX3_just_14 : decode cX3_just 14 = .ok (.iload_n 3, 1) := by decide +kernel
theorem dX3_just_15 : decode cX3_just 15 = .ok (.i2l, 1) := by decide +kernel
theorem dX3_just_16 : decode cX3_just 16 = .ok (.lconst 1, 1) := by decide +kernel
theorem dX3_just_17 : decode cX3_just 17 = .ok (.ldc2_w 81, 3) := by decide +kernel
theorem dX3_just_20 : decode cX3_just 20 = .ok (.invokestatic 83, 3) := by decide +kernel
theorem dX3_just_23 : decode cX3_just 23 = .ok (.iload_n 2, 1) := by decide +kernel
theorem dX3_just_24 : decode cX3_just 24 = .ok (.i2l, 1) := by decide +kernel
theorem dX3_just_25 : decode cX3_just 25 = .ok (.iload_n 3, 1) := by decide +kernel
theorem dX3_just_26 : decode cX3_just 26 = .ok (.i2l, 1) := by decide +kernel
theorem dX3_just_27 : decode cX3_just 27 = .ok (.invokestatic 108, 3) := by decide +kernel
theorem dX3_just_30 : decode cX3_just 30 = .ok (.lstore 4, 2) := by decide +kernel
theorem dX3_just_32 : decode cX3_just 32 = .ok (.aload_n 0, 1) := by decide +kernel
theorem dX3_just_33 : decode cX3_just 33 = .ok (.getfield 53, 3) := by decide +kernel
theorem dX3_just_36 : decode cX3_just 36 = .ok (.iload_n 1, 1) := by decide +kernel
theorem dX3_just_37 : decode cX3_just 37 = .ok (.iload_n 2, 1) := by decide +kernel
theorem dX3_just_38 : decode cX3_just 38 = .ok (.i2l, 1) := by decide +kernel
theorem dX3_just_39 : decode cX3_just 39 = .ok (.lload 4, 2) := by decide +kernel
theorem dX3_just_41 : decode cX3_just 41 = .ok (.invokestatic 112, 3) := by decide +kernel
theorem dX3_just_44 : decode cX3_just 44 = .ok (.l2i, 1) := by decide +kernel
theorem dX3_just_45 : decode cX3_just 45 = .ok (.iastore, 1) := by decide +kernel
theorem dX3_just_46 : decode cX3_just 46 = .ok (.aload_n 0, 1) := by decide +kernel
theorem dX3_just_47 : decode cX3_just 47 = .ok (.getfield 57, 3) := by decide +kernel
theorem dX3_just_50 : decode cX3_just 50 = .ok (.iload_n 1, 1) := by decide +kernel
theorem dX3_just_51 : decode cX3_just 51 = .ok (.iload_n 3, 1) := by decide +kernel
theorem dX3_just_52 : decode cX3_just 52 = .ok (.i2l, 1) := by decide +kernel
theorem dX3_just_53 : decode cX3_just 53 = .ok (.lload 4, 2) := by decide +kernel
theorem dX3_just_55 : decode cX3_just 55 = .ok (.invokestatic 112, 3) := by decide +kernel
theorem dX3_just_58 : decode cX3_just 58 = .ok (.l2i, 1) := by decide +kernel
theorem dX3_just_59 : decode cX3_just 59 = .ok (.iastore, 1) := by decide +kernel
theorem dX3_just_60 : decode cX3_just 60 = .ok (.return_, 1) := by decide +kernel
set_option maxRecDepth 20000 in
theorem ggX3_justAt_X3_needPlace : GoodIn wsX3_justAt wsX3_needPlace := goodIn_r _ [7, 1, 2, 8, 9, 10, 14, 15, 16, 17, 18, 19, 20, 21, 22, 23, 24, 25, 26, 27, 28, 29, 30, 31] (by decide +kernel) (by decide +kernel)
set_option maxRecDepth 20000 in
theorem gX3_justAt_X3_needPlace : GoodIn wsX3_justAt (wsV RX3 97 RX3 yX3_needPlace wsX3_needPlace) := goodIn_app (goodIn_of _ (by decide +kernel)) ggX3_justAt_X3_needPlace
set_option maxRecDepth 20000 in
theorem ggX3_justAt_X3_needPart : GoodIn wsX3_justAt wsX3_needPart := goodIn_r _ [13, 8, 9, 10, 26, 27, 28, 29, 30, 31] (by decide +kernel) (by decide +kernel)
set_option maxRecDepth 20000 in
theorem gX3_justAt_X3_needPart : GoodIn wsX3_justAt (va_wsS RX3 115 yX3_needPart wsX3_needPart) := goodIn_app (goodIn_of _ (by decide +kernel)) ggX3_justAt_X3_needPart
theorem dX3_justAt_0 : decode cX3_justAt 0 = .ok (.aload_n 0, 1) := by decide +kernel
theorem dX3_justAt_1 : decode cX3_justAt 1 = .ok (.iload_n 1, 1) := by decide +kernel
theorem dX3_justAt_2 : decode cX3_justAt 2 = .ok (.invokevirtual 97, 3) := by decide +kernel
theorem dX3_justAt_5 : decode cX3_justAt 5 = .ok (.iload_n 2, 1) := by decide +kernel
theorem dX3_justAt_6 : decode cX3_justAt 6 = .ok (.iconst 2, 1) := by decide +kernel
theorem dX3_justAt_7 : decode cX3_justAt 7 = .ok (.invokestatic 115, 3) := by decide +kernel
theorem dX3_justAt_10 : decode cX3_justAt 10 = .ok (.iload_n 2, 1) := by decide +kernel
theorem dX3_justAt_11 : decode cX3_justAt 11 = .ok (.ifCond .ne 12, 3) := by decide +kernel
theorem dX3_justAt_14 : decode cX3_justAt 14 = .ok (.aload_n 0, 1) := by decide +kernel
theorem dX3_justAt_15 : decode cX3_justAt 15 = .ok (.getfield 53, 3) := by decide +kernel
theorem dX3_justAt_18 : decode cX3_justAt 18 = .ok (.iload_n 1, 1) := by decide +kernel
theorem dX3_justAt_19 : decode cX3_justAt 19 = .ok (.iaload, 1) := by decide +kernel
theorem dX3_justAt_20 : decode cX3_justAt 20 = .ok (.goto 9, 3) := by decide +kernel
theorem dX3_justAt_23 : decode cX3_justAt 23 = .ok (.aload_n 0, 1) := by decide +kernel
theorem dX3_justAt_24 : decode cX3_justAt 24 = .ok (.getfield 57, 3) := by decide +kernel
theorem dX3_justAt_27 : decode cX3_justAt 27 = .ok (.iload_n 1, 1) := by decide +kernel
theorem dX3_justAt_28 : decode cX3_justAt 28 = .ok (.iaload, 1) := by decide +kernel
theorem dX3_justAt_29 : decode cX3_justAt 29 = .ok (.ireturn, 1) := by decide +kernel
set_option maxRecDepth 20000 in
theorem ggX3_leaves_X3_needPlace : GoodIn wsX3_leaves wsX3_needPlace := goodIn_r _ [9, 4, 3, 10, 11, 12, 16, 17, 18, 19, 20, 21, 22, 23, 24, 25, 26, 27, 31, 32, 33, 34, 35, 36] (by decide +kernel) (by decide +kernel)
set_option maxRecDepth 20000 in
theorem gX3_leaves_X3_needPlace : GoodIn wsX3_leaves (wsV RX3 97 RX3 yX3_needPlace wsX3_needPlace) := goodIn_app (goodIn_of _ (by decide +kernel)) ggX3_leaves_X3_needPlace
set_option maxRecDepth 20000 in
theorem ggX3_leaves_X3_quotient : GoodIn wsX3_leaves wsX3_quotient := goodIn_r _ [15] (by decide +kernel) (by decide +kernel)
set_option maxRecDepth 20000 in
theorem gX3_leaves_X3_quotient : GoodIn wsX3_leaves (va_wsS RX3 112 yX3_quotient wsX3_quotient) := goodIn_app (goodIn_of _ (by decide +kernel)) ggX3_leaves_X3_quotient
theorem dX3_leaves_0 : decode cX3_leaves 0 = .ok (.aload_n 0, 1) := by decide +kernel
theorem dX3_leaves_1 : decode cX3_leaves 1 = .ok (.iload_n 1, 1) := by decide +kernel
theorem dX3_leaves_2 : decode cX3_leaves 2 = .ok (.invokevirtual 97, 3) := by decide +kernel
theorem dX3_leaves_5 : decode cX3_leaves 5 = .ok (.aload_n 0, 1) := by decide +kernel
theorem dX3_leaves_6 : decode cX3_leaves 6 = .ok (.getfield 71, 3) := by decide +kernel
theorem dX3_leaves_9 : decode cX3_leaves 9 = .ok (.getfield 119, 3) := by decide +kernel
theorem dX3_leaves_12 : decode cX3_leaves 12 = .ok (.aload_n 0, 1) := by decide +kernel
theorem dX3_leaves_13 : decode cX3_leaves 13 = .ok (.getfield 57, 3) := by decide +kernel
theorem dX3_leaves_16 : decode cX3_leaves 16 = .ok (.iload_n 1, 1) := by decide +kernel
theorem dX3_leaves_17 : decode cX3_leaves 17 = .ok (.iaload, 1) := by decide +kernel
theorem dX3_leaves_18 : decode cX3_leaves 18 = .ok (.i2l, 1) := by decide +kernel
theorem dX3_leaves_19 : decode cX3_leaves 19 = .ok (.lmul, 1) := by decide +kernel
theorem dX3_leaves_20 : decode cX3_leaves 20 = .ok (.aload_n 0, 1) := by decide +kernel
theorem dX3_leaves_21 : decode cX3_leaves 21 = .ok (.getfield 53, 3) := by decide +kernel
theorem dX3_leaves_24 : decode cX3_leaves 24 = .ok (.iload_n 1, 1) := by decide +kernel
theorem dX3_leaves_25 : decode cX3_leaves 25 = .ok (.iaload, 1) := by decide +kernel
theorem dX3_leaves_26 : decode cX3_leaves 26 = .ok (.i2l, 1) := by decide +kernel
theorem dX3_leaves_27 : decode cX3_leaves 27 = .ok (.invokestatic 112, 3) := by decide +kernel
theorem dX3_leaves_30 : decode cX3_leaves 30 = .ok (.lreturn, 1) := by decide +kernel
set_option maxRecDepth 20000 in
theorem ggX3_beside_X3_needPlace : GoodIn wsX3_beside wsX3_needPlace := goodIn_r _ [10, 2, 5, 11, 12, 13, 42, 43, 44, 45, 46, 47, 48, 49, 50, 51, 52, 53, 54, 55, 56, 57, 58, 59] (by decide +kernel) (by decide +kernel)
set_option maxRecDepth 20000 in
theorem gX3_beside_X3_needPlace : GoodIn wsX3_beside (wsV RX3 97 RX3 yX3_needPlace wsX3_needPlace) := goodIn_app (goodIn_of _ (by decide +kernel)) ggX3_beside_X3_needPlace
set_option maxRecDepth 20000 in
theorem ggX3_beside_X0_setPower : GoodIn wsX3_beside wsX0_setPower := goodIn_r _ [18, 19, 20, 21, 22, 17, 23, 24, 25, 26, 27, 28, 29, 60, 61] (by decide +kernel) (by decide +kernel)
set_option maxRecDepth 20000 in
theorem gX3_beside_X0_setPower : GoodIn wsX3_beside (wsV RX3 122 RX0 yX0_setPower wsX0_setPower) := goodIn_app (goodIn_of _ (by decide +kernel)) ggX3_beside_X0_setPower
set_option maxRecDepth 20000 in
theorem ggX3_beside_X0_doubleTimes : GoodIn wsX3_beside wsX0_doubleTimes := goodIn_r _ [33, 34, 35, 36, 37, 26, 27, 28, 17, 29, 19, 24, 25, 20, 21, 22, 23, 60, 61] (by decide +kernel) (by decide +kernel)
set_option maxRecDepth 20000 in
theorem gX3_beside_X0_doubleTimes : GoodIn wsX3_beside (wsV RX3 125 RX0 yX0_doubleTimes wsX0_doubleTimes) := goodIn_app (goodIn_of _ (by decide +kernel)) ggX3_beside_X0_doubleTimes
set_option maxRecDepth 20000 in
theorem ggX3_beside_X0_compareWith : GoodIn wsX3_beside wsX0_compareWith := goodIn_r _ [41, 19, 34, 35, 36, 37, 24, 60, 61] (by decide +kernel) (by decide +kernel)
set_option maxRecDepth 20000 in
theorem gX3_beside_X0_compareWith : GoodIn wsX3_beside (wsV RX3 128 RX0 yX0_compareWith wsX0_compareWith) := goodIn_app (goodIn_of _ (by decide +kernel)) ggX3_beside_X0_compareWith
theorem dX3_beside_0 : decode cX3_beside 0 = .ok (.aload_n 0, 1) := by decide +kernel
theorem dX3_beside_1 : decode cX3_beside 1 = .ok (.iload_n 1, 1) := by decide +kernel
theorem dX3_beside_2 : decode cX3_beside 2 = .ok (.invokevirtual 97, 3) := by decide +kernel
theorem dX3_beside_5 : decode cX3_beside 5 = .ok (.aload_n 0, 1) := by decide +kernel
theorem dX3_beside_6 : decode cX3_beside 6 = .ok (.getfield 19, 3) := by decide +kernel
theorem dX3_beside_9 : decode cX3_beside 9 = .ok (.aload_n 0, 1) := by decide +kernel
theorem dX3_beside_10 : decode cX3_beside 10 = .ok (.getfield 53, 3) := by decide +kernel
theorem dX3_beside_13 : decode cX3_beside 13 = .ok (.iload_n 1, 1) := by decide +kernel
theorem dX3_beside_14 : decode cX3_beside 14 = .ok (.iaload, 1) := by decide +kernel
theorem dX3_beside_15 : decode cX3_beside 15 = .ok (.i2l, 1) := by decide +kernel
theorem dX3_beside_16 : decode cX3_beside 16 = .ok (.aload_n 0, 1) := by decide +kernel
theorem dX3_beside_17 : decode cX3_beside 17 = .ok (.getfield 42, 3) := by decide +kernel
theorem dX3_beside_20 : decode cX3_beside 20 = .ok (.invokevirtual 122, 3) := by decide +kernel
theorem dX3_beside_23 : decode cX3_beside 23 = .ok (.aload_n 0, 1) := by decide +kernel
theorem dX3_beside_24 : decode cX3_beside 24 = .ok (.getfield 23, 3) := by decide +kernel
theorem dX3_beside_27 : decode cX3_beside 27 = .ok (.aload_n 0, 1) := by decide +kernel
theorem dX3_beside_28 : decode cX3_beside 28 = .ok (.getfield 57, 3) := by decide +kernel
theorem dX3_beside_31 : decode cX3_beside 31 = .ok (.iload_n 1, 1) := by decide +kernel
theorem dX3_beside_32 : decode cX3_beside 32 = .ok (.iaload, 1) := by decide +kernel
theorem dX3_beside_33 : decode cX3_beside 33 = .ok (.i2l, 1) := by decide +kernel
theorem dX3_beside_34 : decode cX3_beside 34 = .ok (.aload_n 0, 1) := by decide +kernel
theorem dX3_beside_35 : decode cX3_beside 35 = .ok (.getfield 42, 3) := by decide +kernel
theorem dX3_beside_38 : decode cX3_beside 38 = .ok (.invokevirtual 122, 3) := by decide +kernel
theorem dX3_beside_41 : decode cX3_beside 41 = .ok (.aload_n 0, 1) := by decide +kernel
theorem dX3_beside_42 : decode cX3_beside 42 = .ok (.getfield 23, 3) := by decide +kernel
theorem dX3_beside_45 : decode cX3_beside 45 = .ok (.iload_n 1, 1) := by decide +kernel
theorem dX3_beside_46 : decode cX3_beside 46 = .ok (.invokevirtual 125, 3) := by decide +kernel
theorem dX3_beside_49 : decode cX3_beside 49 = .ok (.aload_n 0, 1) := by decide +kernel
theorem dX3_beside_50 : decode cX3_beside 50 = .ok (.getfield 19, 3) := by decide +kernel
theorem dX3_beside_53 : decode cX3_beside 53 = .ok (.aload_n 0, 1) := by decide +kernel
theorem dX3_beside_54 : decode cX3_beside 54 = .ok (.getfield 23, 3) := by decide +kernel
theorem dX3_beside_57 : decode cX3_beside 57 = .ok (.invokevirtual 128, 3) := by decide +kernel
theorem dX3_beside_60 : decode cX3_beside 60 = .ok (.ireturn, 1) := by decide +kernel
set_option maxRecDepth 20000 in
theorem ggX3_nearest_X3_needWithin : GoodIn wsX3_nearest wsX3_needWithin := goodIn_ca (goodIn_r _ [6, 7, 8] (by decide +kernel) (by decide +kernel)) (goodIn_sub (fun _ h => List.mem_cons_of_mem _ (List.mem_append_right _ h)) (by decide +kernel))
set_option maxRecDepth 20000 in
theorem gX3_nearest_X3_needWithin : GoodIn wsX3_nearest (va_wsS RX3 83 yX3_needWithin wsX3_needWithin) := goodIn_app (goodIn_of _ (by decide +kernel)) ggX3_nearest_X3_needWithin
set_option maxRecDepth 20000 in
theorem ggX3_nearest_X3_lastNotAbove : GoodIn wsX3_nearest wsX3_lastNotAbove := goodIn_r _ [12, 13, 2, 14, 15, 16, 17, 18, 19, 20, 21, 22, 23, 24, 25, 26, 27, 28, 29, 30, 31, 32, 33, 34, 35, 36, 37, 38, 39, 40, 41, 42, 47, 48, 49, 50, 51, 52, 53, 54, 55, 56, 57, 58, 59, 60] (by decide +kernel) (by decide +kernel)
set_option maxRecDepth 20000 in
theorem gX3_nearest_X3_lastNotAbove : GoodIn wsX3_nearest (wsV RX3 132 RX3 yX3_lastNotAbove wsX3_lastNotAbove) := goodIn_app (goodIn_of _ (by decide +kernel)) ggX3_nearest_X3_lastNotAbove
set_option maxRecDepth 20000 in
theorem ggX3_nearest_X3_isPastMiddle : GoodIn wsX3_nearest wsX3_isPastMiddle := goodIn_r _ [46, 13, 2, 14, 15, 16, 17, 18, 19, 20, 21, 22, 23, 24, 25, 26, 27, 28, 29, 30, 31, 32, 33, 34, 35, 36, 37, 38, 39, 40, 41, 42, 47, 48, 49, 50, 51, 52, 53, 54, 55, 56, 57, 58, 59, 60] (by decide +kernel) (by decide +kernel)
set_option maxRecDepth 20000 in
theorem gX3_nearest_X3_isPastMiddle : GoodIn wsX3_nearest (wsV RX3 135 RX3 yX3_isPastMiddle wsX3_isPastMiddle) := goodIn_app (goodIn_of _ (by decide +kernel)) ggX3_nearest_X3_isPastMiddle
theorem dX3_nearest_0 : decode cX3_nearest 0 = .ok (.iload_n 1, 1) := by decide +kernel
theorem dX3_nearest_1 : decode cX3_nearest 1 = .ok (.i2l, 1) := by decide +kernel
theorem dX3_nearest_2 : decode cX3_nearest 2 = .ok (.lconst 1, 1) := by decide +kernel
theorem dX3_nearest_3 : decode cX3_nearest 3 = .ok (.ldc2_w 81, 3) := by decide +kernel
theorem dX3_nearest_6 : decode cX3_nearest 6 = .ok (.invokestatic 83, 3) := by decide +kernel
theorem dX3_nearest_9 : decode cX3_nearest 9 = .ok (.iload_n 2, 1) := by decide +kernel
theorem dX3_nearest_10 : decode cX3_nearest 10 = .ok (.i2l, 1) := by decide +kernel
theorem dX3_nearest_11 : decode cX3_nearest 11 = .ok (.lconst 1, 1) := by decide +kernel
theorem dX3_nearest_12 : decode cX3_nearest 12 = .ok (.ldc2_w 81, 3) := by decide +kernel
theorem dX3_nearest_15 : decode cX3_nearest 15 = .ok (.invokestatic 83, 3) := by decide +kernel
theorem dX3_nearest_18 : decode cX3_nearest 18 = .ok (.iload_n 1, 1) := by decide +kernel
theorem dX3_nearest_19 : decode cX3_nearest 19 = .ok (.iload_n 2, 1) := by decide +kernel
theorem dX3_nearest_20 : decode cX3_nearest 20 = .ok (.if_icmp .ge 5, 3) := by decide +kernel
theorem dX3_nearest_23 : decode cX3_nearest 23 = .ok (.iconst 0, 1) := by decide +kernel
theorem dX3_nearest_24 : decode cX3_nearest 24 = .ok (.ireturn, 1) := by decide +kernel
theorem dX3_nearest_25 : decode cX3_nearest 25 = .ok (.aload_n 0, 1) := by decide +kernel
theorem dX3_nearest_26 : decode cX3_nearest 26 = .ok (.iload_n 1, 1) := by decide +kernel
theorem dX3_nearest_27 : decode cX3_nearest 27 = .ok (.iload_n 2, 1) := by decide +kernel
theorem dX3_nearest_28 : decode cX3_nearest 28 = .ok (.invokevirtual 132, 3) := by decide +kernel
theorem dX3_nearest_31 : decode cX3_nearest 31 = .ok (.istore_n 3, 1) := by decide +kernel
theorem dX3_nearest_32 : decode cX3_nearest 32 = .ok (.iload_n 3, 1) := by decide +kernel
theorem dX3_nearest_33 : decode cX3_nearest 33 = .ok (.iconst 2, 1) := by decide +kernel
theorem dX3_nearest_34 : decode cX3_nearest 34 = .ok (.aload_n 0, 1) := by decide +kernel
theorem dX3_nearest_35 : decode cX3_nearest 35 = .ok (.getfield 42, 3) := by decide +kernel
theorem dX3_nearest_38 : decode cX3_nearest 38 = .ok (.imul, 1) := by decide +kernel
theorem dX3_nearest_39 : decode cX3_nearest 39 = .ok (.if_icmp .ge 19, 3) := by decide +kernel
theorem dX3_nearest_42 : decode cX3_nearest 42 = .ok (.aload_n 0, 1) := by decide +kernel
theorem dX3_nearest_43 : decode cX3_nearest 43 = .ok (.iload_n 1, 1) := by decide +kernel
theorem dX3_nearest_44 : decode cX3_nearest 44 = .ok (.iload_n 2, 1) := by decide +kernel
theorem dX3_nearest_45 : decode cX3_nearest 45 = .ok (.iload_n 3, 1) := by decide +kernel
theorem dX3_nearest_46 : decode cX3_nearest 46 = .ok (.invokevirtual 135, 3) := by decide +kernel
theorem dX3_nearest_49 : decode cX3_nearest 49 = .ok (.ifCond .eq 9, 3) := by decide +kernel
theorem dX3_nearest_52 : decode cX3_nearest 52 = .ok (.iload_n 3, 1) := by decide +kernel
theorem dX3_nearest_53 : decode cX3_nearest 53 = .ok (.iconst 1, 1) := by decide +kernel
theorem dX3_nearest_54 : decode cX3_nearest 54 = .ok (.iadd, 1) := by decide +kernel
theorem dX3_nearest_55 : decode cX3_nearest 55 = .ok (.goto 4, 3) := by decide +kernel
theorem dX3_nearest_58 : decode cX3_nearest 58 = .ok (.iload_n 3, 1) := by decide +kernel
theorem dX3_nearest_59 : decode cX3_nearest 59 = .ok (.ireturn, 1) := by decide +kernel
set_option maxRecDepth 20000 in
theorem ggX3_step_X3_needWithin : GoodIn wsX3_step wsX3_needWithin := goodIn_ca (goodIn_r _ [6, 7, 8] (by decide +kernel) (by decide +kernel)) (goodIn_sub (fun _ h => List.mem_cons_of_mem _ (List.mem_append_right _ h)) (by decide +kernel))
set_option maxRecDepth 20000 in
theorem gX3_step_X3_needWithin : GoodIn wsX3_step (va_wsS RX3 83 yX3_needWithin wsX3_needWithin) := goodIn_app (goodIn_of _ (by decide +kernel)) ggX3_step_X3_needWithin
set_option maxRecDepth 20000 in
theorem ggX3_step_X3_commonDivisor : GoodIn wsX3_step wsX3_commonDivisor := goodIn_r _ [11] (by decide +kernel) (by decide +kernel)
set_option maxRecDepth 20000 in
theorem gX3_step_X3_commonDivisor : GoodIn wsX3_step (va_wsS RX3 108 yX3_commonDivisor wsX3_commonDivisor) := goodIn_app (goodIn_of _ (by decide +kernel)) ggX3_step_X3_commonDivisor
set_option maxRecDepth 20000 in
theorem ggX3_step_X3_quotient : GoodIn wsX3_step wsX3_quotient := goodIn_r _ [14] (by decide +kernel) (by decide +kernel)
set_option maxRecDepth 20000 in
theorem gX3_step_X3_quotient : GoodIn wsX3_step (va_wsS RX3 112 yX3_quotient wsX3_quotient) := goodIn_app (goodIn_of _ (by decide +kernel)) ggX3_step_X3_quotient
set_option maxRecDepth 20000 in
theorem ggX3_step_X1_advance : GoodIn wsX3_step wsX1_advance := goodIn_r _ [19, 20, 21, 22, 10, 5, 11, 13, 14, 23, 24, 18, 25, 26, 27, 28, 29, 30, 31, 32, 33, 34, 35, 36, 37, 38, 39, 52, 53, 54, 55] (by decide +kernel) (by decide +kernel)
set_option maxRecDepth 20000 in
theorem gX3_step_X1_advance : GoodIn wsX3_step (wsV RX3 139 RX1 yX1_advance wsX1_advance) := goodIn_app (goodIn_of _ (by decide +kernel)) ggX3_step_X1_advance
theorem dX3_step_0 : decode cX3_step 0 = .ok (.iload_n 1, 1) := by decide +kernel
theorem dX3_step_1 : decode cX3_step 1 = .ok (.i2l, 1) := by decide +kernel
theorem dX3_step_2 : decode cX3_step 2 = .ok (.lconst 1, 1) := by decide +kernel
theorem dX3_step_3 : decode cX3_step 3 = .ok (.ldc2_w 81, 3) := by decide +kernel
theorem dX3_step_6 : decode cX3_step 6 = .ok (.invokestatic 83, 3) := by decide +kernel
theorem dX3_step_9 : decode cX3_step 9 = .ok (.iload_n 2, 1) := by decide +kernel
theorem dX3_step_10 : decode cX3_step 10 = .ok (.i2l, 1) := by decide +kernel
theorem dX3_step_11 : decode cX3_step 11 = .ok (.lconst 1, 1) := by decide +kernel
theorem dX3_step_12 : decode cX3_step 12 = .ok (.ldc2_w 81, 3) := by decide +kernel
theorem dX3_step_15 : decode cX3_step 15 = .ok (.invokestatic 83, 3) := by decide +kernel
theorem dX3_step_18 : decode cX3_step 18 = .ok (.iload_n 1, 1) := by decide +kernel
theorem dX3_step_19 : decode cX3_step 19 = .ok (.i2l, 1) := by decide +kernel
theorem dX3_step_20 : decode cX3_step 20 = .ok (.iload_n 2, 1) := by decide +kernel
theorem dX3_step_21 : decode cX3_step 21 = .ok (.i2l, 1) := by decide +kernel
theorem dX3_step_22 : decode cX3_step 22 = .ok (.invokestatic 108, 3) := by decide +kernel
theorem dX3_step_25 : decode cX3_step 25 = .ok (.lstore_n 3, 1) := by decide +kernel
theorem dX3_step_26 : decode cX3_step 26 = .ok (.aload_n 0, 1) := by decide +kernel
theorem dX3_step_27 : decode cX3_step 27 = .ok (.getfield 10, 3) := by decide +kernel
theorem dX3_step_30 : decode cX3_step 30 = .ok (.iload_n 1, 1) := by decide +kernel
theorem dX3_step_31 : decode cX3_step 31 = .ok (.i2l, 1) := by decide +kernel
theorem dX3_step_32 : decode cX3_step 32 = .ok (.lload_n 3, 1) := by decide +kernel
theorem dX3_step_33 : decode cX3_step 33 = .ok (.invokestatic 112, 3) := by decide +kernel
theorem dX3_step_36 : decode cX3_step 36 = .ok (.iload_n 2, 1) := by decide +kernel
theorem dX3_step_37 : decode cX3_step 37 = .ok (.i2l, 1) := by decide +kernel
theorem dX3_step_38 : decode cX3_step 38 = .ok (.lload_n 3, 1) := by decide +kernel
theorem dX3_step_39 : decode cX3_step 39 = .ok (.invokestatic 112, 3) := by decide +kernel
theorem dX3_step_42 : decode cX3_step 42 = .ok (.invokevirtual 139, 3) := by decide +kernel
theorem dX3_step_45 : decode cX3_step 45 = .ok (.ireturn, 1) := by decide +kernel
set_option maxRecDepth 20000 in
theorem ggX3_clear_X1_restart : GoodIn wsX3_clear wsX1_restart := goodIn_r _ [6, 7, 8, 9, 10, 23, 24, 25, 26] (by decide +kernel) (by decide +kernel)
set_option maxRecDepth 20000 in
theorem gX3_clear_X1_restart : GoodIn wsX3_clear (wsV RX3 143 RX1 yX1_restart wsX1_restart) := goodIn_app (goodIn_of _ (by decide +kernel)) ggX3_clear_X1_restart
theorem dX3_clear_0 : decode cX3_clear 0 = .ok (.aload_n 0, 1) := by decide +kernel
theorem dX3_clear_1 : decode cX3_clear 1 = .ok (.getfield 10, 3) := by decide +kernel
theorem dX3_clear_4 : decode cX3_clear 4 = .ok (.invokevirtual 143, 3) := by decide +kernel
theorem dX3_clear_7 : decode cX3_clear 7 = .ok (.return_, 1) := by decide +kernel
set_option maxRecDepth 20000 in
theorem ggX3_rest_X3_needPart : GoodIn wsX3_rest wsX3_needPart := goodIn_r _ [9, 10, 11, 12, 29, 30, 31, 32, 33, 34] (by decide +kernel) (by decide +kernel)
set_option maxRecDepth 20000 in
theorem gX3_rest_X3_needPart : GoodIn wsX3_rest (va_wsS RX3 115 yX3_needPart wsX3_needPart) := goodIn_app (goodIn_of _ (by decide +kernel)) ggX3_rest_X3_needPart
theorem dX3_rest_0 : decode cX3_rest 0 = .ok (.iload_n 1, 1) := by decide +kernel
theorem dX3_rest_1 : decode cX3_rest 1 = .ok (.iconst 4, 1) := by decide +kernel
theorem dX3_rest_2 : decode cX3_rest 2 = .ok (.invokestatic 115, 3) := by decide +kernel
theorem dX3_rest_5 : decode cX3_rest 5 = .ok (.iload_n 1, 1) := by decide +kernel
theorem dX3_rest_6 : decode cX3_rest 6 = .ok (.tableswitch 50 0 2 #[26, 34, 42], 26) := by decide +kernel
theorem dX3_rest_32 : decode cX3_rest 32 = .ok (.aload_n 0, 1) := by decide +kernel
theorem dX3_rest_33 : decode cX3_rest 33 = .ok (.getfield 10, 3) := by decide +kernel
theorem dX3_rest_36 : decode cX3_rest 36 = .ok (.getfield 146, 3) := by decide +kernel
theorem dX3_rest_39 : decode cX3_rest 39 = .ok (.lreturn, 1) := by decide +kernel
theorem dX3_rest_40 : decode cX3_rest 40 = .ok (.aload_n 0, 1) := by decide +kernel
theorem dX3_rest_41 : decode cX3_rest 41 = .ok (.getfield 10, 3) := by decide +kernel
theorem dX3_rest_44 : decode cX3_rest 44 = .ok (.getfield 149, 3) := by decide +kernel
theorem dX3_rest_47 : decode cX3_rest 47 = .ok (.lreturn, 1) := by decide +kernel
theorem dX3_rest_48 : decode cX3_rest 48 = .ok (.aload_n 0, 1) := by decide +kernel
theorem dX3_rest_49 : decode cX3_rest 49 = .ok (.getfield 10, 3) := by decide +kernel
theorem dX3_rest_52 : decode cX3_rest 52 = .ok (.getfield 152, 3) := by decide +kernel
theorem dX3_rest_55 : decode cX3_rest 55 = .ok (.lreturn, 1) := by decide +kernel
theorem dX3_rest_56 : decode cX3_rest 56 = .ok (.aload_n 0, 1) := by decide +kernel
theorem dX3_rest_57 : decode cX3_rest 57 = .ok (.getfield 10, 3) := by decide +kernel
theorem dX3_rest_60 : decode cX3_rest 60 = .ok (.getfield 155, 3) := by decide +kernel
theorem dX3_rest_63 : decode cX3_rest 63 = .ok (.lreturn, 1) := by decide +kernel
set_option maxRecDepth 20000 in
theorem ggX3_beat_X3_needPlace : GoodIn wsX3_beat wsX3_needPlace := goodIn_r _ [8, 2, 3, 9, 10, 11, 26, 27, 28, 29, 30, 31, 32, 33, 34, 35, 36, 37, 38, 39, 40, 41, 42, 43] (by decide +kernel) (by decide +kernel)
set_option maxRecDepth 20000 in
theorem gX3_beat_X3_needPlace : GoodIn wsX3_beat (wsV RX3 97 RX3 yX3_needPlace wsX3_needPlace) := goodIn_app (goodIn_of _ (by decide +kernel)) ggX3_beat_X3_needPlace
set_option maxRecDepth 20000 in
theorem ggX3_beat_X3_needPart : GoodIn wsX3_beat wsX3_needPart := goodIn_r _ [14, 9, 10, 11, 38, 39, 40, 41, 42, 43] (by decide +kernel) (by decide +kernel)
set_option maxRecDepth 20000 in
theorem gX3_beat_X3_needPart : GoodIn wsX3_beat (va_wsS RX3 115 yX3_needPart wsX3_needPart) := goodIn_app (goodIn_of _ (by decide +kernel)) ggX3_beat_X3_needPart
set_option maxRecDepth 20000 in
theorem ggX3_beat_X3_needWithin : GoodIn wsX3_beat wsX3_needWithin := goodIn_ca (goodIn_r _ [17, 18, 19] (by decide +kernel) (by decide +kernel)) (goodIn_sub (fun _ h => List.mem_cons_of_mem _ (List.mem_append_right _ h)) (by decide +kernel))
set_option maxRecDepth 20000 in
theorem gX3_beat_X3_needWithin : GoodIn wsX3_beat (va_wsS RX3 83 yX3_needWithin wsX3_needWithin) := goodIn_app (goodIn_of _ (by decide +kernel)) ggX3_beat_X3_needWithin
set_option maxRecDepth 20000 in
theorem ggX3_beat_X3_commonDivisor : GoodIn wsX3_beat wsX3_commonDivisor := goodIn_r _ [22] (by decide +kernel) (by decide +kernel)
set_option maxRecDepth 20000 in
theorem gX3_beat_X3_commonDivisor : GoodIn wsX3_beat (va_wsS RX3 108 yX3_commonDivisor wsX3_commonDivisor) := goodIn_app (goodIn_of _ (by decide +kernel)) ggX3_beat_X3_commonDivisor
set_option maxRecDepth 20000 in
theorem ggX3_beat_X3_quotient : GoodIn wsX3_beat wsX3_quotient := goodIn_r _ [25] (by decide +kernel) (by decide +kernel)
set_option maxRecDepth 20000 in
theorem gX3_beat_X3_quotient : GoodIn wsX3_beat (va_wsS RX3 112 yX3_quotient wsX3_quotient) := goodIn_app (goodIn_of _ (by decide +kernel)) ggX3_beat_X3_quotient
theorem dX3_beat_0 : decode cX3_beat 0 = .ok (.aload_n 0, 1) := by decide +kernel
theorem dX3_beat_1 : decode cX3_beat 1 = .ok (.iload_n 1, 1) := by decide +kernel
theorem dX3_beat_2 : decode cX3_beat 2 = .ok (.invokevirtual 97, 3) := by decide +kernel
theorem dX3_beat_5 : decode cX3_beat 5 = .ok (.aload_n 0, 1) := by decide +kernel
theorem dX3_beat_6 : decode cX3_beat 6 = .ok (.iload_n 2, 1) := by decide +kernel
theorem dX3_beat_7 : decode cX3_beat 7 = .ok (.invokevirtual 97, 3) := by decide +kernel
theorem dX3_beat_10 : decode cX3_beat 10 = .ok (.iload 4, 2) := by decide +kernel
theorem dX3_beat_12 : decode cX3_beat 12 = .ok (.iconst 2, 1) := by decide +kernel
theorem dX3_beat_13 : decode cX3_beat 13 = .ok (.invokestatic 115, 3) := by decide +kernel
theorem dX3_beat_16 : decode cX3_beat 16 = .ok (.iload_n 3, 1) := by decide +kernel
theorem dX3_beat_17 : decode cX3_beat 17 = .ok (.i2l, 1) := by decide +kernel
theorem dX3_beat_18 : decode cX3_beat 18 = .ok (.lconst 1, 1) := by decide +kernel
theorem dX3_beat_19 : decode cX3_beat 19 = .ok (.ldc2_w 158, 3) := by decide +kernel
theorem dX3_beat_22 : decode cX3_beat 22 = .ok (.invokestatic 83, 3) := by decide +kernel
theorem dX3_beat_25 : decode cX3_beat 25 = .ok (.aload_n 0, 1) := by decide +kernel
theorem dX3_beat_26 : decode cX3_beat 26 = .ok (.getfield 53, 3) := by decide +kernel
theorem dX3_beat_29 : decode cX3_beat 29 = .ok (.iload_n 1, 1) := by decide +kernel
theorem dX3_beat_30 : decode cX3_beat 30 = .ok (.iaload, 1) := by decide +kernel
theorem dX3_beat_31 : decode cX3_beat 31 = .ok (.i2l, 1) := by decide +kernel
theorem dX3_beat_32 : decode cX3_beat 32 = .ok (.aload_n 0, 1) := by decide +kernel
theorem dX3_beat_33 : decode cX3_beat 33 = .ok (.getfield 57, 3) := by decide +kernel
theorem dX3_beat_36 : decode cX3_beat 36 = .ok (.iload_n 2, 1) := by decide +kernel
theorem dX3_beat_37 : decode cX3_beat 37 = .ok (.iaload, 1) := by decide +kernel
theorem dX3_beat_38 : decode cX3_beat 38 = .ok (.i2l, 1) := by decide +kernel
theorem dX3_beat_39 : decode cX3_beat 39 = .ok (.lmul, 1) := by decide +kernel
theorem dX3_beat_40 : decode cX3_beat 40 = .ok (.aload_n 0, 1) := by decide +kernel
theorem dX3_beat_41 : decode cX3_beat 41 = .ok (.getfield 53, 3) := by decide +kernel
theorem dX3_beat_44 : decode cX3_beat 44 = .ok (.iload_n 2, 1) := by decide +kernel
theorem dX3_beat_45 : decode cX3_beat 45 = .ok (.iaload, 1) := by decide +kernel
theorem dX3_beat_46 : decode cX3_beat 46 = .ok (.i2l, 1) := by decide +kernel
theorem dX3_beat_47 : decode cX3_beat 47 = .ok (.aload_n 0, 1) := by decide +kernel
theorem dX3_beat_48 : decode cX3_beat 48 = .ok (.getfield 57, 3) := by decide +kernel
theorem dX3_beat_51 : decode cX3_beat 51 = .ok (.iload_n 1, 1) := by decide +kernel
theorem dX3_beat_52 : decode cX3_beat 52 = .ok (.iaload, 1) := by decide +kernel
theorem dX3_beat_53 : decode cX3_beat 53 = .ok (.i2l, 1) := by decide +kernel
theorem dX3_beat_54 : decode cX3_beat 54 = .ok (.lmul, 1) := by decide +kernel
theorem dX3_beat_55 : decode cX3_beat 55 = .ok (.lsub, 1) := by decide +kernel
theorem dX3_beat_56 : decode cX3_beat 56 = .ok (.lstore 5, 2) := by decide +kernel
theorem dX3_beat_58 : decode cX3_beat 58 = .ok (.lload 5, 2) := by decide +kernel
theorem dX3_beat_60 : decode cX3_beat 60 = .ok (.lconst 0, 1) := by decide +kernel
theorem dX3_beat_61 : decode cX3_beat 61 = .ok (.lcmp, 1) := by decide +kernel
theorem dX3_beat_62 : decode cX3_beat 62 = .ok (.ifCond .ge 9, 3) := by decide +kernel
theorem dX3_beat_65 : decode cX3_beat 65 = .ok (.lload 5, 2) := by decide +kernel
theorem dX3_beat_67 : decode cX3_beat 67 = .ok (.lneg, 1) := by decide +kernel
theorem dX3_beat_68 : decode cX3_beat 68 = .ok (.goto 5, 3) := by decide +kernel
theorem dX3_beat_71 : decode cX3_beat 71 = .ok (.lload 5, 2) := by decide +kernel
theorem dX3_beat_73 : decode cX3_beat 73 = .ok (.iload_n 3, 1) := by decide +kernel
theorem dX3_beat_74 : decode cX3_beat 74 = .ok (.i2l, 1) := by decide +kernel
theorem dX3_beat_75 : decode cX3_beat 75 = .ok (.lmul, 1) := by decide +kernel
theorem dX3_beat_76 : decode cX3_beat 76 = .ok (.lstore 7, 2) := by decide +kernel
theorem dX3_beat_78 : decode cX3_beat 78 = .ok (.aload_n 0, 1) := by decide +kernel
theorem dX3_beat_79 : decode cX3_beat 79 = .ok (.getfield 57, 3) := by decide +kernel
theorem dX3_beat_82 : decode cX3_beat 82 = .ok (.iload_n 1, 1) := by decide +kernel
theorem dX3_beat_83 : decode cX3_beat 83 = .ok (.iaload, 1) := by decide +kernel
theorem dX3_beat_84 : decode cX3_beat 84 = .ok (.i2l, 1) := by decide +kernel
theorem dX3_beat_85 : decode cX3_beat 85 = .ok (.aload_n 0, 1) := by decide +kernel
theorem dX3_beat_86 : decode cX3_beat 86 = .ok (.getfield 57, 3) := by decide +kernel
theorem dX3_beat_89 : decode cX3_beat 89 = .ok (.iload_n 2, 1) := by decide +kernel
theorem dX3_beat_90 : decode cX3_beat 90 = .ok (.iaload, 1) := by decide +kernel
theorem dX3_beat_91 : decode cX3_beat 91 = .ok (.i2l, 1) := by decide +kernel
theorem dX3_beat_92 : decode cX3_beat 92 = .ok (.lmul, 1) := by decide +kernel
theorem dX3_beat_93 : decode cX3_beat 93 = .ok (.lstore 9, 2) := by decide +kernel
theorem dX3_beat_95 : decode cX3_beat 95 = .ok (.iload 4, 2) := by decide +kernel
theorem dX3_beat_97 : decode cX3_beat 97 = .ok (.ifCond .ne 8, 3) := by decide +kernel
theorem dX3_beat_100 : decode cX3_beat 100 = .ok (.lload 7, 2) := by decide +kernel
theorem dX3_beat_102 : decode cX3_beat 102 = .ok (.goto 5, 3) := by decide +kernel
theorem dX3_beat_105 : decode cX3_beat 105 = .ok (.lload 9, 2) := by decide +kernel
theorem dX3_beat_107 : decode cX3_beat 107 = .ok (.lload 7, 2) := by decide +kernel
theorem dX3_beat_109 : decode cX3_beat 109 = .ok (.lload 9, 2) := by decide +kernel
theorem dX3_beat_111 : decode cX3_beat 111 = .ok (.invokestatic 108, 3) := by decide +kernel
theorem dX3_beat_114 : decode cX3_beat 114 = .ok (.invokestatic 112, 3) := by decide +kernel
theorem dX3_beat_117 : decode cX3_beat 117 = .ok (.lreturn, 1) := by decide +kernel
set_option maxRecDepth 20000 in
theorem ggX3_fan_X3_needWithin : GoodIn wsX3_fan wsX3_needWithin := goodIn_ca (goodIn_r _ [10, 11, 12] (by decide +kernel) (by decide +kernel)) (goodIn_sub (fun _ h => List.mem_cons_of_mem _ (List.mem_append_right _ h)) (by decide +kernel))
set_option maxRecDepth 20000 in
theorem gX3_fan_X3_needWithin : GoodIn wsX3_fan (va_wsS RX3 83 yX3_needWithin wsX3_needWithin) := goodIn_app (goodIn_of _ (by decide +kernel)) ggX3_fan_X3_needWithin
set_option maxRecDepth 20000 in
theorem ggX3_fan_X2_measure : GoodIn wsX3_fan wsX2_measure := goodIn_r _ [17, 18, 19, 20, 21, 22, 23, 24, 25, 38, 39, 40] (by decide +kernel) (by decide +kernel)
set_option maxRecDepth 20000 in
theorem gX3_fan_X2_measure : GoodIn wsX3_fan (wsV RX3 89 RX2 yX2_measure wsX2_measure) := goodIn_app (goodIn_of _ (by decide +kernel)) ggX3_fan_X2_measure
theorem dX3_fan_0 : decode cX3_fan 0 = .ok (.iload_n 1, 1) := by decide +kernel
theorem dX3_fan_1 : decode cX3_fan 1 = .ok (.i2l, 1) := by decide +kernel
theorem dX3_fan_2 : decode cX3_fan 2 = .ok (.lconst 1, 1) := by decide +kernel
theorem dX3_fan_3 : decode cX3_fan 3 = .ok (.ldc2_w 81, 3) := by decide +kernel
theorem dX3_fan_6 : decode cX3_fan 6 = .ok (.invokestatic 83, 3) := by decide +kernel
theorem dX3_fan_9 : decode cX3_fan 9 = .ok (.iload_n 2, 1) := by decide +kernel
theorem dX3_fan_10 : decode cX3_fan 10 = .ok (.i2l, 1) := by decide +kernel
theorem dX3_fan_11 : decode cX3_fan 11 = .ok (.lconst 1, 1) := by decide +kernel
theorem dX3_fan_12 : decode cX3_fan 12 = .ok (.ldc2_w 81, 3) := by decide +kernel
theorem dX3_fan_15 : decode cX3_fan 15 = .ok (.invokestatic 83, 3) := by decide +kernel
theorem dX3_fan_18 : decode cX3_fan 18 = .ok (.iload_n 3, 1) := by decide +kernel
theorem dX3_fan_19 : decode cX3_fan 19 = .ok (.i2l, 1) := by decide +kernel
theorem dX3_fan_20 : decode cX3_fan 20 = .ok (.lconst 1, 1) := by decide +kernel
theorem dX3_fan_21 : decode cX3_fan 21 = .ok (.ldc2_w 160, 3) := by decide +kernel
theorem dX3_fan_24 : decode cX3_fan 24 = .ok (.invokestatic 83, 3) := by decide +kernel
theorem dX3_fan_27 : decode cX3_fan 27 = .ok (.aload_n 0, 1) := by decide +kernel
theorem dX3_fan_28 : decode cX3_fan 28 = .ok (.iload_n 3, 1) := by decide +kernel
theorem dX3_fan_29 : decode cX3_fan 29 = .ok (.putfield 30, 3) := by decide +kernel
theorem dX3_fan_32 : decode cX3_fan 32 = .ok (.aload_n 0, 1) := by decide +kernel
theorem dX3_fan_33 : decode cX3_fan 33 = .ok (.getfield 75, 3) := by decide +kernel
theorem dX3_fan_36 : decode cX3_fan 36 = .ok (.iload_n 1, 1) := by decide +kernel
theorem dX3_fan_37 : decode cX3_fan 37 = .ok (.i2l, 1) := by decide +kernel
theorem dX3_fan_38 : decode cX3_fan 38 = .ok (.aload_n 0, 1) := by decide +kernel
theorem dX3_fan_39 : decode cX3_fan 39 = .ok (.getfield 26, 3) := by decide +kernel
theorem dX3_fan_42 : decode cX3_fan 42 = .ok (.invokevirtual 89, 3) := by decide +kernel
theorem dX3_fan_45 : decode cX3_fan 45 = .ok (.aload_n 0, 1) := by decide +kernel
theorem dX3_fan_46 : decode cX3_fan 46 = .ok (.getfield 78, 3) := by decide +kernel
theorem dX3_fan_49 : decode cX3_fan 49 = .ok (.iload_n 2, 1) := by decide +kernel
theorem dX3_fan_50 : decode cX3_fan 50 = .ok (.i2l, 1) := by decide +kernel
theorem dX3_fan_51 : decode cX3_fan 51 = .ok (.aload_n 0, 1) := by decide +kernel
theorem dX3_fan_52 : decode cX3_fan 52 = .ok (.getfield 26, 3) := by decide +kernel
theorem dX3_fan_55 : decode cX3_fan 55 = .ok (.invokevirtual 89, 3) := by decide +kernel
theorem dX3_fan_58 : decode cX3_fan 58 = .ok (.return_, 1) := by decide +kernel
set_option maxRecDepth 20000 in
theorem ggX3_cross_X3_needPlace : GoodIn wsX3_cross wsX3_needPlace := goodIn_r _ [8, 9, 10, 11, 12, 13, 86, 87, 88, 89, 90, 91, 92, 93, 94, 95, 96, 97, 98, 99, 100, 101, 102, 103] (by decide +kernel) (by decide +kernel)
set_option maxRecDepth 20000 in
theorem gX3_cross_X3_needPlace : GoodIn wsX3_cross (wsV RX3 97 RX3 yX3_needPlace wsX3_needPlace) := goodIn_app (goodIn_of _ (by decide +kernel)) ggX3_cross_X3_needPlace
set_option maxRecDepth 20000 in
theorem ggX3_cross_X3_needPart : GoodIn wsX3_cross wsX3_needPart := goodIn_r _ [16, 11, 12, 13, 98, 99, 100, 101, 102, 103] (by decide +kernel) (by decide +kernel)
set_option maxRecDepth 20000 in
theorem gX3_cross_X3_needPart : GoodIn wsX3_cross (va_wsS RX3 115 yX3_needPart wsX3_needPart) := goodIn_app (goodIn_of _ (by decide +kernel)) ggX3_cross_X3_needPart
set_option maxRecDepth 20000 in
theorem ggX3_cross_X3_needWithin : GoodIn wsX3_cross wsX3_needWithin := goodIn_ca (goodIn_r _ [19, 20, 21] (by decide +kernel) (by decide +kernel)) (goodIn_sub (fun _ h => List.mem_cons_of_mem _ (List.mem_append_right _ h)) (by decide +kernel))
set_option maxRecDepth 20000 in
theorem gX3_cross_X3_needWithin : GoodIn wsX3_cross (va_wsS RX3 83 yX3_needWithin wsX3_needWithin) := goodIn_app (goodIn_of _ (by decide +kernel)) ggX3_cross_X3_needWithin
set_option maxRecDepth 20000 in
theorem ggX3_cross_X3_lowerEnd : GoodIn wsX3_cross wsX3_lowerEnd := goodIn_r _ [25, 26, 27, 28, 29, 30, 31, 32, 7, 33, 34, 35, 36, 37, 38, 39, 40, 41, 42, 43, 44, 45, 46, 47, 48, 49, 50, 51, 52, 53, 54, 55, 56, 57, 58, 59, 60, 61, 62, 63, 64, 65, 66, 67, 68, 69, 70, 71, 72, 73, 74, 75, 76, 77, 78, 79, 80, 81, 82, 86, 87, 88, 89, 90, 91, 92, 93, 94, 95, 96, 97, 104, 105, 106, 107, 108] (by decide +kernel) (by decide +kernel)
set_option maxRecDepth 20000 in
theorem gX3_cross_X3_lowerEnd : GoodIn wsX3_cross (wsV RX3 100 RX3 yX3_lowerEnd wsX3_lowerEnd) := goodIn_app (goodIn_of _ (by decide +kernel)) ggX3_cross_X3_lowerEnd
set_option maxRecDepth 20000 in
theorem ggX3_cross_X3_quotient : GoodIn wsX3_cross wsX3_quotient := goodIn_r _ [85] (by decide +kernel) (by decide +kernel)
set_option maxRecDepth 20000 in
theorem gX3_cross_X3_quotient : GoodIn wsX3_cross (va_wsS RX3 112 yX3_quotient wsX3_quotient) := goodIn_app (goodIn_of _ (by decide +kernel)) ggX3_cross_X3_quotient
theorem dX3_cross_0 : decode cX3_cross 0 = .ok (.aload_n 0, 1) := by decide +kernel
theorem dX3_cross_1 : decode cX3_cross 1 = .ok (.iload_n 1, 1) := by decide +kernel
theorem dX3_cross_2 : decode cX3_cross 2 = .ok (.invokevirtual 97, 3) := by decide +kernel
theorem dX3_cross_5 : decode cX3_cross 5 = .ok (.iload_n 3, 1) := by decide +kernel
theorem dX3_cross_6 : decode cX3_cross 6 = .ok (.iconst 2, 1) := by decide +kernel
theorem dX3_cross_7 : decode cX3_cross 7 = .ok (.invokestatic 115, 3) := by decide +kernel
theorem dX3_cross_10 : decode cX3_cross 10 = .ok (.iload_n 2, 1) := by decide +kernel
theorem dX3_cross_11 : decode cX3_cross 11 = .ok (.i2l, 1) := by decide +kernel
theorem dX3_cross_12 : decode cX3_cross 12 = .ok (.lconst 0, 1) := by decide +kernel
theorem dX3_cross_13 : decode cX3_cross 13 = .ok (.aload_n 0, 1) := by decide +kernel
theorem dX3_cross_14 : decode cX3_cross 14 = .ok (.getfield 30, 3) := by decide +kernel
theorem dX3_cross_17 : decode cX3_cross 17 = .ok (.i2l, 1) := by decide +kernel
theorem dX3_cross_18 : decode cX3_cross 18 = .ok (.invokestatic 83, 3) := by decide +kernel
theorem dX3_cross_21 : decode cX3_cross 21 = .ok (.aload_n 0, 1) := by decide +kernel
theorem dX3_cross_22 : decode cX3_cross 22 = .ok (.aload_n 0, 1) := by decide +kernel
theorem dX3_cross_23 : decode cX3_cross 23 = .ok (.getfield 75, 3) := by decide +kernel
theorem dX3_cross_26 : decode cX3_cross 26 = .ok (.iload_n 1, 1) := by decide +kernel
theorem dX3_cross_27 : decode cX3_cross 27 = .ok (.invokevirtual 100, 3) := by decide +kernel
theorem dX3_cross_30 : decode cX3_cross 30 = .ok (.aload_n 0, 1) := by decide +kernel
theorem dX3_cross_31 : decode cX3_cross 31 = .ok (.getfield 30, 3) := by decide +kernel
theorem dX3_cross_34 : decode cX3_cross 34 = .ok (.iload_n 2, 1) := by decide +kernel
theorem dX3_cross_35 : decode cX3_cross 35 = .ok (.isub, 1) := by decide +kernel
theorem dX3_cross_36 : decode cX3_cross 36 = .ok (.i2l, 1) := by decide +kernel
theorem dX3_cross_37 : decode cX3_cross 37 = .ok (.lmul, 1) := by decide +kernel
theorem dX3_cross_38 : decode cX3_cross 38 = .ok (.aload_n 0, 1) := by decide +kernel
theorem dX3_cross_39 : decode cX3_cross 39 = .ok (.aload_n 0, 1) := by decide +kernel
theorem dX3_cross_40 : decode cX3_cross 40 = .ok (.getfield 78, 3) := by decide +kernel
theorem dX3_cross_43 : decode cX3_cross 43 = .ok (.iload_n 1, 1) := by decide +kernel
theorem dX3_cross_44 : decode cX3_cross 44 = .ok (.invokevirtual 100, 3) := by decide +kernel
theorem dX3_cross_47 : decode cX3_cross 47 = .ok (.iload_n 2, 1) := by decide +kernel
theorem dX3_cross_48 : decode cX3_cross 48 = .ok (.i2l, 1) := by decide +kernel
theorem dX3_cross_49 : decode cX3_cross 49 = .ok (.lmul, 1) := by decide +kernel
theorem dX3_cross_50 : decode cX3_cross 50 = .ok (.ladd, 1) := by decide +kernel
theorem dX3_cross_51 : decode cX3_cross 51 = .ok (.lstore 4, 2) := by decide +kernel
theorem dX3_cross_53 : decode cX3_cross 53 = .ok (.lload 4, 2) := by decide +kernel
theorem dX3_cross_55 : decode cX3_cross 55 = .ok (.aload_n 0, 1) := by decide +kernel
theorem dX3_cross_56 : decode cX3_cross 56 = .ok (.getfield 30, 3) := by decide +kernel
theorem dX3_cross_59 : decode cX3_cross 59 = .ok (.i2l, 1) := by decide +kernel
theorem dX3_cross_60 : decode cX3_cross 60 = .ok (.invokestatic 112, 3) := by decide +kernel
theorem dX3_cross_63 : decode cX3_cross 63 = .ok (.lstore 6, 2) := by decide +kernel
theorem dX3_cross_65 : decode cX3_cross 65 = .ok (.iload_n 3, 1) := by decide +kernel
theorem dX3_cross_66 : decode cX3_cross 66 = .ok (.ifCond .ne 8, 3) := by decide +kernel
theorem dX3_cross_69 : decode cX3_cross 69 = .ok (.lload 6, 2) := by decide +kernel
theorem dX3_cross_71 : decode cX3_cross 71 = .ok (.goto 14, 3) := by decide +kernel
theorem dX3_cross_74 : decode cX3_cross 74 = .ok (.lload 4, 2) := by decide +kernel
theorem dX3_cross_76 : decode cX3_cross 76 = .ok (.lload 6, 2) := by decide +kernel
theorem dX3_cross_78 : decode cX3_cross 78 = .ok (.aload_n 0, 1) := by decide +kernel
theorem dX3_cross_79 : decode cX3_cross 79 = .ok (.getfield 30, 3) := by decide +kernel
theorem dX3_cross_82 : decode cX3_cross 82 = .ok (.i2l, 1) := by decide +kernel
theorem dX3_cross_83 : decode cX3_cross 83 = .ok (.lmul, 1) := by decide +kernel
theorem dX3_cross_84 : decode cX3_cross 84 = .ok (.lsub, 1) := by decide +kernel
theorem dX3_cross_85 : decode cX3_cross 85 = .ok (.lreturn, 1) := by decide +kernel
set_option maxRecDepth 20000 in
theorem ggX3_upright_X3_lowerEnd : GoodIn wsX3_upright wsX3_lowerEnd := goodIn_r _ [13, 2, 14, 15, 16, 17, 18, 19, 12, 20, 21, 22, 23, 24, 25, 26, 27, 28, 29, 30, 31, 32, 33, 34, 35, 36, 37, 38, 39, 40, 41, 42, 43, 44, 45, 46, 47, 48, 7, 49, 50, 51, 52, 53, 54, 55, 56, 57, 58, 59, 60, 61, 62, 63, 64, 65, 66, 67, 68, 69, 70, 71, 72, 73, 74, 75, 76, 77, 78, 79, 80, 81, 82, 83, 84, 85] (by decide +kernel) (by decide +kernel)
set_option maxRecDepth 20000 in
theorem gX3_upright_X3_lowerEnd : GoodIn wsX3_upright (wsV RX3 100 RX3 yX3_lowerEnd wsX3_lowerEnd) := goodIn_app (goodIn_of _ (by decide +kernel)) ggX3_upright_X3_lowerEnd
theorem dX3_upright_0 : decode cX3_upright 0 = .ok (.iconst 0, 1) := by decide +kernel
theorem dX3_upright_1 : decode cX3_upright 1 = .ok (.istore_n 1, 1) := by decide +kernel
theorem dX3_upright_2 : decode cX3_upright 2 = .ok (.ldc2_w 164, 3) := by decide +kernel
theorem dX3_upright_5 : decode cX3_upright 5 = .ok (.lstore_n 2, 1) := by decide +kernel
theorem dX3_upright_6 : decode cX3_upright 6 = .ok (.iconst 0, 1) := by decide +kernel
theorem dX3_upright_7 : decode cX3_upright 7 = .ok (.istore 4, 2) := by decide +kernel
theorem dX3_upright_9 : decode cX3_upright 9 = .ok (.iload 4, 2) := by decide +kernel
theorem dX3_upright_11 : decode cX3_upright 11 = .ok (.iconst 2, 1) := by decide +kernel
theorem dX3_upright_12 : decode cX3_upright 12 = .ok (.aload_n 0, 1) := by decide +kernel
theorem dX3_upright_13 : decode cX3_upright 13 = .ok (.getfield 42, 3) := by decide +kernel
theorem dX3_upright_16 : decode cX3_upright 16 = .ok (.imul, 1) := by decide +kernel
theorem dX3_upright_17 : decode cX3_upright 17 = .ok (.if_icmp .gt 48, 3) := by decide +kernel
theorem dX3_upright_20 : decode cX3_upright 20 = .ok (.aload_n 0, 1) := by decide +kernel
theorem dX3_upright_21 : decode cX3_upright 21 = .ok (.aload_n 0, 1) := by decide +kernel
theorem dX3_upright_22 : decode cX3_upright 22 = .ok (.getfield 75, 3) := by decide +kernel
theorem dX3_upright_25 : decode cX3_upright 25 = .ok (.iload 4, 2) := by decide +kernel
theorem dX3_upright_27 : decode cX3_upright 27 = .ok (.invokevirtual 100, 3) := by decide +kernel
theorem dX3_upright_30 : decode cX3_upright 30 = .ok (.aload_n 0, 1) := by decide +kernel
theorem dX3_upright_31 : decode cX3_upright 31 = .ok (.aload_n 0, 1) := by decide +kernel
theorem dX3_upright_32 : decode cX3_upright 32 = .ok (.getfield 78, 3) := by decide +kernel
theorem dX3_upright_35 : decode cX3_upright 35 = .ok (.iload 4, 2) := by decide +kernel
theorem dX3_upright_37 : decode cX3_upright 37 = .ok (.invokevirtual 100, 3) := by decide +kernel
theorem dX3_upright_40 : decode cX3_upright 40 = .ok (.lsub, 1) := by decide +kernel
theorem dX3_upright_41 : decode cX3_upright 41 = .ok (.invokestatic 166, 3) := by decide +kernel
theorem dX3_upright_44 : decode cX3_upright 44 = .ok (.lstore 5, 2) := by decide +kernel
theorem dX3_upright_46 : decode cX3_upright 46 = .ok (.lload 5, 2) := by decide +kernel
theorem dX3_upright_48 : decode cX3_upright 48 = .ok (.lload_n 2, 1) := by decide +kernel
theorem dX3_upright_49 : decode cX3_upright 49 = .ok (.lcmp, 1) := by decide +kernel
theorem dX3_upright_50 : decode cX3_upright 50 = .ok (.ifCond .ge 9, 3) := by decide +kernel
theorem dX3_upright_53 : decode cX3_upright 53 = .ok (.lload 5, 2) := by decide +kernel
theorem dX3_upright_55 : decode cX3_upright 55 = .ok (.lstore_n 2, 1) := by decide +kernel
theorem dX3_upright_56 : decode cX3_upright 56 = .ok (.iload 4, 2) := by decide +kernel
theorem dX3_upright_58 : decode cX3_upright 58 = .ok (.istore_n 1, 1) := by decide +kernel
theorem dX3_upright_59 : decode cX3_upright 59 = .ok (.iinc 4 1, 3) := by decide +kernel
theorem dX3_upright_62 : decode cX3_upright 62 = .ok (.goto (-53), 3) := by decide +kernel
theorem dX3_upright_65 : decode cX3_upright 65 = .ok (.iload_n 1, 1) := by decide +kernel
theorem dX3_upright_66 : decode cX3_upright 66 = .ok (.ireturn, 1) := by decide +kernel
set_option maxRecDepth 20000 in
theorem ggX3_key_X3_needPart : GoodIn wsX3_key wsX3_needPart := goodIn_r _ [11, 2, 3, 4, 17, 18, 19, 20, 21, 22] (by decide +kernel) (by decide +kernel)
set_option maxRecDepth 20000 in
theorem gX3_key_X3_needPart : GoodIn wsX3_key (va_wsS RX3 115 yX3_needPart wsX3_needPart) := goodIn_app (goodIn_of _ (by decide +kernel)) ggX3_key_X3_needPart
set_option maxRecDepth 20000 in
theorem ggX3_key_X3_needWithin : GoodIn wsX3_key wsX3_needWithin := goodIn_ca (goodIn_r _ [14, 15, 16] (by decide +kernel) (by decide +kernel)) (goodIn_sub (fun _ h => List.mem_cons_of_mem _ (List.mem_append_right _ h)) (by decide +kernel))
set_option maxRecDepth 20000 in
theorem gX3_key_X3_needWithin : GoodIn wsX3_key (va_wsS RX3 83 yX3_needWithin wsX3_needWithin) := goodIn_app (goodIn_of _ (by decide +kernel)) ggX3_key_X3_needWithin
theorem dX3_key_0 : decode cX3_key 0 = .ok (.iload 4, 2) := by decide +kernel
theorem dX3_key_2 : decode cX3_key 2 = .ok (.iconst 4, 1) := by decide +kernel
theorem dX3_key_3 : decode cX3_key 3 = .ok (.invokestatic 115, 3) := by decide +kernel
theorem dX3_key_6 : decode cX3_key 6 = .ok (.iload_n 1, 1) := by decide +kernel
theorem dX3_key_7 : decode cX3_key 7 = .ok (.ifCond .lt 11, 3) := by decide +kernel
theorem dX3_key_10 : decode cX3_key 10 = .ok (.iload_n 1, 1) := by decide +kernel
theorem dX3_key_11 : decode cX3_key 11 = .ok (.getstatic 170, 3) := by decide +kernel
theorem dX3_key_14 : decode cX3_key 14 = .ok (.arraylength, 1) := by decide +kernel
theorem dX3_key_15 : decode cX3_key 15 = .ok (.if_icmp .lt 13, 3) := by decide +kernel
theorem dX3_key_18 : decode cX3_key 18 = .ok (.new 173, 3) := by decide +kernel
theorem dX3_key_21 : decode cX3_key 21 = .ok (.dup, 1) := by decide +kernel
theorem dX3_key_22 : decode cX3_key 22 = .ok (.ldc 175, 2) := by decide +kernel
theorem dX3_key_24 : decode cX3_key 24 = .ok (.invokespecial 177, 3) := by decide +kernel
theorem dX3_key_27 : decode cX3_key 27 = .ok (.athrow, 1) := by decide +kernel
theorem dX3_key_28 : decode cX3_key 28 = .ok (.lload_n 2, 1) := by decide +kernel
theorem dX3_key_29 : decode cX3_key 29 = .ok (.lconst 1, 1) := by decide +kernel
theorem dX3_key_30 : decode cX3_key 30 = .ok (.ldc2_w 81, 3) := by decide +kernel
theorem dX3_key_33 : decode cX3_key 33 = .ok (.invokestatic 83, 3) := by decide +kernel
theorem dX3_key_36 : decode cX3_key 36 = .ok (.getstatic 170, 3) := by decide +kernel
theorem dX3_key_39 : decode cX3_key 39 = .ok (.iload_n 1, 1) := by decide +kernel
theorem dX3_key_40 : decode cX3_key 40 = .ok (.iaload, 1) := by decide +kernel
theorem dX3_key_41 : decode cX3_key 41 = .ok (.istore 5, 2) := by decide +kernel
theorem dX3_key_43 : decode cX3_key 43 = .ok (.iload 5, 2) := by decide +kernel
theorem dX3_key_45 : decode cX3_key 45 = .ok (.iconst (-1), 1) := by decide +kernel
theorem dX3_key_46 : decode cX3_key 46 = .ok (.if_icmp .ne 7, 3) := by decide +kernel
theorem dX3_key_49 : decode cX3_key 49 = .ok (.iconst 1, 1) := by decide +kernel
theorem dX3_key_50 : decode cX3_key 50 = .ok (.goto 4, 3) := by decide +kernel
theorem dX3_key_53 : decode cX3_key 53 = .ok (.iconst 0, 1) := by decide +kernel
theorem dX3_key_54 : decode cX3_key 54 = .ok (.istore 6, 2) := by decide +kernel
theorem dX3_key_56 : decode cX3_key 56 = .ok (.iload 4, 2) := by decide +kernel
theorem dX3_key_58 : decode cX3_key 58 = .ok (.lookupswitch 52 #[(2, 26), (3, 41)], 26) := by decide +kernel
theorem dX3_key_84 : decode cX3_key 84 = .ok (.iload 6, 2) := by decide +kernel
theorem dX3_key_86 : decode cX3_key 86 = .ok (.ifCond .eq 9, 3) := by decide +kernel
theorem dX3_key_89 : decode cX3_key 89 = .ok (.ldc2_w 180, 3) := by decide +kernel
theorem dX3_key_92 : decode cX3_key 92 = .ok (.goto 6, 3) := by decide +kernel
theorem dX3_key_95 : decode cX3_key 95 = .ok (.ldc2_w 182, 3) := by decide +kernel
theorem dX3_key_98 : decode cX3_key 98 = .ok (.lreturn, 1) := by decide +kernel
theorem dX3_key_99 : decode cX3_key 99 = .ok (.iload 6, 2) := by decide +kernel
theorem dX3_key_101 : decode cX3_key 101 = .ok (.ifCond .eq 7, 3) := by decide +kernel
theorem dX3_key_104 : decode cX3_key 104 = .ok (.lconst 1, 1) := by decide +kernel
theorem dX3_key_105 : decode cX3_key 105 = .ok (.goto 4, 3) := by decide +kernel
theorem dX3_key_108 : decode cX3_key 108 = .ok (.lconst 0, 1) := by decide +kernel
theorem dX3_key_109 : decode cX3_key 109 = .ok (.lreturn, 1) := by decide +kernel
theorem dX3_key_110 : decode cX3_key 110 = .ok (.lload_n 2, 1) := by decide +kernel
theorem dX3_key_111 : decode cX3_key 111 = .ok (.iload 6, 2) := by decide +kernel
theorem dX3_key_113 : decode cX3_key 113 = .ok (.ifCond .eq 12, 3) := by decide +kernel
theorem dX3_key_116 : decode cX3_key 116 = .ok (.iconst 2, 1) := by decide +kernel
theorem dX3_key_117 : decode cX3_key 117 = .ok (.iload_n 1, 1) := by decide +kernel
theorem dX3_key_118 : decode cX3_key 118 = .ok (.iload 4, 2) := by decide +kernel
theorem dX3_key_120 : decode cX3_key 120 = .ok (.iadd, 1) := by decide +kernel
theorem dX3_key_121 : decode cX3_key 121 = .ok (.imul, 1) := by decide +kernel
theorem dX3_key_122 : decode cX3_key 122 = .ok (.goto 11, 3) := by decide +kernel
theorem dX3_key_125 : decode cX3_key 125 = .ok (.bipush 12, 2) := by decide +kernel
theorem dX3_key_127 : decode cX3_key 127 = .ok (.iload 5, 2) := by decide +kernel
theorem dX3_key_129 : decode cX3_key 129 = .ok (.iload 4, 2) := by decide +kernel
theorem dX3_key_131 : decode cX3_key 131 = .ok (.iadd, 1) := by decide +kernel
theorem dX3_key_132 : decode cX3_key 132 = .ok (.imul, 1) := by decide +kernel
theorem dX3_key_133 : decode cX3_key 133 = .ok (.i2l, 1) := by decide +kernel
theorem dX3_key_134 : decode cX3_key 134 = .ok (.lmul, 1) := by decide +kernel
theorem dX3_key_135 : decode cX3_key 135 = .ok (.lreturn, 1) := by decide +kernel
set_option maxRecDepth 20000 in
theorem ggX3_pull_X3_needReal : GoodIn wsX3_pull wsX3_needReal := goodIn_ca (goodIn_r _ [6, 7, 8] (by decide +kernel) (by decide +kernel)) (goodIn_sub (fun _ h => List.mem_cons_of_mem _ (List.mem_append_right _ h)) (by decide +kernel))
set_option maxRecDepth 20000 in
theorem gX3_pull_X3_needReal : GoodIn wsX3_pull (va_wsS RX3 186 yX3_needReal wsX3_needReal) := goodIn_app (goodIn_of _ (by decide +kernel)) ggX3_pull_X3_needReal
theorem dX3_pull_0 : decode cX3_pull 0 = .ok (.dload_n 1, 1) := by decide +kernel
theorem dX3_pull_1 : decode cX3_pull 1 = .ok (.dconst 0, 1) := by decide +kernel
theorem dX3_pull_2 : decode cX3_pull 2 = .ok (.ldc2_w 184, 3) := by decide +kernel
theorem dX3_pull_5 : decode cX3_pull 5 = .ok (.invokestatic 186, 3) := by decide +kernel
theorem dX3_pull_8 : decode cX3_pull 8 = .ok (.dload_n 3, 1) := by decide +kernel
theorem dX3_pull_9 : decode cX3_pull 9 = .ok (.dconst 0, 1) := by decide +kernel
theorem dX3_pull_10 : decode cX3_pull 10 = .ok (.ldc2_w 184, 3) := by decide +kernel
theorem dX3_pull_13 : decode cX3_pull 13 = .ok (.invokestatic 186, 3) := by decide +kernel
theorem dX3_pull_16 : decode cX3_pull 16 = .ok (.dload 5, 2) := by decide +kernel
theorem dX3_pull_18 : decode cX3_pull 18 = .ok (.dconst 0, 1) := by decide +kernel
theorem dX3_pull_19 : decode cX3_pull 19 = .ok (.ldc2_w 184, 3) := by decide +kernel
theorem dX3_pull_22 : decode cX3_pull 22 = .ok (.invokestatic 186, 3) := by decide +kernel
theorem dX3_pull_25 : decode cX3_pull 25 = .ok (.ldc2_w 190, 3) := by decide +kernel
theorem dX3_pull_28 : decode cX3_pull 28 = .ok (.dload 5, 2) := by decide +kernel
theorem dX3_pull_30 : decode cX3_pull 30 = .ok (.dmul, 1) := by decide +kernel
theorem dX3_pull_31 : decode cX3_pull 31 = .ok (.dload_n 3, 1) := by decide +kernel
theorem dX3_pull_32 : decode cX3_pull 32 = .ok (.dmul, 1) := by decide +kernel
theorem dX3_pull_33 : decode cX3_pull 33 = .ok (.dload_n 3, 1) := by decide +kernel
theorem dX3_pull_34 : decode cX3_pull 34 = .ok (.dmul, 1) := by decide +kernel
theorem dX3_pull_35 : decode cX3_pull 35 = .ok (.dload_n 1, 1) := by decide +kernel
theorem dX3_pull_36 : decode cX3_pull 36 = .ok (.dmul, 1) := by decide +kernel
theorem dX3_pull_37 : decode cX3_pull 37 = .ok (.dload_n 1, 1) := by decide +kernel
theorem dX3_pull_38 : decode cX3_pull 38 = .ok (.dmul, 1) := by decide +kernel
theorem dX3_pull_39 : decode cX3_pull 39 = .ok (.dreturn, 1) := by decide +kernel
set_option maxRecDepth 20000 in
theorem ggX3_pipe_X3_needReal : GoodIn wsX3_pipe wsX3_needReal := goodIn_ca (goodIn_r _ [10, 11, 12] (by decide +kernel) (by decide +kernel)) (goodIn_sub (fun _ h => List.mem_cons_of_mem _ (List.mem_append_right _ h)) (by decide +kernel))
set_option maxRecDepth 20000 in
theorem gX3_pipe_X3_needReal : GoodIn wsX3_pipe (va_wsS RX3 186 yX3_needReal wsX3_needReal) := goodIn_app (goodIn_of _ (by decide +kernel)) ggX3_pipe_X3_needReal
theorem dX3_pipe_0 : decode cX3_pipe 0 = .ok (.dload_n 1, 1) := by decide +kernel
theorem dX3_pipe_1 : decode cX3_pipe 1 = .ok (.dconst 1, 1) := by decide +kernel
theorem dX3_pipe_2 : decode cX3_pipe 2 = .ok (.ldc2_w 184, 3) := by decide +kernel
theorem dX3_pipe_5 : decode cX3_pipe 5 = .ok (.invokestatic 186, 3) := by decide +kernel
theorem dX3_pipe_8 : decode cX3_pipe 8 = .ok (.dload 4, 2) := by decide +kernel
theorem dX3_pipe_10 : decode cX3_pipe 10 = .ok (.dconst 0, 1) := by decide +kernel
theorem dX3_pipe_11 : decode cX3_pipe 11 = .ok (.ldc2_w 192, 3) := by decide +kernel
theorem dX3_pipe_14 : decode cX3_pipe 14 = .ok (.invokestatic 186, 3) := by decide +kernel
theorem dX3_pipe_17 : decode cX3_pipe 17 = .ok (.ldc2_w 194, 3) := by decide +kernel
theorem dX3_pipe_20 : decode cX3_pipe 20 = .ok (.dload_n 1, 1) := by decide +kernel
theorem dX3_pipe_21 : decode cX3_pipe 21 = .ok (.ddiv, 1) := by decide +kernel
theorem dX3_pipe_22 : decode cX3_pipe 22 = .ok (.iload_n 3, 1) := by decide +kernel
theorem dX3_pipe_23 : decode cX3_pipe 23 = .ok (.ifCond .eq 9, 3) := by decide +kernel
theorem dX3_pipe_26 : decode cX3_pipe 26 = .ok (.ldc2_w 196, 3) := by decide +kernel
theorem dX3_pipe_29 : decode cX3_pipe 29 = .ok (.goto 6, 3) := by decide +kernel
theorem dX3_pipe_32 : decode cX3_pipe 32 = .ok (.ldc2_w 190, 3) := by decide +kernel
theorem dX3_pipe_35 : decode cX3_pipe 35 = .ok (.ddiv, 1) := by decide +kernel
theorem dX3_pipe_36 : decode cX3_pipe 36 = .ok (.ldc2_w 198, 3) := by decide +kernel
theorem dX3_pipe_39 : decode cX3_pipe 39 = .ok (.dload 4, 2) := by decide +kernel
theorem dX3_pipe_41 : decode cX3_pipe 41 = .ok (.dmul, 1) := by decide +kernel
theorem dX3_pipe_42 : decode cX3_pipe 42 = .ok (.dsub, 1) := by decide +kernel
theorem dX3_pipe_43 : decode cX3_pipe 43 = .ok (.dreturn, 1) := by decide +kernel
theorem dX3_needPlace_0 : decode cX3_needPlace 0 = .ok (.iload_n 1, 1) := by decide +kernel
theorem dX3_needPlace_1 : decode cX3_needPlace 1 = .ok (.ifCond .lt 21, 3) := by decide +kernel
theorem dX3_needPlace_4 : decode cX3_needPlace 4 = .ok (.iload_n 1, 1) := by decide +kernel
theorem dX3_needPlace_5 : decode cX3_needPlace 5 = .ok (.aload_n 0, 1) := by decide +kernel
theorem dX3_needPlace_6 : decode cX3_needPlace 6 = .ok (.getfield 53, 3) := by decide +kernel
theorem dX3_needPlace_9 : decode cX3_needPlace 9 = .ok (.arraylength, 1) := by decide +kernel
theorem dX3_needPlace_10 : decode cX3_needPlace 10 = .ok (.if_icmp .ge 12, 3) := by decide +kernel
theorem dX3_needPlace_13 : decode cX3_needPlace 13 = .ok (.iload_n 1, 1) := by decide +kernel
theorem dX3_needPlace_14 : decode cX3_needPlace 14 = .ok (.aload_n 0, 1) := by decide +kernel
theorem dX3_needPlace_15 : decode cX3_needPlace 15 = .ok (.getfield 57, 3) := by decide +kernel
theorem dX3_needPlace_18 : decode cX3_needPlace 18 = .ok (.arraylength, 1) := by decide +kernel
theorem dX3_needPlace_19 : decode cX3_needPlace 19 = .ok (.if_icmp .lt 13, 3) := by decide +kernel
theorem dX3_needPlace_22 : decode cX3_needPlace 22 = .ok (.new 173, 3) := by decide +kernel
theorem dX3_needPlace_25 : decode cX3_needPlace 25 = .ok (.dup, 1) := by decide +kernel
theorem dX3_needPlace_26 : decode cX3_needPlace 26 = .ok (.ldc 200, 2) := by decide +kernel
theorem dX3_needPlace_28 : decode cX3_needPlace 28 = .ok (.invokespecial 177, 3) := by decide +kernel
theorem dX3_needPlace_31 : decode cX3_needPlace 31 = .ok (.athrow, 1) := by decide +kernel
theorem dX3_needPlace_32 : decode cX3_needPlace 32 = .ok (.return_, 1) := by decide +kernel
theorem dX3_needPart_0 : decode cX3_needPart 0 = .ok (.iload_n 0, 1) := by decide +kernel
theorem dX3_needPart_1 : decode cX3_needPart 1 = .ok (.ifCond .lt 8, 3) := by decide +kernel
theorem dX3_needPart_4 : decode cX3_needPart 4 = .ok (.iload_n 0, 1) := by decide +kernel
theorem dX3_needPart_5 : decode cX3_needPart 5 = .ok (.iload_n 1, 1) := by decide +kernel
theorem dX3_needPart_6 : decode cX3_needPart 6 = .ok (.if_icmp .lt 13, 3) := by decide +kernel
theorem dX3_needPart_9 : decode cX3_needPart 9 = .ok (.new 173, 3) := by decide +kernel
theorem dX3_needPart_12 : decode cX3_needPart 12 = .ok (.dup, 1) := by decide +kernel
theorem dX3_needPart_13 : decode cX3_needPart 13 = .ok (.ldc 202, 2) := by decide +kernel
theorem dX3_needPart_15 : decode cX3_needPart 15 = .ok (.invokespecial 177, 3) := by decide +kernel
theorem dX3_needPart_18 : decode cX3_needPart 18 = .ok (.athrow, 1) := by decide +kernel
theorem dX3_needPart_19 : decode cX3_needPart 19 = .ok (.return_, 1) := by decide +kernel
theorem dX3_needWithin_0 : decode cX3_needWithin 0 = .ok (.lload_n 0, 1) := by decide +kernel
theorem dX3_needWithin_1 : decode cX3_needWithin 1 = .ok (.lload_n 2, 1) := by decide +kernel
theorem dX3_needWithin_2 : decode cX3_needWithin 2 = .ok (.lcmp, 1) := by decide +kernel
theorem dX3_needWithin_3 : decode cX3_needWithin 3 = .ok (.ifCond .lt 10, 3) := by decide +kernel
theorem dX3_needWithin_6 : decode cX3_needWithin 6 = .ok (.lload_n 0, 1) := by decide +kernel
theorem dX3_needWithin_7 : decode cX3_needWithin 7 = .ok (.lload 4, 2) := by decide +kernel
theorem dX3_needWithin_9 : decode cX3_needWithin 9 = .ok (.lcmp, 1) := by decide +kernel
theorem dX3_needWithin_10 : decode cX3_needWithin 10 = .ok (.ifCond .le 13, 3) := by decide +kernel
theorem dX3_needWithin_13 : decode cX3_needWithin 13 = .ok (.new 204, 3) := by decide +kernel
theorem dX3_needWithin_16 : decode cX3_needWithin 16 = .ok (.dup, 1) := by decide +kernel
theorem dX3_needWithin_17 : decode cX3_needWithin 17 = .ok (.ldc 206, 2) := by decide +kernel
theorem dX3_needWithin_19 : decode cX3_needWithin 19 = .ok (.invokespecial 208, 3) := by decide +kernel
theorem dX3_needWithin_22 : decode cX3_needWithin 22 = .ok (.athrow, 1) := by decide +kernel
theorem dX3_needWithin_23 : decode cX3_needWithin 23 = .ok (.return_, 1) := by decide +kernel
theorem dX3_needReal_0 : decode cX3_needReal 0 = .ok (.dload_n 0, 1) := by decide +kernel
theorem dX3_needReal_1 : decode cX3_needReal 1 = .ok (.dload_n 2, 1) := by decide +kernel
theorem dX3_needReal_2 : decode cX3_needReal 2 = .ok (.dcmp .l, 1) := by decide +kernel
theorem dX3_needReal_3 : decode cX3_needReal 3 = .ok (.ifCond .lt 10, 3) := by decide +kernel
theorem dX3_needReal_6 : decode cX3_needReal 6 = .ok (.dload_n 0, 1) := by decide +kernel
theorem dX3_needReal_7 : decode cX3_needReal 7 = .ok (.dload 4, 2) := by decide +kernel
theorem dX3_needReal_9 : decode cX3_needReal 9 = .ok (.dcmp .g, 1) := by decide +kernel
theorem dX3_needReal_10 : decode cX3_needReal 10 = .ok (.ifCond .le 13, 3) := by decide +kernel
theorem dX3_needReal_13 : decode cX3_needReal 13 = .ok (.new 204, 3) := by decide +kernel
theorem dX3_needReal_16 : decode cX3_needReal 16 = .ok (.dup, 1) := by decide +kernel
theorem dX3_needReal_17 : decode cX3_needReal 17 = .ok (.ldc 206, 2) := by decide +kernel
theorem dX3_needReal_19 : decode cX3_needReal 19 = .ok (.invokespecial 208, 3) := by decide +kernel
theorem dX3_needReal_22 : decode cX3_needReal 22 = .ok (.athrow, 1) := by decide +kernel
theorem dX3_needReal_23 : decode cX3_needReal 23 = .ok (.return_, 1) := by decide +kernel
theorem dX3_octaveOf_0 : decode cX3_octaveOf 0 = .ok (.iload_n 1, 1) := by decide +kernel
theorem dX3_octaveOf_1 : decode cX3_octaveOf 1 = .ok (.aload_n 0, 1) := by decide +kernel
theorem dX3_octaveOf_2 : decode cX3_octaveOf 2 = .ok (.getfield 42, 3) := by decide +kernel
theorem dX3_octaveOf_5 : decode cX3_octaveOf 5 = .ok (.if_icmp .ge 5, 3) := by decide +kernel
theorem dX3_octaveOf_8 : decode cX3_octaveOf 8 = .ok (.iconst 0, 1) := by decide +kernel
theorem dX3_octaveOf_9 : decode cX3_octaveOf 9 = .ok (.ireturn, 1) := by decide +kernel
theorem dX3_octaveOf_10 : decode cX3_octaveOf 10 = .ok (.iload_n 1, 1) := by decide +kernel
theorem dX3_octaveOf_11 : decode cX3_octaveOf 11 = .ok (.iconst 2, 1) := by decide +kernel
theorem dX3_octaveOf_12 : decode cX3_octaveOf 12 = .ok (.aload_n 0, 1) := by decide +kernel
theorem dX3_octaveOf_13 : decode cX3_octaveOf 13 = .ok (.getfield 42, 3) := by decide +kernel
theorem dX3_octaveOf_16 : decode cX3_octaveOf 16 = .ok (.imul, 1) := by decide +kernel
theorem dX3_octaveOf_17 : decode cX3_octaveOf 17 = .ok (.if_icmp .ge 7, 3) := by decide +kernel
theorem dX3_octaveOf_20 : decode cX3_octaveOf 20 = .ok (.iconst 1, 1) := by decide +kernel
theorem dX3_octaveOf_21 : decode cX3_octaveOf 21 = .ok (.goto 4, 3) := by decide +kernel
theorem dX3_octaveOf_24 : decode cX3_octaveOf 24 = .ok (.iconst 2, 1) := by decide +kernel
theorem dX3_octaveOf_25 : decode cX3_octaveOf 25 = .ok (.ireturn, 1) := by decide +kernel
set_option maxRecDepth 20000 in
theorem ggX3_lowerEnd_X3_octaveOf : GoodIn wsX3_lowerEnd wsX3_octaveOf := goodIn_r _ [9, 1, 59, 60, 61, 62, 63, 64, 65, 66, 67, 68, 69, 70] (by decide +kernel) (by decide +kernel)
set_option maxRecDepth 20000 in
theorem gX3_lowerEnd_X3_octaveOf : GoodIn wsX3_lowerEnd (wsV RX3 209 RX3 yX3_octaveOf wsX3_octaveOf) := goodIn_app (goodIn_of _ (by decide +kernel)) ggX3_lowerEnd_X3_octaveOf
set_option maxRecDepth 20000 in
theorem ggX3_lowerEnd_X3_greatestEnd : GoodIn wsX3_lowerEnd wsX3_greatestEnd := goodIn_r _ [13, 14, 15, 1, 16, 17, 18, 19, 20, 21, 22, 23, 24, 25, 26, 27, 28, 29, 30, 31, 32, 33, 8, 34, 35, 36, 37, 38, 39, 40, 41, 42, 43, 44, 45, 46, 47, 48, 49, 50, 51, 52, 53, 54, 55, 56, 57, 58, 59, 60, 61, 62, 63, 64, 65, 66, 67, 68, 69, 70, 74, 75] (by decide +kernel) (by decide +kernel)
set_option maxRecDepth 20000 in
theorem gX3_lowerEnd_X3_greatestEnd : GoodIn wsX3_lowerEnd (wsV RX3 219 RX3 yX3_greatestEnd wsX3_greatestEnd) := goodIn_app (goodIn_of _ (by decide +kernel)) ggX3_lowerEnd_X3_greatestEnd
theorem dX3_lowerEnd_0 : decode cX3_lowerEnd 0 = .ok (.aload_n 0, 1) := by decide +kernel
theorem dX3_lowerEnd_1 : decode cX3_lowerEnd 1 = .ok (.iload_n 2, 1) := by decide +kernel
theorem dX3_lowerEnd_2 : decode cX3_lowerEnd 2 = .ok (.invokevirtual 209, 3) := by decide +kernel
theorem dX3_lowerEnd_5 : decode cX3_lowerEnd 5 = .ok (.istore_n 3, 1) := by decide +kernel
theorem dX3_lowerEnd_6 : decode cX3_lowerEnd 6 = .ok (.iload_n 2, 1) := by decide +kernel
theorem dX3_lowerEnd_7 : decode cX3_lowerEnd 7 = .ok (.iload_n 3, 1) := by decide +kernel
theorem dX3_lowerEnd_8 : decode cX3_lowerEnd 8 = .ok (.aload_n 0, 1) := by decide +kernel
theorem dX3_lowerEnd_9 : decode cX3_lowerEnd 9 = .ok (.getfield 42, 3) := by decide +kernel
theorem dX3_lowerEnd_12 : decode cX3_lowerEnd 12 = .ok (.imul, 1) := by decide +kernel
theorem dX3_lowerEnd_13 : decode cX3_lowerEnd 13 = .ok (.isub, 1) := by decide +kernel
theorem dX3_lowerEnd_14 : decode cX3_lowerEnd 14 = .ok (.istore 4, 2) := by decide +kernel
theorem dX3_lowerEnd_16 : decode cX3_lowerEnd 16 = .ok (.iload 4, 2) := by decide +kernel
theorem dX3_lowerEnd_18 : decode cX3_lowerEnd 18 = .ok (.ifCond .lt 13, 3) := by decide +kernel
theorem dX3_lowerEnd_21 : decode cX3_lowerEnd 21 = .ok (.iload 4, 2) := by decide +kernel
theorem dX3_lowerEnd_23 : decode cX3_lowerEnd 23 = .ok (.aload_n 1, 1) := by decide +kernel
theorem dX3_lowerEnd_24 : decode cX3_lowerEnd 24 = .ok (.getfield 213, 3) := by decide +kernel
theorem dX3_lowerEnd_27 : decode cX3_lowerEnd 27 = .ok (.arraylength, 1) := by decide +kernel
theorem dX3_lowerEnd_28 : decode cX3_lowerEnd 28 = .ok (.if_icmp .lt 5, 3) := by decide +kernel
theorem dX3_lowerEnd_31 : decode cX3_lowerEnd 31 = .ok (.lconst 0, 1) := by decide +kernel
theorem dX3_lowerEnd_32 : decode cX3_lowerEnd 32 = .ok (.lreturn, 1) := by decide +kernel
theorem dX3_lowerEnd_33 : decode cX3_lowerEnd 33 = .ok (.aload_n 1, 1) := by decide +kernel
theorem dX3_lowerEnd_34 : decode cX3_lowerEnd 34 = .ok (.getfield 213, 3) := by decide +kernel
theorem dX3_lowerEnd_37 : decode cX3_lowerEnd 37 = .ok (.iload 4, 2) := by decide +kernel
theorem dX3_lowerEnd_39 : decode cX3_lowerEnd 39 = .ok (.laload, 1) := by decide +kernel
theorem dX3_lowerEnd_40 : decode cX3_lowerEnd 40 = .ok (.ldc2_w 217, 3) := by decide +kernel
theorem dX3_lowerEnd_43 : decode cX3_lowerEnd 43 = .ok (.lcmp, 1) := by decide +kernel
theorem dX3_lowerEnd_44 : decode cX3_lowerEnd 44 = .ok (.ifCond .ne 20, 3) := by decide +kernel
theorem dX3_lowerEnd_47 : decode cX3_lowerEnd 47 = .ok (.aload_n 1, 1) := by decide +kernel
theorem dX3_lowerEnd_48 : decode cX3_lowerEnd 48 = .ok (.getfield 213, 3) := by decide +kernel
theorem dX3_lowerEnd_51 : decode cX3_lowerEnd 51 = .ok (.iload 4, 2) := by decide +kernel
theorem dX3_lowerEnd_53 : decode cX3_lowerEnd 53 = .ok (.aload_n 0, 1) := by decide +kernel
theorem dX3_lowerEnd_54 : decode cX3_lowerEnd 54 = .ok (.aload_n 1, 1) := by decide +kernel
theorem dX3_lowerEnd_55 : decode cX3_lowerEnd 55 = .ok (.getfield 119, 3) := by decide +kernel
theorem dX3_lowerEnd_58 : decode cX3_lowerEnd 58 = .ok (.iload 4, 2) := by decide +kernel
theorem dX3_lowerEnd_60 : decode cX3_lowerEnd 60 = .ok (.invokevirtual 219, 3) := by decide +kernel
theorem dX3_lowerEnd_63 : decode cX3_lowerEnd 63 = .ok (.lastore, 1) := by decide +kernel
theorem dX3_lowerEnd_64 : decode cX3_lowerEnd 64 = .ok (.aload_n 1, 1) := by decide +kernel
theorem dX3_lowerEnd_65 : decode cX3_lowerEnd 65 = .ok (.getfield 213, 3) := by decide +kernel
theorem dX3_lowerEnd_68 : decode cX3_lowerEnd 68 = .ok (.iload 4, 2) := by decide +kernel
theorem dX3_lowerEnd_70 : decode cX3_lowerEnd 70 = .ok (.laload, 1) := by decide +kernel
theorem dX3_lowerEnd_71 : decode cX3_lowerEnd 71 = .ok (.iload_n 3, 1) := by decide +kernel
theorem dX3_lowerEnd_72 : decode cX3_lowerEnd 72 = .ok (.lshr, 1) := by decide +kernel
theorem dX3_lowerEnd_73 : decode cX3_lowerEnd 73 = .ok (.lreturn, 1) := by decide +kernel
set_option maxRecDepth 20000 in
theorem ggX3_endsMeet_X3_octaveOf : GoodIn wsX3_endsMeet wsX3_octaveOf := goodIn_r _ [8, 1, 9, 10, 11, 12, 13, 14, 15, 16, 17, 18, 19, 20] (by decide +kernel) (by decide +kernel)
set_option maxRecDepth 20000 in
theorem gX3_endsMeet_X3_octaveOf : GoodIn wsX3_endsMeet (wsV RX3 209 RX3 yX3_octaveOf wsX3_octaveOf) := goodIn_app (goodIn_of _ (by decide +kernel)) ggX3_endsMeet_X3_octaveOf
theorem dX3_endsMeet_0 : decode cX3_endsMeet 0 = .ok (.aload_n 0, 1) := by decide +kernel
theorem dX3_endsMeet_1 : decode cX3_endsMeet 1 = .ok (.iload_n 1, 1) := by decide +kernel
theorem dX3_endsMeet_2 : decode cX3_endsMeet 2 = .ok (.invokevirtual 209, 3) := by decide +kernel
theorem dX3_endsMeet_5 : decode cX3_endsMeet 5 = .ok (.istore 4, 2) := by decide +kernel
theorem dX3_endsMeet_7 : decode cX3_endsMeet 7 = .ok (.iload_n 1, 1) := by decide +kernel
theorem dX3_endsMeet_8 : decode cX3_endsMeet 8 = .ok (.iload 4, 2) := by decide +kernel
theorem dX3_endsMeet_10 : decode cX3_endsMeet 10 = .ok (.aload_n 0, 1) := by decide +kernel
theorem dX3_endsMeet_11 : decode cX3_endsMeet 11 = .ok (.getfield 42, 3) := by decide +kernel
theorem dX3_endsMeet_14 : decode cX3_endsMeet 14 = .ok (.imul, 1) := by decide +kernel
theorem dX3_endsMeet_15 : decode cX3_endsMeet 15 = .ok (.if_icmp .ne 22, 3) := by decide +kernel
theorem dX3_endsMeet_18 : decode cX3_endsMeet 18 = .ok (.lload_n 2, 1) := by decide +kernel
theorem dX3_endsMeet_19 : decode cX3_endsMeet 19 = .ok (.iload 4, 2) := by decide +kernel
theorem dX3_endsMeet_21 : decode cX3_endsMeet 21 = .ok (.lshl, 1) := by decide +kernel
theorem dX3_endsMeet_22 : decode cX3_endsMeet 22 = .ok (.aload_n 0, 1) := by decide +kernel
theorem dX3_endsMeet_23 : decode cX3_endsMeet 23 = .ok (.getfield 71, 3) := by decide +kernel
theorem dX3_endsMeet_26 : decode cX3_endsMeet 26 = .ok (.getfield 119, 3) := by decide +kernel
theorem dX3_endsMeet_29 : decode cX3_endsMeet 29 = .ok (.lcmp, 1) := by decide +kernel
theorem dX3_endsMeet_30 : decode cX3_endsMeet 30 = .ok (.ifCond .ne 7, 3) := by decide +kernel
theorem dX3_endsMeet_33 : decode cX3_endsMeet 33 = .ok (.iconst 1, 1) := by decide +kernel
theorem dX3_endsMeet_34 : decode cX3_endsMeet 34 = .ok (.goto 4, 3) := by decide +kernel
theorem dX3_endsMeet_37 : decode cX3_endsMeet 37 = .ok (.iconst 0, 1) := by decide +kernel
theorem dX3_endsMeet_38 : decode cX3_endsMeet 38 = .ok (.ireturn, 1) := by decide +kernel
set_option maxRecDepth 20000 in
theorem ggX3_greatestEnd_X0_setPower : GoodIn wsX3_greatestEnd wsX0_setPower := goodIn_r _ [8, 9, 10, 11, 12, 7, 13, 14, 15, 16, 17, 18, 19, 60, 61] (by decide +kernel) (by decide +kernel)
set_option maxRecDepth 20000 in
theorem gX3_greatestEnd_X0_setPower : GoodIn wsX3_greatestEnd (wsV RX3 122 RX0 yX0_setPower wsX0_setPower) := goodIn_app (goodIn_of _ (by decide +kernel)) ggX3_greatestEnd_X0_setPower
set_option maxRecDepth 20000 in
theorem ggX3_greatestEnd_X3_nextProbe : GoodIn wsX3_greatestEnd wsX3_nextProbe := goodIn_r _ [23, 24, 25, 26, 27, 28, 29, 30, 31] (by decide +kernel) (by decide +kernel)
set_option maxRecDepth 20000 in
theorem gX3_greatestEnd_X3_nextProbe : GoodIn wsX3_greatestEnd (va_wsS RX3 223 yX3_nextProbe wsX3_nextProbe) := goodIn_app (goodIn_of _ (by decide +kernel)) ggX3_greatestEnd_X3_nextProbe
set_option maxRecDepth 20000 in
theorem ggX3_greatestEnd_X3_isNotAboveLeft : GoodIn wsX3_greatestEnd wsX3_isNotAboveLeft := goodIn_r _ [35, 36, 3, 2, 4, 5, 6, 7, 8, 9, 10, 11, 12, 13, 14, 15, 16, 17, 18, 19, 37, 38, 39, 40, 41, 42, 27, 43, 44, 45, 46, 47, 48, 49, 50, 51, 52, 53, 54, 55, 56, 57, 58, 59, 60, 61] (by decide +kernel) (by decide +kernel)
set_option maxRecDepth 20000 in
theorem gX3_greatestEnd_X3_isNotAboveLeft : GoodIn wsX3_greatestEnd (wsV RX3 227 RX3 yX3_isNotAboveLeft wsX3_isNotAboveLeft) := goodIn_app (goodIn_of _ (by decide +kernel)) ggX3_greatestEnd_X3_isNotAboveLeft
theorem dX3_greatestEnd_0 : decode cX3_greatestEnd 0 = .ok (.iload_n 3, 1) := by decide +kernel
theorem dX3_greatestEnd_1 : decode cX3_greatestEnd 1 = .ok (.iconst 1, 1) := by decide +kernel
theorem dX3_greatestEnd_2 : decode cX3_greatestEnd 2 = .ok (.if_icmp .lt 12, 3) := by decide +kernel
theorem dX3_greatestEnd_5 : decode cX3_greatestEnd 5 = .ok (.iload_n 3, 1) := by decide +kernel
theorem dX3_greatestEnd_6 : decode cX3_greatestEnd 6 = .ok (.aload_n 0, 1) := by decide +kernel
theorem dX3_greatestEnd_7 : decode cX3_greatestEnd 7 = .ok (.getfield 49, 3) := by decide +kernel
theorem dX3_greatestEnd_10 : decode cX3_greatestEnd 10 = .ok (.arraylength, 1) := by decide +kernel
theorem dX3_greatestEnd_11 : decode cX3_greatestEnd 11 = .ok (.if_icmp .lt 5, 3) := by decide +kernel
theorem dX3_greatestEnd_14 : decode cX3_greatestEnd 14 = .ok (.lload_n 1, 1) := by decide +kernel
theorem dX3_greatestEnd_15 : decode cX3_greatestEnd 15 = .ok (.lreturn, 1) := by decide +kernel
theorem dX3_greatestEnd_16 : decode cX3_greatestEnd 16 = .ok (.lload_n 1, 1) := by decide +kernel
theorem dX3_greatestEnd_17 : decode cX3_greatestEnd 17 = .ok (.l2d, 1) := by decide +kernel
theorem dX3_greatestEnd_18 : decode cX3_greatestEnd 18 = .ok (.aload_n 0, 1) := by decide +kernel
theorem dX3_greatestEnd_19 : decode cX3_greatestEnd 19 = .ok (.getfield 49, 3) := by decide +kernel
theorem dX3_greatestEnd_22 : decode cX3_greatestEnd 22 = .ok (.iload_n 3, 1) := by decide +kernel
theorem dX3_greatestEnd_23 : decode cX3_greatestEnd 23 = .ok (.daload, 1) := by decide +kernel
theorem dX3_greatestEnd_24 : decode cX3_greatestEnd 24 = .ok (.ddiv, 1) := by decide +kernel
theorem dX3_greatestEnd_25 : decode cX3_greatestEnd 25 = .ok (.d2l, 1) := by decide +kernel
theorem dX3_greatestEnd_26 : decode cX3_greatestEnd 26 = .ok (.lstore 4, 2) := by decide +kernel
theorem dX3_greatestEnd_28 : decode cX3_greatestEnd 28 = .ok (.aload_n 0, 1) := by decide +kernel
theorem dX3_greatestEnd_29 : decode cX3_greatestEnd 29 = .ok (.getfield 19, 3) := by decide +kernel
theorem dX3_greatestEnd_32 : decode cX3_greatestEnd 32 = .ok (.lload_n 1, 1) := by decide +kernel
theorem dX3_greatestEnd_33 : decode cX3_greatestEnd 33 = .ok (.aload_n 0, 1) := by decide +kernel
theorem dX3_greatestEnd_34 : decode cX3_greatestEnd 34 = .ok (.getfield 42, 3) := by decide +kernel
theorem dX3_greatestEnd_37 : decode cX3_greatestEnd 37 = .ok (.invokevirtual 122, 3) := by decide +kernel
theorem dX3_greatestEnd_40 : decode cX3_greatestEnd 40 = .ok (.lconst 0, 1) := by decide +kernel
theorem dX3_greatestEnd_41 : decode cX3_greatestEnd 41 = .ok (.lstore 6, 2) := by decide +kernel
theorem dX3_greatestEnd_43 : decode cX3_greatestEnd 43 = .ok (.lload_n 1, 1) := by decide +kernel
theorem dX3_greatestEnd_44 : decode cX3_greatestEnd 44 = .ok (.lconst 1, 1) := by decide +kernel
theorem dX3_greatestEnd_45 : decode cX3_greatestEnd 45 = .ok (.ladd, 1) := by decide +kernel
theorem dX3_greatestEnd_46 : decode cX3_greatestEnd 46 = .ok (.lstore 8, 2) := by decide +kernel
theorem dX3_greatestEnd_48 : decode cX3_greatestEnd 48 = .ok (.iconst 0, 1) := by decide +kernel
theorem dX3_greatestEnd_49 : decode cX3_greatestEnd 49 = .ok (.istore 10, 2) := by decide +kernel
theorem dX3_greatestEnd_51 : decode cX3_greatestEnd 51 = .ok (.iload 10, 2) := by decide +kernel
theorem dX3_greatestEnd_53 : decode cX3_greatestEnd 53 = .ok (.bipush 64, 2) := by decide +kernel
theorem dX3_greatestEnd_55 : decode cX3_greatestEnd 55 = .ok (.if_icmp .ge 53, 3) := by decide +kernel
theorem dX3_greatestEnd_58 : decode cX3_greatestEnd 58 = .ok (.lload 8, 2) := by decide +kernel
theorem dX3_greatestEnd_60 : decode cX3_greatestEnd 60 = .ok (.lload 6, 2) := by decide +kernel
theorem dX3_greatestEnd_62 : decode cX3_greatestEnd 62 = .ok (.lsub, 1) := by decide +kernel
theorem dX3_greatestEnd_63 : decode cX3_greatestEnd 63 = .ok (.lconst 1, 1) := by decide +kernel
theorem dX3_greatestEnd_64 : decode cX3_greatestEnd 64 = .ok (.lcmp, 1) := by decide +kernel
theorem dX3_greatestEnd_65 : decode cX3_greatestEnd 65 = .ok (.ifCond .le 43, 3) := by decide +kernel
theorem dX3_greatestEnd_68 : decode cX3_greatestEnd 68 = .ok (.iload 10, 2) := by decide +kernel
theorem dX3_greatestEnd_70 : decode cX3_greatestEnd 70 = .ok (.lload 4, 2) := by decide +kernel
theorem dX3_greatestEnd_72 : decode cX3_greatestEnd 72 = .ok (.lload 6, 2) := by decide +kernel
theorem dX3_greatestEnd_74 : decode cX3_greatestEnd 74 = .ok (.lload 8, 2) := by decide +kernel
theorem dX3_greatestEnd_76 : decode cX3_greatestEnd 76 = .ok (.invokestatic 223, 3) := by decide +kernel
theorem dX3_greatestEnd_79 : decode cX3_greatestEnd 79 = .ok (.lstore 11, 2) := by decide +kernel
theorem dX3_greatestEnd_81 : decode cX3_greatestEnd 81 = .ok (.aload_n 0, 1) := by decide +kernel
theorem dX3_greatestEnd_82 : decode cX3_greatestEnd 82 = .ok (.lload 11, 2) := by decide +kernel
theorem dX3_greatestEnd_84 : decode cX3_greatestEnd 84 = .ok (.iload_n 3, 1) := by decide +kernel
theorem dX3_greatestEnd_85 : decode cX3_greatestEnd 85 = .ok (.invokevirtual 227, 3) := by decide +kernel
theorem dX3_greatestEnd_88 : decode cX3_greatestEnd 88 = .ok (.ifCond .eq 10, 3) := by decide +kernel
theorem dX3_greatestEnd_91 : decode cX3_greatestEnd 91 = .ok (.lload 11, 2) := by decide +kernel
theorem dX3_greatestEnd_93 : decode cX3_greatestEnd 93 = .ok (.lstore 6, 2) := by decide +kernel
theorem dX3_greatestEnd_95 : decode cX3_greatestEnd 95 = .ok (.goto 7, 3) := by decide +kernel
theorem dX3_greatestEnd_98 : decode cX3_greatestEnd 98 = .ok (.lload 11, 2) := by decide +kernel
theorem dX3_greatestEnd_100 : decode cX3_greatestEnd 100 = .ok (.lstore 8, 2) := by decide +kernel
theorem dX3_greatestEnd_102 : decode cX3_greatestEnd 102 = .ok (.iinc 10 1, 3) := by decide +kernel
theorem dX3_greatestEnd_105 : decode cX3_greatestEnd 105 = .ok (.goto (-54), 3) := by decide +kernel
theorem dX3_greatestEnd_108 : decode cX3_greatestEnd 108 = .ok (.lload 6, 2) := by decide +kernel
theorem dX3_greatestEnd_110 : decode cX3_greatestEnd 110 = .ok (.lreturn, 1) := by decide +kernel
theorem dX3_nextProbe_0 : decode cX3_nextProbe 0 = .ok (.lload_n 3, 1) := by decide +kernel
theorem dX3_nextProbe_1 : decode cX3_nextProbe 1 = .ok (.lload 5, 2) := by decide +kernel
theorem dX3_nextProbe_3 : decode cX3_nextProbe 3 = .ok (.lload_n 3, 1) := by decide +kernel
theorem dX3_nextProbe_4 : decode cX3_nextProbe 4 = .ok (.lsub, 1) := by decide +kernel
theorem dX3_nextProbe_5 : decode cX3_nextProbe 5 = .ok (.ldc2_w 231, 3) := by decide +kernel
theorem dX3_nextProbe_8 : decode cX3_nextProbe 8 = .ok (.ldiv, 1) := by decide +kernel
theorem dX3_nextProbe_9 : decode cX3_nextProbe 9 = .ok (.ladd, 1) := by decide +kernel
theorem dX3_nextProbe_10 : decode cX3_nextProbe 10 = .ok (.lstore 7, 2) := by decide +kernel
theorem dX3_nextProbe_12 : decode cX3_nextProbe 12 = .ok (.iload_n 0, 1) := by decide +kernel
theorem dX3_nextProbe_13 : decode cX3_nextProbe 13 = .ok (.ifCond .ne 9, 3) := by decide +kernel
theorem dX3_nextProbe_16 : decode cX3_nextProbe 16 = .ok (.lload_n 1, 1) := by decide +kernel
theorem dX3_nextProbe_17 : decode cX3_nextProbe 17 = .ok (.lstore 7, 2) := by decide +kernel
theorem dX3_nextProbe_19 : decode cX3_nextProbe 19 = .ok (.goto 25, 3) := by decide +kernel
theorem dX3_nextProbe_22 : decode cX3_nextProbe 22 = .ok (.iload_n 0, 1) := by decide +kernel
theorem dX3_nextProbe_23 : decode cX3_nextProbe 23 = .ok (.iconst 1, 1) := by decide +kernel
theorem dX3_nextProbe_24 : decode cX3_nextProbe 24 = .ok (.if_icmp .ne 20, 3) := by decide +kernel
theorem dX3_nextProbe_27 : decode cX3_nextProbe 27 = .ok (.lload_n 3, 1) := by decide +kernel
theorem dX3_nextProbe_28 : decode cX3_nextProbe 28 = .ok (.lload_n 1, 1) := by decide +kernel
theorem dX3_nextProbe_29 : decode cX3_nextProbe 29 = .ok (.lcmp, 1) := by decide +kernel
theorem dX3_nextProbe_30 : decode cX3_nextProbe 30 = .ok (.ifCond .ne 9, 3) := by decide +kernel
theorem dX3_nextProbe_33 : decode cX3_nextProbe 33 = .ok (.lload_n 1, 1) := by decide +kernel
theorem dX3_nextProbe_34 : decode cX3_nextProbe 34 = .ok (.lconst 1, 1) := by decide +kernel
theorem dX3_nextProbe_35 : decode cX3_nextProbe 35 = .ok (.ladd, 1) := by decide +kernel
theorem dX3_nextProbe_36 : decode cX3_nextProbe 36 = .ok (.goto 6, 3) := by decide +kernel
theorem dX3_nextProbe_39 : decode cX3_nextProbe 39 = .ok (.lload_n 1, 1) := by decide +kernel
theorem dX3_nextProbe_40 : decode cX3_nextProbe 40 = .ok (.lconst 1, 1) := by decide +kernel
theorem dX3_nextProbe_41 : decode cX3_nextProbe 41 = .ok (.lsub, 1) := by decide +kernel
theorem dX3_nextProbe_42 : decode cX3_nextProbe 42 = .ok (.lstore 7, 2) := by decide +kernel
theorem dX3_nextProbe_44 : decode cX3_nextProbe 44 = .ok (.lload_n 3, 1) := by decide +kernel
theorem dX3_nextProbe_45 : decode cX3_nextProbe 45 = .ok (.lconst 1, 1) := by decide +kernel
theorem dX3_nextProbe_46 : decode cX3_nextProbe 46 = .ok (.ladd, 1) := by decide +kernel
theorem dX3_nextProbe_47 : decode cX3_nextProbe 47 = .ok (.lload 5, 2) := by decide +kernel
theorem dX3_nextProbe_49 : decode cX3_nextProbe 49 = .ok (.lconst 1, 1) := by decide +kernel
theorem dX3_nextProbe_50 : decode cX3_nextProbe 50 = .ok (.lsub, 1) := by decide +kernel
theorem dX3_nextProbe_51 : decode cX3_nextProbe 51 = .ok (.lload 7, 2) := by decide +kernel
theorem dX3_nextProbe_53 : decode cX3_nextProbe 53 = .ok (.invokestatic 233, 3) := by decide +kernel
theorem dX3_nextProbe_56 : decode cX3_nextProbe 56 = .ok (.invokestatic 235, 3) := by decide +kernel
theorem dX3_nextProbe_59 : decode cX3_nextProbe 59 = .ok (.lreturn, 1) := by decide +kernel
set_option maxRecDepth 20000 in
theorem ggX3_isNotAboveLeft_X0_setPower : GoodIn wsX3_isNotAboveLeft wsX0_setPower := goodIn_r _ [8, 9, 10, 11, 12, 7, 13, 14, 15, 16, 17, 18, 19, 44, 45] (by decide +kernel) (by decide +kernel)
set_option maxRecDepth 20000 in
theorem gX3_isNotAboveLeft_X0_setPower : GoodIn wsX3_isNotAboveLeft (wsV RX3 122 RX0 yX0_setPower wsX0_setPower) := goodIn_app (goodIn_of _ (by decide +kernel)) ggX3_isNotAboveLeft_X0_setPower
set_option maxRecDepth 20000 in
theorem ggX3_isNotAboveLeft_X0_doubleTimes : GoodIn wsX3_isNotAboveLeft wsX0_doubleTimes := goodIn_r _ [23, 24, 25, 26, 27, 16, 17, 18, 7, 19, 9, 14, 15, 10, 11, 12, 13, 44, 45] (by decide +kernel) (by decide +kernel)
set_option maxRecDepth 20000 in
theorem gX3_isNotAboveLeft_X0_doubleTimes : GoodIn wsX3_isNotAboveLeft (wsV RX3 125 RX0 yX0_doubleTimes wsX0_doubleTimes) := goodIn_app (goodIn_of _ (by decide +kernel)) ggX3_isNotAboveLeft_X0_doubleTimes
set_option maxRecDepth 20000 in
theorem ggX3_isNotAboveLeft_X0_compareWith : GoodIn wsX3_isNotAboveLeft wsX0_compareWith := goodIn_r _ [31, 9, 24, 25, 26, 27, 14, 44, 45] (by decide +kernel) (by decide +kernel)
set_option maxRecDepth 20000 in
theorem gX3_isNotAboveLeft_X0_compareWith : GoodIn wsX3_isNotAboveLeft (wsV RX3 128 RX0 yX0_compareWith wsX0_compareWith) := goodIn_app (goodIn_of _ (by decide +kernel)) ggX3_isNotAboveLeft_X0_compareWith
theorem dX3_isNotAboveLeft_0 : decode cX3_isNotAboveLeft 0 = .ok (.aload_n 0, 1) := by decide +kernel
theorem dX3_isNotAboveLeft_1 : decode cX3_isNotAboveLeft 1 = .ok (.getfield 23, 3) := by decide +kernel
theorem dX3_isNotAboveLeft_4 : decode cX3_isNotAboveLeft 4 = .ok (.lload_n 1, 1) := by decide +kernel
theorem dX3_isNotAboveLeft_5 : decode cX3_isNotAboveLeft 5 = .ok (.aload_n 0, 1) := by decide +kernel
theorem dX3_isNotAboveLeft_6 : decode cX3_isNotAboveLeft 6 = .ok (.getfield 42, 3) := by decide +kernel
theorem dX3_isNotAboveLeft_9 : decode cX3_isNotAboveLeft 9 = .ok (.invokevirtual 122, 3) := by decide +kernel
theorem dX3_isNotAboveLeft_12 : decode cX3_isNotAboveLeft 12 = .ok (.aload_n 0, 1) := by decide +kernel
theorem dX3_isNotAboveLeft_13 : decode cX3_isNotAboveLeft 13 = .ok (.getfield 23, 3) := by decide +kernel
theorem dX3_isNotAboveLeft_16 : decode cX3_isNotAboveLeft 16 = .ok (.iload_n 3, 1) := by decide +kernel
theorem dX3_isNotAboveLeft_17 : decode cX3_isNotAboveLeft 17 = .ok (.invokevirtual 125, 3) := by decide +kernel
theorem dX3_isNotAboveLeft_20 : decode cX3_isNotAboveLeft 20 = .ok (.aload_n 0, 1) := by decide +kernel
theorem dX3_isNotAboveLeft_21 : decode cX3_isNotAboveLeft 21 = .ok (.getfield 23, 3) := by decide +kernel
theorem dX3_isNotAboveLeft_24 : decode cX3_isNotAboveLeft 24 = .ok (.aload_n 0, 1) := by decide +kernel
theorem dX3_isNotAboveLeft_25 : decode cX3_isNotAboveLeft 25 = .ok (.getfield 19, 3) := by decide +kernel
theorem dX3_isNotAboveLeft_28 : decode cX3_isNotAboveLeft 28 = .ok (.invokevirtual 128, 3) := by decide +kernel
theorem dX3_isNotAboveLeft_31 : decode cX3_isNotAboveLeft 31 = .ok (.ifCond .gt 7, 3) := by decide +kernel
theorem dX3_isNotAboveLeft_34 : decode cX3_isNotAboveLeft 34 = .ok (.iconst 1, 1) := by decide +kernel
theorem dX3_isNotAboveLeft_35 : decode cX3_isNotAboveLeft 35 = .ok (.goto 4, 3) := by decide +kernel
theorem dX3_isNotAboveLeft_38 : decode cX3_isNotAboveLeft 38 = .ok (.iconst 0, 1) := by decide +kernel
theorem dX3_isNotAboveLeft_39 : decode cX3_isNotAboveLeft 39 = .ok (.ireturn, 1) := by decide +kernel
set_option maxRecDepth 20000 in
theorem ggX3_lastNotAbove_X0_setPower : GoodIn wsX3_lastNotAbove wsX0_setPower := goodIn_r _ [8, 9, 10, 11, 12, 7, 13, 14, 15, 16, 17, 18, 19, 44, 45] (by decide +kernel) (by decide +kernel)
set_option maxRecDepth 20000 in
theorem gX3_lastNotAbove_X0_setPower : GoodIn wsX3_lastNotAbove (wsV RX3 122 RX0 yX0_setPower wsX0_setPower) := goodIn_app (goodIn_of _ (by decide +kernel)) ggX3_lastNotAbove_X0_setPower
set_option maxRecDepth 20000 in
theorem ggX3_lastNotAbove_X0_doubleTimes : GoodIn wsX3_lastNotAbove wsX0_doubleTimes := goodIn_r _ [23, 24, 25, 26, 27, 16, 17, 18, 7, 19, 9, 14, 15, 10, 11, 12, 13, 44, 45] (by decide +kernel) (by decide +kernel)
set_option maxRecDepth 20000 in
theorem gX3_lastNotAbove_X0_doubleTimes : GoodIn wsX3_lastNotAbove (wsV RX3 125 RX0 yX0_doubleTimes wsX0_doubleTimes) := goodIn_app (goodIn_of _ (by decide +kernel)) ggX3_lastNotAbove_X0_doubleTimes
set_option maxRecDepth 20000 in
theorem ggX3_lastNotAbove_X0_compareWith : GoodIn wsX3_lastNotAbove wsX0_compareWith := goodIn_r _ [31, 9, 24, 25, 26, 27, 14, 44, 45] (by decide +kernel) (by decide +kernel)
set_option maxRecDepth 20000 in
theorem gX3_lastNotAbove_X0_compareWith : GoodIn wsX3_lastNotAbove (wsV RX3 128 RX0 yX0_compareWith wsX0_compareWith) := goodIn_app (goodIn_of _ (by decide +kernel)) ggX3_lastNotAbove_X0_compareWith
theorem dX3_lastNotAbove_0 : decode cX3_lastNotAbove 0 = .ok (.aload_n 0, 1) := by decide +kernel
theorem dX3_lastNotAbove_1 : decode cX3_lastNotAbove 1 = .ok (.getfield 19, 3) := by decide +kernel
theorem dX3_lastNotAbove_4 : decode cX3_lastNotAbove 4 = .ok (.iload_n 1, 1) := by decide +kernel
theorem dX3_lastNotAbove_5 : decode cX3_lastNotAbove 5 = .ok (.i2l, 1) := by decide +kernel
theorem dX3_lastNotAbove_6 : decode cX3_lastNotAbove 6 = .ok (.aload_n 0, 1) := by decide +kernel
theorem dX3_lastNotAbove_7 : decode cX3_lastNotAbove 7 = .ok (.getfield 42, 3) := by decide +kernel
theorem dX3_lastNotAbove_10 : decode cX3_lastNotAbove 10 = .ok (.invokevirtual 122, 3) := by decide +kernel
theorem dX3_lastNotAbove_13 : decode cX3_lastNotAbove 13 = .ok (.aload_n 0, 1) := by decide +kernel
theorem dX3_lastNotAbove_14 : decode cX3_lastNotAbove 14 = .ok (.getfield 23, 3) := by decide +kernel
theorem dX3_lastNotAbove_17 : decode cX3_lastNotAbove 17 = .ok (.iload_n 2, 1) := by decide +kernel
theorem dX3_lastNotAbove_18 : decode cX3_lastNotAbove 18 = .ok (.i2l, 1) := by decide +kernel
theorem dX3_lastNotAbove_19 : decode cX3_lastNotAbove 19 = .ok (.aload_n 0, 1) := by decide +kernel
theorem dX3_lastNotAbove_20 : decode cX3_lastNotAbove 20 = .ok (.getfield 42, 3) := by decide +kernel
theorem dX3_lastNotAbove_23 : decode cX3_lastNotAbove 23 = .ok (.invokevirtual 122, 3) := by decide +kernel
theorem dX3_lastNotAbove_26 : decode cX3_lastNotAbove 26 = .ok (.iconst 0, 1) := by decide +kernel
theorem dX3_lastNotAbove_27 : decode cX3_lastNotAbove 27 = .ok (.istore_n 3, 1) := by decide +kernel
theorem dX3_lastNotAbove_28 : decode cX3_lastNotAbove 28 = .ok (.iload_n 3, 1) := by decide +kernel
theorem dX3_lastNotAbove_29 : decode cX3_lastNotAbove 29 = .ok (.iconst 2, 1) := by decide +kernel
theorem dX3_lastNotAbove_30 : decode cX3_lastNotAbove 30 = .ok (.aload_n 0, 1) := by decide +kernel
theorem dX3_lastNotAbove_31 : decode cX3_lastNotAbove 31 = .ok (.getfield 42, 3) := by decide +kernel
theorem dX3_lastNotAbove_34 : decode cX3_lastNotAbove 34 = .ok (.imul, 1) := by decide +kernel
theorem dX3_lastNotAbove_35 : decode cX3_lastNotAbove 35 = .ok (.if_icmp .ge 33, 3) := by decide +kernel
theorem dX3_lastNotAbove_38 : decode cX3_lastNotAbove 38 = .ok (.aload_n 0, 1) := by decide +kernel
theorem dX3_lastNotAbove_39 : decode cX3_lastNotAbove 39 = .ok (.getfield 23, 3) := by decide +kernel
theorem dX3_lastNotAbove_42 : decode cX3_lastNotAbove 42 = .ok (.iconst 1, 1) := by decide +kernel
theorem dX3_lastNotAbove_43 : decode cX3_lastNotAbove 43 = .ok (.invokevirtual 125, 3) := by decide +kernel
theorem dX3_lastNotAbove_46 : decode cX3_lastNotAbove 46 = .ok (.aload_n 0, 1) := by decide +kernel
theorem dX3_lastNotAbove_47 : decode cX3_lastNotAbove 47 = .ok (.getfield 23, 3) := by decide +kernel
theorem dX3_lastNotAbove_50 : decode cX3_lastNotAbove 50 = .ok (.aload_n 0, 1) := by decide +kernel
theorem dX3_lastNotAbove_51 : decode cX3_lastNotAbove 51 = .ok (.getfield 19, 3) := by decide +kernel
theorem dX3_lastNotAbove_54 : decode cX3_lastNotAbove 54 = .ok (.invokevirtual 128, 3) := by decide +kernel
theorem dX3_lastNotAbove_57 : decode cX3_lastNotAbove 57 = .ok (.ifCond .le 5, 3) := by decide +kernel
theorem dX3_lastNotAbove_60 : decode cX3_lastNotAbove 60 = .ok (.iload_n 3, 1) := by decide +kernel
theorem dX3_lastNotAbove_61 : decode cX3_lastNotAbove 61 = .ok (.ireturn, 1) := by decide +kernel
theorem dX3_lastNotAbove_62 : decode cX3_lastNotAbove 62 = .ok (.iinc 3 1, 3) := by decide +kernel
theorem dX3_lastNotAbove_65 : decode cX3_lastNotAbove 65 = .ok (.goto (-37), 3) := by decide +kernel
theorem dX3_lastNotAbove_68 : decode cX3_lastNotAbove 68 = .ok (.iconst 2, 1) := by decide +kernel
theorem dX3_lastNotAbove_69 : decode cX3_lastNotAbove 69 = .ok (.aload_n 0, 1) := by decide +kernel
theorem dX3_lastNotAbove_70 : decode cX3_lastNotAbove 70 = .ok (.getfield 42, 3) := by decide +kernel
theorem dX3_lastNotAbove_73 : decode cX3_lastNotAbove 73 = .ok (.imul, 1) := by decide +kernel
theorem dX3_lastNotAbove_74 : decode cX3_lastNotAbove 74 = .ok (.ireturn, 1) := by decide +kernel
set_option maxRecDepth 20000 in
theorem ggX3_isPastMiddle_X0_setPower : GoodIn wsX3_isPastMiddle wsX0_setPower := goodIn_r _ [8, 9, 10, 11, 12, 7, 13, 14, 15, 16, 17, 18, 19, 44, 45] (by decide +kernel) (by decide +kernel)
set_option maxRecDepth 20000 in
theorem gX3_isPastMiddle_X0_setPower : GoodIn wsX3_isPastMiddle (wsV RX3 122 RX0 yX0_setPower wsX0_setPower) := goodIn_app (goodIn_of _ (by decide +kernel)) ggX3_isPastMiddle_X0_setPower
set_option maxRecDepth 20000 in
theorem ggX3_isPastMiddle_X0_doubleTimes : GoodIn wsX3_isPastMiddle wsX0_doubleTimes := goodIn_r _ [23, 24, 25, 26, 27, 16, 17, 18, 7, 19, 9, 14, 15, 10, 11, 12, 13, 44, 45] (by decide +kernel) (by decide +kernel)
set_option maxRecDepth 20000 in
theorem gX3_isPastMiddle_X0_doubleTimes : GoodIn wsX3_isPastMiddle (wsV RX3 125 RX0 yX0_doubleTimes wsX0_doubleTimes) := goodIn_app (goodIn_of _ (by decide +kernel)) ggX3_isPastMiddle_X0_doubleTimes
set_option maxRecDepth 20000 in
theorem ggX3_isPastMiddle_X0_compareWith : GoodIn wsX3_isPastMiddle wsX0_compareWith := goodIn_r _ [31, 9, 24, 25, 26, 27, 14, 44, 45] (by decide +kernel) (by decide +kernel)
set_option maxRecDepth 20000 in
theorem gX3_isPastMiddle_X0_compareWith : GoodIn wsX3_isPastMiddle (wsV RX3 128 RX0 yX0_compareWith wsX0_compareWith) := goodIn_app (goodIn_of _ (by decide +kernel)) ggX3_isPastMiddle_X0_compareWith
theorem dX3_isPastMiddle_0 : decode cX3_isPastMiddle 0 = .ok (.aload_n 0, 1) := by decide +kernel
theorem dX3_isPastMiddle_1 : decode cX3_isPastMiddle 1 = .ok (.getfield 19, 3) := by decide +kernel
theorem dX3_isPastMiddle_4 : decode cX3_isPastMiddle 4 = .ok (.iload_n 1, 1) := by decide +kernel
theorem dX3_isPastMiddle_5 : decode cX3_isPastMiddle 5 = .ok (.i2l, 1) := by decide +kernel
theorem dX3_isPastMiddle_6 : decode cX3_isPastMiddle 6 = .ok (.iconst 2, 1) := by decide +kernel
theorem dX3_isPastMiddle_7 : decode cX3_isPastMiddle 7 = .ok (.aload_n 0, 1) := by decide +kernel
theorem dX3_isPastMiddle_8 : decode cX3_isPastMiddle 8 = .ok (.getfield 42, 3) := by decide +kernel
theorem dX3_isPastMiddle_11 : decode cX3_isPastMiddle 11 = .ok (.imul, 1) := by decide +kernel
theorem dX3_isPastMiddle_12 : decode cX3_isPastMiddle 12 = .ok (.invokevirtual 122, 3) := by decide +kernel
theorem dX3_isPastMiddle_15 : decode cX3_isPastMiddle 15 = .ok (.aload_n 0, 1) := by decide +kernel
theorem dX3_isPastMiddle_16 : decode cX3_isPastMiddle 16 = .ok (.getfield 23, 3) := by decide +kernel
theorem dX3_isPastMiddle_19 : decode cX3_isPastMiddle 19 = .ok (.iload_n 2, 1) := by decide +kernel
theorem dX3_isPastMiddle_20 : decode cX3_isPastMiddle 20 = .ok (.i2l, 1) := by decide +kernel
theorem dX3_isPastMiddle_21 : decode cX3_isPastMiddle 21 = .ok (.iconst 2, 1) := by decide +kernel
theorem dX3_isPastMiddle_22 : decode cX3_isPastMiddle 22 = .ok (.aload_n 0, 1) := by decide +kernel
theorem dX3_isPastMiddle_23 : decode cX3_isPastMiddle 23 = .ok (.getfield 42, 3) := by decide +kernel
theorem dX3_isPastMiddle_26 : decode cX3_isPastMiddle 26 = .ok (.imul, 1) := by decide +kernel
theorem dX3_isPastMiddle_27 : decode cX3_isPastMiddle 27 = .ok (.invokevirtual 122, 3) := by decide +kernel
theorem dX3_isPastMiddle_30 : decode cX3_isPastMiddle 30 = .ok (.aload_n 0, 1) := by decide +kernel
theorem dX3_isPastMiddle_31 : decode cX3_isPastMiddle 31 = .ok (.getfield 23, 3) := by decide +kernel
theorem dX3_isPastMiddle_34 : decode cX3_isPastMiddle 34 = .ok (.iconst 2, 1) := by decide +kernel
theorem dX3_isPastMiddle_35 : decode cX3_isPastMiddle 35 = .ok (.iload_n 3, 1) := by decide +kernel
theorem dX3_isPastMiddle_36 : decode cX3_isPastMiddle 36 = .ok (.imul, 1) := by decide +kernel
theorem dX3_isPastMiddle_37 : decode cX3_isPastMiddle 37 = .ok (.iconst 1, 1) := by decide +kernel
theorem dX3_isPastMiddle_38 : decode cX3_isPastMiddle 38 = .ok (.iadd, 1) := by decide +kernel
theorem dX3_isPastMiddle_39 : decode cX3_isPastMiddle 39 = .ok (.invokevirtual 125, 3) := by decide +kernel
theorem dX3_isPastMiddle_42 : decode cX3_isPastMiddle 42 = .ok (.aload_n 0, 1) := by decide +kernel
theorem dX3_isPastMiddle_43 : decode cX3_isPastMiddle 43 = .ok (.getfield 19, 3) := by decide +kernel
theorem dX3_isPastMiddle_46 : decode cX3_isPastMiddle 46 = .ok (.aload_n 0, 1) := by decide +kernel
theorem dX3_isPastMiddle_47 : decode cX3_isPastMiddle 47 = .ok (.getfield 23, 3) := by decide +kernel
theorem dX3_isPastMiddle_50 : decode cX3_isPastMiddle 50 = .ok (.invokevirtual 128, 3) := by decide +kernel
theorem dX3_isPastMiddle_53 : decode cX3_isPastMiddle 53 = .ok (.ifCond .le 7, 3) := by decide +kernel
theorem dX3_isPastMiddle_56 : decode cX3_isPastMiddle 56 = .ok (.iconst 1, 1) := by decide +kernel
theorem dX3_isPastMiddle_57 : decode cX3_isPastMiddle 57 = .ok (.goto 4, 3) := by decide +kernel
theorem dX3_isPastMiddle_60 : decode cX3_isPastMiddle 60 = .ok (.iconst 0, 1) := by decide +kernel
theorem dX3_isPastMiddle_61 : decode cX3_isPastMiddle 61 = .ok (.ireturn, 1) := by decide +kernel
set_option maxRecDepth 20000 in
theorem ggX3_rootsOfTwo_X3_rootOfTwo : GoodIn wsX3_rootsOfTwo wsX3_rootOfTwo := goodIn_r _ [9, 10] (by decide +kernel) (by decide +kernel)
set_option maxRecDepth 20000 in
theorem gX3_rootsOfTwo_X3_rootOfTwo : GoodIn wsX3_rootsOfTwo (va_wsS RX3 237 yX3_rootOfTwo wsX3_rootOfTwo) := goodIn_app (goodIn_of _ (by decide +kernel)) ggX3_rootsOfTwo_X3_rootOfTwo
theorem dX3_rootsOfTwo_0 : decode cX3_rootsOfTwo 0 = .ok (.iconst 1, 1) := by decide +kernel
theorem dX3_rootsOfTwo_1 : decode cX3_rootsOfTwo 1 = .ok (.iload_n 0, 1) := by decide +kernel
theorem dX3_rootsOfTwo_2 : decode cX3_rootsOfTwo 2 = .ok (.invokestatic 39, 3) := by decide +kernel
theorem dX3_rootsOfTwo_5 : decode cX3_rootsOfTwo 5 = .ok (.newarray .double, 2) := by decide +kernel
theorem dX3_rootsOfTwo_7 : decode cX3_rootsOfTwo 7 = .ok (.astore_n 1, 1) := by decide +kernel
theorem dX3_rootsOfTwo_8 : decode cX3_rootsOfTwo 8 = .ok (.iload_n 0, 1) := by decide +kernel
theorem dX3_rootsOfTwo_9 : decode cX3_rootsOfTwo 9 = .ok (.invokestatic 237, 3) := by decide +kernel
theorem dX3_rootsOfTwo_12 : decode cX3_rootsOfTwo 12 = .ok (.dstore_n 2, 1) := by decide +kernel
theorem dX3_rootsOfTwo_13 : decode cX3_rootsOfTwo 13 = .ok (.dconst 1, 1) := by decide +kernel
theorem dX3_rootsOfTwo_14 : decode cX3_rootsOfTwo 14 = .ok (.dstore 4, 2) := by decide +kernel
theorem dX3_rootsOfTwo_16 : decode cX3_rootsOfTwo 16 = .ok (.iconst 0, 1) := by decide +kernel
theorem dX3_rootsOfTwo_17 : decode cX3_rootsOfTwo 17 = .ok (.istore 6, 2) := by decide +kernel
theorem dX3_rootsOfTwo_19 : decode cX3_rootsOfTwo 19 = .ok (.iload 6, 2) := by decide +kernel
theorem dX3_rootsOfTwo_21 : decode cX3_rootsOfTwo 21 = .ok (.aload_n 1, 1) := by decide +kernel
theorem dX3_rootsOfTwo_22 : decode cX3_rootsOfTwo 22 = .ok (.arraylength, 1) := by decide +kernel
theorem dX3_rootsOfTwo_23 : decode cX3_rootsOfTwo 23 = .ok (.if_icmp .ge 21, 3) := by decide +kernel
theorem dX3_rootsOfTwo_26 : decode cX3_rootsOfTwo 26 = .ok (.aload_n 1, 1) := by decide +kernel
theorem dX3_rootsOfTwo_27 : decode cX3_rootsOfTwo 27 = .ok (.iload 6, 2) := by decide +kernel
theorem dX3_rootsOfTwo_29 : decode cX3_rootsOfTwo 29 = .ok (.dload 4, 2) := by decide +kernel
theorem dX3_rootsOfTwo_31 : decode cX3_rootsOfTwo 31 = .ok (.dastore, 1) := by decide +kernel
theorem dX3_rootsOfTwo_32 : decode cX3_rootsOfTwo 32 = .ok (.dload 4, 2) := by decide +kernel
theorem dX3_rootsOfTwo_34 : decode cX3_rootsOfTwo 34 = .ok (.dload_n 2, 1) := by decide +kernel
theorem dX3_rootsOfTwo_35 : decode cX3_rootsOfTwo 35 = .ok (.dmul, 1) := by decide +kernel
theorem dX3_rootsOfTwo_36 : decode cX3_rootsOfTwo 36 = .ok (.dstore 4, 2) := by decide +kernel
theorem dX3_rootsOfTwo_38 : decode cX3_rootsOfTwo 38 = .ok (.iinc 6 1, 3) := by decide +kernel
theorem dX3_rootsOfTwo_41 : decode cX3_rootsOfTwo 41 = .ok (.goto (-22), 3) := by decide +kernel
theorem dX3_rootsOfTwo_44 : decode cX3_rootsOfTwo 44 = .ok (.aload_n 1, 1) := by decide +kernel
theorem dX3_rootsOfTwo_45 : decode cX3_rootsOfTwo 45 = .ok (.areturn, 1) := by decide +kernel
theorem dX3_rootOfTwo_0 : decode cX3_rootOfTwo 0 = .ok (.dconst 1, 1) := by decide +kernel
theorem dX3_rootOfTwo_1 : decode cX3_rootOfTwo 1 = .ok (.dconst 1, 1) := by decide +kernel
theorem dX3_rootOfTwo_2 : decode cX3_rootOfTwo 2 = .ok (.iload_n 0, 1) := by decide +kernel
theorem dX3_rootOfTwo_3 : decode cX3_rootOfTwo 3 = .ok (.i2d, 1) := by decide +kernel
theorem dX3_rootOfTwo_4 : decode cX3_rootOfTwo 4 = .ok (.ddiv, 1) := by decide +kernel
theorem dX3_rootOfTwo_5 : decode cX3_rootOfTwo 5 = .ok (.dadd, 1) := by decide +kernel
theorem dX3_rootOfTwo_6 : decode cX3_rootOfTwo 6 = .ok (.dstore_n 1, 1) := by decide +kernel
theorem dX3_rootOfTwo_7 : decode cX3_rootOfTwo 7 = .ok (.iconst 0, 1) := by decide +kernel
theorem dX3_rootOfTwo_8 : decode cX3_rootOfTwo 8 = .ok (.istore_n 3, 1) := by decide +kernel
theorem dX3_rootOfTwo_9 : decode cX3_rootOfTwo 9 = .ok (.iload_n 3, 1) := by decide +kernel
theorem dX3_rootOfTwo_10 : decode cX3_rootOfTwo 10 = .ok (.bipush 8, 2) := by decide +kernel
theorem dX3_rootOfTwo_12 : decode cX3_rootOfTwo 12 = .ok (.if_icmp .ge 50, 3) := by decide +kernel
theorem dX3_rootOfTwo_15 : decode cX3_rootOfTwo 15 = .ok (.dconst 1, 1) := by decide +kernel
theorem dX3_rootOfTwo_16 : decode cX3_rootOfTwo 16 = .ok (.dstore 4, 2) := by decide +kernel
theorem dX3_rootOfTwo_18 : decode cX3_rootOfTwo 18 = .ok (.iconst 1, 1) := by decide +kernel
theorem dX3_rootOfTwo_19 : decode cX3_rootOfTwo 19 = .ok (.istore 6, 2) := by decide +kernel
theorem dX3_rootOfTwo_21 : decode cX3_rootOfTwo 21 = .ok (.iload 6, 2) := by decide +kernel
theorem dX3_rootOfTwo_23 : decode cX3_rootOfTwo 23 = .ok (.iload_n 0, 1) := by decide +kernel
theorem dX3_rootOfTwo_24 : decode cX3_rootOfTwo 24 = .ok (.if_icmp .ge 15, 3) := by decide +kernel
theorem dX3_rootOfTwo_27 : decode cX3_rootOfTwo 27 = .ok (.dload 4, 2) := by decide +kernel
theorem dX3_rootOfTwo_29 : decode cX3_rootOfTwo 29 = .ok (.dload_n 1, 1) := by decide +kernel
theorem dX3_rootOfTwo_30 : decode cX3_rootOfTwo 30 = .ok (.dmul, 1) := by decide +kernel
theorem dX3_rootOfTwo_31 : decode cX3_rootOfTwo 31 = .ok (.dstore 4, 2) := by decide +kernel
theorem dX3_rootOfTwo_33 : decode cX3_rootOfTwo 33 = .ok (.iinc 6 1, 3) := by decide +kernel
theorem dX3_rootOfTwo_36 : decode cX3_rootOfTwo 36 = .ok (.goto (-15), 3) := by decide +kernel
theorem dX3_rootOfTwo_39 : decode cX3_rootOfTwo 39 = .ok (.dload_n 1, 1) := by decide +kernel
theorem dX3_rootOfTwo_40 : decode cX3_rootOfTwo 40 = .ok (.dload 4, 2) := by decide +kernel
theorem dX3_rootOfTwo_42 : decode cX3_rootOfTwo 42 = .ok (.dload_n 1, 1) := by decide +kernel
theorem dX3_rootOfTwo_43 : decode cX3_rootOfTwo 43 = .ok (.dmul, 1) := by decide +kernel
theorem dX3_rootOfTwo_44 : decode cX3_rootOfTwo 44 = .ok (.ldc2_w 196, 3) := by decide +kernel
theorem dX3_rootOfTwo_47 : decode cX3_rootOfTwo 47 = .ok (.dsub, 1) := by decide +kernel
theorem dX3_rootOfTwo_48 : decode cX3_rootOfTwo 48 = .ok (.dload 4, 2) := by decide +kernel
theorem dX3_rootOfTwo_50 : decode cX3_rootOfTwo 50 = .ok (.iload_n 0, 1) := by decide +kernel
theorem dX3_rootOfTwo_51 : decode cX3_rootOfTwo 51 = .ok (.i2d, 1) := by decide +kernel
theorem dX3_rootOfTwo_52 : decode cX3_rootOfTwo 52 = .ok (.dmul, 1) := by decide +kernel
theorem dX3_rootOfTwo_53 : decode cX3_rootOfTwo 53 = .ok (.ddiv, 1) := by decide +kernel
theorem dX3_rootOfTwo_54 : decode cX3_rootOfTwo 54 = .ok (.dsub, 1) := by decide +kernel
theorem dX3_rootOfTwo_55 : decode cX3_rootOfTwo 55 = .ok (.dstore_n 1, 1) := by decide +kernel
theorem dX3_rootOfTwo_56 : decode cX3_rootOfTwo 56 = .ok (.iinc 3 1, 3) := by decide +kernel
theorem dX3_rootOfTwo_59 : decode cX3_rootOfTwo 59 = .ok (.goto (-50), 3) := by decide +kernel
theorem dX3_rootOfTwo_62 : decode cX3_rootOfTwo 62 = .ok (.dload_n 1, 1) := by decide +kernel
theorem dX3_rootOfTwo_63 : decode cX3_rootOfTwo 63 = .ok (.dreturn, 1) := by decide +kernel
theorem dX3_quotient_0 : decode cX3_quotient 0 = .ok (.lload_n 2, 1) := by decide +kernel
theorem dX3_quotient_1 : decode cX3_quotient 1 = .ok (.lconst 0, 1) := by decide +kernel
theorem dX3_quotient_2 : decode cX3_quotient 2 = .ok (.lcmp, 1) := by decide +kernel
theorem dX3_quotient_3 : decode cX3_quotient 3 = .ok (.ifCond .ne 7, 3) := by decide +kernel
theorem dX3_quotient_6 : decode cX3_quotient 6 = .ok (.lconst 0, 1) := by decide +kernel
theorem dX3_quotient_7 : decode cX3_quotient 7 = .ok (.goto 6, 3) := by decide +kernel
theorem dX3_quotient_10 : decode cX3_quotient 10 = .ok (.lload_n 0, 1) := by decide +kernel
theorem dX3_quotient_11 : decode cX3_quotient 11 = .ok (.lload_n 2, 1) := by decide +kernel
theorem dX3_quotient_12 : decode cX3_quotient 12 = .ok (.ldiv, 1) := by decide +kernel
theorem dX3_quotient_13 : decode cX3_quotient 13 = .ok (.lreturn, 1) := by decide +kernel
theorem dX3_commonDivisor_0 : decode cX3_commonDivisor 0 = .ok (.lload_n 0, 1) := by decide +kernel
theorem dX3_commonDivisor_1 : decode cX3_commonDivisor 1 = .ok (.lstore 4, 2) := by decide +kernel
theorem dX3_commonDivisor_3 : decode cX3_commonDivisor 3 = .ok (.lload_n 2, 1) := by decide +kernel
theorem dX3_commonDivisor_4 : decode cX3_commonDivisor 4 = .ok (.lstore 6, 2) := by decide +kernel
theorem dX3_commonDivisor_6 : decode cX3_commonDivisor 6 = .ok (.iconst 0, 1) := by decide +kernel
theorem dX3_commonDivisor_7 : decode cX3_commonDivisor 7 = .ok (.istore 8, 2) := by decide +kernel
theorem dX3_commonDivisor_9 : decode cX3_commonDivisor 9 = .ok (.iload 8, 2) := by decide +kernel
theorem dX3_commonDivisor_11 : decode cX3_commonDivisor 11 = .ok (.sipush 200, 3) := by decide +kernel
theorem dX3_commonDivisor_14 : decode cX3_commonDivisor 14 = .ok (.if_icmp .ge 31, 3) := by decide +kernel
theorem dX3_commonDivisor_17 : decode cX3_commonDivisor 17 = .ok (.lload 6, 2) := by decide +kernel
theorem dX3_commonDivisor_19 : decode cX3_commonDivisor 19 = .ok (.lconst 0, 1) := by decide +kernel
theorem dX3_commonDivisor_20 : decode cX3_commonDivisor 20 = .ok (.lcmp, 1) := by decide +kernel
theorem dX3_commonDivisor_21 : decode cX3_commonDivisor 21 = .ok (.ifCond .eq 24, 3) := by decide +kernel
theorem dX3_commonDivisor_24 : decode cX3_commonDivisor 24 = .ok (.lload 4, 2) := by decide +kernel
theorem dX3_commonDivisor_26 : decode cX3_commonDivisor 26 = .ok (.lload 6, 2) := by decide +kernel
theorem dX3_commonDivisor_28 : decode cX3_commonDivisor 28 = .ok (.lrem, 1) := by decide +kernel
theorem dX3_commonDivisor_29 : decode cX3_commonDivisor 29 = .ok (.lstore 9, 2) := by decide +kernel
theorem dX3_commonDivisor_31 : decode cX3_commonDivisor 31 = .ok (.lload 6, 2) := by decide +kernel
theorem dX3_commonDivisor_33 : decode cX3_commonDivisor 33 = .ok (.lstore 4, 2) := by decide +kernel
theorem dX3_commonDivisor_35 : decode cX3_commonDivisor 35 = .ok (.lload 9, 2) := by decide +kernel
theorem dX3_commonDivisor_37 : decode cX3_commonDivisor 37 = .ok (.lstore 6, 2) := by decide +kernel
theorem dX3_commonDivisor_39 : decode cX3_commonDivisor 39 = .ok (.iinc 8 1, 3) := by decide +kernel
theorem dX3_commonDivisor_42 : decode cX3_commonDivisor 42 = .ok (.goto (-33), 3) := by decide +kernel
theorem dX3_commonDivisor_45 : decode cX3_commonDivisor 45 = .ok (.lload 4, 2) := by decide +kernel
theorem dX3_commonDivisor_47 : decode cX3_commonDivisor 47 = .ok (.lreturn, 1) := by decide +kernel
theorem dX4_init_0 : decode cX4_init 0 = .ok (.aload_n 0, 1) := by decide +kernel
theorem dX4_init_1 : decode cX4_init 1 = .ok (.invokespecial 1, 3) := by decide +kernel
theorem dX4_init_4 : decode cX4_init 4 = .ok (.aload_n 0, 1) := by decide +kernel
theorem dX4_init_5 : decode cX4_init 5 = .ok (.ldc2_w 7, 3) := by decide +kernel
theorem dX4_init_8 : decode cX4_init 8 = .ok (.putfield 9, 3) := by decide +kernel
theorem dX4_init_11 : decode cX4_init 11 = .ok (.aload_n 0, 1) := by decide +kernel
theorem dX4_init_12 : decode cX4_init 12 = .ok (.bipush 8, 2) := by decide +kernel
theorem dX4_init_14 : decode cX4_init 14 = .ok (.putfield 15, 3) := by decide +kernel
theorem dX4_init_17 : decode cX4_init 17 = .ok (.aload_n 0, 1) := by decide +kernel
theorem dX4_init_18 : decode cX4_init 18 = .ok (.bipush 49, 2) := by decide +kernel
theorem dX4_init_20 : decode cX4_init 20 = .ok (.newarray .int, 2) := by decide +kernel
theorem dX4_init_22 : decode cX4_init 22 = .ok (.putfield 19, 3) := by decide +kernel
theorem dX4_init_25 : decode cX4_init 25 = .ok (.aload_n 0, 1) := by decide +kernel
theorem dX4_init_26 : decode cX4_init 26 = .ok (.bipush 49, 2) := by decide +kernel
theorem dX4_init_28 : decode cX4_init 28 = .ok (.newarray .int, 2) := by decide +kernel
theorem dX4_init_30 : decode cX4_init 30 = .ok (.putfield 23, 3) := by decide +kernel
theorem dX4_init_33 : decode cX4_init 33 = .ok (.aload_n 0, 1) := by decide +kernel
theorem dX4_init_34 : decode cX4_init 34 = .ok (.lconst 1, 1) := by decide +kernel
theorem dX4_init_35 : decode cX4_init 35 = .ok (.putfield 26, 3) := by decide +kernel
theorem dX4_init_38 : decode cX4_init 38 = .ok (.aload_n 0, 1) := by decide +kernel
theorem dX4_init_39 : decode cX4_init 39 = .ok (.lconst 1, 1) := by decide +kernel
theorem dX4_init_40 : decode cX4_init 40 = .ok (.putfield 29, 3) := by decide +kernel
theorem dX4_init_43 : decode cX4_init 43 = .ok (.aload_n 0, 1) := by decide +kernel
theorem dX4_init_44 : decode cX4_init 44 = .ok (.sipush 1000, 3) := by decide +kernel
theorem dX4_init_47 : decode cX4_init 47 = .ok (.putfield 32, 3) := by decide +kernel
theorem dX4_init_50 : decode cX4_init 50 = .ok (.aload_n 0, 1) := by decide +kernel
theorem dX4_init_51 : decode cX4_init 51 = .ok (.sipush 1000, 3) := by decide +kernel
theorem dX4_init_54 : decode cX4_init 54 = .ok (.putfield 35, 3) := by decide +kernel
theorem dX4_init_57 : decode cX4_init 57 = .ok (.aload_n 0, 1) := by decide +kernel
theorem dX4_init_58 : decode cX4_init 58 = .ok (.iconst 1, 1) := by decide +kernel
theorem dX4_init_59 : decode cX4_init 59 = .ok (.putfield 38, 3) := by decide +kernel
theorem dX4_init_62 : decode cX4_init 62 = .ok (.aload_n 0, 1) := by decide +kernel
theorem dX4_init_63 : decode cX4_init 63 = .ok (.sipush 152, 3) := by decide +kernel
theorem dX4_init_66 : decode cX4_init 66 = .ok (.newarray .int, 2) := by decide +kernel
theorem dX4_init_68 : decode cX4_init 68 = .ok (.putfield 41, 3) := by decide +kernel
theorem dX4_init_71 : decode cX4_init 71 = .ok (.aload_n 0, 1) := by decide +kernel
theorem dX4_init_72 : decode cX4_init 72 = .ok (.iload_n 1, 1) := by decide +kernel
theorem dX4_init_73 : decode cX4_init 73 = .ok (.iconst 1, 1) := by decide +kernel
theorem dX4_init_74 : decode cX4_init 74 = .ok (.if_icmp .ge 7, 3) := by decide +kernel
theorem dX4_init_77 : decode cX4_init 77 = .ok (.iconst 1, 1) := by decide +kernel
theorem dX4_init_78 : decode cX4_init 78 = .ok (.goto 15, 3) := by decide +kernel
theorem dX4_init_81 : decode cX4_init 81 = .ok (.iload_n 1, 1) := by decide +kernel
theorem dX4_init_82 : decode cX4_init 82 = .ok (.bipush 24, 2) := by decide +kernel
theorem dX4_init_84 : decode cX4_init 84 = .ok (.if_icmp .le 8, 3) := by decide +kernel
theorem dX4_init_87 : decode cX4_init 87 = .ok (.bipush 24, 2) := by decide +kernel
theorem dX4_init_89 : decode cX4_init 89 = .ok (.goto 4, 3) := by decide +kernel
theorem dX4_init_92 : decode cX4_init 92 = .ok (.iload_n 1, 1) := by decide +kernel
theorem dX4_init_93 : decode cX4_init 93 = .ok (.putfield 44, 3) := by decide +kernel
theorem dX4_init_96 : decode cX4_init 96 = .ok (.iconst 0, 1) := by decide +kernel
theorem dX4_init_97 : decode cX4_init 97 = .ok (.istore_n 2, 1) := by decide +kernel
theorem dX4_init_98 : decode cX4_init 98 = .ok (.iload_n 2, 1) := by decide +kernel
theorem dX4_init_99 : decode cX4_init 99 = .ok (.bipush 49, 2) := by decide +kernel
theorem dX4_init_101 : decode cX4_init 101 = .ok (.if_icmp .ge 23, 3) := by decide +kernel
theorem dX4_init_104 : decode cX4_init 104 = .ok (.aload_n 0, 1) := by decide +kernel
theorem dX4_init_105 : decode cX4_init 105 = .ok (.getfield 19, 3) := by decide +kernel
theorem dX4_init_108 : decode cX4_init 108 = .ok (.iload_n 2, 1) := by decide +kernel
theorem dX4_init_109 : decode cX4_init 109 = .ok (.iconst 1, 1) := by decide +kernel
theorem dX4_init_110 : decode cX4_init 110 = .ok (.iastore, 1) := by decide +kernel
theorem dX4_init_111 : decode cX4_init 111 = .ok (.aload_n 0, 1) := by decide +kernel
theorem dX4_init_112 : decode cX4_init 112 = .ok (.getfield 23, 3) := by decide +kernel
theorem dX4_init_115 : decode cX4_init 115 = .ok (.iload_n 2, 1) := by decide +kernel
theorem dX4_init_116 : decode cX4_init 116 = .ok (.iconst 1, 1) := by decide +kernel
theorem dX4_init_117 : decode cX4_init 117 = .ok (.iastore, 1) := by decide +kernel
theorem dX4_init_118 : decode cX4_init 118 = .ok (.iinc 2 1, 3) := by decide +kernel
theorem dX4_init_121 : decode cX4_init 121 = .ok (.goto (-23), 3) := by decide +kernel
theorem dX4_init_124 : decode cX4_init 124 = .ok (.return_, 1) := by decide +kernel
theorem dX4_thrown_0 : decode cX4_thrown 0 = .ok (.aload_n 0, 1) := by decide +kernel
theorem dX4_thrown_1 : decode cX4_thrown 1 = .ok (.getfield 47, 3) := by decide +kernel
theorem dX4_thrown_4 : decode cX4_thrown 4 = .ok (.ireturn, 1) := by decide +kernel
theorem dX4_isIn_0 : decode cX4_isIn 0 = .ok (.lload_n 0, 1) := by decide +kernel
theorem dX4_isIn_1 : decode cX4_isIn 1 = .ok (.lload_n 2, 1) := by decide +kernel
theorem dX4_isIn_2 : decode cX4_isIn 2 = .ok (.lcmp, 1) := by decide +kernel
theorem dX4_isIn_3 : decode cX4_isIn 3 = .ok (.ifCond .lt 14, 3) := by decide +kernel
theorem dX4_isIn_6 : decode cX4_isIn 6 = .ok (.lload_n 0, 1) := by decide +kernel
theorem dX4_isIn_7 : decode cX4_isIn 7 = .ok (.lload 4, 2) := by decide +kernel
theorem dX4_isIn_9 : decode cX4_isIn 9 = .ok (.lcmp, 1) := by decide +kernel
theorem dX4_isIn_10 : decode cX4_isIn 10 = .ok (.ifCond .gt 7, 3) := by decide +kernel
theorem dX4_isIn_13 : decode cX4_isIn 13 = .ok (.iconst 1, 1) := by decide +kernel
theorem dX4_isIn_14 : decode cX4_isIn 14 = .ok (.goto 4, 3) := by decide +kernel
theorem dX4_isIn_17 : decode cX4_isIn 17 = .ok (.iconst 0, 1) := by decide +kernel
theorem dX4_isIn_18 : decode cX4_isIn 18 = .ok (.ireturn, 1) := by decide +kernel
set_option maxRecDepth 20000 in
theorem ggX4_noPlace_X4_isIn : GoodIn wsX4_noPlace wsX4_isIn := goodIn_r _ [6] (by decide +kernel) (by decide +kernel)
set_option maxRecDepth 20000 in
theorem gX4_noPlace_X4_isIn : GoodIn wsX4_noPlace (va_wsS RX4 52 yX4_isIn wsX4_isIn) := goodIn_app (goodIn_of _ (by decide +kernel)) ggX4_noPlace_X4_isIn
theorem dX4_noPlace_0 : decode cX4_noPlace 0 = .ok (.iload_n 1, 1) := by decide +kernel
theorem dX4_noPlace_1 : decode cX4_noPlace 1 = .ok (.i2l, 1) := by decide +kernel
theorem dX4_noPlace_2 : decode cX4_noPlace 2 = .ok (.lconst 0, 1) := by decide +kernel
theorem dX4_noPlace_3 : decode cX4_noPlace 3 = .ok (.ldc2_w 50, 3) := by decide +kernel
theorem dX4_noPlace_6 : decode cX4_noPlace 6 = .ok (.aload_n 0, 1) := by decide +kernel
theorem dX4_noPlace_7 : decode cX4_noPlace 7 = .ok (.getfield 44, 3) := by decide +kernel
theorem dX4_noPlace_10 : decode cX4_noPlace 10 = .ok (.i2l, 1) := by decide +kernel
theorem dX4_noPlace_11 : decode cX4_noPlace 11 = .ok (.lmul, 1) := by decide +kernel
theorem dX4_noPlace_12 : decode cX4_noPlace 12 = .ok (.invokestatic 52, 3) := by decide +kernel
theorem dX4_noPlace_15 : decode cX4_noPlace 15 = .ok (.ifCond .ne 7, 3) := by decide +kernel
theorem dX4_noPlace_18 : decode cX4_noPlace 18 = .ok (.iconst 1, 1) := by decide +kernel
theorem dX4_noPlace_19 : decode cX4_noPlace 19 = .ok (.goto 4, 3) := by decide +kernel
theorem dX4_noPlace_22 : decode cX4_noPlace 22 = .ok (.iconst 0, 1) := by decide +kernel
theorem dX4_noPlace_23 : decode cX4_noPlace 23 = .ok (.ireturn, 1) := by decide +kernel
theorem dX4_set_0 : decode cX4_set 0 = .ok (.iconst 0, 1) := by decide +kernel
theorem dX4_set_1 : decode cX4_set 1 = .ok (.istore 4, 2) := by decide +kernel
theorem dX4_set_3 : decode cX4_set 3 = .ok (.iload 4, 2) := by decide +kernel
theorem dX4_set_5 : decode cX4_set 5 = .ok (.bipush 76, 2) := by decide +kernel
theorem dX4_set_7 : decode cX4_set 7 = .ok (.if_icmp .ge 43, 3) := by decide +kernel
theorem dX4_set_10 : decode cX4_set 10 = .ok (.aload_n 0, 1) := by decide +kernel
theorem dX4_set_11 : decode cX4_set 11 = .ok (.getfield 41, 3) := by decide +kernel
theorem dX4_set_14 : decode cX4_set 14 = .ok (.bipush 76, 2) := by decide +kernel
theorem dX4_set_16 : decode cX4_set 16 = .ok (.iload_n 1, 1) := by decide +kernel
theorem dX4_set_17 : decode cX4_set 17 = .ok (.imul, 1) := by decide +kernel
theorem dX4_set_18 : decode cX4_set 18 = .ok (.iload 4, 2) := by decide +kernel
theorem dX4_set_20 : decode cX4_set 20 = .ok (.iadd, 1) := by decide +kernel
theorem dX4_set_21 : decode cX4_set 21 = .ok (.iload 4, 2) := by decide +kernel
theorem dX4_set_23 : decode cX4_set 23 = .ok (.iconst 5, 1) := by decide +kernel
theorem dX4_set_24 : decode cX4_set 24 = .ok (.if_icmp .ge 18, 3) := by decide +kernel
theorem dX4_set_27 : decode cX4_set 27 = .ok (.lload_n 2, 1) := by decide +kernel
theorem dX4_set_28 : decode cX4_set 28 = .ok (.bipush 15, 2) := by decide +kernel
theorem dX4_set_30 : decode cX4_set 30 = .ok (.iload 4, 2) := by decide +kernel
theorem dX4_set_32 : decode cX4_set 32 = .ok (.imul, 1) := by decide +kernel
theorem dX4_set_33 : decode cX4_set 33 = .ok (.lshr, 1) := by decide +kernel
theorem dX4_set_34 : decode cX4_set 34 = .ok (.l2i, 1) := by decide +kernel
theorem dX4_set_35 : decode cX4_set 35 = .ok (.sipush 32767, 3) := by decide +kernel
theorem dX4_set_38 : decode cX4_set 38 = .ok (.iand, 1) := by decide +kernel
theorem dX4_set_39 : decode cX4_set 39 = .ok (.goto 4, 3) := by decide +kernel
theorem dX4_set_42 : decode cX4_set 42 = .ok (.iconst 0, 1) := by decide +kernel
theorem dX4_set_43 : decode cX4_set 43 = .ok (.iastore, 1) := by decide +kernel
theorem dX4_set_44 : decode cX4_set 44 = .ok (.iinc 4 1, 3) := by decide +kernel
theorem dX4_set_47 : decode cX4_set 47 = .ok (.goto (-44), 3) := by decide +kernel
theorem dX4_set_50 : decode cX4_set 50 = .ok (.return_, 1) := by decide +kernel
theorem dX4_times_0 : decode cX4_times 0 = .ok (.lload_n 2, 1) := by decide +kernel
theorem dX4_times_1 : decode cX4_times 1 = .ok (.ldc2_w 56, 3) := by decide +kernel
theorem dX4_times_4 : decode cX4_times 4 = .ok (.land, 1) := by decide +kernel
theorem dX4_times_5 : decode cX4_times 5 = .ok (.lstore 4, 2) := by decide +kernel
theorem dX4_times_7 : decode cX4_times 7 = .ok (.lload_n 2, 1) := by decide +kernel
theorem dX4_times_8 : decode cX4_times 8 = .ok (.bipush 15, 2) := by decide +kernel
theorem dX4_times_10 : decode cX4_times 10 = .ok (.lshr, 1) := by decide +kernel
theorem dX4_times_11 : decode cX4_times 11 = .ok (.ldc2_w 56, 3) := by decide +kernel
theorem dX4_times_14 : decode cX4_times 14 = .ok (.land, 1) := by decide +kernel
theorem dX4_times_15 : decode cX4_times 15 = .ok (.lstore 6, 2) := by decide +kernel
theorem dX4_times_17 : decode cX4_times 17 = .ok (.lload_n 2, 1) := by decide +kernel
theorem dX4_times_18 : decode cX4_times 18 = .ok (.bipush 30, 2) := by decide +kernel
theorem dX4_times_20 : decode cX4_times 20 = .ok (.lshr, 1) := by decide +kernel
theorem dX4_times_21 : decode cX4_times 21 = .ok (.lstore 8, 2) := by decide +kernel
theorem dX4_times_23 : decode cX4_times 23 = .ok (.lconst 0, 1) := by decide +kernel
theorem dX4_times_24 : decode cX4_times 24 = .ok (.lstore 10, 2) := by decide +kernel
theorem dX4_times_26 : decode cX4_times 26 = .ok (.lconst 0, 1) := by decide +kernel
theorem dX4_times_27 : decode cX4_times 27 = .ok (.lstore 12, 2) := by decide +kernel
theorem dX4_times_29 : decode cX4_times 29 = .ok (.lconst 0, 1) := by decide +kernel
theorem dX4_times_30 : decode cX4_times 30 = .ok (.lstore 14, 2) := by decide +kernel
theorem dX4_times_32 : decode cX4_times 32 = .ok (.iconst 0, 1) := by decide +kernel
theorem dX4_times_33 : decode cX4_times 33 = .ok (.istore 16, 2) := by decide +kernel
theorem dX4_times_35 : decode cX4_times 35 = .ok (.iload 16, 2) := by decide +kernel
theorem dX4_times_37 : decode cX4_times 37 = .ok (.bipush 76, 2) := by decide +kernel
theorem dX4_times_39 : decode cX4_times 39 = .ok (.if_icmp .ge 80, 3) := by decide +kernel
theorem dX4_times_42 : decode cX4_times 42 = .ok (.aload_n 0, 1) := by decide +kernel
theorem dX4_times_43 : decode cX4_times 43 = .ok (.getfield 41, 3) := by decide +kernel
theorem dX4_times_46 : decode cX4_times 46 = .ok (.bipush 76, 2) := by decide +kernel
theorem dX4_times_48 : decode cX4_times 48 = .ok (.iload_n 1, 1) := by decide +kernel
theorem dX4_times_49 : decode cX4_times 49 = .ok (.imul, 1) := by decide +kernel
theorem dX4_times_50 : decode cX4_times 50 = .ok (.iload 16, 2) := by decide +kernel
theorem dX4_times_52 : decode cX4_times 52 = .ok (.iadd, 1) := by decide +kernel
theorem dX4_times_53 : decode cX4_times 53 = .ok (.iaload, 1) := by decide +kernel
theorem dX4_times_54 : decode cX4_times 54 = .ok (.i2l, 1) := by decide +kernel
theorem dX4_times_55 : decode cX4_times 55 = .ok (.lstore 17, 2) := by decide +kernel
theorem dX4_times_57 : decode cX4_times 57 = .ok (.lload 17, 2) := by decide +kernel
theorem dX4_times_59 : decode cX4_times 59 = .ok (.lload 4, 2) := by decide +kernel
theorem dX4_times_61 : decode cX4_times 61 = .ok (.lmul, 1) := by decide +kernel
theorem dX4_times_62 : decode cX4_times 62 = .ok (.lload 12, 2) := by decide +kernel
theorem dX4_times_64 : decode cX4_times 64 = .ok (.lload 6, 2) := by decide +kernel
theorem dX4_times_66 : decode cX4_times 66 = .ok (.lmul, 1) := by decide +kernel
theorem dX4_times_67 : decode cX4_times 67 = .ok (.ladd, 1) := by decide +kernel
theorem dX4_times_68 : decode cX4_times 68 = .ok (.lload 14, 2) := by decide +kernel
theorem dX4_times_70 : decode cX4_times 70 = .ok (.lload 8, 2) := by decide +kernel
theorem dX4_times_72 : decode cX4_times 72 = .ok (.lmul, 1) := by decide +kernel
theorem dX4_times_73 : decode cX4_times 73 = .ok (.ladd, 1) := by decide +kernel
theorem dX4_times_74 : decode cX4_times 74 = .ok (.lload 10, 2) := by decide +kernel
theorem dX4_times_76 : decode cX4_times 76 = .ok (.ladd, 1) := by decide +kernel
theorem dX4_times_77 : decode cX4_times 77 = .ok (.lstore 19, 2) := by decide +kernel
theorem dX4_times_79 : decode cX4_times 79 = .ok (.aload_n 0, 1) := by decide +kernel
theorem dX4_times_80 : decode cX4_times 80 = .ok (.getfield 41, 3) := by decide +kernel
theorem dX4_times_83 : decode cX4_times 83 = .ok (.bipush 76, 2) := by decide +kernel
theorem dX4_times_85 : decode cX4_times 85 = .ok (.iload_n 1, 1) := by decide +kernel
theorem dX4_times_86 : decode cX4_times 86 = .ok (.imul, 1) := by decide +kernel
theorem dX4_times_87 : decode cX4_times 87 = .ok (.iload 16, 2) := by decide +kernel
theorem dX4_times_89 : decode cX4_times 89 = .ok (.iadd, 1) := by decide +kernel
theorem dX4_times_90 : decode cX4_times 90 = .ok (.lload 19, 2) := by decide +kernel
theorem dX4_times_92 : decode cX4_times 92 = .ok (.ldc2_w 56, 3) := by decide +kernel
theorem dX4_times_95 : decode cX4_times 95 = .ok (.land, 1) := by decide +kernel
theorem dX4_times_96 : decode cX4_times 96 = .ok (.l2i, 1) := by decide +kernel
theorem dX4_times_97 : decode cX4_times 97 = .ok (.iastore, 1) := by decide +kernel
theorem dX4_times_98 : decode cX4_times 98 = .ok (.lload 19, 2) := by decide +kernel
theorem dX4_times_100 : decode cX4_times 100 = .ok (.bipush 15, 2) := by decide +kernel
theorem dX4_times_102 : decode cX4_times 102 = .ok (.lshr, 1) := by decide +kernel
theorem dX4_times_103 : decode cX4_times 103 = .ok (.lstore 10, 2) := by decide +kernel
theorem dX4_times_105 : decode cX4_times 105 = .ok (.lload 12, 2) := by decide +kernel
theorem dX4_times_107 : decode cX4_times 107 = .ok (.lstore 14, 2) := by decide +kernel
theorem dX4_times_109 : decode cX4_times 109 = .ok (.lload 17, 2) := by decide +kernel
theorem dX4_times_111 : decode cX4_times 111 = .ok (.lstore 12, 2) := by decide +kernel
theorem dX4_times_113 : decode cX4_times 113 = .ok (.iinc 16 1, 3) := by decide +kernel
theorem dX4_times_116 : decode cX4_times 116 = .ok (.goto (-81), 3) := by decide +kernel
theorem dX4_times_119 : decode cX4_times 119 = .ok (.return_, 1) := by decide +kernel
set_option maxRecDepth 20000 in
theorem ggX4_power_X4_set : GoodIn wsX4_power wsX4_set := goodIn_r _ [5, 6, 12, 13, 14, 15, 16, 17, 18, 19, 20, 21, 22, 23, 24, 25] (by decide +kernel) (by decide +kernel)
set_option maxRecDepth 20000 in
theorem gX4_power_X4_set : GoodIn wsX4_power (wsV RX4 58 RX4 yX4_set wsX4_set) := goodIn_app (goodIn_of _ (by decide +kernel)) ggX4_power_X4_set
set_option maxRecDepth 20000 in
theorem ggX4_power_X4_times : GoodIn wsX4_power wsX4_times := goodIn_r _ [10, 11, 6, 12, 13, 14, 15, 16, 17, 18, 19, 20, 21, 22, 23, 24, 25] (by decide +kernel) (by decide +kernel)
set_option maxRecDepth 20000 in
theorem gX4_power_X4_times : GoodIn wsX4_power (wsV RX4 62 RX4 yX4_times wsX4_times) := goodIn_app (goodIn_of _ (by decide +kernel)) ggX4_power_X4_times
theorem dX4_power_0 : decode cX4_power 0 = .ok (.aload_n 0, 1) := by decide +kernel
theorem dX4_power_1 : decode cX4_power 1 = .ok (.iload_n 1, 1) := by decide +kernel
theorem dX4_power_2 : decode cX4_power 2 = .ok (.lconst 1, 1) := by decide +kernel
theorem dX4_power_3 : decode cX4_power 3 = .ok (.invokevirtual 58, 3) := by decide +kernel
theorem dX4_power_6 : decode cX4_power 6 = .ok (.iconst 0, 1) := by decide +kernel
theorem dX4_power_7 : decode cX4_power 7 = .ok (.istore 5, 2) := by decide +kernel
theorem dX4_power_9 : decode cX4_power 9 = .ok (.iload 5, 2) := by decide +kernel
theorem dX4_power_11 : decode cX4_power 11 = .ok (.iload 4, 2) := by decide +kernel
theorem dX4_power_13 : decode cX4_power 13 = .ok (.if_icmp .ge 15, 3) := by decide +kernel
theorem dX4_power_16 : decode cX4_power 16 = .ok (.aload_n 0, 1) := by decide +kernel
theorem dX4_power_17 : decode cX4_power 17 = .ok (.iload_n 1, 1) := by decide +kernel
theorem dX4_power_18 : decode cX4_power 18 = .ok (.lload_n 2, 1) := by decide +kernel
theorem dX4_power_19 : decode cX4_power 19 = .ok (.invokevirtual 62, 3) := by decide +kernel
theorem dX4_power_22 : decode cX4_power 22 = .ok (.iinc 5 1, 3) := by decide +kernel
theorem dX4_power_25 : decode cX4_power 25 = .ok (.goto (-16), 3) := by decide +kernel
theorem dX4_power_28 : decode cX4_power 28 = .ok (.return_, 1) := by decide +kernel
set_option maxRecDepth 20000 in
theorem ggX4_twice_X4_times : GoodIn wsX4_twice wsX4_times := goodIn_r _ [6, 7, 8, 9, 10, 11, 12, 13, 14, 15, 16, 17, 18, 19, 20, 21, 22] (by decide +kernel) (by decide +kernel)
set_option maxRecDepth 20000 in
theorem gX4_twice_X4_times : GoodIn wsX4_twice (wsV RX4 62 RX4 yX4_times wsX4_times) := goodIn_app (goodIn_of _ (by decide +kernel)) ggX4_twice_X4_times
theorem dX4_twice_0 : decode cX4_twice 0 = .ok (.iconst 0, 1) := by decide +kernel
theorem dX4_twice_1 : decode cX4_twice 1 = .ok (.istore_n 3, 1) := by decide +kernel
theorem dX4_twice_2 : decode cX4_twice 2 = .ok (.iload_n 3, 1) := by decide +kernel
theorem dX4_twice_3 : decode cX4_twice 3 = .ok (.iload_n 2, 1) := by decide +kernel
theorem dX4_twice_4 : decode cX4_twice 4 = .ok (.if_icmp .ge 17, 3) := by decide +kernel
theorem dX4_twice_7 : decode cX4_twice 7 = .ok (.aload_n 0, 1) := by decide +kernel
theorem dX4_twice_8 : decode cX4_twice 8 = .ok (.iload_n 1, 1) := by decide +kernel
theorem dX4_twice_9 : decode cX4_twice 9 = .ok (.ldc2_w 50, 3) := by decide +kernel
theorem dX4_twice_12 : decode cX4_twice 12 = .ok (.invokevirtual 62, 3) := by decide +kernel
theorem dX4_twice_15 : decode cX4_twice 15 = .ok (.iinc 3 1, 3) := by decide +kernel
theorem dX4_twice_18 : decode cX4_twice 18 = .ok (.goto (-16), 3) := by decide +kernel
theorem dX4_twice_21 : decode cX4_twice 21 = .ok (.return_, 1) := by decide +kernel
theorem dX4_compare_0 : decode cX4_compare 0 = .ok (.bipush 75, 2) := by decide +kernel
theorem dX4_compare_2 : decode cX4_compare 2 = .ok (.istore_n 1, 1) := by decide +kernel
theorem dX4_compare_3 : decode cX4_compare 3 = .ok (.iload_n 1, 1) := by decide +kernel
theorem dX4_compare_4 : decode cX4_compare 4 = .ok (.ifCond .lt 40, 3) := by decide +kernel
theorem dX4_compare_7 : decode cX4_compare 7 = .ok (.aload_n 0, 1) := by decide +kernel
theorem dX4_compare_8 : decode cX4_compare 8 = .ok (.getfield 41, 3) := by decide +kernel
theorem dX4_compare_11 : decode cX4_compare 11 = .ok (.iload_n 1, 1) := by decide +kernel
theorem dX4_compare_12 : decode cX4_compare 12 = .ok (.iaload, 1) := by decide +kernel
theorem dX4_compare_13 : decode cX4_compare 13 = .ok (.aload_n 0, 1) := by decide +kernel
theorem dX4_compare_14 : decode cX4_compare 14 = .ok (.getfield 41, 3) := by decide +kernel
theorem dX4_compare_17 : decode cX4_compare 17 = .ok (.bipush 76, 2) := by decide +kernel
theorem dX4_compare_19 : decode cX4_compare 19 = .ok (.iload_n 1, 1) := by decide +kernel
theorem dX4_compare_20 : decode cX4_compare 20 = .ok (.iadd, 1) := by decide +kernel
theorem dX4_compare_21 : decode cX4_compare 21 = .ok (.iaload, 1) := by decide +kernel
theorem dX4_compare_22 : decode cX4_compare 22 = .ok (.isub, 1) := by decide +kernel
theorem dX4_compare_23 : decode cX4_compare 23 = .ok (.istore_n 2, 1) := by decide +kernel
theorem dX4_compare_24 : decode cX4_compare 24 = .ok (.iload_n 2, 1) := by decide +kernel
theorem dX4_compare_25 : decode cX4_compare 25 = .ok (.ifCond .eq 13, 3) := by decide +kernel
theorem dX4_compare_28 : decode cX4_compare 28 = .ok (.iload_n 2, 1) := by decide +kernel
theorem dX4_compare_29 : decode cX4_compare 29 = .ok (.ifCond .ge 7, 3) := by decide +kernel
theorem dX4_compare_32 : decode cX4_compare 32 = .ok (.iconst (-1), 1) := by decide +kernel
theorem dX4_compare_33 : decode cX4_compare 33 = .ok (.goto 4, 3) := by decide +kernel
theorem dX4_compare_36 : decode cX4_compare 36 = .ok (.iconst 1, 1) := by decide +kernel
theorem dX4_compare_37 : decode cX4_compare 37 = .ok (.ireturn, 1) := by decide +kernel
theorem dX4_compare_38 : decode cX4_compare 38 = .ok (.iinc 1 (-1), 3) := by decide +kernel
theorem dX4_compare_41 : decode cX4_compare 41 = .ok (.goto (-38), 3) := by decide +kernel
theorem dX4_compare_44 : decode cX4_compare 44 = .ok (.iconst 0, 1) := by decide +kernel
theorem dX4_compare_45 : decode cX4_compare 45 = .ok (.ireturn, 1) := by decide +kernel
set_option maxRecDepth 20000 in
theorem ggX4_scale_X4_isIn : GoodIn wsX4_scale wsX4_isIn := goodIn_r _ [9] (by decide +kernel) (by decide +kernel)
set_option maxRecDepth 20000 in
theorem gX4_scale_X4_isIn : GoodIn wsX4_scale (va_wsS RX4 52 yX4_isIn wsX4_isIn) := goodIn_app (goodIn_of _ (by decide +kernel)) ggX4_scale_X4_isIn
theorem dX4_scale_0 : decode cX4_scale 0 = .ok (.aload_n 0, 1) := by decide +kernel
theorem dX4_scale_1 : decode cX4_scale 1 = .ok (.lload_n 1, 1) := by decide +kernel
theorem dX4_scale_2 : decode cX4_scale 2 = .ok (.lconst 1, 1) := by decide +kernel
theorem dX4_scale_3 : decode cX4_scale 3 = .ok (.ldc2_w 65, 3) := by decide +kernel
theorem dX4_scale_6 : decode cX4_scale 6 = .ok (.invokestatic 52, 3) := by decide +kernel
theorem dX4_scale_9 : decode cX4_scale 9 = .ok (.ifCond .eq 19, 3) := by decide +kernel
theorem dX4_scale_12 : decode cX4_scale 12 = .ok (.iload_n 3, 1) := by decide +kernel
theorem dX4_scale_13 : decode cX4_scale 13 = .ok (.i2l, 1) := by decide +kernel
theorem dX4_scale_14 : decode cX4_scale 14 = .ok (.lconst 0, 1) := by decide +kernel
theorem dX4_scale_15 : decode cX4_scale 15 = .ok (.ldc2_w 67, 3) := by decide +kernel
theorem dX4_scale_18 : decode cX4_scale 18 = .ok (.invokestatic 52, 3) := by decide +kernel
theorem dX4_scale_21 : decode cX4_scale 21 = .ok (.ifCond .eq 7, 3) := by decide +kernel
theorem dX4_scale_24 : decode cX4_scale 24 = .ok (.iconst 0, 1) := by decide +kernel
theorem dX4_scale_25 : decode cX4_scale 25 = .ok (.goto 4, 3) := by decide +kernel
theorem dX4_scale_28 : decode cX4_scale 28 = .ok (.iconst 1, 1) := by decide +kernel
theorem dX4_scale_29 : decode cX4_scale 29 = .ok (.putfield 47, 3) := by decide +kernel
theorem dX4_scale_32 : decode cX4_scale 32 = .ok (.aload_n 0, 1) := by decide +kernel
theorem dX4_scale_33 : decode cX4_scale 33 = .ok (.getfield 47, 3) := by decide +kernel
theorem dX4_scale_36 : decode cX4_scale 36 = .ok (.ifCond .ne 13, 3) := by decide +kernel
theorem dX4_scale_39 : decode cX4_scale 39 = .ok (.aload_n 0, 1) := by decide +kernel
theorem dX4_scale_40 : decode cX4_scale 40 = .ok (.lload_n 1, 1) := by decide +kernel
theorem dX4_scale_41 : decode cX4_scale 41 = .ok (.putfield 9, 3) := by decide +kernel
theorem dX4_scale_44 : decode cX4_scale 44 = .ok (.aload_n 0, 1) := by decide +kernel
theorem dX4_scale_45 : decode cX4_scale 45 = .ok (.iload_n 3, 1) := by decide +kernel
theorem dX4_scale_46 : decode cX4_scale 46 = .ok (.putfield 15, 3) := by decide +kernel
theorem dX4_scale_49 : decode cX4_scale 49 = .ok (.return_, 1) := by decide +kernel
set_option maxRecDepth 20000 in
theorem ggX4_side_X4_power : GoodIn wsX4_side wsX4_power := goodIn_r _ [6, 7, 8, 9, 5, 10, 11, 12, 13, 14, 15, 16, 26, 27, 28, 29, 30, 31, 32, 33, 34, 35, 36, 37, 38, 39] (by decide +kernel) (by decide +kernel)
set_option maxRecDepth 20000 in
theorem gX4_side_X4_power : GoodIn wsX4_side (wsV RX4 69 RX4 yX4_power wsX4_power) := goodIn_app (goodIn_of _ (by decide +kernel)) ggX4_side_X4_power
set_option maxRecDepth 20000 in
theorem ggX4_side_X4_twice : GoodIn wsX4_side wsX4_twice := goodIn_r _ [20, 21, 12, 13, 14, 5, 15, 16, 11, 26, 27, 28, 29, 30, 31, 32, 33, 34, 35, 36, 37, 38, 39] (by decide +kernel) (by decide +kernel)
set_option maxRecDepth 20000 in
theorem gX4_side_X4_twice : GoodIn wsX4_side (wsV RX4 73 RX4 yX4_twice wsX4_twice) := goodIn_app (goodIn_of _ (by decide +kernel)) ggX4_side_X4_twice
set_option maxRecDepth 20000 in
theorem ggX4_side_X4_compare : GoodIn wsX4_side wsX4_compare := goodIn_r _ [25, 11, 26, 27, 28, 29, 30, 31, 32, 33, 34, 35, 36, 37, 38, 39] (by decide +kernel) (by decide +kernel)
set_option maxRecDepth 20000 in
theorem gX4_side_X4_compare : GoodIn wsX4_side (wsV RX4 77 RX4 yX4_compare wsX4_compare) := goodIn_app (goodIn_of _ (by decide +kernel)) ggX4_side_X4_compare
theorem dX4_side_0 : decode cX4_side 0 = .ok (.aload_n 0, 1) := by decide +kernel
theorem dX4_side_1 : decode cX4_side 1 = .ok (.iconst 0, 1) := by decide +kernel
theorem dX4_side_2 : decode cX4_side 2 = .ok (.lload_n 1, 1) := by decide +kernel
theorem dX4_side_3 : decode cX4_side 3 = .ok (.aload_n 0, 1) := by decide +kernel
theorem dX4_side_4 : decode cX4_side 4 = .ok (.getfield 44, 3) := by decide +kernel
theorem dX4_side_7 : decode cX4_side 7 = .ok (.invokevirtual 69, 3) := by decide +kernel
theorem dX4_side_10 : decode cX4_side 10 = .ok (.aload_n 0, 1) := by decide +kernel
theorem dX4_side_11 : decode cX4_side 11 = .ok (.iconst 0, 1) := by decide +kernel
theorem dX4_side_12 : decode cX4_side 12 = .ok (.iload_n 3, 1) := by decide +kernel
theorem dX4_side_13 : decode cX4_side 13 = .ok (.invokevirtual 73, 3) := by decide +kernel
theorem dX4_side_16 : decode cX4_side 16 = .ok (.aload_n 0, 1) := by decide +kernel
theorem dX4_side_17 : decode cX4_side 17 = .ok (.iconst 1, 1) := by decide +kernel
theorem dX4_side_18 : decode cX4_side 18 = .ok (.lload 4, 2) := by decide +kernel
theorem dX4_side_20 : decode cX4_side 20 = .ok (.aload_n 0, 1) := by decide +kernel
theorem dX4_side_21 : decode cX4_side 21 = .ok (.getfield 44, 3) := by decide +kernel
theorem dX4_side_24 : decode cX4_side 24 = .ok (.invokevirtual 69, 3) := by decide +kernel
theorem dX4_side_27 : decode cX4_side 27 = .ok (.aload_n 0, 1) := by decide +kernel
theorem dX4_side_28 : decode cX4_side 28 = .ok (.invokevirtual 77, 3) := by decide +kernel
theorem dX4_side_31 : decode cX4_side 31 = .ok (.ireturn, 1) := by decide +kernel
set_option maxRecDepth 20000 in
theorem ggX4_lower_X4_side : GoodIn wsX4_lower wsX4_side := goodIn_r _ [7, 8, 9, 10, 11, 6, 12, 13, 14, 15, 16, 17, 18, 19, 20, 21, 22, 23, 24, 25, 26, 2, 27, 28, 29, 30, 31, 32, 33, 34, 35, 36, 37, 38, 39, 40, 41, 42, 43, 44] (by decide +kernel) (by decide +kernel)
set_option maxRecDepth 20000 in
theorem gX4_lower_X4_side : GoodIn wsX4_lower (wsV RX4 81 RX4 yX4_side wsX4_side) := goodIn_app (goodIn_of _ (by decide +kernel)) ggX4_lower_X4_side
theorem dX4_lower_0 : decode cX4_lower 0 = .ok (.lload_n 2, 1) := by decide +kernel
theorem dX4_lower_1 : decode cX4_lower 1 = .ok (.aload_n 0, 1) := by decide +kernel
theorem dX4_lower_2 : decode cX4_lower 2 = .ok (.getfield 15, 3) := by decide +kernel
theorem dX4_lower_5 : decode cX4_lower 5 = .ok (.lshl, 1) := by decide +kernel
theorem dX4_lower_6 : decode cX4_lower 6 = .ok (.lstore 4, 2) := by decide +kernel
theorem dX4_lower_8 : decode cX4_lower 8 = .ok (.lconst 0, 1) := by decide +kernel
theorem dX4_lower_9 : decode cX4_lower 9 = .ok (.lstore 6, 2) := by decide +kernel
theorem dX4_lower_11 : decode cX4_lower 11 = .ok (.lload 4, 2) := by decide +kernel
theorem dX4_lower_13 : decode cX4_lower 13 = .ok (.lconst 1, 1) := by decide +kernel
theorem dX4_lower_14 : decode cX4_lower 14 = .ok (.ladd, 1) := by decide +kernel
theorem dX4_lower_15 : decode cX4_lower 15 = .ok (.lstore 8, 2) := by decide +kernel
theorem dX4_lower_17 : decode cX4_lower 17 = .ok (.lload 8, 2) := by decide +kernel
theorem dX4_lower_19 : decode cX4_lower 19 = .ok (.lload 6, 2) := by decide +kernel
theorem dX4_lower_21 : decode cX4_lower 21 = .ok (.lsub, 1) := by decide +kernel
theorem dX4_lower_22 : decode cX4_lower 22 = .ok (.lconst 1, 1) := by decide +kernel
theorem dX4_lower_23 : decode cX4_lower 23 = .ok (.lcmp, 1) := by decide +kernel
theorem dX4_lower_24 : decode cX4_lower 24 = .ok (.ifCond .le 40, 3) := by decide +kernel
theorem dX4_lower_27 : decode cX4_lower 27 = .ok (.lload 6, 2) := by decide +kernel
theorem dX4_lower_29 : decode cX4_lower 29 = .ok (.lload 8, 2) := by decide +kernel
theorem dX4_lower_31 : decode cX4_lower 31 = .ok (.ladd, 1) := by decide +kernel
theorem dX4_lower_32 : decode cX4_lower 32 = .ok (.ldc2_w 50, 3) := by decide +kernel
theorem dX4_lower_35 : decode cX4_lower 35 = .ok (.ldiv, 1) := by decide +kernel
theorem dX4_lower_36 : decode cX4_lower 36 = .ok (.lstore 10, 2) := by decide +kernel
theorem dX4_lower_38 : decode cX4_lower 38 = .ok (.aload_n 0, 1) := by decide +kernel
theorem dX4_lower_39 : decode cX4_lower 39 = .ok (.lload 10, 2) := by decide +kernel
theorem dX4_lower_41 : decode cX4_lower 41 = .ok (.iload_n 1, 1) := by decide +kernel
theorem dX4_lower_42 : decode cX4_lower 42 = .ok (.lload 4, 2) := by decide +kernel
theorem dX4_lower_44 : decode cX4_lower 44 = .ok (.invokevirtual 81, 3) := by decide +kernel
theorem dX4_lower_47 : decode cX4_lower 47 = .ok (.ifCond .gt 10, 3) := by decide +kernel
theorem dX4_lower_50 : decode cX4_lower 50 = .ok (.lload 10, 2) := by decide +kernel
theorem dX4_lower_52 : decode cX4_lower 52 = .ok (.lstore 6, 2) := by decide +kernel
theorem dX4_lower_54 : decode cX4_lower 54 = .ok (.goto 7, 3) := by decide +kernel
theorem dX4_lower_57 : decode cX4_lower 57 = .ok (.lload 10, 2) := by decide +kernel
theorem dX4_lower_59 : decode cX4_lower 59 = .ok (.lstore 8, 2) := by decide +kernel
theorem dX4_lower_61 : decode cX4_lower 61 = .ok (.goto (-44), 3) := by decide +kernel
theorem dX4_lower_64 : decode cX4_lower 64 = .ok (.lload 6, 2) := by decide +kernel
theorem dX4_lower_66 : decode cX4_lower 66 = .ok (.lreturn, 1) := by decide +kernel
set_option maxRecDepth 20000 in
theorem ggX4_fret_X4_noPlace : GoodIn wsX4_fret wsX4_noPlace := goodIn_r _ [8, 9, 10, 11, 12, 7, 13, 44, 45, 46, 47, 48, 49, 50, 51, 52, 53, 54, 55, 56, 57] (by decide +kernel) (by decide +kernel)
set_option maxRecDepth 20000 in
theorem gX4_fret_X4_noPlace : GoodIn wsX4_fret (wsV RX4 85 RX4 yX4_noPlace wsX4_noPlace) := goodIn_app (goodIn_of _ (by decide +kernel)) ggX4_fret_X4_noPlace
set_option maxRecDepth 20000 in
theorem ggX4_fret_X4_lower : GoodIn wsX4_fret wsX4_lower := goodIn_r _ [17, 3, 9, 18, 19, 20, 7, 21, 10, 22, 23, 24, 25, 26, 27, 28, 29, 30, 31, 32, 33, 34, 35, 36, 37, 38, 39, 40, 41, 42, 43, 44, 45, 46, 47, 48, 49, 50, 51, 52, 53, 54, 55, 56, 57] (by decide +kernel) (by decide +kernel)
set_option maxRecDepth 20000 in
theorem gX4_fret_X4_lower : GoodIn wsX4_fret (wsV RX4 89 RX4 yX4_lower wsX4_lower) := goodIn_app (goodIn_of _ (by decide +kernel)) ggX4_fret_X4_lower
set_option maxRecDepth 20000 in
theorem ggX4_fret_X4_side : GoodIn wsX4_fret wsX4_side := goodIn_r _ [21, 10, 22, 23, 24, 7, 25, 26, 27, 28, 29, 30, 31, 32, 33, 34, 35, 36, 37, 38, 39, 9, 40, 41, 42, 43, 44, 45, 46, 47, 48, 49, 50, 51, 52, 53, 54, 55, 56, 57] (by decide +kernel) (by decide +kernel)
set_option maxRecDepth 20000 in
theorem gX4_fret_X4_side : GoodIn wsX4_fret (wsV RX4 81 RX4 yX4_side wsX4_side) := goodIn_app (goodIn_of _ (by decide +kernel)) ggX4_fret_X4_side
theorem dX4_fret_0 : decode cX4_fret 0 = .ok (.aload_n 0, 1) := by decide +kernel
theorem dX4_fret_1 : decode cX4_fret 1 = .ok (.aload_n 0, 1) := by decide +kernel
theorem dX4_fret_2 : decode cX4_fret 2 = .ok (.iload_n 1, 1) := by decide +kernel
theorem dX4_fret_3 : decode cX4_fret 3 = .ok (.invokevirtual 85, 3) := by decide +kernel
theorem dX4_fret_6 : decode cX4_fret 6 = .ok (.ifCond .eq 7, 3) := by decide +kernel
theorem dX4_fret_9 : decode cX4_fret 9 = .ok (.iconst 1, 1) := by decide +kernel
theorem dX4_fret_10 : decode cX4_fret 10 = .ok (.goto 4, 3) := by decide +kernel
theorem dX4_fret_13 : decode cX4_fret 13 = .ok (.iconst 0, 1) := by decide +kernel
theorem dX4_fret_14 : decode cX4_fret 14 = .ok (.putfield 47, 3) := by decide +kernel
theorem dX4_fret_17 : decode cX4_fret 17 = .ok (.aload_n 0, 1) := by decide +kernel
theorem dX4_fret_18 : decode cX4_fret 18 = .ok (.getfield 47, 3) := by decide +kernel
theorem dX4_fret_21 : decode cX4_fret 21 = .ok (.ifCond .le 5, 3) := by decide +kernel
theorem dX4_fret_24 : decode cX4_fret 24 = .ok (.lconst 0, 1) := by decide +kernel
theorem dX4_fret_25 : decode cX4_fret 25 = .ok (.lreturn, 1) := by decide +kernel
theorem dX4_fret_26 : decode cX4_fret 26 = .ok (.aload_n 0, 1) := by decide +kernel
theorem dX4_fret_27 : decode cX4_fret 27 = .ok (.iload_n 1, 1) := by decide +kernel
theorem dX4_fret_28 : decode cX4_fret 28 = .ok (.aload_n 0, 1) := by decide +kernel
theorem dX4_fret_29 : decode cX4_fret 29 = .ok (.getfield 9, 3) := by decide +kernel
theorem dX4_fret_32 : decode cX4_fret 32 = .ok (.invokevirtual 89, 3) := by decide +kernel
theorem dX4_fret_35 : decode cX4_fret 35 = .ok (.lstore_n 3, 1) := by decide +kernel
theorem dX4_fret_36 : decode cX4_fret 36 = .ok (.iload_n 2, 1) := by decide +kernel
theorem dX4_fret_37 : decode cX4_fret 37 = .ok (.ifCond .eq 27, 3) := by decide +kernel
theorem dX4_fret_40 : decode cX4_fret 40 = .ok (.aload_n 0, 1) := by decide +kernel
theorem dX4_fret_41 : decode cX4_fret 41 = .ok (.lload_n 3, 1) := by decide +kernel
theorem dX4_fret_42 : decode cX4_fret 42 = .ok (.iload_n 1, 1) := by decide +kernel
theorem dX4_fret_43 : decode cX4_fret 43 = .ok (.aload_n 0, 1) := by decide +kernel
theorem dX4_fret_44 : decode cX4_fret 44 = .ok (.getfield 9, 3) := by decide +kernel
theorem dX4_fret_47 : decode cX4_fret 47 = .ok (.aload_n 0, 1) := by decide +kernel
theorem dX4_fret_48 : decode cX4_fret 48 = .ok (.getfield 15, 3) := by decide +kernel
theorem dX4_fret_51 : decode cX4_fret 51 = .ok (.lshl, 1) := by decide +kernel
theorem dX4_fret_52 : decode cX4_fret 52 = .ok (.invokevirtual 81, 3) := by decide +kernel
theorem dX4_fret_55 : decode cX4_fret 55 = .ok (.ifCond .eq 9, 3) := by decide +kernel
theorem dX4_fret_58 : decode cX4_fret 58 = .ok (.lload_n 3, 1) := by decide +kernel
theorem dX4_fret_59 : decode cX4_fret 59 = .ok (.lconst 1, 1) := by decide +kernel
theorem dX4_fret_60 : decode cX4_fret 60 = .ok (.ladd, 1) := by decide +kernel
theorem dX4_fret_61 : decode cX4_fret 61 = .ok (.goto 4, 3) := by decide +kernel
theorem dX4_fret_64 : decode cX4_fret 64 = .ok (.lload_n 3, 1) := by decide +kernel
theorem dX4_fret_65 : decode cX4_fret 65 = .ok (.lreturn, 1) := by decide +kernel
set_option maxRecDepth 20000 in
theorem ggX4_exact_X4_noPlace : GoodIn wsX4_exact wsX4_noPlace := goodIn_r _ [8, 9, 10, 11, 12, 7, 13, 44, 45, 46, 47, 48, 49, 50, 51, 52, 53, 54, 55, 56, 57] (by decide +kernel) (by decide +kernel)
set_option maxRecDepth 20000 in
theorem gX4_exact_X4_noPlace : GoodIn wsX4_exact (wsV RX4 85 RX4 yX4_noPlace wsX4_noPlace) := goodIn_app (goodIn_of _ (by decide +kernel)) ggX4_exact_X4_noPlace
set_option maxRecDepth 20000 in
theorem ggX4_exact_X4_lower : GoodIn wsX4_exact wsX4_lower := goodIn_r _ [17, 3, 9, 18, 19, 20, 7, 21, 10, 22, 23, 24, 25, 26, 27, 28, 29, 30, 31, 32, 33, 34, 35, 36, 37, 38, 39, 40, 41, 42, 43, 44, 45, 46, 47, 48, 49, 50, 51, 52, 53, 54, 55, 56, 57] (by decide +kernel) (by decide +kernel)
set_option maxRecDepth 20000 in
theorem gX4_exact_X4_lower : GoodIn wsX4_exact (wsV RX4 89 RX4 yX4_lower wsX4_lower) := goodIn_app (goodIn_of _ (by decide +kernel)) ggX4_exact_X4_lower
set_option maxRecDepth 20000 in
theorem ggX4_exact_X4_side : GoodIn wsX4_exact wsX4_side := goodIn_r _ [21, 10, 22, 23, 24, 7, 25, 26, 27, 28, 29, 30, 31, 32, 33, 34, 35, 36, 37, 38, 39, 9, 40, 41, 42, 43, 44, 45, 46, 47, 48, 49, 50, 51, 52, 53, 54, 55, 56, 57] (by decide +kernel) (by decide +kernel)
set_option maxRecDepth 20000 in
theorem gX4_exact_X4_side : GoodIn wsX4_exact (wsV RX4 81 RX4 yX4_side wsX4_side) := goodIn_app (goodIn_of _ (by decide +kernel)) ggX4_exact_X4_side
theorem dX4_exact_0 : decode cX4_exact 0 = .ok (.aload_n 0, 1) := by decide +kernel
theorem dX4_exact_1 : decode cX4_exact 1 = .ok (.aload_n 0, 1) := by decide +kernel
theorem dX4_exact_2 : decode cX4_exact 2 = .ok (.iload_n 1, 1) := by decide +kernel
theorem dX4_exact_3 : decode cX4_exact 3 = .ok (.invokevirtual 85, 3) := by decide +kernel
theorem dX4_exact_6 : decode cX4_exact 6 = .ok (.ifCond .eq 7, 3) := by decide +kernel
theorem dX4_exact_9 : decode cX4_exact 9 = .ok (.iconst 1, 1) := by decide +kernel
theorem dX4_exact_10 : decode cX4_exact 10 = .ok (.goto 4, 3) := by decide +kernel
theorem dX4_exact_13 : decode cX4_exact 13 = .ok (.iconst 0, 1) := by decide +kernel
theorem dX4_exact_14 : decode cX4_exact 14 = .ok (.putfield 47, 3) := by decide +kernel
theorem dX4_exact_17 : decode cX4_exact 17 = .ok (.aload_n 0, 1) := by decide +kernel
theorem dX4_exact_18 : decode cX4_exact 18 = .ok (.getfield 47, 3) := by decide +kernel
theorem dX4_exact_21 : decode cX4_exact 21 = .ok (.ifCond .ne 33, 3) := by decide +kernel
theorem dX4_exact_24 : decode cX4_exact 24 = .ok (.aload_n 0, 1) := by decide +kernel
theorem dX4_exact_25 : decode cX4_exact 25 = .ok (.aload_n 0, 1) := by decide +kernel
theorem dX4_exact_26 : decode cX4_exact 26 = .ok (.iload_n 1, 1) := by decide +kernel
theorem dX4_exact_27 : decode cX4_exact 27 = .ok (.aload_n 0, 1) := by decide +kernel
theorem dX4_exact_28 : decode cX4_exact 28 = .ok (.getfield 9, 3) := by decide +kernel
theorem dX4_exact_31 : decode cX4_exact 31 = .ok (.invokevirtual 89, 3) := by decide +kernel
theorem dX4_exact_34 : decode cX4_exact 34 = .ok (.iload_n 1, 1) := by decide +kernel
theorem dX4_exact_35 : decode cX4_exact 35 = .ok (.aload_n 0, 1) := by decide +kernel
theorem dX4_exact_36 : decode cX4_exact 36 = .ok (.getfield 9, 3) := by decide +kernel
theorem dX4_exact_39 : decode cX4_exact 39 = .ok (.aload_n 0, 1) := by decide +kernel
theorem dX4_exact_40 : decode cX4_exact 40 = .ok (.getfield 15, 3) := by decide +kernel
theorem dX4_exact_43 : decode cX4_exact 43 = .ok (.lshl, 1) := by decide +kernel
theorem dX4_exact_44 : decode cX4_exact 44 = .ok (.invokevirtual 81, 3) := by decide +kernel
theorem dX4_exact_47 : decode cX4_exact 47 = .ok (.ifCond .ne 7, 3) := by decide +kernel
theorem dX4_exact_50 : decode cX4_exact 50 = .ok (.iconst 1, 1) := by decide +kernel
theorem dX4_exact_51 : decode cX4_exact 51 = .ok (.goto 4, 3) := by decide +kernel
theorem dX4_exact_54 : decode cX4_exact 54 = .ok (.iconst 0, 1) := by decide +kernel
theorem dX4_exact_55 : decode cX4_exact 55 = .ok (.ireturn, 1) := by decide +kernel
theorem dX4_divisor_0 : decode cX4_divisor 0 = .ok (.lload_n 0, 1) := by decide +kernel
theorem dX4_divisor_1 : decode cX4_divisor 1 = .ok (.lstore 4, 2) := by decide +kernel
theorem dX4_divisor_3 : decode cX4_divisor 3 = .ok (.lload_n 2, 1) := by decide +kernel
theorem dX4_divisor_4 : decode cX4_divisor 4 = .ok (.lstore 6, 2) := by decide +kernel
theorem dX4_divisor_6 : decode cX4_divisor 6 = .ok (.lload 6, 2) := by decide +kernel
theorem dX4_divisor_8 : decode cX4_divisor 8 = .ok (.lconst 0, 1) := by decide +kernel
theorem dX4_divisor_9 : decode cX4_divisor 9 = .ok (.lcmp, 1) := by decide +kernel
theorem dX4_divisor_10 : decode cX4_divisor 10 = .ok (.ifCond .eq 21, 3) := by decide +kernel
theorem dX4_divisor_13 : decode cX4_divisor 13 = .ok (.lload 4, 2) := by decide +kernel
theorem dX4_divisor_15 : decode cX4_divisor 15 = .ok (.lload 6, 2) := by decide +kernel
theorem dX4_divisor_17 : decode cX4_divisor 17 = .ok (.lrem, 1) := by decide +kernel
theorem dX4_divisor_18 : decode cX4_divisor 18 = .ok (.lstore 8, 2) := by decide +kernel
theorem dX4_divisor_20 : decode cX4_divisor 20 = .ok (.lload 6, 2) := by decide +kernel
theorem dX4_divisor_22 : decode cX4_divisor 22 = .ok (.lstore 4, 2) := by decide +kernel
theorem dX4_divisor_24 : decode cX4_divisor 24 = .ok (.lload 8, 2) := by decide +kernel
theorem dX4_divisor_26 : decode cX4_divisor 26 = .ok (.lstore 6, 2) := by decide +kernel
theorem dX4_divisor_28 : decode cX4_divisor 28 = .ok (.goto (-22), 3) := by decide +kernel
theorem dX4_divisor_31 : decode cX4_divisor 31 = .ok (.lload 4, 2) := by decide +kernel
theorem dX4_divisor_33 : decode cX4_divisor 33 = .ok (.lreturn, 1) := by decide +kernel
set_option maxRecDepth 20000 in
theorem ggX4_isPart_X4_isIn : GoodIn wsX4_isPart wsX4_isIn := goodIn_r _ [5] (by decide +kernel) (by decide +kernel)
set_option maxRecDepth 20000 in
theorem gX4_isPart_X4_isIn : GoodIn wsX4_isPart (va_wsS RX4 52 yX4_isIn wsX4_isIn) := goodIn_app (goodIn_of _ (by decide +kernel)) ggX4_isPart_X4_isIn
theorem dX4_isPart_0 : decode cX4_isPart 0 = .ok (.iload_n 0, 1) := by decide +kernel
theorem dX4_isPart_1 : decode cX4_isPart 1 = .ok (.i2l, 1) := by decide +kernel
theorem dX4_isPart_2 : decode cX4_isPart 2 = .ok (.lconst 1, 1) := by decide +kernel
theorem dX4_isPart_3 : decode cX4_isPart 3 = .ok (.ldc2_w 65, 3) := by decide +kernel
theorem dX4_isPart_6 : decode cX4_isPart 6 = .ok (.invokestatic 52, 3) := by decide +kernel
theorem dX4_isPart_9 : decode cX4_isPart 9 = .ok (.ireturn, 1) := by decide +kernel
set_option maxRecDepth 20000 in
theorem ggX4_just_X4_noPlace : GoodIn wsX4_just wsX4_noPlace := goodIn_r _ [8, 9, 10, 11, 12, 7, 13, 21, 22, 23, 24, 25, 26, 27, 28, 29, 30, 31, 32, 33, 34] (by decide +kernel) (by decide +kernel)
set_option maxRecDepth 20000 in
theorem gX4_just_X4_noPlace : GoodIn wsX4_just (wsV RX4 85 RX4 yX4_noPlace wsX4_noPlace) := goodIn_app (goodIn_of _ (by decide +kernel)) ggX4_just_X4_noPlace
set_option maxRecDepth 20000 in
theorem ggX4_just_X4_isPart : GoodIn wsX4_just wsX4_isPart := goodIn_r _ [16, 17, 11, 12, 7, 13] (by decide +kernel) (by decide +kernel)
set_option maxRecDepth 20000 in
theorem gX4_just_X4_isPart : GoodIn wsX4_just (va_wsS RX4 93 yX4_isPart wsX4_isPart) := goodIn_app (goodIn_of _ (by decide +kernel)) ggX4_just_X4_isPart
set_option maxRecDepth 20000 in
theorem ggX4_just_X4_divisor : GoodIn wsX4_just wsX4_divisor := goodIn_r _ [20] (by decide +kernel) (by decide +kernel)
set_option maxRecDepth 20000 in
theorem gX4_just_X4_divisor : GoodIn wsX4_just (va_wsS RX4 96 yX4_divisor wsX4_divisor) := goodIn_app (goodIn_of _ (by decide +kernel)) ggX4_just_X4_divisor
theorem dX4_just_0 : decode cX4_just 0 = .ok (.aload_n 0, 1) := by decide +kernel
theorem dX4_just_1 : decode cX4_just 1 = .ok (.aload_n 0, 1) := by decide +kernel
theorem dX4_just_2 : decode cX4_just 2 = .ok (.iload_n 1, 1) := by decide +kernel
theorem dX4_just_3 : decode cX4_just 3 = .ok (.invokevirtual 85, 3) := by decide +kernel
theorem dX4_just_6 : decode cX4_just 6 = .ok (.ifCond .eq 7, 3) := by decide +kernel
theorem dX4_just_9 : decode cX4_just 9 = .ok (.iconst 1, 1) := by decide +kernel
theorem dX4_just_10 : decode cX4_just 10 = .ok (.goto 22, 3) := by decide +kernel
theorem dX4_just_13 : decode cX4_just 13 = .ok (.iload_n 2, 1) := by decide +kernel
theorem dX4_just_14 : decode cX4_just 14 = .ok (.invokestatic 93, 3) := by decide +kernel
theorem dX4_just_17 : decode cX4_just 17 = .ok (.ifCond .eq 14, 3) := by decide +kernel
theorem dX4_just_20 : decode cX4_just 20 = .ok (.iload_n 3, 1) := by decide +kernel
theorem dX4_just_21 : decode cX4_just 21 = .ok (.invokestatic 93, 3) := by decide +kernel
theorem dX4_just_24 : decode cX4_just 24 = .ok (.ifCond .eq 7, 3) := by decide +kernel
theorem dX4_just_27 : decode cX4_just 27 = .ok (.iconst 0, 1) := by decide +kernel
theorem dX4_just_28 : decode cX4_just 28 = .ok (.goto 4, 3) := by decide +kernel
theorem dX4_just_31 : decode cX4_just 31 = .ok (.iconst 2, 1) := by decide +kernel
theorem dX4_just_32 : decode cX4_just 32 = .ok (.putfield 47, 3) := by decide +kernel
theorem dX4_just_35 : decode cX4_just 35 = .ok (.aload_n 0, 1) := by decide +kernel
theorem dX4_just_36 : decode cX4_just 36 = .ok (.getfield 47, 3) := by decide +kernel
theorem dX4_just_39 : decode cX4_just 39 = .ok (.ifCond .ne 33, 3) := by decide +kernel
theorem dX4_just_42 : decode cX4_just 42 = .ok (.iload_n 2, 1) := by decide +kernel
theorem dX4_just_43 : decode cX4_just 43 = .ok (.i2l, 1) := by decide +kernel
theorem dX4_just_44 : decode cX4_just 44 = .ok (.iload_n 3, 1) := by decide +kernel
theorem dX4_just_45 : decode cX4_just 45 = .ok (.i2l, 1) := by decide +kernel
theorem dX4_just_46 : decode cX4_just 46 = .ok (.invokestatic 96, 3) := by decide +kernel
theorem dX4_just_49 : decode cX4_just 49 = .ok (.l2i, 1) := by decide +kernel
theorem dX4_just_50 : decode cX4_just 50 = .ok (.istore 4, 2) := by decide +kernel
theorem dX4_just_52 : decode cX4_just 52 = .ok (.aload_n 0, 1) := by decide +kernel
theorem dX4_just_53 : decode cX4_just 53 = .ok (.getfield 19, 3) := by decide +kernel
theorem dX4_just_56 : decode cX4_just 56 = .ok (.iload_n 1, 1) := by decide +kernel
theorem dX4_just_57 : decode cX4_just 57 = .ok (.iload_n 2, 1) := by decide +kernel
theorem dX4_just_58 : decode cX4_just 58 = .ok (.iload 4, 2) := by decide +kernel
theorem dX4_just_60 : decode cX4_just 60 = .ok (.idiv, 1) := by decide +kernel
theorem dX4_just_61 : decode cX4_just 61 = .ok (.iastore, 1) := by decide +kernel
theorem dX4_just_62 : decode cX4_just 62 = .ok (.aload_n 0, 1) := by decide +kernel
theorem dX4_just_63 : decode cX4_just 63 = .ok (.getfield 23, 3) := by decide +kernel
theorem dX4_just_66 : decode cX4_just 66 = .ok (.iload_n 1, 1) := by decide +kernel
theorem dX4_just_67 : decode cX4_just 67 = .ok (.iload_n 3, 1) := by decide +kernel
theorem dX4_just_68 : decode cX4_just 68 = .ok (.iload 4, 2) := by decide +kernel
theorem dX4_just_70 : decode cX4_just 70 = .ok (.idiv, 1) := by decide +kernel
theorem dX4_just_71 : decode cX4_just 71 = .ok (.iastore, 1) := by decide +kernel
theorem dX4_just_72 : decode cX4_just 72 = .ok (.return_, 1) := by decide +kernel
set_option maxRecDepth 20000 in
theorem ggX4_justAt_X4_noPlace : GoodIn wsX4_justAt wsX4_noPlace := goodIn_r _ [8, 9, 10, 11, 12, 7, 13, 14, 15, 16, 17, 18, 19, 20, 21, 22, 23, 24, 25, 26, 27] (by decide +kernel) (by decide +kernel)
set_option maxRecDepth 20000 in
theorem gX4_justAt_X4_noPlace : GoodIn wsX4_justAt (wsV RX4 85 RX4 yX4_noPlace wsX4_noPlace) := goodIn_app (goodIn_of _ (by decide +kernel)) ggX4_justAt_X4_noPlace
set_option maxRecDepth 20000 in
theorem ggX4_justAt_X4_isIn : GoodIn wsX4_justAt wsX4_isIn := goodIn_r _ [13] (by decide +kernel) (by decide +kernel)
set_option maxRecDepth 20000 in
theorem gX4_justAt_X4_isIn : GoodIn wsX4_justAt (va_wsS RX4 52 yX4_isIn wsX4_isIn) := goodIn_app (goodIn_of _ (by decide +kernel)) ggX4_justAt_X4_isIn
theorem dX4_justAt_0 : decode cX4_justAt 0 = .ok (.aload_n 0, 1) := by decide +kernel
theorem dX4_justAt_1 : decode cX4_justAt 1 = .ok (.aload_n 0, 1) := by decide +kernel
theorem dX4_justAt_2 : decode cX4_justAt 2 = .ok (.iload_n 1, 1) := by decide +kernel
theorem dX4_justAt_3 : decode cX4_justAt 3 = .ok (.invokevirtual 85, 3) := by decide +kernel
theorem dX4_justAt_6 : decode cX4_justAt 6 = .ok (.ifCond .ne 13, 3) := by decide +kernel
theorem dX4_justAt_9 : decode cX4_justAt 9 = .ok (.iload_n 2, 1) := by decide +kernel
theorem dX4_justAt_10 : decode cX4_justAt 10 = .ok (.i2l, 1) := by decide +kernel
theorem dX4_justAt_11 : decode cX4_justAt 11 = .ok (.lconst 0, 1) := by decide +kernel
theorem dX4_justAt_12 : decode cX4_justAt 12 = .ok (.lconst 1, 1) := by decide +kernel
theorem dX4_justAt_13 : decode cX4_justAt 13 = .ok (.invokestatic 52, 3) := by decide +kernel
theorem dX4_justAt_16 : decode cX4_justAt 16 = .ok (.ifCond .ne 7, 3) := by decide +kernel
theorem dX4_justAt_19 : decode cX4_justAt 19 = .ok (.iconst 1, 1) := by decide +kernel
theorem dX4_justAt_20 : decode cX4_justAt 20 = .ok (.goto 4, 3) := by decide +kernel
theorem dX4_justAt_23 : decode cX4_justAt 23 = .ok (.iconst 0, 1) := by decide +kernel
theorem dX4_justAt_24 : decode cX4_justAt 24 = .ok (.putfield 47, 3) := by decide +kernel
theorem dX4_justAt_27 : decode cX4_justAt 27 = .ok (.aload_n 0, 1) := by decide +kernel
theorem dX4_justAt_28 : decode cX4_justAt 28 = .ok (.getfield 47, 3) := by decide +kernel
theorem dX4_justAt_31 : decode cX4_justAt 31 = .ok (.ifCond .le 7, 3) := by decide +kernel
theorem dX4_justAt_34 : decode cX4_justAt 34 = .ok (.iconst 0, 1) := by decide +kernel
theorem dX4_justAt_35 : decode cX4_justAt 35 = .ok (.goto 22, 3) := by decide +kernel
theorem dX4_justAt_38 : decode cX4_justAt 38 = .ok (.iload_n 2, 1) := by decide +kernel
theorem dX4_justAt_39 : decode cX4_justAt 39 = .ok (.ifCond .ne 12, 3) := by decide +kernel
theorem dX4_justAt_42 : decode cX4_justAt 42 = .ok (.aload_n 0, 1) := by decide +kernel
theorem dX4_justAt_43 : decode cX4_justAt 43 = .ok (.getfield 19, 3) := by decide +kernel
theorem dX4_justAt_46 : decode cX4_justAt 46 = .ok (.iload_n 1, 1) := by decide +kernel
theorem dX4_justAt_47 : decode cX4_justAt 47 = .ok (.iaload, 1) := by decide +kernel
theorem dX4_justAt_48 : decode cX4_justAt 48 = .ok (.goto 9, 3) := by decide +kernel
theorem dX4_justAt_51 : decode cX4_justAt 51 = .ok (.aload_n 0, 1) := by decide +kernel
theorem dX4_justAt_52 : decode cX4_justAt 52 = .ok (.getfield 23, 3) := by decide +kernel
theorem dX4_justAt_55 : decode cX4_justAt 55 = .ok (.iload_n 1, 1) := by decide +kernel
theorem dX4_justAt_56 : decode cX4_justAt 56 = .ok (.iaload, 1) := by decide +kernel
theorem dX4_justAt_57 : decode cX4_justAt 57 = .ok (.ireturn, 1) := by decide +kernel
set_option maxRecDepth 20000 in
theorem ggX4_leaves_X4_noPlace : GoodIn wsX4_leaves wsX4_noPlace := goodIn_r _ [10, 11, 12, 13, 14, 9, 15, 16, 17, 18, 19, 20, 21, 22, 23, 24, 25, 26, 27, 28, 29] (by decide +kernel) (by decide +kernel)
set_option maxRecDepth 20000 in
theorem gX4_leaves_X4_noPlace : GoodIn wsX4_leaves (wsV RX4 85 RX4 yX4_noPlace wsX4_noPlace) := goodIn_app (goodIn_of _ (by decide +kernel)) ggX4_leaves_X4_noPlace
theorem dX4_leaves_0 : decode cX4_leaves 0 = .ok (.aload_n 0, 1) := by decide +kernel
theorem dX4_leaves_1 : decode cX4_leaves 1 = .ok (.aload_n 0, 1) := by decide +kernel
theorem dX4_leaves_2 : decode cX4_leaves 2 = .ok (.iload_n 1, 1) := by decide +kernel
theorem dX4_leaves_3 : decode cX4_leaves 3 = .ok (.invokevirtual 85, 3) := by decide +kernel
theorem dX4_leaves_6 : decode cX4_leaves 6 = .ok (.ifCond .eq 7, 3) := by decide +kernel
theorem dX4_leaves_9 : decode cX4_leaves 9 = .ok (.iconst 1, 1) := by decide +kernel
theorem dX4_leaves_10 : decode cX4_leaves 10 = .ok (.goto 4, 3) := by decide +kernel
theorem dX4_leaves_13 : decode cX4_leaves 13 = .ok (.iconst 0, 1) := by decide +kernel
theorem dX4_leaves_14 : decode cX4_leaves 14 = .ok (.putfield 47, 3) := by decide +kernel
theorem dX4_leaves_17 : decode cX4_leaves 17 = .ok (.aload_n 0, 1) := by decide +kernel
theorem dX4_leaves_18 : decode cX4_leaves 18 = .ok (.getfield 47, 3) := by decide +kernel
theorem dX4_leaves_21 : decode cX4_leaves 21 = .ok (.ifCond .le 7, 3) := by decide +kernel
theorem dX4_leaves_24 : decode cX4_leaves 24 = .ok (.lconst 0, 1) := by decide +kernel
theorem dX4_leaves_25 : decode cX4_leaves 25 = .ok (.goto 28, 3) := by decide +kernel
theorem dX4_leaves_28 : decode cX4_leaves 28 = .ok (.aload_n 0, 1) := by decide +kernel
theorem dX4_leaves_29 : decode cX4_leaves 29 = .ok (.getfield 9, 3) := by decide +kernel
theorem dX4_leaves_32 : decode cX4_leaves 32 = .ok (.aload_n 0, 1) := by decide +kernel
theorem dX4_leaves_33 : decode cX4_leaves 33 = .ok (.getfield 15, 3) := by decide +kernel
theorem dX4_leaves_36 : decode cX4_leaves 36 = .ok (.lshl, 1) := by decide +kernel
theorem dX4_leaves_37 : decode cX4_leaves 37 = .ok (.aload_n 0, 1) := by decide +kernel
theorem dX4_leaves_38 : decode cX4_leaves 38 = .ok (.getfield 23, 3) := by decide +kernel
theorem dX4_leaves_41 : decode cX4_leaves 41 = .ok (.iload_n 1, 1) := by decide +kernel
theorem dX4_leaves_42 : decode cX4_leaves 42 = .ok (.iaload, 1) := by decide +kernel
theorem dX4_leaves_43 : decode cX4_leaves 43 = .ok (.i2l, 1) := by decide +kernel
theorem dX4_leaves_44 : decode cX4_leaves 44 = .ok (.lmul, 1) := by decide +kernel
theorem dX4_leaves_45 : decode cX4_leaves 45 = .ok (.aload_n 0, 1) := by decide +kernel
theorem dX4_leaves_46 : decode cX4_leaves 46 = .ok (.getfield 19, 3) := by decide +kernel
theorem dX4_leaves_49 : decode cX4_leaves 49 = .ok (.iload_n 1, 1) := by decide +kernel
theorem dX4_leaves_50 : decode cX4_leaves 50 = .ok (.iaload, 1) := by decide +kernel
theorem dX4_leaves_51 : decode cX4_leaves 51 = .ok (.i2l, 1) := by decide +kernel
theorem dX4_leaves_52 : decode cX4_leaves 52 = .ok (.ldiv, 1) := by decide +kernel
theorem dX4_leaves_53 : decode cX4_leaves 53 = .ok (.lreturn, 1) := by decide +kernel
set_option maxRecDepth 20000 in
theorem ggX4_side__X4_power : GoodIn wsX4_side_ wsX4_power := goodIn_r _ [5, 6, 7, 8, 4, 9, 10, 11, 12, 13, 14, 15, 25, 26, 27, 28, 29, 30, 31, 32, 33, 34, 35, 36, 37, 38] (by decide +kernel) (by decide +kernel)
set_option maxRecDepth 20000 in
theorem gX4_side__X4_power : GoodIn wsX4_side_ (wsV RX4 69 RX4 yX4_power wsX4_power) := goodIn_app (goodIn_of _ (by decide +kernel)) ggX4_side__X4_power
set_option maxRecDepth 20000 in
theorem ggX4_side__X4_twice : GoodIn wsX4_side_ wsX4_twice := goodIn_r _ [19, 20, 11, 12, 13, 4, 14, 15, 10, 25, 26, 27, 28, 29, 30, 31, 32, 33, 34, 35, 36, 37, 38] (by decide +kernel) (by decide +kernel)
set_option maxRecDepth 20000 in
theorem gX4_side__X4_twice : GoodIn wsX4_side_ (wsV RX4 73 RX4 yX4_twice wsX4_twice) := goodIn_app (goodIn_of _ (by decide +kernel)) ggX4_side__X4_twice
set_option maxRecDepth 20000 in
theorem ggX4_side__X4_compare : GoodIn wsX4_side_ wsX4_compare := goodIn_r _ [24, 10, 25, 26, 27, 28, 29, 30, 31, 32, 33, 34, 35, 36, 37, 38] (by decide +kernel) (by decide +kernel)
set_option maxRecDepth 20000 in
theorem gX4_side__X4_compare : GoodIn wsX4_side_ (wsV RX4 77 RX4 yX4_compare wsX4_compare) := goodIn_app (goodIn_of _ (by decide +kernel)) ggX4_side__X4_compare
theorem dX4_side__0 : decode cX4_side_ 0 = .ok (.aload_n 0, 1) := by decide +kernel
theorem dX4_side__1 : decode cX4_side_ 1 = .ok (.iconst 0, 1) := by decide +kernel
theorem dX4_side__2 : decode cX4_side_ 2 = .ok (.iload_n 1, 1) := by decide +kernel
theorem dX4_side__3 : decode cX4_side_ 3 = .ok (.i2l, 1) := by decide +kernel
theorem dX4_side__4 : decode cX4_side_ 4 = .ok (.iload_n 3, 1) := by decide +kernel
theorem dX4_side__5 : decode cX4_side_ 5 = .ok (.invokevirtual 69, 3) := by decide +kernel
theorem dX4_side__8 : decode cX4_side_ 8 = .ok (.aload_n 0, 1) := by decide +kernel
theorem dX4_side__9 : decode cX4_side_ 9 = .ok (.iconst 1, 1) := by decide +kernel
theorem dX4_side__10 : decode cX4_side_ 10 = .ok (.iload_n 2, 1) := by decide +kernel
theorem dX4_side__11 : decode cX4_side_ 11 = .ok (.i2l, 1) := by decide +kernel
theorem dX4_side__12 : decode cX4_side_ 12 = .ok (.iload_n 3, 1) := by decide +kernel
theorem dX4_side__13 : decode cX4_side_ 13 = .ok (.invokevirtual 69, 3) := by decide +kernel
theorem dX4_side__16 : decode cX4_side_ 16 = .ok (.aload_n 0, 1) := by decide +kernel
theorem dX4_side__17 : decode cX4_side_ 17 = .ok (.iconst 1, 1) := by decide +kernel
theorem dX4_side__18 : decode cX4_side_ 18 = .ok (.iload 4, 2) := by decide +kernel
theorem dX4_side__20 : decode cX4_side_ 20 = .ok (.invokevirtual 73, 3) := by decide +kernel
theorem dX4_side__23 : decode cX4_side_ 23 = .ok (.aload_n 0, 1) := by decide +kernel
theorem dX4_side__24 : decode cX4_side_ 24 = .ok (.invokevirtual 77, 3) := by decide +kernel
theorem dX4_side__27 : decode cX4_side_ 27 = .ok (.ireturn, 1) := by decide +kernel
set_option maxRecDepth 20000 in
theorem ggX4_beside_X4_noPlace : GoodIn wsX4_beside wsX4_noPlace := goodIn_r _ [9, 10, 4, 11, 12, 8, 13, 40, 41, 42, 43, 44, 45, 46, 47, 48, 49, 50, 51, 52, 53] (by decide +kernel) (by decide +kernel)
set_option maxRecDepth 20000 in
theorem gX4_beside_X4_noPlace : GoodIn wsX4_beside (wsV RX4 85 RX4 yX4_noPlace wsX4_noPlace) := goodIn_app (goodIn_of _ (by decide +kernel)) ggX4_beside_X4_noPlace
set_option maxRecDepth 20000 in
theorem ggX4_beside_X4_side_ : GoodIn wsX4_beside wsX4_side_ := goodIn_r _ [17, 18, 19, 20, 8, 21, 22, 23, 24, 25, 26, 27, 28, 29, 30, 31, 32, 33, 34, 35, 10, 36, 37, 38, 39, 40, 41, 42, 43, 44, 45, 46, 47, 48, 49, 50, 51, 52, 53] (by decide +kernel) (by decide +kernel)
set_option maxRecDepth 20000 in
theorem gX4_beside_X4_side_ : GoodIn wsX4_beside (wsV RX4 100 RX4 yX4_side_ wsX4_side_) := goodIn_app (goodIn_of _ (by decide +kernel)) ggX4_beside_X4_side_
theorem dX4_beside_0 : decode cX4_beside 0 = .ok (.aload_n 0, 1) := by decide +kernel
theorem dX4_beside_1 : decode cX4_beside 1 = .ok (.aload_n 0, 1) := by decide +kernel
theorem dX4_beside_2 : decode cX4_beside 2 = .ok (.iload_n 1, 1) := by decide +kernel
theorem dX4_beside_3 : decode cX4_beside 3 = .ok (.invokevirtual 85, 3) := by decide +kernel
theorem dX4_beside_6 : decode cX4_beside 6 = .ok (.ifCond .eq 7, 3) := by decide +kernel
theorem dX4_beside_9 : decode cX4_beside 9 = .ok (.iconst 1, 1) := by decide +kernel
theorem dX4_beside_10 : decode cX4_beside 10 = .ok (.goto 4, 3) := by decide +kernel
theorem dX4_beside_13 : decode cX4_beside 13 = .ok (.iconst 0, 1) := by decide +kernel
theorem dX4_beside_14 : decode cX4_beside 14 = .ok (.putfield 47, 3) := by decide +kernel
theorem dX4_beside_17 : decode cX4_beside 17 = .ok (.aload_n 0, 1) := by decide +kernel
theorem dX4_beside_18 : decode cX4_beside 18 = .ok (.getfield 47, 3) := by decide +kernel
theorem dX4_beside_21 : decode cX4_beside 21 = .ok (.ifCond .le 7, 3) := by decide +kernel
theorem dX4_beside_24 : decode cX4_beside 24 = .ok (.iconst 0, 1) := by decide +kernel
theorem dX4_beside_25 : decode cX4_beside 25 = .ok (.goto 24, 3) := by decide +kernel
theorem dX4_beside_28 : decode cX4_beside 28 = .ok (.aload_n 0, 1) := by decide +kernel
theorem dX4_beside_29 : decode cX4_beside 29 = .ok (.aload_n 0, 1) := by decide +kernel
theorem dX4_beside_30 : decode cX4_beside 30 = .ok (.getfield 19, 3) := by decide +kernel
theorem dX4_beside_33 : decode cX4_beside 33 = .ok (.iload_n 1, 1) := by decide +kernel
theorem dX4_beside_34 : decode cX4_beside 34 = .ok (.iaload, 1) := by decide +kernel
theorem dX4_beside_35 : decode cX4_beside 35 = .ok (.aload_n 0, 1) := by decide +kernel
theorem dX4_beside_36 : decode cX4_beside 36 = .ok (.getfield 23, 3) := by decide +kernel
theorem dX4_beside_39 : decode cX4_beside 39 = .ok (.iload_n 1, 1) := by decide +kernel
theorem dX4_beside_40 : decode cX4_beside 40 = .ok (.iaload, 1) := by decide +kernel
theorem dX4_beside_41 : decode cX4_beside 41 = .ok (.aload_n 0, 1) := by decide +kernel
theorem dX4_beside_42 : decode cX4_beside 42 = .ok (.getfield 44, 3) := by decide +kernel
theorem dX4_beside_45 : decode cX4_beside 45 = .ok (.iload_n 1, 1) := by decide +kernel
theorem dX4_beside_46 : decode cX4_beside 46 = .ok (.invokevirtual 100, 3) := by decide +kernel
theorem dX4_beside_49 : decode cX4_beside 49 = .ok (.ireturn, 1) := by decide +kernel
set_option maxRecDepth 20000 in
theorem ggX4_nearest_X4_isPart : GoodIn wsX4_nearest wsX4_isPart := goodIn_r _ [6, 7, 8, 9, 5, 10] (by decide +kernel) (by decide +kernel)
set_option maxRecDepth 20000 in
theorem gX4_nearest_X4_isPart : GoodIn wsX4_nearest (va_wsS RX4 93 yX4_isPart wsX4_isPart) := goodIn_app (goodIn_of _ (by decide +kernel)) ggX4_nearest_X4_isPart
set_option maxRecDepth 20000 in
theorem ggX4_nearest_X4_side_ : GoodIn wsX4_nearest wsX4_side_ := goodIn_r _ [14, 15, 16, 17, 5, 18, 19, 20, 21, 22, 23, 24, 25, 26, 27, 28, 29, 30, 31, 32, 33, 34, 35, 36, 37, 38, 39, 40, 41, 42, 43, 44, 45, 46, 47, 48, 49, 50, 51] (by decide +kernel) (by decide +kernel)
set_option maxRecDepth 20000 in
theorem gX4_nearest_X4_side_ : GoodIn wsX4_nearest (wsV RX4 100 RX4 yX4_side_ wsX4_side_) := goodIn_app (goodIn_of _ (by decide +kernel)) ggX4_nearest_X4_side_
theorem dX4_nearest_0 : decode cX4_nearest 0 = .ok (.aload_n 0, 1) := by decide +kernel
theorem dX4_nearest_1 : decode cX4_nearest 1 = .ok (.iload_n 1, 1) := by decide +kernel
theorem dX4_nearest_2 : decode cX4_nearest 2 = .ok (.invokestatic 93, 3) := by decide +kernel
theorem dX4_nearest_5 : decode cX4_nearest 5 = .ok (.ifCond .eq 14, 3) := by decide +kernel
theorem dX4_nearest_8 : decode cX4_nearest 8 = .ok (.iload_n 2, 1) := by decide +kernel
theorem dX4_nearest_9 : decode cX4_nearest 9 = .ok (.invokestatic 93, 3) := by decide +kernel
theorem dX4_nearest_12 : decode cX4_nearest 12 = .ok (.ifCond .eq 7, 3) := by decide +kernel
theorem dX4_nearest_15 : decode cX4_nearest 15 = .ok (.iconst 0, 1) := by decide +kernel
theorem dX4_nearest_16 : decode cX4_nearest 16 = .ok (.goto 4, 3) := by decide +kernel
theorem dX4_nearest_19 : decode cX4_nearest 19 = .ok (.iconst 1, 1) := by decide +kernel
theorem dX4_nearest_20 : decode cX4_nearest 20 = .ok (.putfield 47, 3) := by decide +kernel
theorem dX4_nearest_23 : decode cX4_nearest 23 = .ok (.aload_n 0, 1) := by decide +kernel
theorem dX4_nearest_24 : decode cX4_nearest 24 = .ok (.getfield 47, 3) := by decide +kernel
theorem dX4_nearest_27 : decode cX4_nearest 27 = .ok (.ifCond .gt 8, 3) := by decide +kernel
theorem dX4_nearest_30 : decode cX4_nearest 30 = .ok (.iload_n 1, 1) := by decide +kernel
theorem dX4_nearest_31 : decode cX4_nearest 31 = .ok (.iload_n 2, 1) := by decide +kernel
theorem dX4_nearest_32 : decode cX4_nearest 32 = .ok (.if_icmp .ge 5, 3) := by decide +kernel
theorem dX4_nearest_35 : decode cX4_nearest 35 = .ok (.iconst 0, 1) := by decide +kernel
theorem dX4_nearest_36 : decode cX4_nearest 36 = .ok (.ireturn, 1) := by decide +kernel
theorem dX4_nearest_37 : decode cX4_nearest 37 = .ok (.iconst 0, 1) := by decide +kernel
theorem dX4_nearest_38 : decode cX4_nearest 38 = .ok (.istore_n 3, 1) := by decide +kernel
theorem dX4_nearest_39 : decode cX4_nearest 39 = .ok (.iload_n 3, 1) := by decide +kernel
theorem dX4_nearest_40 : decode cX4_nearest 40 = .ok (.iconst 2, 1) := by decide +kernel
theorem dX4_nearest_41 : decode cX4_nearest 41 = .ok (.aload_n 0, 1) := by decide +kernel
theorem dX4_nearest_42 : decode cX4_nearest 42 = .ok (.getfield 44, 3) := by decide +kernel
theorem dX4_nearest_45 : decode cX4_nearest 45 = .ok (.imul, 1) := by decide +kernel
theorem dX4_nearest_46 : decode cX4_nearest 46 = .ok (.if_icmp .ge 25, 3) := by decide +kernel
theorem dX4_nearest_49 : decode cX4_nearest 49 = .ok (.aload_n 0, 1) := by decide +kernel
theorem dX4_nearest_50 : decode cX4_nearest 50 = .ok (.iload_n 1, 1) := by decide +kernel
theorem dX4_nearest_51 : decode cX4_nearest 51 = .ok (.iload_n 2, 1) := by decide +kernel
theorem dX4_nearest_52 : decode cX4_nearest 52 = .ok (.aload_n 0, 1) := by decide +kernel
theorem dX4_nearest_53 : decode cX4_nearest 53 = .ok (.getfield 44, 3) := by decide +kernel
theorem dX4_nearest_56 : decode cX4_nearest 56 = .ok (.iload_n 3, 1) := by decide +kernel
theorem dX4_nearest_57 : decode cX4_nearest 57 = .ok (.iconst 1, 1) := by decide +kernel
theorem dX4_nearest_58 : decode cX4_nearest 58 = .ok (.iadd, 1) := by decide +kernel
theorem dX4_nearest_59 : decode cX4_nearest 59 = .ok (.invokevirtual 100, 3) := by decide +kernel
theorem dX4_nearest_62 : decode cX4_nearest 62 = .ok (.ifCond .lt 9, 3) := by decide +kernel
theorem dX4_nearest_65 : decode cX4_nearest 65 = .ok (.iinc 3 1, 3) := by decide +kernel
theorem dX4_nearest_68 : decode cX4_nearest 68 = .ok (.goto (-29), 3) := by decide +kernel
theorem dX4_nearest_71 : decode cX4_nearest 71 = .ok (.iload_n 3, 1) := by decide +kernel
theorem dX4_nearest_72 : decode cX4_nearest 72 = .ok (.iconst 2, 1) := by decide +kernel
theorem dX4_nearest_73 : decode cX4_nearest 73 = .ok (.aload_n 0, 1) := by decide +kernel
theorem dX4_nearest_74 : decode cX4_nearest 74 = .ok (.getfield 44, 3) := by decide +kernel
theorem dX4_nearest_77 : decode cX4_nearest 77 = .ok (.imul, 1) := by decide +kernel
theorem dX4_nearest_78 : decode cX4_nearest 78 = .ok (.if_icmp .ge 29, 3) := by decide +kernel
theorem dX4_nearest_81 : decode cX4_nearest 81 = .ok (.aload_n 0, 1) := by decide +kernel
theorem dX4_nearest_82 : decode cX4_nearest 82 = .ok (.iload_n 1, 1) := by decide +kernel
theorem dX4_nearest_83 : decode cX4_nearest 83 = .ok (.iload_n 2, 1) := by decide +kernel
theorem dX4_nearest_84 : decode cX4_nearest 84 = .ok (.iconst 2, 1) := by decide +kernel
theorem dX4_nearest_85 : decode cX4_nearest 85 = .ok (.aload_n 0, 1) := by decide +kernel
theorem dX4_nearest_86 : decode cX4_nearest 86 = .ok (.getfield 44, 3) := by decide +kernel
theorem dX4_nearest_89 : decode cX4_nearest 89 = .ok (.imul, 1) := by decide +kernel
theorem dX4_nearest_90 : decode cX4_nearest 90 = .ok (.iconst 2, 1) := by decide +kernel
theorem dX4_nearest_91 : decode cX4_nearest 91 = .ok (.iload_n 3, 1) := by decide +kernel
theorem dX4_nearest_92 : decode cX4_nearest 92 = .ok (.imul, 1) := by decide +kernel
theorem dX4_nearest_93 : decode cX4_nearest 93 = .ok (.iconst 1, 1) := by decide +kernel
theorem dX4_nearest_94 : decode cX4_nearest 94 = .ok (.iadd, 1) := by decide +kernel
theorem dX4_nearest_95 : decode cX4_nearest 95 = .ok (.invokevirtual 100, 3) := by decide +kernel
theorem dX4_nearest_98 : decode cX4_nearest 98 = .ok (.ifCond .le 9, 3) := by decide +kernel
theorem dX4_nearest_101 : decode cX4_nearest 101 = .ok (.iload_n 3, 1) := by decide +kernel
theorem dX4_nearest_102 : decode cX4_nearest 102 = .ok (.iconst 1, 1) := by decide +kernel
theorem dX4_nearest_103 : decode cX4_nearest 103 = .ok (.iadd, 1) := by decide +kernel
theorem dX4_nearest_104 : decode cX4_nearest 104 = .ok (.goto 4, 3) := by decide +kernel
theorem dX4_nearest_107 : decode cX4_nearest 107 = .ok (.iload_n 3, 1) := by decide +kernel
theorem dX4_nearest_108 : decode cX4_nearest 108 = .ok (.ireturn, 1) := by decide +kernel
theorem dX4_isEven_0 : decode cX4_isEven 0 = .ok (.aload_n 0, 1) := by decide +kernel
theorem dX4_isEven_1 : decode cX4_isEven 1 = .ok (.getfield 41, 3) := by decide +kernel
theorem dX4_isEven_4 : decode cX4_isEven 4 = .ok (.bipush 76, 2) := by decide +kernel
theorem dX4_isEven_6 : decode cX4_isEven 6 = .ok (.iload_n 1, 1) := by decide +kernel
theorem dX4_isEven_7 : decode cX4_isEven 7 = .ok (.imul, 1) := by decide +kernel
theorem dX4_isEven_8 : decode cX4_isEven 8 = .ok (.iaload, 1) := by decide +kernel
theorem dX4_isEven_9 : decode cX4_isEven 9 = .ok (.iconst 1, 1) := by decide +kernel
theorem dX4_isEven_10 : decode cX4_isEven 10 = .ok (.iand, 1) := by decide +kernel
theorem dX4_isEven_11 : decode cX4_isEven 11 = .ok (.ifCond .ne 7, 3) := by decide +kernel
theorem dX4_isEven_14 : decode cX4_isEven 14 = .ok (.iconst 1, 1) := by decide +kernel
theorem dX4_isEven_15 : decode cX4_isEven 15 = .ok (.goto 4, 3) := by decide +kernel
theorem dX4_isEven_18 : decode cX4_isEven 18 = .ok (.iconst 0, 1) := by decide +kernel
theorem dX4_isEven_19 : decode cX4_isEven 19 = .ok (.ireturn, 1) := by decide +kernel
theorem dX4_half_0 : decode cX4_half 0 = .ok (.iconst 0, 1) := by decide +kernel
theorem dX4_half_1 : decode cX4_half 1 = .ok (.istore_n 2, 1) := by decide +kernel
theorem dX4_half_2 : decode cX4_half 2 = .ok (.iload_n 2, 1) := by decide +kernel
theorem dX4_half_3 : decode cX4_half 3 = .ok (.bipush 76, 2) := by decide +kernel
theorem dX4_half_5 : decode cX4_half 5 = .ok (.if_icmp .ge 66, 3) := by decide +kernel
theorem dX4_half_8 : decode cX4_half 8 = .ok (.iload_n 2, 1) := by decide +kernel
theorem dX4_half_9 : decode cX4_half 9 = .ok (.iconst 1, 1) := by decide +kernel
theorem dX4_half_10 : decode cX4_half 10 = .ok (.iadd, 1) := by decide +kernel
theorem dX4_half_11 : decode cX4_half 11 = .ok (.bipush 76, 2) := by decide +kernel
theorem dX4_half_13 : decode cX4_half 13 = .ok (.if_icmp .ge 21, 3) := by decide +kernel
theorem dX4_half_16 : decode cX4_half 16 = .ok (.aload_n 0, 1) := by decide +kernel
theorem dX4_half_17 : decode cX4_half 17 = .ok (.getfield 41, 3) := by decide +kernel
theorem dX4_half_20 : decode cX4_half 20 = .ok (.bipush 76, 2) := by decide +kernel
theorem dX4_half_22 : decode cX4_half 22 = .ok (.iload_n 1, 1) := by decide +kernel
theorem dX4_half_23 : decode cX4_half 23 = .ok (.imul, 1) := by decide +kernel
theorem dX4_half_24 : decode cX4_half 24 = .ok (.iload_n 2, 1) := by decide +kernel
theorem dX4_half_25 : decode cX4_half 25 = .ok (.iadd, 1) := by decide +kernel
theorem dX4_half_26 : decode cX4_half 26 = .ok (.iconst 1, 1) := by decide +kernel
theorem dX4_half_27 : decode cX4_half 27 = .ok (.iadd, 1) := by decide +kernel
theorem dX4_half_28 : decode cX4_half 28 = .ok (.iaload, 1) := by decide +kernel
theorem dX4_half_29 : decode cX4_half 29 = .ok (.iconst 1, 1) := by decide +kernel
theorem dX4_half_30 : decode cX4_half 30 = .ok (.iand, 1) := by decide +kernel
theorem dX4_half_31 : decode cX4_half 31 = .ok (.goto 4, 3) := by decide +kernel
theorem dX4_half_34 : decode cX4_half 34 = .ok (.iconst 0, 1) := by decide +kernel
theorem dX4_half_35 : decode cX4_half 35 = .ok (.istore_n 3, 1) := by decide +kernel
theorem dX4_half_36 : decode cX4_half 36 = .ok (.aload_n 0, 1) := by decide +kernel
theorem dX4_half_37 : decode cX4_half 37 = .ok (.getfield 41, 3) := by decide +kernel
theorem dX4_half_40 : decode cX4_half 40 = .ok (.bipush 76, 2) := by decide +kernel
theorem dX4_half_42 : decode cX4_half 42 = .ok (.iload_n 1, 1) := by decide +kernel
theorem dX4_half_43 : decode cX4_half 43 = .ok (.imul, 1) := by decide +kernel
theorem dX4_half_44 : decode cX4_half 44 = .ok (.iload_n 2, 1) := by decide +kernel
theorem dX4_half_45 : decode cX4_half 45 = .ok (.iadd, 1) := by decide +kernel
theorem dX4_half_46 : decode cX4_half 46 = .ok (.aload_n 0, 1) := by decide +kernel
theorem dX4_half_47 : decode cX4_half 47 = .ok (.getfield 41, 3) := by decide +kernel
theorem dX4_half_50 : decode cX4_half 50 = .ok (.bipush 76, 2) := by decide +kernel
theorem dX4_half_52 : decode cX4_half 52 = .ok (.iload_n 1, 1) := by decide +kernel
theorem dX4_half_53 : decode cX4_half 53 = .ok (.imul, 1) := by decide +kernel
theorem dX4_half_54 : decode cX4_half 54 = .ok (.iload_n 2, 1) := by decide +kernel
theorem dX4_half_55 : decode cX4_half 55 = .ok (.iadd, 1) := by decide +kernel
theorem dX4_half_56 : decode cX4_half 56 = .ok (.iaload, 1) := by decide +kernel
theorem dX4_half_57 : decode cX4_half 57 = .ok (.iconst 1, 1) := by decide +kernel
theorem dX4_half_58 : decode cX4_half 58 = .ok (.ishr, 1) := by decide +kernel
theorem dX4_half_59 : decode cX4_half 59 = .ok (.iload_n 3, 1) := by decide +kernel
theorem dX4_half_60 : decode cX4_half 60 = .ok (.bipush 14, 2) := by decide +kernel
theorem dX4_half_62 : decode cX4_half 62 = .ok (.ishl, 1) := by decide +kernel
theorem dX4_half_63 : decode cX4_half 63 = .ok (.ior, 1) := by decide +kernel
theorem dX4_half_64 : decode cX4_half 64 = .ok (.iastore, 1) := by decide +kernel
theorem dX4_half_65 : decode cX4_half 65 = .ok (.iinc 2 1, 3) := by decide +kernel
theorem dX4_half_68 : decode cX4_half 68 = .ok (.goto (-66), 3) := by decide +kernel
theorem dX4_half_71 : decode cX4_half 71 = .ok (.return_, 1) := by decide +kernel
theorem dX4_told_0 : decode cX4_told 0 = .ok (.lconst 0, 1) := by decide +kernel
theorem dX4_told_1 : decode cX4_told 1 = .ok (.lstore_n 2, 1) := by decide +kernel
theorem dX4_told_2 : decode cX4_told 2 = .ok (.bipush 75, 2) := by decide +kernel
theorem dX4_told_4 : decode cX4_told 4 = .ok (.istore 4, 2) := by decide +kernel
theorem dX4_told_6 : decode cX4_told 6 = .ok (.iload 4, 2) := by decide +kernel
theorem dX4_told_8 : decode cX4_told 8 = .ok (.ifCond .lt 43, 3) := by decide +kernel
theorem dX4_told_11 : decode cX4_told 11 = .ok (.lload_n 2, 1) := by decide +kernel
theorem dX4_told_12 : decode cX4_told 12 = .ok (.ldc2_w 103, 3) := by decide +kernel
theorem dX4_told_15 : decode cX4_told 15 = .ok (.lcmp, 1) := by decide +kernel
theorem dX4_told_16 : decode cX4_told 16 = .ok (.ifCond .le 9, 3) := by decide +kernel
theorem dX4_told_19 : decode cX4_told 19 = .ok (.ldc2_w 105, 3) := by decide +kernel
theorem dX4_told_22 : decode cX4_told 22 = .ok (.goto 22, 3) := by decide +kernel
theorem dX4_told_25 : decode cX4_told 25 = .ok (.lload_n 2, 1) := by decide +kernel
theorem dX4_told_26 : decode cX4_told 26 = .ok (.ldc2_w 107, 3) := by decide +kernel
theorem dX4_told_29 : decode cX4_told 29 = .ok (.lmul, 1) := by decide +kernel
theorem dX4_told_30 : decode cX4_told 30 = .ok (.aload_n 0, 1) := by decide +kernel
theorem dX4_told_31 : decode cX4_told 31 = .ok (.getfield 41, 3) := by decide +kernel
theorem dX4_told_34 : decode cX4_told 34 = .ok (.bipush 76, 2) := by decide +kernel
theorem dX4_told_36 : decode cX4_told 36 = .ok (.iload_n 1, 1) := by decide +kernel
theorem dX4_told_37 : decode cX4_told 37 = .ok (.imul, 1) := by decide +kernel
theorem dX4_told_38 : decode cX4_told 38 = .ok (.iload 4, 2) := by decide +kernel
theorem dX4_told_40 : decode cX4_told 40 = .ok (.iadd, 1) := by decide +kernel
theorem dX4_told_41 : decode cX4_told 41 = .ok (.iaload, 1) := by decide +kernel
theorem dX4_told_42 : decode cX4_told 42 = .ok (.i2l, 1) := by decide +kernel
theorem dX4_told_43 : decode cX4_told 43 = .ok (.ladd, 1) := by decide +kernel
theorem dX4_told_44 : decode cX4_told 44 = .ok (.lstore_n 2, 1) := by decide +kernel
theorem dX4_told_45 : decode cX4_told 45 = .ok (.iinc 4 (-1), 3) := by decide +kernel
theorem dX4_told_48 : decode cX4_told 48 = .ok (.goto (-42), 3) := by decide +kernel
theorem dX4_told_51 : decode cX4_told 51 = .ok (.lload_n 2, 1) := by decide +kernel
theorem dX4_told_52 : decode cX4_told 52 = .ok (.ldc2_w 109, 3) := by decide +kernel
theorem dX4_told_55 : decode cX4_told 55 = .ok (.lcmp, 1) := by decide +kernel
theorem dX4_told_56 : decode cX4_told 56 = .ok (.ifCond .le 9, 3) := by decide +kernel
theorem dX4_told_59 : decode cX4_told 59 = .ok (.ldc2_w 105, 3) := by decide +kernel
theorem dX4_told_62 : decode cX4_told 62 = .ok (.goto 4, 3) := by decide +kernel
theorem dX4_told_65 : decode cX4_told 65 = .ok (.lload_n 2, 1) := by decide +kernel
theorem dX4_told_66 : decode cX4_told 66 = .ok (.lreturn, 1) := by decide +kernel
set_option maxRecDepth 20000 in
theorem ggX4_step_X4_isPart : GoodIn wsX4_step wsX4_isPart := goodIn_r _ [11, 12, 13, 14, 10, 15] (by decide +kernel) (by decide +kernel)
set_option maxRecDepth 20000 in
theorem gX4_step_X4_isPart : GoodIn wsX4_step (va_wsS RX4 93 yX4_isPart wsX4_isPart) := goodIn_app (goodIn_of _ (by decide +kernel)) ggX4_step_X4_isPart
set_option maxRecDepth 20000 in
theorem ggX4_step_X4_divisor : GoodIn wsX4_step wsX4_divisor := goodIn_r _ [18] (by decide +kernel) (by decide +kernel)
set_option maxRecDepth 20000 in
theorem gX4_step_X4_divisor : GoodIn wsX4_step (va_wsS RX4 96 yX4_divisor wsX4_divisor) := goodIn_app (goodIn_of _ (by decide +kernel)) ggX4_step_X4_divisor
set_option maxRecDepth 20000 in
theorem ggX4_step_X4_set : GoodIn wsX4_step wsX4_set := goodIn_r _ [22, 23, 52, 53, 54, 55, 56, 57, 58, 59, 60, 61, 62, 63, 64, 65] (by decide +kernel) (by decide +kernel)
set_option maxRecDepth 20000 in
theorem gX4_step_X4_set : GoodIn wsX4_step (wsV RX4 58 RX4 yX4_set wsX4_set) := goodIn_app (goodIn_of _ (by decide +kernel)) ggX4_step_X4_set
set_option maxRecDepth 20000 in
theorem ggX4_step_X4_times : GoodIn wsX4_step wsX4_times := goodIn_r _ [27, 28, 23, 52, 53, 54, 55, 56, 57, 58, 59, 60, 61, 62, 63, 64, 65] (by decide +kernel) (by decide +kernel)
set_option maxRecDepth 20000 in
theorem gX4_step_X4_times : GoodIn wsX4_step (wsV RX4 62 RX4 yX4_times wsX4_times) := goodIn_app (goodIn_of _ (by decide +kernel)) ggX4_step_X4_times
set_option maxRecDepth 20000 in
theorem ggX4_step_X4_compare : GoodIn wsX4_step wsX4_compare := goodIn_r _ [32, 23, 52, 53, 54, 55, 56, 57, 58, 59, 60, 61, 62, 63, 64, 65] (by decide +kernel) (by decide +kernel)
set_option maxRecDepth 20000 in
theorem gX4_step_X4_compare : GoodIn wsX4_step (wsV RX4 77 RX4 yX4_compare wsX4_compare) := goodIn_app (goodIn_of _ (by decide +kernel)) ggX4_step_X4_compare
set_option maxRecDepth 20000 in
theorem ggX4_step_X4_half : GoodIn wsX4_step wsX4_half := goodIn_r _ [36, 23, 52, 53, 54, 55, 56, 57, 58, 59, 60, 61, 62, 63, 64, 65] (by decide +kernel) (by decide +kernel)
set_option maxRecDepth 20000 in
theorem gX4_step_X4_half : GoodIn wsX4_step (wsV RX4 111 RX4 yX4_half wsX4_half) := goodIn_app (goodIn_of _ (by decide +kernel)) ggX4_step_X4_half
set_option maxRecDepth 20000 in
theorem ggX4_step_X4_down : GoodIn wsX4_step wsX4_down := goodIn_r _ [40, 4, 41, 42, 43, 10, 44, 23, 33, 34, 35, 36, 24, 25, 26, 27, 28, 52, 53, 54, 55, 56, 57, 58, 59, 60, 61, 62, 63, 64, 65] (by decide +kernel) (by decide +kernel)
set_option maxRecDepth 20000 in
theorem gX4_step_X4_down : GoodIn wsX4_step (wsV RX4 115 RX4 yX4_down wsX4_down) := goodIn_app (goodIn_of _ (by decide +kernel)) ggX4_step_X4_down
set_option maxRecDepth 20000 in
theorem ggX4_step_X4_isEven : GoodIn wsX4_step wsX4_isEven := goodIn_r _ [44, 23, 52, 53, 54, 55, 56, 57, 58, 59, 60, 61, 62, 63, 64, 65] (by decide +kernel) (by decide +kernel)
set_option maxRecDepth 20000 in
theorem gX4_step_X4_isEven : GoodIn wsX4_step (wsV RX4 118 RX4 yX4_isEven wsX4_isEven) := goodIn_app (goodIn_of _ (by decide +kernel)) ggX4_step_X4_isEven
set_option maxRecDepth 20000 in
theorem ggX4_step_X4_told : GoodIn wsX4_step wsX4_told := goodIn_r _ [48, 49, 50, 51, 23, 5, 52, 53, 54, 55, 56, 57, 58, 59, 60, 61, 62, 63, 64, 65] (by decide +kernel) (by decide +kernel)
set_option maxRecDepth 20000 in
theorem gX4_step_X4_told : GoodIn wsX4_step (wsV RX4 121 RX4 yX4_told wsX4_told) := goodIn_app (goodIn_of _ (by decide +kernel)) ggX4_step_X4_told
theorem dX4_step_0 : decode cX4_step 0 = .ok (.aload_n 0, 1) := by decide +kernel
theorem dX4_step_1 : decode cX4_step 1 = .ok (.iload_n 1, 1) := by decide +kernel
theorem dX4_step_2 : decode cX4_step 2 = .ok (.invokestatic 93, 3) := by decide +kernel
theorem dX4_step_5 : decode cX4_step 5 = .ok (.ifCond .eq 14, 3) := by decide +kernel
theorem dX4_step_8 : decode cX4_step 8 = .ok (.iload_n 2, 1) := by decide +kernel
theorem dX4_step_9 : decode cX4_step 9 = .ok (.invokestatic 93, 3) := by decide +kernel
theorem dX4_step_12 : decode cX4_step 12 = .ok (.ifCond .eq 7, 3) := by decide +kernel
theorem dX4_step_15 : decode cX4_step 15 = .ok (.iconst 0, 1) := by decide +kernel
theorem dX4_step_16 : decode cX4_step 16 = .ok (.goto 4, 3) := by decide +kernel
theorem dX4_step_19 : decode cX4_step 19 = .ok (.iconst 1, 1) := by decide +kernel
theorem dX4_step_20 : decode cX4_step 20 = .ok (.putfield 47, 3) := by decide +kernel
theorem dX4_step_23 : decode cX4_step 23 = .ok (.aload_n 0, 1) := by decide +kernel
theorem dX4_step_24 : decode cX4_step 24 = .ok (.getfield 47, 3) := by decide +kernel
theorem dX4_step_27 : decode cX4_step 27 = .ok (.ifCond .le 5, 3) := by decide +kernel
theorem dX4_step_30 : decode cX4_step 30 = .ok (.iconst 0, 1) := by decide +kernel
theorem dX4_step_31 : decode cX4_step 31 = .ok (.ireturn, 1) := by decide +kernel
theorem dX4_step_32 : decode cX4_step 32 = .ok (.iload_n 1, 1) := by decide +kernel
theorem dX4_step_33 : decode cX4_step 33 = .ok (.i2l, 1) := by decide +kernel
theorem dX4_step_34 : decode cX4_step 34 = .ok (.iload_n 2, 1) := by decide +kernel
theorem dX4_step_35 : decode cX4_step 35 = .ok (.i2l, 1) := by decide +kernel
theorem dX4_step_36 : decode cX4_step 36 = .ok (.invokestatic 96, 3) := by decide +kernel
theorem dX4_step_39 : decode cX4_step 39 = .ok (.lstore_n 3, 1) := by decide +kernel
theorem dX4_step_40 : decode cX4_step 40 = .ok (.iload_n 1, 1) := by decide +kernel
theorem dX4_step_41 : decode cX4_step 41 = .ok (.i2l, 1) := by decide +kernel
theorem dX4_step_42 : decode cX4_step 42 = .ok (.lload_n 3, 1) := by decide +kernel
theorem dX4_step_43 : decode cX4_step 43 = .ok (.ldiv, 1) := by decide +kernel
theorem dX4_step_44 : decode cX4_step 44 = .ok (.lstore 5, 2) := by decide +kernel
theorem dX4_step_46 : decode cX4_step 46 = .ok (.iload_n 2, 1) := by decide +kernel
theorem dX4_step_47 : decode cX4_step 47 = .ok (.i2l, 1) := by decide +kernel
theorem dX4_step_48 : decode cX4_step 48 = .ok (.lload_n 3, 1) := by decide +kernel
theorem dX4_step_49 : decode cX4_step 49 = .ok (.ldiv, 1) := by decide +kernel
theorem dX4_step_50 : decode cX4_step 50 = .ok (.lstore 7, 2) := by decide +kernel
theorem dX4_step_52 : decode cX4_step 52 = .ok (.aload_n 0, 1) := by decide +kernel
theorem dX4_step_53 : decode cX4_step 53 = .ok (.getfield 26, 3) := by decide +kernel
theorem dX4_step_56 : decode cX4_step 56 = .ok (.lload 7, 2) := by decide +kernel
theorem dX4_step_58 : decode cX4_step 58 = .ok (.invokestatic 96, 3) := by decide +kernel
theorem dX4_step_61 : decode cX4_step 61 = .ok (.lstore 9, 2) := by decide +kernel
theorem dX4_step_63 : decode cX4_step 63 = .ok (.lload 5, 2) := by decide +kernel
theorem dX4_step_65 : decode cX4_step 65 = .ok (.aload_n 0, 1) := by decide +kernel
theorem dX4_step_66 : decode cX4_step 66 = .ok (.getfield 29, 3) := by decide +kernel
theorem dX4_step_69 : decode cX4_step 69 = .ok (.invokestatic 96, 3) := by decide +kernel
theorem dX4_step_72 : decode cX4_step 72 = .ok (.lstore 11, 2) := by decide +kernel
theorem dX4_step_74 : decode cX4_step 74 = .ok (.aload_n 0, 1) := by decide +kernel
theorem dX4_step_75 : decode cX4_step 75 = .ok (.iconst 0, 1) := by decide +kernel
theorem dX4_step_76 : decode cX4_step 76 = .ok (.aload_n 0, 1) := by decide +kernel
theorem dX4_step_77 : decode cX4_step 77 = .ok (.getfield 26, 3) := by decide +kernel
theorem dX4_step_80 : decode cX4_step 80 = .ok (.lload 9, 2) := by decide +kernel
theorem dX4_step_82 : decode cX4_step 82 = .ok (.ldiv, 1) := by decide +kernel
theorem dX4_step_83 : decode cX4_step 83 = .ok (.invokevirtual 58, 3) := by decide +kernel
theorem dX4_step_86 : decode cX4_step 86 = .ok (.aload_n 0, 1) := by decide +kernel
theorem dX4_step_87 : decode cX4_step 87 = .ok (.iconst 0, 1) := by decide +kernel
theorem dX4_step_88 : decode cX4_step 88 = .ok (.lload 5, 2) := by decide +kernel
theorem dX4_step_90 : decode cX4_step 90 = .ok (.lload 11, 2) := by decide +kernel
theorem dX4_step_92 : decode cX4_step 92 = .ok (.ldiv, 1) := by decide +kernel
theorem dX4_step_93 : decode cX4_step 93 = .ok (.invokevirtual 62, 3) := by decide +kernel
theorem dX4_step_96 : decode cX4_step 96 = .ok (.aload_n 0, 1) := by decide +kernel
theorem dX4_step_97 : decode cX4_step 97 = .ok (.iconst 1, 1) := by decide +kernel
theorem dX4_step_98 : decode cX4_step 98 = .ok (.aload_n 0, 1) := by decide +kernel
theorem dX4_step_99 : decode cX4_step 99 = .ok (.getfield 29, 3) := by decide +kernel
theorem dX4_step_102 : decode cX4_step 102 = .ok (.lload 11, 2) := by decide +kernel
theorem dX4_step_104 : decode cX4_step 104 = .ok (.ldiv, 1) := by decide +kernel
theorem dX4_step_105 : decode cX4_step 105 = .ok (.invokevirtual 58, 3) := by decide +kernel
theorem dX4_step_108 : decode cX4_step 108 = .ok (.aload_n 0, 1) := by decide +kernel
theorem dX4_step_109 : decode cX4_step 109 = .ok (.iconst 1, 1) := by decide +kernel
theorem dX4_step_110 : decode cX4_step 110 = .ok (.lload 7, 2) := by decide +kernel
theorem dX4_step_112 : decode cX4_step 112 = .ok (.lload 9, 2) := by decide +kernel
theorem dX4_step_114 : decode cX4_step 114 = .ok (.ldiv, 1) := by decide +kernel
theorem dX4_step_115 : decode cX4_step 115 = .ok (.invokevirtual 62, 3) := by decide +kernel
theorem dX4_step_118 : decode cX4_step 118 = .ok (.lconst 0, 1) := by decide +kernel
theorem dX4_step_119 : decode cX4_step 119 = .ok (.lstore 13, 2) := by decide +kernel
theorem dX4_step_121 : decode cX4_step 121 = .ok (.iconst 1, 1) := by decide +kernel
theorem dX4_step_122 : decode cX4_step 122 = .ok (.istore 15, 2) := by decide +kernel
theorem dX4_step_124 : decode cX4_step 124 = .ok (.iload 15, 2) := by decide +kernel
theorem dX4_step_126 : decode cX4_step 126 = .ok (.ifCond .eq 48, 3) := by decide +kernel
theorem dX4_step_129 : decode cX4_step 129 = .ok (.aload_n 0, 1) := by decide +kernel
theorem dX4_step_130 : decode cX4_step 130 = .ok (.iconst 1, 1) := by decide +kernel
theorem dX4_step_131 : decode cX4_step 131 = .ok (.ldc2_w 50, 3) := by decide +kernel
theorem dX4_step_134 : decode cX4_step 134 = .ok (.invokevirtual 62, 3) := by decide +kernel
theorem dX4_step_137 : decode cX4_step 137 = .ok (.aload_n 0, 1) := by decide +kernel
theorem dX4_step_138 : decode cX4_step 138 = .ok (.invokevirtual 77, 3) := by decide +kernel
theorem dX4_step_141 : decode cX4_step 141 = .ok (.ifCond .lt 7, 3) := by decide +kernel
theorem dX4_step_144 : decode cX4_step 144 = .ok (.iconst 1, 1) := by decide +kernel
theorem dX4_step_145 : decode cX4_step 145 = .ok (.goto 4, 3) := by decide +kernel
theorem dX4_step_148 : decode cX4_step 148 = .ok (.iconst 0, 1) := by decide +kernel
theorem dX4_step_149 : decode cX4_step 149 = .ok (.istore 15, 2) := by decide +kernel
theorem dX4_step_151 : decode cX4_step 151 = .ok (.aload_n 0, 1) := by decide +kernel
theorem dX4_step_152 : decode cX4_step 152 = .ok (.iconst 1, 1) := by decide +kernel
theorem dX4_step_153 : decode cX4_step 153 = .ok (.invokevirtual 111, 3) := by decide +kernel
theorem dX4_step_156 : decode cX4_step 156 = .ok (.iload 15, 2) := by decide +kernel
theorem dX4_step_158 : decode cX4_step 158 = .ok (.ifCond .eq (-34), 3) := by decide +kernel
theorem dX4_step_161 : decode cX4_step 161 = .ok (.aload_n 0, 1) := by decide +kernel
theorem dX4_step_162 : decode cX4_step 162 = .ok (.invokevirtual 115, 3) := by decide +kernel
theorem dX4_step_165 : decode cX4_step 165 = .ok (.lload 13, 2) := by decide +kernel
theorem dX4_step_167 : decode cX4_step 167 = .ok (.lconst 1, 1) := by decide +kernel
theorem dX4_step_168 : decode cX4_step 168 = .ok (.ladd, 1) := by decide +kernel
theorem dX4_step_169 : decode cX4_step 169 = .ok (.lstore 13, 2) := by decide +kernel
theorem dX4_step_171 : decode cX4_step 171 = .ok (.goto (-47), 3) := by decide +kernel
theorem dX4_step_174 : decode cX4_step 174 = .ok (.aload_n 0, 1) := by decide +kernel
theorem dX4_step_175 : decode cX4_step 175 = .ok (.invokevirtual 77, 3) := by decide +kernel
theorem dX4_step_178 : decode cX4_step 178 = .ok (.ifCond .ge 36, 3) := by decide +kernel
theorem dX4_step_181 : decode cX4_step 181 = .ok (.aload_n 0, 1) := by decide +kernel
theorem dX4_step_182 : decode cX4_step 182 = .ok (.iconst 1, 1) := by decide +kernel
theorem dX4_step_183 : decode cX4_step 183 = .ok (.invokevirtual 118, 3) := by decide +kernel
theorem dX4_step_186 : decode cX4_step 186 = .ok (.ifCond .eq 11, 3) := by decide +kernel
theorem dX4_step_189 : decode cX4_step 189 = .ok (.aload_n 0, 1) := by decide +kernel
theorem dX4_step_190 : decode cX4_step 190 = .ok (.iconst 1, 1) := by decide +kernel
theorem dX4_step_191 : decode cX4_step 191 = .ok (.invokevirtual 111, 3) := by decide +kernel
theorem dX4_step_194 : decode cX4_step 194 = .ok (.goto 11, 3) := by decide +kernel
theorem dX4_step_197 : decode cX4_step 197 = .ok (.aload_n 0, 1) := by decide +kernel
theorem dX4_step_198 : decode cX4_step 198 = .ok (.iconst 0, 1) := by decide +kernel
theorem dX4_step_199 : decode cX4_step 199 = .ok (.ldc2_w 50, 3) := by decide +kernel
theorem dX4_step_202 : decode cX4_step 202 = .ok (.invokevirtual 62, 3) := by decide +kernel
theorem dX4_step_205 : decode cX4_step 205 = .ok (.lload 13, 2) := by decide +kernel
theorem dX4_step_207 : decode cX4_step 207 = .ok (.lconst 1, 1) := by decide +kernel
theorem dX4_step_208 : decode cX4_step 208 = .ok (.lsub, 1) := by decide +kernel
theorem dX4_step_209 : decode cX4_step 209 = .ok (.lstore 13, 2) := by decide +kernel
theorem dX4_step_211 : decode cX4_step 211 = .ok (.goto (-37), 3) := by decide +kernel
theorem dX4_step_214 : decode cX4_step 214 = .ok (.aload_n 0, 1) := by decide +kernel
theorem dX4_step_215 : decode cX4_step 215 = .ok (.iconst 0, 1) := by decide +kernel
theorem dX4_step_216 : decode cX4_step 216 = .ok (.invokevirtual 121, 3) := by decide +kernel
theorem dX4_step_219 : decode cX4_step 219 = .ok (.ldc2_w 109, 3) := by decide +kernel
theorem dX4_step_222 : decode cX4_step 222 = .ok (.lcmp, 1) := by decide +kernel
theorem dX4_step_223 : decode cX4_step 223 = .ok (.ifCond .gt 15, 3) := by decide +kernel
theorem dX4_step_226 : decode cX4_step 226 = .ok (.aload_n 0, 1) := by decide +kernel
theorem dX4_step_227 : decode cX4_step 227 = .ok (.iconst 1, 1) := by decide +kernel
theorem dX4_step_228 : decode cX4_step 228 = .ok (.invokevirtual 121, 3) := by decide +kernel
theorem dX4_step_231 : decode cX4_step 231 = .ok (.ldc2_w 109, 3) := by decide +kernel
theorem dX4_step_234 : decode cX4_step 234 = .ok (.lcmp, 1) := by decide +kernel
theorem dX4_step_235 : decode cX4_step 235 = .ok (.ifCond .le 5, 3) := by decide +kernel
theorem dX4_step_238 : decode cX4_step 238 = .ok (.iconst 0, 1) := by decide +kernel
theorem dX4_step_239 : decode cX4_step 239 = .ok (.ireturn, 1) := by decide +kernel
theorem dX4_step_240 : decode cX4_step 240 = .ok (.aload_n 0, 1) := by decide +kernel
theorem dX4_step_241 : decode cX4_step 241 = .ok (.aload_n 0, 1) := by decide +kernel
theorem dX4_step_242 : decode cX4_step 242 = .ok (.iconst 0, 1) := by decide +kernel
theorem dX4_step_243 : decode cX4_step 243 = .ok (.invokevirtual 121, 3) := by decide +kernel
theorem dX4_step_246 : decode cX4_step 246 = .ok (.putfield 26, 3) := by decide +kernel
theorem dX4_step_249 : decode cX4_step 249 = .ok (.aload_n 0, 1) := by decide +kernel
theorem dX4_step_250 : decode cX4_step 250 = .ok (.aload_n 0, 1) := by decide +kernel
theorem dX4_step_251 : decode cX4_step 251 = .ok (.iconst 1, 1) := by decide +kernel
theorem dX4_step_252 : decode cX4_step 252 = .ok (.invokevirtual 121, 3) := by decide +kernel
theorem dX4_step_255 : decode cX4_step 255 = .ok (.putfield 29, 3) := by decide +kernel
theorem dX4_step_258 : decode cX4_step 258 = .ok (.aload_n 0, 1) := by decide +kernel
theorem dX4_step_259 : decode cX4_step 259 = .ok (.aload_n 0, 1) := by decide +kernel
theorem dX4_step_260 : decode cX4_step 260 = .ok (.getfield 125, 3) := by decide +kernel
theorem dX4_step_263 : decode cX4_step 263 = .ok (.lload 13, 2) := by decide +kernel
theorem dX4_step_265 : decode cX4_step 265 = .ok (.ladd, 1) := by decide +kernel
theorem dX4_step_266 : decode cX4_step 266 = .ok (.putfield 125, 3) := by decide +kernel
theorem dX4_step_269 : decode cX4_step 269 = .ok (.aload_n 0, 1) := by decide +kernel
theorem dX4_step_270 : decode cX4_step 270 = .ok (.dup, 1) := by decide +kernel
theorem dX4_step_271 : decode cX4_step 271 = .ok (.getfield 128, 3) := by decide +kernel
theorem dX4_step_274 : decode cX4_step 274 = .ok (.lconst 1, 1) := by decide +kernel
theorem dX4_step_275 : decode cX4_step 275 = .ok (.ladd, 1) := by decide +kernel
theorem dX4_step_276 : decode cX4_step 276 = .ok (.putfield 128, 3) := by decide +kernel
theorem dX4_step_279 : decode cX4_step 279 = .ok (.iconst 1, 1) := by decide +kernel
theorem dX4_step_280 : decode cX4_step 280 = .ok (.ireturn, 1) := by decide +kernel
set_option maxRecDepth 20000 in
theorem ggX4_down_X4_isEven : GoodIn wsX4_down wsX4_isEven := goodIn_r _ [6, 7, 17, 18, 19, 20, 21, 22, 23, 24, 25, 26, 27, 28, 29, 30] (by decide +kernel) (by decide +kernel)
set_option maxRecDepth 20000 in
theorem gX4_down_X4_isEven : GoodIn wsX4_down (wsV RX4 118 RX4 yX4_isEven wsX4_isEven) := goodIn_app (goodIn_of _ (by decide +kernel)) ggX4_down_X4_isEven
set_option maxRecDepth 20000 in
theorem ggX4_down_X4_half : GoodIn wsX4_down wsX4_half := goodIn_r _ [11, 7, 17, 18, 19, 20, 21, 22, 23, 24, 25, 26, 27, 28, 29, 30] (by decide +kernel) (by decide +kernel)
set_option maxRecDepth 20000 in
theorem gX4_down_X4_half : GoodIn wsX4_down (wsV RX4 111 RX4 yX4_half wsX4_half) := goodIn_app (goodIn_of _ (by decide +kernel)) ggX4_down_X4_half
set_option maxRecDepth 20000 in
theorem ggX4_down_X4_times : GoodIn wsX4_down wsX4_times := goodIn_r _ [15, 16, 7, 17, 18, 19, 20, 21, 22, 23, 24, 25, 26, 27, 28, 29, 30] (by decide +kernel) (by decide +kernel)
set_option maxRecDepth 20000 in
theorem gX4_down_X4_times : GoodIn wsX4_down (wsV RX4 62 RX4 yX4_times wsX4_times) := goodIn_app (goodIn_of _ (by decide +kernel)) ggX4_down_X4_times
theorem dX4_down_0 : decode cX4_down 0 = .ok (.aload_n 0, 1) := by decide +kernel
theorem dX4_down_1 : decode cX4_down 1 = .ok (.iconst 0, 1) := by decide +kernel
theorem dX4_down_2 : decode cX4_down 2 = .ok (.invokevirtual 118, 3) := by decide +kernel
theorem dX4_down_5 : decode cX4_down 5 = .ok (.ifCond .eq 11, 3) := by decide +kernel
theorem dX4_down_8 : decode cX4_down 8 = .ok (.aload_n 0, 1) := by decide +kernel
theorem dX4_down_9 : decode cX4_down 9 = .ok (.iconst 0, 1) := by decide +kernel
theorem dX4_down_10 : decode cX4_down 10 = .ok (.invokevirtual 111, 3) := by decide +kernel
theorem dX4_down_13 : decode cX4_down 13 = .ok (.goto 11, 3) := by decide +kernel
theorem dX4_down_16 : decode cX4_down 16 = .ok (.aload_n 0, 1) := by decide +kernel
theorem dX4_down_17 : decode cX4_down 17 = .ok (.iconst 1, 1) := by decide +kernel
theorem dX4_down_18 : decode cX4_down 18 = .ok (.ldc2_w 50, 3) := by decide +kernel
theorem dX4_down_21 : decode cX4_down 21 = .ok (.invokevirtual 62, 3) := by decide +kernel
theorem dX4_down_24 : decode cX4_down 24 = .ok (.return_, 1) := by decide +kernel
theorem dX4_clear_0 : decode cX4_clear 0 = .ok (.aload_n 0, 1) := by decide +kernel
theorem dX4_clear_1 : decode cX4_clear 1 = .ok (.iconst 0, 1) := by decide +kernel
theorem dX4_clear_2 : decode cX4_clear 2 = .ok (.putfield 47, 3) := by decide +kernel
theorem dX4_clear_5 : decode cX4_clear 5 = .ok (.aload_n 0, 1) := by decide +kernel
theorem dX4_clear_6 : decode cX4_clear 6 = .ok (.lconst 1, 1) := by decide +kernel
theorem dX4_clear_7 : decode cX4_clear 7 = .ok (.putfield 26, 3) := by decide +kernel
theorem dX4_clear_10 : decode cX4_clear 10 = .ok (.aload_n 0, 1) := by decide +kernel
theorem dX4_clear_11 : decode cX4_clear 11 = .ok (.lconst 1, 1) := by decide +kernel
theorem dX4_clear_12 : decode cX4_clear 12 = .ok (.putfield 29, 3) := by decide +kernel
theorem dX4_clear_15 : decode cX4_clear 15 = .ok (.aload_n 0, 1) := by decide +kernel
theorem dX4_clear_16 : decode cX4_clear 16 = .ok (.lconst 0, 1) := by decide +kernel
theorem dX4_clear_17 : decode cX4_clear 17 = .ok (.putfield 125, 3) := by decide +kernel
theorem dX4_clear_20 : decode cX4_clear 20 = .ok (.aload_n 0, 1) := by decide +kernel
theorem dX4_clear_21 : decode cX4_clear 21 = .ok (.lconst 0, 1) := by decide +kernel
theorem dX4_clear_22 : decode cX4_clear 22 = .ok (.putfield 128, 3) := by decide +kernel
theorem dX4_clear_25 : decode cX4_clear 25 = .ok (.return_, 1) := by decide +kernel
set_option maxRecDepth 20000 in
theorem ggX4_rest_X4_isIn : GoodIn wsX4_rest wsX4_isIn := goodIn_r _ [10] (by decide +kernel) (by decide +kernel)
set_option maxRecDepth 20000 in
theorem gX4_rest_X4_isIn : GoodIn wsX4_rest (va_wsS RX4 52 yX4_isIn wsX4_isIn) := goodIn_app (goodIn_of _ (by decide +kernel)) ggX4_rest_X4_isIn
theorem dX4_rest_0 : decode cX4_rest 0 = .ok (.aload_n 0, 1) := by decide +kernel
theorem dX4_rest_1 : decode cX4_rest 1 = .ok (.iload_n 1, 1) := by decide +kernel
theorem dX4_rest_2 : decode cX4_rest 2 = .ok (.i2l, 1) := by decide +kernel
theorem dX4_rest_3 : decode cX4_rest 3 = .ok (.lconst 0, 1) := by decide +kernel
theorem dX4_rest_4 : decode cX4_rest 4 = .ok (.ldc2_w 131, 3) := by decide +kernel
theorem dX4_rest_7 : decode cX4_rest 7 = .ok (.invokestatic 52, 3) := by decide +kernel
theorem dX4_rest_10 : decode cX4_rest 10 = .ok (.ifCond .eq 7, 3) := by decide +kernel
theorem dX4_rest_13 : decode cX4_rest 13 = .ok (.iconst 0, 1) := by decide +kernel
theorem dX4_rest_14 : decode cX4_rest 14 = .ok (.goto 4, 3) := by decide +kernel
theorem dX4_rest_17 : decode cX4_rest 17 = .ok (.iconst 1, 1) := by decide +kernel
theorem dX4_rest_18 : decode cX4_rest 18 = .ok (.putfield 47, 3) := by decide +kernel
theorem dX4_rest_21 : decode cX4_rest 21 = .ok (.aload_n 0, 1) := by decide +kernel
theorem dX4_rest_22 : decode cX4_rest 22 = .ok (.getfield 47, 3) := by decide +kernel
theorem dX4_rest_25 : decode cX4_rest 25 = .ok (.ifCond .le 7, 3) := by decide +kernel
theorem dX4_rest_28 : decode cX4_rest 28 = .ok (.lconst 0, 1) := by decide +kernel
theorem dX4_rest_29 : decode cX4_rest 29 = .ok (.goto 42, 3) := by decide +kernel
theorem dX4_rest_32 : decode cX4_rest 32 = .ok (.iload_n 1, 1) := by decide +kernel
theorem dX4_rest_33 : decode cX4_rest 33 = .ok (.ifCond .ne 10, 3) := by decide +kernel
theorem dX4_rest_36 : decode cX4_rest 36 = .ok (.aload_n 0, 1) := by decide +kernel
theorem dX4_rest_37 : decode cX4_rest 37 = .ok (.getfield 26, 3) := by decide +kernel
theorem dX4_rest_40 : decode cX4_rest 40 = .ok (.goto 31, 3) := by decide +kernel
theorem dX4_rest_43 : decode cX4_rest 43 = .ok (.iload_n 1, 1) := by decide +kernel
theorem dX4_rest_44 : decode cX4_rest 44 = .ok (.iconst 1, 1) := by decide +kernel
theorem dX4_rest_45 : decode cX4_rest 45 = .ok (.if_icmp .ne 10, 3) := by decide +kernel
theorem dX4_rest_48 : decode cX4_rest 48 = .ok (.aload_n 0, 1) := by decide +kernel
theorem dX4_rest_49 : decode cX4_rest 49 = .ok (.getfield 29, 3) := by decide +kernel
theorem dX4_rest_52 : decode cX4_rest 52 = .ok (.goto 19, 3) := by decide +kernel
theorem dX4_rest_55 : decode cX4_rest 55 = .ok (.iload_n 1, 1) := by decide +kernel
theorem dX4_rest_56 : decode cX4_rest 56 = .ok (.iconst 2, 1) := by decide +kernel
theorem dX4_rest_57 : decode cX4_rest 57 = .ok (.if_icmp .ne 10, 3) := by decide +kernel
theorem dX4_rest_60 : decode cX4_rest 60 = .ok (.aload_n 0, 1) := by decide +kernel
theorem dX4_rest_61 : decode cX4_rest 61 = .ok (.getfield 125, 3) := by decide +kernel
theorem dX4_rest_64 : decode cX4_rest 64 = .ok (.goto 7, 3) := by decide +kernel
theorem dX4_rest_67 : decode cX4_rest 67 = .ok (.aload_n 0, 1) := by decide +kernel
theorem dX4_rest_68 : decode cX4_rest 68 = .ok (.getfield 128, 3) := by decide +kernel
theorem dX4_rest_71 : decode cX4_rest 71 = .ok (.lreturn, 1) := by decide +kernel
set_option maxRecDepth 20000 in
theorem ggX4_beat_X4_noPlace : GoodIn wsX4_beat wsX4_noPlace := goodIn_r _ [9, 10, 11, 12, 13, 8, 14, 18, 19, 20, 21, 22, 23, 24, 25, 26, 27, 28, 29, 30, 31] (by decide +kernel) (by decide +kernel)
set_option maxRecDepth 20000 in
theorem gX4_beat_X4_noPlace : GoodIn wsX4_beat (wsV RX4 85 RX4 yX4_noPlace wsX4_noPlace) := goodIn_app (goodIn_of _ (by decide +kernel)) ggX4_beat_X4_noPlace
set_option maxRecDepth 20000 in
theorem ggX4_beat_X4_isIn : GoodIn wsX4_beat wsX4_isIn := goodIn_r _ [14] (by decide +kernel) (by decide +kernel)
set_option maxRecDepth 20000 in
theorem gX4_beat_X4_isIn : GoodIn wsX4_beat (va_wsS RX4 52 yX4_isIn wsX4_isIn) := goodIn_app (goodIn_of _ (by decide +kernel)) ggX4_beat_X4_isIn
set_option maxRecDepth 20000 in
theorem ggX4_beat_X4_divisor : GoodIn wsX4_beat wsX4_divisor := goodIn_r _ [17] (by decide +kernel) (by decide +kernel)
set_option maxRecDepth 20000 in
theorem gX4_beat_X4_divisor : GoodIn wsX4_beat (va_wsS RX4 96 yX4_divisor wsX4_divisor) := goodIn_app (goodIn_of _ (by decide +kernel)) ggX4_beat_X4_divisor
theorem dX4_beat_0 : decode cX4_beat 0 = .ok (.aload_n 0, 1) := by decide +kernel
theorem dX4_beat_1 : decode cX4_beat 1 = .ok (.aload_n 0, 1) := by decide +kernel
theorem dX4_beat_2 : decode cX4_beat 2 = .ok (.iload_n 1, 1) := by decide +kernel
theorem dX4_beat_3 : decode cX4_beat 3 = .ok (.invokevirtual 85, 3) := by decide +kernel
theorem dX4_beat_6 : decode cX4_beat 6 = .ok (.ifCond .ne 22, 3) := by decide +kernel
theorem dX4_beat_9 : decode cX4_beat 9 = .ok (.aload_n 0, 1) := by decide +kernel
theorem dX4_beat_10 : decode cX4_beat 10 = .ok (.iload_n 2, 1) := by decide +kernel
theorem dX4_beat_11 : decode cX4_beat 11 = .ok (.invokevirtual 85, 3) := by decide +kernel
theorem dX4_beat_14 : decode cX4_beat 14 = .ok (.ifCond .ne 14, 3) := by decide +kernel
theorem dX4_beat_17 : decode cX4_beat 17 = .ok (.iload 4, 2) := by decide +kernel
theorem dX4_beat_19 : decode cX4_beat 19 = .ok (.i2l, 1) := by decide +kernel
theorem dX4_beat_20 : decode cX4_beat 20 = .ok (.lconst 0, 1) := by decide +kernel
theorem dX4_beat_21 : decode cX4_beat 21 = .ok (.lconst 1, 1) := by decide +kernel
theorem dX4_beat_22 : decode cX4_beat 22 = .ok (.invokestatic 52, 3) := by decide +kernel
theorem dX4_beat_25 : decode cX4_beat 25 = .ok (.ifCond .ne 7, 3) := by decide +kernel
theorem dX4_beat_28 : decode cX4_beat 28 = .ok (.iconst 1, 1) := by decide +kernel
theorem dX4_beat_29 : decode cX4_beat 29 = .ok (.goto 20, 3) := by decide +kernel
theorem dX4_beat_32 : decode cX4_beat 32 = .ok (.iload_n 3, 1) := by decide +kernel
theorem dX4_beat_33 : decode cX4_beat 33 = .ok (.i2l, 1) := by decide +kernel
theorem dX4_beat_34 : decode cX4_beat 34 = .ok (.lconst 1, 1) := by decide +kernel
theorem dX4_beat_35 : decode cX4_beat 35 = .ok (.ldc2_w 133, 3) := by decide +kernel
theorem dX4_beat_38 : decode cX4_beat 38 = .ok (.invokestatic 52, 3) := by decide +kernel
theorem dX4_beat_41 : decode cX4_beat 41 = .ok (.ifCond .eq 7, 3) := by decide +kernel
theorem dX4_beat_44 : decode cX4_beat 44 = .ok (.iconst 0, 1) := by decide +kernel
theorem dX4_beat_45 : decode cX4_beat 45 = .ok (.goto 4, 3) := by decide +kernel
theorem dX4_beat_48 : decode cX4_beat 48 = .ok (.iconst 2, 1) := by decide +kernel
theorem dX4_beat_49 : decode cX4_beat 49 = .ok (.putfield 47, 3) := by decide +kernel
theorem dX4_beat_52 : decode cX4_beat 52 = .ok (.aload_n 0, 1) := by decide +kernel
theorem dX4_beat_53 : decode cX4_beat 53 = .ok (.getfield 47, 3) := by decide +kernel
theorem dX4_beat_56 : decode cX4_beat 56 = .ok (.ifCond .le 5, 3) := by decide +kernel
theorem dX4_beat_59 : decode cX4_beat 59 = .ok (.lconst 0, 1) := by decide +kernel
theorem dX4_beat_60 : decode cX4_beat 60 = .ok (.lreturn, 1) := by decide +kernel
theorem dX4_beat_61 : decode cX4_beat 61 = .ok (.aload_n 0, 1) := by decide +kernel
theorem dX4_beat_62 : decode cX4_beat 62 = .ok (.getfield 19, 3) := by decide +kernel
theorem dX4_beat_65 : decode cX4_beat 65 = .ok (.iload_n 1, 1) := by decide +kernel
theorem dX4_beat_66 : decode cX4_beat 66 = .ok (.iaload, 1) := by decide +kernel
theorem dX4_beat_67 : decode cX4_beat 67 = .ok (.i2l, 1) := by decide +kernel
theorem dX4_beat_68 : decode cX4_beat 68 = .ok (.aload_n 0, 1) := by decide +kernel
theorem dX4_beat_69 : decode cX4_beat 69 = .ok (.getfield 23, 3) := by decide +kernel
theorem dX4_beat_72 : decode cX4_beat 72 = .ok (.iload_n 2, 1) := by decide +kernel
theorem dX4_beat_73 : decode cX4_beat 73 = .ok (.iaload, 1) := by decide +kernel
theorem dX4_beat_74 : decode cX4_beat 74 = .ok (.i2l, 1) := by decide +kernel
theorem dX4_beat_75 : decode cX4_beat 75 = .ok (.lmul, 1) := by decide +kernel
theorem dX4_beat_76 : decode cX4_beat 76 = .ok (.aload_n 0, 1) := by decide +kernel
theorem dX4_beat_77 : decode cX4_beat 77 = .ok (.getfield 19, 3) := by decide +kernel
theorem dX4_beat_80 : decode cX4_beat 80 = .ok (.iload_n 2, 1) := by decide +kernel
theorem dX4_beat_81 : decode cX4_beat 81 = .ok (.iaload, 1) := by decide +kernel
theorem dX4_beat_82 : decode cX4_beat 82 = .ok (.i2l, 1) := by decide +kernel
theorem dX4_beat_83 : decode cX4_beat 83 = .ok (.aload_n 0, 1) := by decide +kernel
theorem dX4_beat_84 : decode cX4_beat 84 = .ok (.getfield 23, 3) := by decide +kernel
theorem dX4_beat_87 : decode cX4_beat 87 = .ok (.iload_n 1, 1) := by decide +kernel
theorem dX4_beat_88 : decode cX4_beat 88 = .ok (.iaload, 1) := by decide +kernel
theorem dX4_beat_89 : decode cX4_beat 89 = .ok (.i2l, 1) := by decide +kernel
theorem dX4_beat_90 : decode cX4_beat 90 = .ok (.lmul, 1) := by decide +kernel
theorem dX4_beat_91 : decode cX4_beat 91 = .ok (.lsub, 1) := by decide +kernel
theorem dX4_beat_92 : decode cX4_beat 92 = .ok (.lstore 5, 2) := by decide +kernel
theorem dX4_beat_94 : decode cX4_beat 94 = .ok (.lload 5, 2) := by decide +kernel
theorem dX4_beat_96 : decode cX4_beat 96 = .ok (.lconst 0, 1) := by decide +kernel
theorem dX4_beat_97 : decode cX4_beat 97 = .ok (.lcmp, 1) := by decide +kernel
theorem dX4_beat_98 : decode cX4_beat 98 = .ok (.ifCond .ge 9, 3) := by decide +kernel
theorem dX4_beat_101 : decode cX4_beat 101 = .ok (.lload 5, 2) := by decide +kernel
theorem dX4_beat_103 : decode cX4_beat 103 = .ok (.lneg, 1) := by decide +kernel
theorem dX4_beat_104 : decode cX4_beat 104 = .ok (.goto 5, 3) := by decide +kernel
theorem dX4_beat_107 : decode cX4_beat 107 = .ok (.lload 5, 2) := by decide +kernel
theorem dX4_beat_109 : decode cX4_beat 109 = .ok (.iload_n 3, 1) := by decide +kernel
theorem dX4_beat_110 : decode cX4_beat 110 = .ok (.i2l, 1) := by decide +kernel
theorem dX4_beat_111 : decode cX4_beat 111 = .ok (.lmul, 1) := by decide +kernel
theorem dX4_beat_112 : decode cX4_beat 112 = .ok (.lstore 5, 2) := by decide +kernel
theorem dX4_beat_114 : decode cX4_beat 114 = .ok (.aload_n 0, 1) := by decide +kernel
theorem dX4_beat_115 : decode cX4_beat 115 = .ok (.getfield 23, 3) := by decide +kernel
theorem dX4_beat_118 : decode cX4_beat 118 = .ok (.iload_n 1, 1) := by decide +kernel
theorem dX4_beat_119 : decode cX4_beat 119 = .ok (.iaload, 1) := by decide +kernel
theorem dX4_beat_120 : decode cX4_beat 120 = .ok (.i2l, 1) := by decide +kernel
theorem dX4_beat_121 : decode cX4_beat 121 = .ok (.aload_n 0, 1) := by decide +kernel
theorem dX4_beat_122 : decode cX4_beat 122 = .ok (.getfield 23, 3) := by decide +kernel
theorem dX4_beat_125 : decode cX4_beat 125 = .ok (.iload_n 2, 1) := by decide +kernel
theorem dX4_beat_126 : decode cX4_beat 126 = .ok (.iaload, 1) := by decide +kernel
theorem dX4_beat_127 : decode cX4_beat 127 = .ok (.i2l, 1) := by decide +kernel
theorem dX4_beat_128 : decode cX4_beat 128 = .ok (.lmul, 1) := by decide +kernel
theorem dX4_beat_129 : decode cX4_beat 129 = .ok (.lstore 7, 2) := by decide +kernel
theorem dX4_beat_131 : decode cX4_beat 131 = .ok (.lload 5, 2) := by decide +kernel
theorem dX4_beat_133 : decode cX4_beat 133 = .ok (.lload 7, 2) := by decide +kernel
theorem dX4_beat_135 : decode cX4_beat 135 = .ok (.invokestatic 96, 3) := by decide +kernel
theorem dX4_beat_138 : decode cX4_beat 138 = .ok (.lstore 9, 2) := by decide +kernel
theorem dX4_beat_140 : decode cX4_beat 140 = .ok (.iload 4, 2) := by decide +kernel
theorem dX4_beat_142 : decode cX4_beat 142 = .ok (.ifCond .ne 11, 3) := by decide +kernel
theorem dX4_beat_145 : decode cX4_beat 145 = .ok (.lload 5, 2) := by decide +kernel
theorem dX4_beat_147 : decode cX4_beat 147 = .ok (.lload 9, 2) := by decide +kernel
theorem dX4_beat_149 : decode cX4_beat 149 = .ok (.ldiv, 1) := by decide +kernel
theorem dX4_beat_150 : decode cX4_beat 150 = .ok (.goto 8, 3) := by decide +kernel
theorem dX4_beat_153 : decode cX4_beat 153 = .ok (.lload 7, 2) := by decide +kernel
theorem dX4_beat_155 : decode cX4_beat 155 = .ok (.lload 9, 2) := by decide +kernel
theorem dX4_beat_157 : decode cX4_beat 157 = .ok (.ldiv, 1) := by decide +kernel
theorem dX4_beat_158 : decode cX4_beat 158 = .ok (.lreturn, 1) := by decide +kernel
set_option maxRecDepth 20000 in
theorem ggX4_fan_X4_isPart : GoodIn wsX4_fan wsX4_isPart := goodIn_r _ [9, 10, 11, 12, 8, 13] (by decide +kernel) (by decide +kernel)
set_option maxRecDepth 20000 in
theorem gX4_fan_X4_isPart : GoodIn wsX4_fan (va_wsS RX4 93 yX4_isPart wsX4_isPart) := goodIn_app (goodIn_of _ (by decide +kernel)) ggX4_fan_X4_isPart
set_option maxRecDepth 20000 in
theorem ggX4_fan_X4_isIn : GoodIn wsX4_fan wsX4_isIn := goodIn_r _ [13] (by decide +kernel) (by decide +kernel)
set_option maxRecDepth 20000 in
theorem gX4_fan_X4_isIn : GoodIn wsX4_fan (va_wsS RX4 52 yX4_isIn wsX4_isIn) := goodIn_app (goodIn_of _ (by decide +kernel)) ggX4_fan_X4_isIn
theorem dX4_fan_0 : decode cX4_fan 0 = .ok (.aload_n 0, 1) := by decide +kernel
theorem dX4_fan_1 : decode cX4_fan 1 = .ok (.iload_n 1, 1) := by decide +kernel
theorem dX4_fan_2 : decode cX4_fan 2 = .ok (.invokestatic 93, 3) := by decide +kernel
theorem dX4_fan_5 : decode cX4_fan 5 = .ok (.ifCond .eq 26, 3) := by decide +kernel
theorem dX4_fan_8 : decode cX4_fan 8 = .ok (.iload_n 2, 1) := by decide +kernel
theorem dX4_fan_9 : decode cX4_fan 9 = .ok (.invokestatic 93, 3) := by decide +kernel
theorem dX4_fan_12 : decode cX4_fan 12 = .ok (.ifCond .eq 19, 3) := by decide +kernel
theorem dX4_fan_15 : decode cX4_fan 15 = .ok (.iload_n 3, 1) := by decide +kernel
theorem dX4_fan_16 : decode cX4_fan 16 = .ok (.i2l, 1) := by decide +kernel
theorem dX4_fan_17 : decode cX4_fan 17 = .ok (.lconst 1, 1) := by decide +kernel
theorem dX4_fan_18 : decode cX4_fan 18 = .ok (.ldc2_w 7, 3) := by decide +kernel
theorem dX4_fan_21 : decode cX4_fan 21 = .ok (.invokestatic 52, 3) := by decide +kernel
theorem dX4_fan_24 : decode cX4_fan 24 = .ok (.ifCond .eq 7, 3) := by decide +kernel
theorem dX4_fan_27 : decode cX4_fan 27 = .ok (.iconst 0, 1) := by decide +kernel
theorem dX4_fan_28 : decode cX4_fan 28 = .ok (.goto 4, 3) := by decide +kernel
theorem dX4_fan_31 : decode cX4_fan 31 = .ok (.iconst 1, 1) := by decide +kernel
theorem dX4_fan_32 : decode cX4_fan 32 = .ok (.putfield 47, 3) := by decide +kernel
theorem dX4_fan_35 : decode cX4_fan 35 = .ok (.aload_n 0, 1) := by decide +kernel
theorem dX4_fan_36 : decode cX4_fan 36 = .ok (.getfield 47, 3) := by decide +kernel
theorem dX4_fan_39 : decode cX4_fan 39 = .ok (.ifCond .ne 18, 3) := by decide +kernel
theorem dX4_fan_42 : decode cX4_fan 42 = .ok (.aload_n 0, 1) := by decide +kernel
theorem dX4_fan_43 : decode cX4_fan 43 = .ok (.iload_n 1, 1) := by decide +kernel
theorem dX4_fan_44 : decode cX4_fan 44 = .ok (.putfield 32, 3) := by decide +kernel
theorem dX4_fan_47 : decode cX4_fan 47 = .ok (.aload_n 0, 1) := by decide +kernel
theorem dX4_fan_48 : decode cX4_fan 48 = .ok (.iload_n 2, 1) := by decide +kernel
theorem dX4_fan_49 : decode cX4_fan 49 = .ok (.putfield 35, 3) := by decide +kernel
theorem dX4_fan_52 : decode cX4_fan 52 = .ok (.aload_n 0, 1) := by decide +kernel
theorem dX4_fan_53 : decode cX4_fan 53 = .ok (.iload_n 3, 1) := by decide +kernel
theorem dX4_fan_54 : decode cX4_fan 54 = .ok (.putfield 38, 3) := by decide +kernel
theorem dX4_fan_57 : decode cX4_fan 57 = .ok (.return_, 1) := by decide +kernel
set_option maxRecDepth 20000 in
theorem ggX4_cross_X4_noPlace : GoodIn wsX4_cross wsX4_noPlace := goodIn_r _ [9, 10, 11, 12, 13, 8, 14, 46, 47, 48, 49, 50, 51, 52, 53, 54, 55, 56, 57, 58, 59] (by decide +kernel) (by decide +kernel)
set_option maxRecDepth 20000 in
theorem gX4_cross_X4_noPlace : GoodIn wsX4_cross (wsV RX4 85 RX4 yX4_noPlace wsX4_noPlace) := goodIn_app (goodIn_of _ (by decide +kernel)) ggX4_cross_X4_noPlace
set_option maxRecDepth 20000 in
theorem ggX4_cross_X4_isIn : GoodIn wsX4_cross wsX4_isIn := goodIn_r _ [14] (by decide +kernel) (by decide +kernel)
set_option maxRecDepth 20000 in
theorem gX4_cross_X4_isIn : GoodIn wsX4_cross (va_wsS RX4 52 yX4_isIn wsX4_isIn) := goodIn_app (goodIn_of _ (by decide +kernel)) ggX4_cross_X4_isIn
set_option maxRecDepth 20000 in
theorem ggX4_cross_X4_lower : GoodIn wsX4_cross wsX4_lower := goodIn_r _ [18, 19, 10, 20, 21, 22, 8, 23, 11, 24, 25, 26, 27, 28, 29, 30, 31, 32, 33, 34, 35, 36, 37, 38, 39, 40, 41, 42, 43, 44, 45, 46, 47, 48, 49, 50, 51, 52, 53, 54, 55, 56, 57, 58, 59] (by decide +kernel) (by decide +kernel)
set_option maxRecDepth 20000 in
theorem gX4_cross_X4_lower : GoodIn wsX4_cross (wsV RX4 89 RX4 yX4_lower wsX4_lower) := goodIn_app (goodIn_of _ (by decide +kernel)) ggX4_cross_X4_lower
theorem dX4_cross_0 : decode cX4_cross 0 = .ok (.aload_n 0, 1) := by decide +kernel
theorem dX4_cross_1 : decode cX4_cross 1 = .ok (.aload_n 0, 1) := by decide +kernel
theorem dX4_cross_2 : decode cX4_cross 2 = .ok (.iload_n 1, 1) := by decide +kernel
theorem dX4_cross_3 : decode cX4_cross 3 = .ok (.invokevirtual 85, 3) := by decide +kernel
theorem dX4_cross_6 : decode cX4_cross 6 = .ok (.ifCond .ne 13, 3) := by decide +kernel
theorem dX4_cross_9 : decode cX4_cross 9 = .ok (.iload_n 3, 1) := by decide +kernel
theorem dX4_cross_10 : decode cX4_cross 10 = .ok (.i2l, 1) := by decide +kernel
theorem dX4_cross_11 : decode cX4_cross 11 = .ok (.lconst 0, 1) := by decide +kernel
theorem dX4_cross_12 : decode cX4_cross 12 = .ok (.lconst 1, 1) := by decide +kernel
theorem dX4_cross_13 : decode cX4_cross 13 = .ok (.invokestatic 52, 3) := by decide +kernel
theorem dX4_cross_16 : decode cX4_cross 16 = .ok (.ifCond .ne 7, 3) := by decide +kernel
theorem dX4_cross_19 : decode cX4_cross 19 = .ok (.iconst 1, 1) := by decide +kernel
theorem dX4_cross_20 : decode cX4_cross 20 = .ok (.goto 22, 3) := by decide +kernel
theorem dX4_cross_23 : decode cX4_cross 23 = .ok (.iload_n 2, 1) := by decide +kernel
theorem dX4_cross_24 : decode cX4_cross 24 = .ok (.i2l, 1) := by decide +kernel
theorem dX4_cross_25 : decode cX4_cross 25 = .ok (.lconst 0, 1) := by decide +kernel
theorem dX4_cross_26 : decode cX4_cross 26 = .ok (.aload_n 0, 1) := by decide +kernel
theorem dX4_cross_27 : decode cX4_cross 27 = .ok (.getfield 38, 3) := by decide +kernel
theorem dX4_cross_30 : decode cX4_cross 30 = .ok (.i2l, 1) := by decide +kernel
theorem dX4_cross_31 : decode cX4_cross 31 = .ok (.invokestatic 52, 3) := by decide +kernel
theorem dX4_cross_34 : decode cX4_cross 34 = .ok (.ifCond .eq 7, 3) := by decide +kernel
theorem dX4_cross_37 : decode cX4_cross 37 = .ok (.iconst 0, 1) := by decide +kernel
theorem dX4_cross_38 : decode cX4_cross 38 = .ok (.goto 4, 3) := by decide +kernel
theorem dX4_cross_41 : decode cX4_cross 41 = .ok (.iconst 2, 1) := by decide +kernel
theorem dX4_cross_42 : decode cX4_cross 42 = .ok (.putfield 47, 3) := by decide +kernel
theorem dX4_cross_45 : decode cX4_cross 45 = .ok (.aload_n 0, 1) := by decide +kernel
theorem dX4_cross_46 : decode cX4_cross 46 = .ok (.getfield 47, 3) := by decide +kernel
theorem dX4_cross_49 : decode cX4_cross 49 = .ok (.ifCond .le 5, 3) := by decide +kernel
theorem dX4_cross_52 : decode cX4_cross 52 = .ok (.lconst 0, 1) := by decide +kernel
theorem dX4_cross_53 : decode cX4_cross 53 = .ok (.lreturn, 1) := by decide +kernel
theorem dX4_cross_54 : decode cX4_cross 54 = .ok (.aload_n 0, 1) := by decide +kernel
theorem dX4_cross_55 : decode cX4_cross 55 = .ok (.iload_n 1, 1) := by decide +kernel
theorem dX4_cross_56 : decode cX4_cross 56 = .ok (.aload_n 0, 1) := by decide +kernel
theorem dX4_cross_57 : decode cX4_cross 57 = .ok (.getfield 32, 3) := by decide +kernel
theorem dX4_cross_60 : decode cX4_cross 60 = .ok (.i2l, 1) := by decide +kernel
theorem dX4_cross_61 : decode cX4_cross 61 = .ok (.invokevirtual 89, 3) := by decide +kernel
theorem dX4_cross_64 : decode cX4_cross 64 = .ok (.aload_n 0, 1) := by decide +kernel
theorem dX4_cross_65 : decode cX4_cross 65 = .ok (.getfield 38, 3) := by decide +kernel
theorem dX4_cross_68 : decode cX4_cross 68 = .ok (.iload_n 2, 1) := by decide +kernel
theorem dX4_cross_69 : decode cX4_cross 69 = .ok (.isub, 1) := by decide +kernel
theorem dX4_cross_70 : decode cX4_cross 70 = .ok (.i2l, 1) := by decide +kernel
theorem dX4_cross_71 : decode cX4_cross 71 = .ok (.lmul, 1) := by decide +kernel
theorem dX4_cross_72 : decode cX4_cross 72 = .ok (.aload_n 0, 1) := by decide +kernel
theorem dX4_cross_73 : decode cX4_cross 73 = .ok (.iload_n 1, 1) := by decide +kernel
theorem dX4_cross_74 : decode cX4_cross 74 = .ok (.aload_n 0, 1) := by decide +kernel
theorem dX4_cross_75 : decode cX4_cross 75 = .ok (.getfield 35, 3) := by decide +kernel
theorem dX4_cross_78 : decode cX4_cross 78 = .ok (.i2l, 1) := by decide +kernel
theorem dX4_cross_79 : decode cX4_cross 79 = .ok (.invokevirtual 89, 3) := by decide +kernel
theorem dX4_cross_82 : decode cX4_cross 82 = .ok (.iload_n 2, 1) := by decide +kernel
theorem dX4_cross_83 : decode cX4_cross 83 = .ok (.i2l, 1) := by decide +kernel
theorem dX4_cross_84 : decode cX4_cross 84 = .ok (.lmul, 1) := by decide +kernel
theorem dX4_cross_85 : decode cX4_cross 85 = .ok (.ladd, 1) := by decide +kernel
theorem dX4_cross_86 : decode cX4_cross 86 = .ok (.lstore 4, 2) := by decide +kernel
theorem dX4_cross_88 : decode cX4_cross 88 = .ok (.iload_n 3, 1) := by decide +kernel
theorem dX4_cross_89 : decode cX4_cross 89 = .ok (.ifCond .ne 14, 3) := by decide +kernel
theorem dX4_cross_92 : decode cX4_cross 92 = .ok (.lload 4, 2) := by decide +kernel
theorem dX4_cross_94 : decode cX4_cross 94 = .ok (.aload_n 0, 1) := by decide +kernel
theorem dX4_cross_95 : decode cX4_cross 95 = .ok (.getfield 38, 3) := by decide +kernel
theorem dX4_cross_98 : decode cX4_cross 98 = .ok (.i2l, 1) := by decide +kernel
theorem dX4_cross_99 : decode cX4_cross 99 = .ok (.ldiv, 1) := by decide +kernel
theorem dX4_cross_100 : decode cX4_cross 100 = .ok (.goto 11, 3) := by decide +kernel
theorem dX4_cross_103 : decode cX4_cross 103 = .ok (.lload 4, 2) := by decide +kernel
theorem dX4_cross_105 : decode cX4_cross 105 = .ok (.aload_n 0, 1) := by decide +kernel
theorem dX4_cross_106 : decode cX4_cross 106 = .ok (.getfield 38, 3) := by decide +kernel
theorem dX4_cross_109 : decode cX4_cross 109 = .ok (.i2l, 1) := by decide +kernel
theorem dX4_cross_110 : decode cX4_cross 110 = .ok (.lrem, 1) := by decide +kernel
theorem dX4_cross_111 : decode cX4_cross 111 = .ok (.lreturn, 1) := by decide +kernel
set_option maxRecDepth 20000 in
theorem ggX4_upright_X4_lower : GoodIn wsX4_upright wsX4_lower := goodIn_r _ [9, 10, 11, 12, 13, 14, 8, 15, 2, 16, 17, 18, 19, 20, 21, 22, 23, 24, 25, 26, 27, 28, 29, 30, 31, 32, 33, 34, 35, 36, 37, 38, 39, 40, 41, 42, 43, 44, 45, 46, 47, 48, 49, 50, 51] (by decide +kernel) (by decide +kernel)
set_option maxRecDepth 20000 in
theorem gX4_upright_X4_lower : GoodIn wsX4_upright (wsV RX4 89 RX4 yX4_lower wsX4_lower) := goodIn_app (goodIn_of _ (by decide +kernel)) ggX4_upright_X4_lower
theorem dX4_upright_0 : decode cX4_upright 0 = .ok (.aload_n 0, 1) := by decide +kernel
theorem dX4_upright_1 : decode cX4_upright 1 = .ok (.iconst 0, 1) := by decide +kernel
theorem dX4_upright_2 : decode cX4_upright 2 = .ok (.putfield 47, 3) := by decide +kernel
theorem dX4_upright_5 : decode cX4_upright 5 = .ok (.iconst 0, 1) := by decide +kernel
theorem dX4_upright_6 : decode cX4_upright 6 = .ok (.istore_n 1, 1) := by decide +kernel
theorem dX4_upright_7 : decode cX4_upright 7 = .ok (.lconst 0, 1) := by decide +kernel
theorem dX4_upright_8 : decode cX4_upright 8 = .ok (.lstore_n 2, 1) := by decide +kernel
theorem dX4_upright_9 : decode cX4_upright 9 = .ok (.iconst 0, 1) := by decide +kernel
theorem dX4_upright_10 : decode cX4_upright 10 = .ok (.istore 4, 2) := by decide +kernel
theorem dX4_upright_12 : decode cX4_upright 12 = .ok (.iload 4, 2) := by decide +kernel
theorem dX4_upright_14 : decode cX4_upright 14 = .ok (.iconst 2, 1) := by decide +kernel
theorem dX4_upright_15 : decode cX4_upright 15 = .ok (.aload_n 0, 1) := by decide +kernel
theorem dX4_upright_16 : decode cX4_upright 16 = .ok (.getfield 44, 3) := by decide +kernel
theorem dX4_upright_19 : decode cX4_upright 19 = .ok (.imul, 1) := by decide +kernel
theorem dX4_upright_20 : decode cX4_upright 20 = .ok (.if_icmp .gt 69, 3) := by decide +kernel
theorem dX4_upright_23 : decode cX4_upright 23 = .ok (.aload_n 0, 1) := by decide +kernel
theorem dX4_upright_24 : decode cX4_upright 24 = .ok (.iload 4, 2) := by decide +kernel
theorem dX4_upright_26 : decode cX4_upright 26 = .ok (.aload_n 0, 1) := by decide +kernel
theorem dX4_upright_27 : decode cX4_upright 27 = .ok (.getfield 32, 3) := by decide +kernel
theorem dX4_upright_30 : decode cX4_upright 30 = .ok (.i2l, 1) := by decide +kernel
theorem dX4_upright_31 : decode cX4_upright 31 = .ok (.invokevirtual 89, 3) := by decide +kernel
theorem dX4_upright_34 : decode cX4_upright 34 = .ok (.aload_n 0, 1) := by decide +kernel
theorem dX4_upright_35 : decode cX4_upright 35 = .ok (.iload 4, 2) := by decide +kernel
theorem dX4_upright_37 : decode cX4_upright 37 = .ok (.aload_n 0, 1) := by decide +kernel
theorem dX4_upright_38 : decode cX4_upright 38 = .ok (.getfield 35, 3) := by decide +kernel
theorem dX4_upright_41 : decode cX4_upright 41 = .ok (.i2l, 1) := by decide +kernel
theorem dX4_upright_42 : decode cX4_upright 42 = .ok (.invokevirtual 89, 3) := by decide +kernel
theorem dX4_upright_45 : decode cX4_upright 45 = .ok (.lsub, 1) := by decide +kernel
theorem dX4_upright_46 : decode cX4_upright 46 = .ok (.lstore 5, 2) := by decide +kernel
theorem dX4_upright_48 : decode cX4_upright 48 = .ok (.lload 5, 2) := by decide +kernel
theorem dX4_upright_50 : decode cX4_upright 50 = .ok (.lconst 0, 1) := by decide +kernel
theorem dX4_upright_51 : decode cX4_upright 51 = .ok (.lcmp, 1) := by decide +kernel
theorem dX4_upright_52 : decode cX4_upright 52 = .ok (.ifCond .ge 9, 3) := by decide +kernel
theorem dX4_upright_55 : decode cX4_upright 55 = .ok (.lload 5, 2) := by decide +kernel
theorem dX4_upright_57 : decode cX4_upright 57 = .ok (.lneg, 1) := by decide +kernel
theorem dX4_upright_58 : decode cX4_upright 58 = .ok (.goto 5, 3) := by decide +kernel
theorem dX4_upright_61 : decode cX4_upright 61 = .ok (.lload 5, 2) := by decide +kernel
theorem dX4_upright_63 : decode cX4_upright 63 = .ok (.lstore 5, 2) := by decide +kernel
theorem dX4_upright_65 : decode cX4_upright 65 = .ok (.iload 4, 2) := by decide +kernel
theorem dX4_upright_67 : decode cX4_upright 67 = .ok (.ifCond .eq 10, 3) := by decide +kernel
theorem dX4_upright_70 : decode cX4_upright 70 = .ok (.lload 5, 2) := by decide +kernel
theorem dX4_upright_72 : decode cX4_upright 72 = .ok (.lload_n 2, 1) := by decide +kernel
theorem dX4_upright_73 : decode cX4_upright 73 = .ok (.lcmp, 1) := by decide +kernel
theorem dX4_upright_74 : decode cX4_upright 74 = .ok (.ifCond .ge 9, 3) := by decide +kernel
theorem dX4_upright_77 : decode cX4_upright 77 = .ok (.lload 5, 2) := by decide +kernel
theorem dX4_upright_79 : decode cX4_upright 79 = .ok (.lstore_n 2, 1) := by decide +kernel
theorem dX4_upright_80 : decode cX4_upright 80 = .ok (.iload 4, 2) := by decide +kernel
theorem dX4_upright_82 : decode cX4_upright 82 = .ok (.istore_n 1, 1) := by decide +kernel
theorem dX4_upright_83 : decode cX4_upright 83 = .ok (.iinc 4 1, 3) := by decide +kernel
theorem dX4_upright_86 : decode cX4_upright 86 = .ok (.goto (-74), 3) := by decide +kernel
theorem dX4_upright_89 : decode cX4_upright 89 = .ok (.iload_n 1, 1) := by decide +kernel
theorem dX4_upright_90 : decode cX4_upright 90 = .ok (.ireturn, 1) := by decide +kernel
theorem dX4_white_0 : decode cX4_white 0 = .ok (.iload_n 0, 1) := by decide +kernel
theorem dX4_white_1 : decode cX4_white 1 = .ok (.iconst 4, 1) := by decide +kernel
theorem dX4_white_2 : decode cX4_white 2 = .ok (.if_icmp .le 7, 3) := by decide +kernel
theorem dX4_white_5 : decode cX4_white 5 = .ok (.iconst 1, 1) := by decide +kernel
theorem dX4_white_6 : decode cX4_white 6 = .ok (.goto 4, 3) := by decide +kernel
theorem dX4_white_9 : decode cX4_white 9 = .ok (.iconst 0, 1) := by decide +kernel
theorem dX4_white_10 : decode cX4_white 10 = .ok (.istore_n 1, 1) := by decide +kernel
theorem dX4_white_11 : decode cX4_white 11 = .ok (.iload_n 0, 1) := by decide +kernel
theorem dX4_white_12 : decode cX4_white 12 = .ok (.iload_n 1, 1) := by decide +kernel
theorem dX4_white_13 : decode cX4_white 13 = .ok (.iadd, 1) := by decide +kernel
theorem dX4_white_14 : decode cX4_white 14 = .ok (.iconst 2, 1) := by decide +kernel
theorem dX4_white_15 : decode cX4_white 15 = .ok (.irem, 1) := by decide +kernel
theorem dX4_white_16 : decode cX4_white 16 = .ok (.ifCond .ne 11, 3) := by decide +kernel
theorem dX4_white_19 : decode cX4_white 19 = .ok (.iload_n 0, 1) := by decide +kernel
theorem dX4_white_20 : decode cX4_white 20 = .ok (.iload_n 1, 1) := by decide +kernel
theorem dX4_white_21 : decode cX4_white 21 = .ok (.iadd, 1) := by decide +kernel
theorem dX4_white_22 : decode cX4_white 22 = .ok (.iconst 2, 1) := by decide +kernel
theorem dX4_white_23 : decode cX4_white 23 = .ok (.idiv, 1) := by decide +kernel
theorem dX4_white_24 : decode cX4_white 24 = .ok (.goto 4, 3) := by decide +kernel
theorem dX4_white_27 : decode cX4_white 27 = .ok (.iconst (-1), 1) := by decide +kernel
theorem dX4_white_28 : decode cX4_white 28 = .ok (.ireturn, 1) := by decide +kernel
set_option maxRecDepth 20000 in
theorem ggX4_key_X4_isIn : GoodIn wsX4_key wsX4_isIn := goodIn_r _ [12] (by decide +kernel) (by decide +kernel)
set_option maxRecDepth 20000 in
theorem gX4_key_X4_isIn : GoodIn wsX4_key (va_wsS RX4 52 yX4_isIn wsX4_isIn) := goodIn_app (goodIn_of _ (by decide +kernel)) ggX4_key_X4_isIn
set_option maxRecDepth 20000 in
theorem ggX4_key_X4_white : GoodIn wsX4_key wsX4_white := goodIn_r _ [15] (by decide +kernel) (by decide +kernel)
set_option maxRecDepth 20000 in
theorem gX4_key_X4_white : GoodIn wsX4_key (va_wsS RX4 137 yX4_white wsX4_white) := goodIn_app (goodIn_of _ (by decide +kernel)) ggX4_key_X4_white
theorem dX4_key_0 : decode cX4_key 0 = .ok (.aload_n 0, 1) := by decide +kernel
theorem dX4_key_1 : decode cX4_key 1 = .ok (.iload_n 1, 1) := by decide +kernel
theorem dX4_key_2 : decode cX4_key 2 = .ok (.i2l, 1) := by decide +kernel
theorem dX4_key_3 : decode cX4_key 3 = .ok (.lconst 0, 1) := by decide +kernel
theorem dX4_key_4 : decode cX4_key 4 = .ok (.ldc2_w 135, 3) := by decide +kernel
theorem dX4_key_7 : decode cX4_key 7 = .ok (.invokestatic 52, 3) := by decide +kernel
theorem dX4_key_10 : decode cX4_key 10 = .ok (.ifCond .eq 16, 3) := by decide +kernel
theorem dX4_key_13 : decode cX4_key 13 = .ok (.iload 4, 2) := by decide +kernel
theorem dX4_key_15 : decode cX4_key 15 = .ok (.i2l, 1) := by decide +kernel
theorem dX4_key_16 : decode cX4_key 16 = .ok (.lconst 0, 1) := by decide +kernel
theorem dX4_key_17 : decode cX4_key 17 = .ok (.ldc2_w 131, 3) := by decide +kernel
theorem dX4_key_20 : decode cX4_key 20 = .ok (.invokestatic 52, 3) := by decide +kernel
theorem dX4_key_23 : decode cX4_key 23 = .ok (.ifCond .ne 7, 3) := by decide +kernel
theorem dX4_key_26 : decode cX4_key 26 = .ok (.iconst 1, 1) := by decide +kernel
theorem dX4_key_27 : decode cX4_key 27 = .ok (.goto 19, 3) := by decide +kernel
theorem dX4_key_30 : decode cX4_key 30 = .ok (.lload_n 2, 1) := by decide +kernel
theorem dX4_key_31 : decode cX4_key 31 = .ok (.lconst 1, 1) := by decide +kernel
theorem dX4_key_32 : decode cX4_key 32 = .ok (.ldc2_w 65, 3) := by decide +kernel
theorem dX4_key_35 : decode cX4_key 35 = .ok (.invokestatic 52, 3) := by decide +kernel
theorem dX4_key_38 : decode cX4_key 38 = .ok (.ifCond .eq 7, 3) := by decide +kernel
theorem dX4_key_41 : decode cX4_key 41 = .ok (.iconst 0, 1) := by decide +kernel
theorem dX4_key_42 : decode cX4_key 42 = .ok (.goto 4, 3) := by decide +kernel
theorem dX4_key_45 : decode cX4_key 45 = .ok (.iconst 2, 1) := by decide +kernel
theorem dX4_key_46 : decode cX4_key 46 = .ok (.putfield 47, 3) := by decide +kernel
theorem dX4_key_49 : decode cX4_key 49 = .ok (.aload_n 0, 1) := by decide +kernel
theorem dX4_key_50 : decode cX4_key 50 = .ok (.getfield 47, 3) := by decide +kernel
theorem dX4_key_53 : decode cX4_key 53 = .ok (.ifCond .le 5, 3) := by decide +kernel
theorem dX4_key_56 : decode cX4_key 56 = .ok (.lconst 0, 1) := by decide +kernel
theorem dX4_key_57 : decode cX4_key 57 = .ok (.lreturn, 1) := by decide +kernel
theorem dX4_key_58 : decode cX4_key 58 = .ok (.iload_n 1, 1) := by decide +kernel
theorem dX4_key_59 : decode cX4_key 59 = .ok (.invokestatic 137, 3) := by decide +kernel
theorem dX4_key_62 : decode cX4_key 62 = .ok (.istore 5, 2) := by decide +kernel
theorem dX4_key_64 : decode cX4_key 64 = .ok (.iload 4, 2) := by decide +kernel
theorem dX4_key_66 : decode cX4_key 66 = .ok (.iconst 1, 1) := by decide +kernel
theorem dX4_key_67 : decode cX4_key 67 = .ok (.if_icmp .le 39, 3) := by decide +kernel
theorem dX4_key_70 : decode cX4_key 70 = .ok (.iload 4, 2) := by decide +kernel
theorem dX4_key_72 : decode cX4_key 72 = .ok (.iconst 2, 1) := by decide +kernel
theorem dX4_key_73 : decode cX4_key 73 = .ok (.if_icmp .ne 21, 3) := by decide +kernel
theorem dX4_key_76 : decode cX4_key 76 = .ok (.iload 5, 2) := by decide +kernel
theorem dX4_key_78 : decode cX4_key 78 = .ok (.iconst (-1), 1) := by decide +kernel
theorem dX4_key_79 : decode cX4_key 79 = .ok (.if_icmp .ne 9, 3) := by decide +kernel
theorem dX4_key_82 : decode cX4_key 82 = .ok (.ldc2_w 141, 3) := by decide +kernel
theorem dX4_key_85 : decode cX4_key 85 = .ok (.goto 20, 3) := by decide +kernel
theorem dX4_key_88 : decode cX4_key 88 = .ok (.ldc2_w 143, 3) := by decide +kernel
theorem dX4_key_91 : decode cX4_key 91 = .ok (.goto 14, 3) := by decide +kernel
theorem dX4_key_94 : decode cX4_key 94 = .ok (.iload 5, 2) := by decide +kernel
theorem dX4_key_96 : decode cX4_key 96 = .ok (.iconst (-1), 1) := by decide +kernel
theorem dX4_key_97 : decode cX4_key 97 = .ok (.if_icmp .ne 7, 3) := by decide +kernel
theorem dX4_key_100 : decode cX4_key 100 = .ok (.lconst 1, 1) := by decide +kernel
theorem dX4_key_101 : decode cX4_key 101 = .ok (.goto 4, 3) := by decide +kernel
theorem dX4_key_104 : decode cX4_key 104 = .ok (.lconst 0, 1) := by decide +kernel
theorem dX4_key_105 : decode cX4_key 105 = .ok (.lreturn, 1) := by decide +kernel
theorem dX4_key_106 : decode cX4_key 106 = .ok (.iload 5, 2) := by decide +kernel
theorem dX4_key_108 : decode cX4_key 108 = .ok (.iconst (-1), 1) := by decide +kernel
theorem dX4_key_109 : decode cX4_key 109 = .ok (.if_icmp .ne 22, 3) := by decide +kernel
theorem dX4_key_112 : decode cX4_key 112 = .ok (.lload_n 2, 1) := by decide +kernel
theorem dX4_key_113 : decode cX4_key 113 = .ok (.ldc2_w 50, 3) := by decide +kernel
theorem dX4_key_116 : decode cX4_key 116 = .ok (.iload_n 1, 1) := by decide +kernel
theorem dX4_key_117 : decode cX4_key 117 = .ok (.i2l, 1) := by decide +kernel
theorem dX4_key_118 : decode cX4_key 118 = .ok (.lmul, 1) := by decide +kernel
theorem dX4_key_119 : decode cX4_key 119 = .ok (.ldc2_w 50, 3) := by decide +kernel
theorem dX4_key_122 : decode cX4_key 122 = .ok (.iload 4, 2) := by decide +kernel
theorem dX4_key_124 : decode cX4_key 124 = .ok (.i2l, 1) := by decide +kernel
theorem dX4_key_125 : decode cX4_key 125 = .ok (.lmul, 1) := by decide +kernel
theorem dX4_key_126 : decode cX4_key 126 = .ok (.ladd, 1) := by decide +kernel
theorem dX4_key_127 : decode cX4_key 127 = .ok (.lmul, 1) := by decide +kernel
theorem dX4_key_128 : decode cX4_key 128 = .ok (.goto 15, 3) := by decide +kernel
theorem dX4_key_131 : decode cX4_key 131 = .ok (.lload_n 2, 1) := by decide +kernel
theorem dX4_key_132 : decode cX4_key 132 = .ok (.ldc2_w 145, 3) := by decide +kernel
theorem dX4_key_135 : decode cX4_key 135 = .ok (.lmul, 1) := by decide +kernel
theorem dX4_key_136 : decode cX4_key 136 = .ok (.iload 5, 2) := by decide +kernel
theorem dX4_key_138 : decode cX4_key 138 = .ok (.iload 4, 2) := by decide +kernel
theorem dX4_key_140 : decode cX4_key 140 = .ok (.iadd, 1) := by decide +kernel
theorem dX4_key_141 : decode cX4_key 141 = .ok (.i2l, 1) := by decide +kernel
theorem dX4_key_142 : decode cX4_key 142 = .ok (.lmul, 1) := by decide +kernel
theorem dX4_key_143 : decode cX4_key 143 = .ok (.lreturn, 1) := by decide +kernel
theorem dX4_pull_0 : decode cX4_pull 0 = .ok (.dload_n 1, 1) := by decide +kernel
theorem dX4_pull_1 : decode cX4_pull 1 = .ok (.dconst 0, 1) := by decide +kernel
theorem dX4_pull_2 : decode cX4_pull 2 = .ok (.dcmp .l, 1) := by decide +kernel
theorem dX4_pull_3 : decode cX4_pull 3 = .ok (.ifCond .lt 45, 3) := by decide +kernel
theorem dX4_pull_6 : decode cX4_pull 6 = .ok (.dload_n 1, 1) := by decide +kernel
theorem dX4_pull_7 : decode cX4_pull 7 = .ok (.ldc2_w 147, 3) := by decide +kernel
theorem dX4_pull_10 : decode cX4_pull 10 = .ok (.dcmp .g, 1) := by decide +kernel
theorem dX4_pull_11 : decode cX4_pull 11 = .ok (.ifCond .gt 37, 3) := by decide +kernel
theorem dX4_pull_14 : decode cX4_pull 14 = .ok (.dload_n 3, 1) := by decide +kernel
theorem dX4_pull_15 : decode cX4_pull 15 = .ok (.dconst 0, 1) := by decide +kernel
theorem dX4_pull_16 : decode cX4_pull 16 = .ok (.dcmp .l, 1) := by decide +kernel
theorem dX4_pull_17 : decode cX4_pull 17 = .ok (.ifCond .lt 31, 3) := by decide +kernel
theorem dX4_pull_20 : decode cX4_pull 20 = .ok (.dload_n 3, 1) := by decide +kernel
theorem dX4_pull_21 : decode cX4_pull 21 = .ok (.ldc2_w 147, 3) := by decide +kernel
theorem dX4_pull_24 : decode cX4_pull 24 = .ok (.dcmp .g, 1) := by decide +kernel
theorem dX4_pull_25 : decode cX4_pull 25 = .ok (.ifCond .gt 23, 3) := by decide +kernel
theorem dX4_pull_28 : decode cX4_pull 28 = .ok (.dload 5, 2) := by decide +kernel
theorem dX4_pull_30 : decode cX4_pull 30 = .ok (.dconst 0, 1) := by decide +kernel
theorem dX4_pull_31 : decode cX4_pull 31 = .ok (.dcmp .l, 1) := by decide +kernel
theorem dX4_pull_32 : decode cX4_pull 32 = .ok (.ifCond .lt 16, 3) := by decide +kernel
theorem dX4_pull_35 : decode cX4_pull 35 = .ok (.dload 5, 2) := by decide +kernel
theorem dX4_pull_37 : decode cX4_pull 37 = .ok (.ldc2_w 147, 3) := by decide +kernel
theorem dX4_pull_40 : decode cX4_pull 40 = .ok (.dcmp .g, 1) := by decide +kernel
theorem dX4_pull_41 : decode cX4_pull 41 = .ok (.ifCond .gt 7, 3) := by decide +kernel
theorem dX4_pull_44 : decode cX4_pull 44 = .ok (.iconst 1, 1) := by decide +kernel
theorem dX4_pull_45 : decode cX4_pull 45 = .ok (.goto 4, 3) := by decide +kernel
theorem dX4_pull_48 : decode cX4_pull 48 = .ok (.iconst 0, 1) := by decide +kernel
theorem dX4_pull_49 : decode cX4_pull 49 = .ok (.istore 7, 2) := by decide +kernel
theorem dX4_pull_51 : decode cX4_pull 51 = .ok (.aload_n 0, 1) := by decide +kernel
theorem dX4_pull_52 : decode cX4_pull 52 = .ok (.iload 7, 2) := by decide +kernel
theorem dX4_pull_54 : decode cX4_pull 54 = .ok (.ifCond .eq 7, 3) := by decide +kernel
theorem dX4_pull_57 : decode cX4_pull 57 = .ok (.iconst 0, 1) := by decide +kernel
theorem dX4_pull_58 : decode cX4_pull 58 = .ok (.goto 4, 3) := by decide +kernel
theorem dX4_pull_61 : decode cX4_pull 61 = .ok (.iconst 1, 1) := by decide +kernel
theorem dX4_pull_62 : decode cX4_pull 62 = .ok (.putfield 47, 3) := by decide +kernel
theorem dX4_pull_65 : decode cX4_pull 65 = .ok (.iload 7, 2) := by decide +kernel
theorem dX4_pull_67 : decode cX4_pull 67 = .ok (.ifCond .eq 20, 3) := by decide +kernel
theorem dX4_pull_70 : decode cX4_pull 70 = .ok (.ldc2_w 149, 3) := by decide +kernel
theorem dX4_pull_73 : decode cX4_pull 73 = .ok (.dload 5, 2) := by decide +kernel
theorem dX4_pull_75 : decode cX4_pull 75 = .ok (.dmul, 1) := by decide +kernel
theorem dX4_pull_76 : decode cX4_pull 76 = .ok (.dload_n 3, 1) := by decide +kernel
theorem dX4_pull_77 : decode cX4_pull 77 = .ok (.dmul, 1) := by decide +kernel
theorem dX4_pull_78 : decode cX4_pull 78 = .ok (.dload_n 3, 1) := by decide +kernel
theorem dX4_pull_79 : decode cX4_pull 79 = .ok (.dmul, 1) := by decide +kernel
theorem dX4_pull_80 : decode cX4_pull 80 = .ok (.dload_n 1, 1) := by decide +kernel
theorem dX4_pull_81 : decode cX4_pull 81 = .ok (.dmul, 1) := by decide +kernel
theorem dX4_pull_82 : decode cX4_pull 82 = .ok (.dload_n 1, 1) := by decide +kernel
theorem dX4_pull_83 : decode cX4_pull 83 = .ok (.dmul, 1) := by decide +kernel
theorem dX4_pull_84 : decode cX4_pull 84 = .ok (.goto 4, 3) := by decide +kernel
theorem dX4_pull_87 : decode cX4_pull 87 = .ok (.dconst 0, 1) := by decide +kernel
theorem dX4_pull_88 : decode cX4_pull 88 = .ok (.dreturn, 1) := by decide +kernel
theorem dX4_pipe_0 : decode cX4_pipe 0 = .ok (.dload_n 1, 1) := by decide +kernel
theorem dX4_pipe_1 : decode cX4_pipe 1 = .ok (.dconst 1, 1) := by decide +kernel
theorem dX4_pipe_2 : decode cX4_pipe 2 = .ok (.dcmp .l, 1) := by decide +kernel
theorem dX4_pipe_3 : decode cX4_pipe 3 = .ok (.ifCond .lt 31, 3) := by decide +kernel
theorem dX4_pipe_6 : decode cX4_pipe 6 = .ok (.dload_n 1, 1) := by decide +kernel
theorem dX4_pipe_7 : decode cX4_pipe 7 = .ok (.ldc2_w 147, 3) := by decide +kernel
theorem dX4_pipe_10 : decode cX4_pipe 10 = .ok (.dcmp .g, 1) := by decide +kernel
theorem dX4_pipe_11 : decode cX4_pipe 11 = .ok (.ifCond .gt 23, 3) := by decide +kernel
theorem dX4_pipe_14 : decode cX4_pipe 14 = .ok (.dload 4, 2) := by decide +kernel
theorem dX4_pipe_16 : decode cX4_pipe 16 = .ok (.dconst 0, 1) := by decide +kernel
theorem dX4_pipe_17 : decode cX4_pipe 17 = .ok (.dcmp .l, 1) := by decide +kernel
theorem dX4_pipe_18 : decode cX4_pipe 18 = .ok (.ifCond .lt 16, 3) := by decide +kernel
theorem dX4_pipe_21 : decode cX4_pipe 21 = .ok (.dload 4, 2) := by decide +kernel
theorem dX4_pipe_23 : decode cX4_pipe 23 = .ok (.ldc2_w 151, 3) := by decide +kernel
theorem dX4_pipe_26 : decode cX4_pipe 26 = .ok (.dcmp .g, 1) := by decide +kernel
theorem dX4_pipe_27 : decode cX4_pipe 27 = .ok (.ifCond .gt 7, 3) := by decide +kernel
theorem dX4_pipe_30 : decode cX4_pipe 30 = .ok (.iconst 1, 1) := by decide +kernel
theorem dX4_pipe_31 : decode cX4_pipe 31 = .ok (.goto 4, 3) := by decide +kernel
theorem dX4_pipe_34 : decode cX4_pipe 34 = .ok (.iconst 0, 1) := by decide +kernel
theorem dX4_pipe_35 : decode cX4_pipe 35 = .ok (.istore 6, 2) := by decide +kernel
theorem dX4_pipe_37 : decode cX4_pipe 37 = .ok (.aload_n 0, 1) := by decide +kernel
theorem dX4_pipe_38 : decode cX4_pipe 38 = .ok (.iload 6, 2) := by decide +kernel
theorem dX4_pipe_40 : decode cX4_pipe 40 = .ok (.ifCond .eq 7, 3) := by decide +kernel
theorem dX4_pipe_43 : decode cX4_pipe 43 = .ok (.iconst 0, 1) := by decide +kernel
theorem dX4_pipe_44 : decode cX4_pipe 44 = .ok (.goto 4, 3) := by decide +kernel
theorem dX4_pipe_47 : decode cX4_pipe 47 = .ok (.iconst 1, 1) := by decide +kernel
theorem dX4_pipe_48 : decode cX4_pipe 48 = .ok (.putfield 47, 3) := by decide +kernel
theorem dX4_pipe_51 : decode cX4_pipe 51 = .ok (.iload 6, 2) := by decide +kernel
theorem dX4_pipe_53 : decode cX4_pipe 53 = .ok (.ifCond .eq 32, 3) := by decide +kernel
theorem dX4_pipe_56 : decode cX4_pipe 56 = .ok (.ldc2_w 153, 3) := by decide +kernel
theorem dX4_pipe_59 : decode cX4_pipe 59 = .ok (.dload_n 1, 1) := by decide +kernel
theorem dX4_pipe_60 : decode cX4_pipe 60 = .ok (.ddiv, 1) := by decide +kernel
theorem dX4_pipe_61 : decode cX4_pipe 61 = .ok (.iload_n 3, 1) := by decide +kernel
theorem dX4_pipe_62 : decode cX4_pipe 62 = .ok (.ifCond .eq 9, 3) := by decide +kernel
theorem dX4_pipe_65 : decode cX4_pipe 65 = .ok (.ldc2_w 155, 3) := by decide +kernel
theorem dX4_pipe_68 : decode cX4_pipe 68 = .ok (.goto 6, 3) := by decide +kernel
theorem dX4_pipe_71 : decode cX4_pipe 71 = .ok (.ldc2_w 149, 3) := by decide +kernel
theorem dX4_pipe_74 : decode cX4_pipe 74 = .ok (.ddiv, 1) := by decide +kernel
theorem dX4_pipe_75 : decode cX4_pipe 75 = .ok (.ldc2_w 157, 3) := by decide +kernel
theorem dX4_pipe_78 : decode cX4_pipe 78 = .ok (.dload 4, 2) := by decide +kernel
theorem dX4_pipe_80 : decode cX4_pipe 80 = .ok (.dmul, 1) := by decide +kernel
theorem dX4_pipe_81 : decode cX4_pipe 81 = .ok (.dsub, 1) := by decide +kernel
theorem dX4_pipe_82 : decode cX4_pipe 82 = .ok (.goto 4, 3) := by decide +kernel
theorem dX4_pipe_85 : decode cX4_pipe 85 = .ok (.dconst 0, 1) := by decide +kernel
theorem dX4_pipe_86 : decode cX4_pipe 86 = .ok (.dreturn, 1) := by decide +kernel
theorem dJx00060_init_a7421_0 : decode cJx00060_init_a7421 0 = .ok (.aload_n 0, 1) := by decide +kernel
theorem dJx00060_init_a7421_1 : decode cJx00060_init_a7421 1 = .ok (.aload_n 1, 1) := by decide +kernel
theorem dJx00060_init_a7421_2 : decode cJx00060_init_a7421 2 = .ok (.invokespecial 7, 3) := by decide +kernel
theorem dJx00060_init_a7421_5 : decode cJx00060_init_a7421 5 = .ok (.return_, 1) := by decide +kernel
theorem dJ9_abs_067f4_0 : decode cJ9_abs_067f4 0 = .ok (.lload_n 0, 1) := by decide +kernel
theorem dJ9_abs_067f4_1 : decode cJ9_abs_067f4 1 = .ok (.lconst 0, 1) := by decide +kernel
theorem dJ9_abs_067f4_2 : decode cJ9_abs_067f4 2 = .ok (.lcmp, 1) := by decide +kernel
theorem dJ9_abs_067f4_3 : decode cJ9_abs_067f4 3 = .ok (.ifCond .ge 8, 3) := by decide +kernel
theorem dJ9_abs_067f4_6 : decode cJ9_abs_067f4 6 = .ok (.lload_n 0, 1) := by decide +kernel
theorem dJ9_abs_067f4_7 : decode cJ9_abs_067f4 7 = .ok (.lneg, 1) := by decide +kernel
theorem dJ9_abs_067f4_8 : decode cJ9_abs_067f4 8 = .ok (.goto 4, 3) := by decide +kernel
theorem dJ9_abs_067f4_11 : decode cJ9_abs_067f4 11 = .ok (.lload_n 0, 1) := by decide +kernel
theorem dJ9_abs_067f4_12 : decode cJ9_abs_067f4 12 = .ok (.lreturn, 1) := by decide +kernel
theorem dJ9_max_7cf53_0 : decode cJ9_max_7cf53 0 = .ok (.iload_n 0, 1) := by decide +kernel
theorem dJ9_max_7cf53_1 : decode cJ9_max_7cf53 1 = .ok (.iload_n 1, 1) := by decide +kernel
theorem dJ9_max_7cf53_2 : decode cJ9_max_7cf53 2 = .ok (.if_icmp .lt 7, 3) := by decide +kernel
theorem dJ9_max_7cf53_5 : decode cJ9_max_7cf53 5 = .ok (.iload_n 0, 1) := by decide +kernel
theorem dJ9_max_7cf53_6 : decode cJ9_max_7cf53 6 = .ok (.goto 4, 3) := by decide +kernel
theorem dJ9_max_7cf53_9 : decode cJ9_max_7cf53 9 = .ok (.iload_n 1, 1) := by decide +kernel
theorem dJ9_max_7cf53_10 : decode cJ9_max_7cf53 10 = .ok (.ireturn, 1) := by decide +kernel
theorem dJ9_max_f86c9_0 : decode cJ9_max_f86c9 0 = .ok (.lload_n 0, 1) := by decide +kernel
theorem dJ9_max_f86c9_1 : decode cJ9_max_f86c9 1 = .ok (.lload_n 2, 1) := by decide +kernel
theorem dJ9_max_f86c9_2 : decode cJ9_max_f86c9 2 = .ok (.lcmp, 1) := by decide +kernel
theorem dJ9_max_f86c9_3 : decode cJ9_max_f86c9 3 = .ok (.ifCond .lt 7, 3) := by decide +kernel
theorem dJ9_max_f86c9_6 : decode cJ9_max_f86c9 6 = .ok (.lload_n 0, 1) := by decide +kernel
theorem dJ9_max_f86c9_7 : decode cJ9_max_f86c9 7 = .ok (.goto 4, 3) := by decide +kernel
theorem dJ9_max_f86c9_10 : decode cJ9_max_f86c9 10 = .ok (.lload_n 2, 1) := by decide +kernel
theorem dJ9_max_f86c9_11 : decode cJ9_max_f86c9 11 = .ok (.lreturn, 1) := by decide +kernel
theorem dJ9_min_7cf53_0 : decode cJ9_min_7cf53 0 = .ok (.iload_n 0, 1) := by decide +kernel
theorem dJ9_min_7cf53_1 : decode cJ9_min_7cf53 1 = .ok (.iload_n 1, 1) := by decide +kernel
theorem dJ9_min_7cf53_2 : decode cJ9_min_7cf53 2 = .ok (.if_icmp .gt 7, 3) := by decide +kernel
theorem dJ9_min_7cf53_5 : decode cJ9_min_7cf53 5 = .ok (.iload_n 0, 1) := by decide +kernel
theorem dJ9_min_7cf53_6 : decode cJ9_min_7cf53 6 = .ok (.goto 4, 3) := by decide +kernel
theorem dJ9_min_7cf53_9 : decode cJ9_min_7cf53 9 = .ok (.iload_n 1, 1) := by decide +kernel
theorem dJ9_min_7cf53_10 : decode cJ9_min_7cf53 10 = .ok (.ireturn, 1) := by decide +kernel
theorem dJ9_min_f86c9_0 : decode cJ9_min_f86c9 0 = .ok (.lload_n 0, 1) := by decide +kernel
theorem dJ9_min_f86c9_1 : decode cJ9_min_f86c9 1 = .ok (.lload_n 2, 1) := by decide +kernel
theorem dJ9_min_f86c9_2 : decode cJ9_min_f86c9 2 = .ok (.lcmp, 1) := by decide +kernel
theorem dJ9_min_f86c9_3 : decode cJ9_min_f86c9 3 = .ok (.ifCond .gt 7, 3) := by decide +kernel
theorem dJ9_min_f86c9_6 : decode cJ9_min_f86c9 6 = .ok (.lload_n 0, 1) := by decide +kernel
theorem dJ9_min_f86c9_7 : decode cJ9_min_f86c9 7 = .ok (.goto 4, 3) := by decide +kernel
theorem dJ9_min_f86c9_10 : decode cJ9_min_f86c9 10 = .ok (.lload_n 2, 1) := by decide +kernel
theorem dJ9_min_f86c9_11 : decode cJ9_min_f86c9 11 = .ok (.lreturn, 1) := by decide +kernel
theorem dJ7_fill_d0a16_0 : decode cJ7_fill_d0a16 0 = .ok (.iconst 0, 1) := by decide +kernel
theorem dJ7_fill_d0a16_1 : decode cJ7_fill_d0a16 1 = .ok (.istore_n 3, 1) := by decide +kernel
theorem dJ7_fill_d0a16_2 : decode cJ7_fill_d0a16 2 = .ok (.aload_n 0, 1) := by decide +kernel
theorem dJ7_fill_d0a16_3 : decode cJ7_fill_d0a16 3 = .ok (.arraylength, 1) := by decide +kernel
theorem dJ7_fill_d0a16_4 : decode cJ7_fill_d0a16 4 = .ok (.istore 4, 2) := by decide +kernel
theorem dJ7_fill_d0a16_6 : decode cJ7_fill_d0a16 6 = .ok (.iload_n 3, 1) := by decide +kernel
theorem dJ7_fill_d0a16_7 : decode cJ7_fill_d0a16 7 = .ok (.iload 4, 2) := by decide +kernel
theorem dJ7_fill_d0a16_9 : decode cJ7_fill_d0a16 9 = .ok (.if_icmp .ge 13, 3) := by decide +kernel
theorem dJ7_fill_d0a16_12 : decode cJ7_fill_d0a16 12 = .ok (.aload_n 0, 1) := by decide +kernel
theorem dJ7_fill_d0a16_13 : decode cJ7_fill_d0a16 13 = .ok (.iload_n 3, 1) := by decide +kernel
theorem dJ7_fill_d0a16_14 : decode cJ7_fill_d0a16 14 = .ok (.lload_n 1, 1) := by decide +kernel
theorem dJ7_fill_d0a16_15 : decode cJ7_fill_d0a16 15 = .ok (.lastore, 1) := by decide +kernel
theorem dJ7_fill_d0a16_16 : decode cJ7_fill_d0a16 16 = .ok (.iinc 3 1, 3) := by decide +kernel
theorem dJ7_fill_d0a16_19 : decode cJ7_fill_d0a16 19 = .ok (.goto (-13), 3) := by decide +kernel
theorem dJ7_fill_d0a16_22 : decode cJ7_fill_d0a16 22 = .ok (.return_, 1) := by decide +kernel
theorem dJ7_fill_53178_0 : decode cJ7_fill_53178 0 = .ok (.iconst 0, 1) := by decide +kernel
theorem dJ7_fill_53178_1 : decode cJ7_fill_53178 1 = .ok (.istore_n 2, 1) := by decide +kernel
theorem dJ7_fill_53178_2 : decode cJ7_fill_53178 2 = .ok (.aload_n 0, 1) := by decide +kernel
theorem dJ7_fill_53178_3 : decode cJ7_fill_53178 3 = .ok (.arraylength, 1) := by decide +kernel
theorem dJ7_fill_53178_4 : decode cJ7_fill_53178 4 = .ok (.istore_n 3, 1) := by decide +kernel
theorem dJ7_fill_53178_5 : decode cJ7_fill_53178 5 = .ok (.iload_n 2, 1) := by decide +kernel
theorem dJ7_fill_53178_6 : decode cJ7_fill_53178 6 = .ok (.iload_n 3, 1) := by decide +kernel
theorem dJ7_fill_53178_7 : decode cJ7_fill_53178 7 = .ok (.if_icmp .ge 13, 3) := by decide +kernel
theorem dJ7_fill_53178_10 : decode cJ7_fill_53178 10 = .ok (.aload_n 0, 1) := by decide +kernel
theorem dJ7_fill_53178_11 : decode cJ7_fill_53178 11 = .ok (.iload_n 2, 1) := by decide +kernel
theorem dJ7_fill_53178_12 : decode cJ7_fill_53178 12 = .ok (.iload_n 1, 1) := by decide +kernel
theorem dJ7_fill_53178_13 : decode cJ7_fill_53178 13 = .ok (.iastore, 1) := by decide +kernel
theorem dJ7_fill_53178_14 : decode cJ7_fill_53178 14 = .ok (.iinc 2 1, 3) := by decide +kernel
theorem dJ7_fill_53178_17 : decode cJ7_fill_53178 17 = .ok (.goto (-12), 3) := by decide +kernel
theorem dJ7_fill_53178_20 : decode cJ7_fill_53178 20 = .ok (.return_, 1) := by decide +kernel
theorem dL_cell_0 : decode cL_cell 0 = .ok (.iload_n 1, 1) := by decide +kernel
theorem dL_cell_1 : decode cL_cell 1 = .ok (.aload_n 0, 1) := by decide +kernel
theorem dL_cell_2 : decode cL_cell 2 = .ok (.arraylength, 1) := by decide +kernel
theorem dL_cell_3 : decode cL_cell 3 = .ok (.if_icmp .ge 9, 3) := by decide +kernel
theorem dL_cell_6 : decode cL_cell 6 = .ok (.aload_n 0, 1) := by decide +kernel
theorem dL_cell_7 : decode cL_cell 7 = .ok (.iload_n 1, 1) := by decide +kernel
theorem dL_cell_8 : decode cL_cell 8 = .ok (.iaload, 1) := by decide +kernel
theorem dL_cell_9 : decode cL_cell 9 = .ok (.goto 4, 3) := by decide +kernel
theorem dL_cell_12 : decode cL_cell 12 = .ok (.iconst 0, 1) := by decide +kernel
theorem dL_cell_13 : decode cL_cell 13 = .ok (.ireturn, 1) := by decide +kernel
set_option maxRecDepth 20000 in
theorem ggL_scale_X3_scale : GoodIn wsL_scale wsX3_scale := goodIn_ca (goodIn_r _ [6, 7, 8, 9, 10, 11, 12, 13, 14, 15, 5, 16, 17, 18, 19, 20, 21, 22, 23, 24, 25, 26, 27, 28, 29, 30, 31, 32, 33, 34, 35, 36, 37, 38, 39, 40, 41, 42, 43, 44, 45, 46] (by decide +kernel) (by decide +kernel)) (goodIn_sub (fun _ h => List.mem_cons_of_mem _ (List.mem_append_right _ h)) (by decide +kernel))
set_option maxRecDepth 20000 in
theorem gL_scale_X3_scale : GoodIn wsL_scale (wsV RL 7 RX3 yX3_scale wsX3_scale) := goodIn_app (goodIn_of _ (by decide +kernel)) ggL_scale_X3_scale
theorem dL_scale_0 : decode cL_scale 0 = .ok (.aload_n 0, 1) := by decide +kernel
theorem dL_scale_1 : decode cL_scale 1 = .ok (.lload_n 1, 1) := by decide +kernel
theorem dL_scale_2 : decode cL_scale 2 = .ok (.iload_n 3, 1) := by decide +kernel
theorem dL_scale_3 : decode cL_scale 3 = .ok (.invokevirtual 7, 3) := by decide +kernel
theorem dL_scale_6 : decode cL_scale 6 = .ok (.goto 7, 3) := by decide +kernel
theorem dL_scale_9 : decode cL_scale 9 = .ok (.astore 4, 2) := by decide +kernel
theorem dL_scale_11 : decode cL_scale 11 = .ok (.iconst 1, 1) := by decide +kernel
theorem dL_scale_12 : decode cL_scale 12 = .ok (.ireturn, 1) := by decide +kernel
theorem dL_scale_13 : decode cL_scale 13 = .ok (.iconst 0, 1) := by decide +kernel
theorem dL_scale_14 : decode cL_scale 14 = .ok (.ireturn, 1) := by decide +kernel
set_option maxRecDepth 20000 in
theorem ggL_fret_X3_fret : GoodIn wsL_fret wsX3_fret := goodIn_r _ [5, 6, 7, 8, 9, 4, 10, 11, 12, 13, 14, 15, 16, 17, 18, 19, 20, 21, 22, 23, 24, 25, 26, 27, 28, 29, 30, 31, 32, 33, 34, 35, 36, 37, 38, 39, 40, 41, 42, 43, 44, 45, 46, 47, 48, 49, 50, 51, 52, 53, 54, 55, 56, 57, 58, 59, 60, 61, 62, 63, 64, 65, 66, 67, 68, 69, 70, 71, 72, 73, 74, 75, 76, 77, 78, 79, 80, 81, 82, 83, 84, 85, 86, 87, 88, 89, 90, 91, 92, 93, 94, 95, 96, 97, 98, 99, 100, 101, 102, 103] (by decide +kernel) (by decide +kernel)
set_option maxRecDepth 20000 in
theorem gL_fret_X3_fret : GoodIn wsL_fret (wsV RL 15 RX3 yX3_fret wsX3_fret) := goodIn_app (goodIn_of _ (by decide +kernel)) ggL_fret_X3_fret
theorem dL_fret_0 : decode cL_fret 0 = .ok (.aload_n 3, 1) := by decide +kernel
theorem dL_fret_1 : decode cL_fret 1 = .ok (.iconst 0, 1) := by decide +kernel
theorem dL_fret_2 : decode cL_fret 2 = .ok (.aload_n 0, 1) := by decide +kernel
theorem dL_fret_3 : decode cL_fret 3 = .ok (.iload_n 1, 1) := by decide +kernel
theorem dL_fret_4 : decode cL_fret 4 = .ok (.iload_n 2, 1) := by decide +kernel
theorem dL_fret_5 : decode cL_fret 5 = .ok (.invokevirtual 15, 3) := by decide +kernel
theorem dL_fret_8 : decode cL_fret 8 = .ok (.lastore, 1) := by decide +kernel
theorem dL_fret_9 : decode cL_fret 9 = .ok (.goto 7, 3) := by decide +kernel
theorem dL_fret_12 : decode cL_fret 12 = .ok (.astore 4, 2) := by decide +kernel
theorem dL_fret_14 : decode cL_fret 14 = .ok (.iconst 1, 1) := by decide +kernel
theorem dL_fret_15 : decode cL_fret 15 = .ok (.ireturn, 1) := by decide +kernel
theorem dL_fret_16 : decode cL_fret 16 = .ok (.iconst 0, 1) := by decide +kernel
theorem dL_fret_17 : decode cL_fret 17 = .ok (.ireturn, 1) := by decide +kernel
set_option maxRecDepth 20000 in
theorem ggL_exact_X3_exact : GoodIn wsL_exact wsX3_exact := goodIn_r _ [5, 6, 7, 8, 9, 4, 10, 11, 12, 13, 14, 15, 16, 17, 18, 19, 20, 21, 22, 23, 24, 25, 26, 27, 28, 29, 30, 31, 32, 33, 34, 35, 36, 37, 38, 39, 40, 41, 42, 43, 44, 45, 46, 47, 48, 49, 50, 51, 52, 53, 54, 55, 56, 57, 58, 59, 60, 61, 62, 63, 64, 65, 66, 67, 68, 69, 70, 71, 72, 73, 74, 75, 76, 77, 78, 79, 80, 81, 82, 83, 84, 85, 86, 87, 88, 89, 90, 91, 92, 93, 94, 95, 96, 97, 98, 99, 100, 101, 102, 103] (by decide +kernel) (by decide +kernel)
set_option maxRecDepth 20000 in
theorem gL_exact_X3_exact : GoodIn wsL_exact (wsV RL 21 RX3 yX3_exact wsX3_exact) := goodIn_app (goodIn_of _ (by decide +kernel)) ggL_exact_X3_exact
theorem dL_exact_0 : decode cL_exact 0 = .ok (.aload_n 2, 1) := by decide +kernel
theorem dL_exact_1 : decode cL_exact 1 = .ok (.iconst 0, 1) := by decide +kernel
theorem dL_exact_2 : decode cL_exact 2 = .ok (.aload_n 0, 1) := by decide +kernel
theorem dL_exact_3 : decode cL_exact 3 = .ok (.iload_n 1, 1) := by decide +kernel
theorem dL_exact_4 : decode cL_exact 4 = .ok (.invokevirtual 21, 3) := by decide +kernel
theorem dL_exact_7 : decode cL_exact 7 = .ok (.ifCond .eq 7, 3) := by decide +kernel
theorem dL_exact_10 : decode cL_exact 10 = .ok (.lconst 1, 1) := by decide +kernel
theorem dL_exact_11 : decode cL_exact 11 = .ok (.goto 4, 3) := by decide +kernel
theorem dL_exact_14 : decode cL_exact 14 = .ok (.lconst 0, 1) := by decide +kernel
theorem dL_exact_15 : decode cL_exact 15 = .ok (.lastore, 1) := by decide +kernel
theorem dL_exact_16 : decode cL_exact 16 = .ok (.goto 6, 3) := by decide +kernel
theorem dL_exact_19 : decode cL_exact 19 = .ok (.astore_n 3, 1) := by decide +kernel
theorem dL_exact_20 : decode cL_exact 20 = .ok (.iconst 1, 1) := by decide +kernel
theorem dL_exact_21 : decode cL_exact 21 = .ok (.ireturn, 1) := by decide +kernel
theorem dL_exact_22 : decode cL_exact 22 = .ok (.iconst 0, 1) := by decide +kernel
theorem dL_exact_23 : decode cL_exact 23 = .ok (.ireturn, 1) := by decide +kernel
set_option maxRecDepth 20000 in
theorem ggL_just_X3_just : GoodIn wsL_just wsX3_just := goodIn_ca (goodIn_r _ [7, 8, 9, 10, 11, 12, 13, 6, 14, 15, 16, 17, 18, 19, 20, 21, 22, 23, 24, 25, 26, 27, 28, 29, 30, 31, 32, 33, 34, 35, 36, 37, 38, 39, 40, 41, 42, 43, 44, 45, 46] (by decide +kernel) (by decide +kernel)) (goodIn_sub (fun _ h => List.mem_cons_of_mem _ (List.mem_append_right _ h)) (by decide +kernel))
set_option maxRecDepth 20000 in
theorem gL_just_X3_just : GoodIn wsL_just (wsV RL 25 RX3 yX3_just wsX3_just) := goodIn_app (goodIn_of _ (by decide +kernel)) ggL_just_X3_just
theorem dL_just_0 : decode cL_just 0 = .ok (.aload_n 0, 1) := by decide +kernel
theorem dL_just_1 : decode cL_just 1 = .ok (.iload_n 1, 1) := by decide +kernel
theorem dL_just_2 : decode cL_just 2 = .ok (.iload_n 2, 1) := by decide +kernel
theorem dL_just_3 : decode cL_just 3 = .ok (.iload_n 3, 1) := by decide +kernel
theorem dL_just_4 : decode cL_just 4 = .ok (.invokevirtual 25, 3) := by decide +kernel
theorem dL_just_7 : decode cL_just 7 = .ok (.goto 11, 3) := by decide +kernel
theorem dL_just_10 : decode cL_just 10 = .ok (.astore 4, 2) := by decide +kernel
theorem dL_just_12 : decode cL_just 12 = .ok (.iconst 1, 1) := by decide +kernel
theorem dL_just_13 : decode cL_just 13 = .ok (.ireturn, 1) := by decide +kernel
theorem dL_just_14 : decode cL_just 14 = .ok (.astore 4, 2) := by decide +kernel
theorem dL_just_16 : decode cL_just 16 = .ok (.iconst 2, 1) := by decide +kernel
theorem dL_just_17 : decode cL_just 17 = .ok (.ireturn, 1) := by decide +kernel
theorem dL_just_18 : decode cL_just 18 = .ok (.iconst 0, 1) := by decide +kernel
theorem dL_just_19 : decode cL_just 19 = .ok (.ireturn, 1) := by decide +kernel
set_option maxRecDepth 20000 in
theorem ggL_justAt_X3_justAt : GoodIn wsL_justAt wsX3_justAt := goodIn_r _ [5, 6, 7, 8, 9, 10, 4, 11, 12, 13, 14, 15, 16, 17, 18, 19, 20, 21, 22, 23, 24, 25, 26, 27, 28, 29, 30, 31, 32, 33, 34, 35] (by decide +kernel) (by decide +kernel)
set_option maxRecDepth 20000 in
theorem gL_justAt_X3_justAt : GoodIn wsL_justAt (wsV RL 29 RX3 yX3_justAt wsX3_justAt) := goodIn_app (goodIn_of _ (by decide +kernel)) ggL_justAt_X3_justAt
theorem dL_justAt_0 : decode cL_justAt 0 = .ok (.aload_n 3, 1) := by decide +kernel
theorem dL_justAt_1 : decode cL_justAt 1 = .ok (.iconst 0, 1) := by decide +kernel
theorem dL_justAt_2 : decode cL_justAt 2 = .ok (.aload_n 0, 1) := by decide +kernel
theorem dL_justAt_3 : decode cL_justAt 3 = .ok (.iload_n 1, 1) := by decide +kernel
theorem dL_justAt_4 : decode cL_justAt 4 = .ok (.iload_n 2, 1) := by decide +kernel
theorem dL_justAt_5 : decode cL_justAt 5 = .ok (.invokevirtual 29, 3) := by decide +kernel
theorem dL_justAt_8 : decode cL_justAt 8 = .ok (.i2l, 1) := by decide +kernel
theorem dL_justAt_9 : decode cL_justAt 9 = .ok (.lastore, 1) := by decide +kernel
theorem dL_justAt_10 : decode cL_justAt 10 = .ok (.goto 7, 3) := by decide +kernel
theorem dL_justAt_13 : decode cL_justAt 13 = .ok (.astore 4, 2) := by decide +kernel
theorem dL_justAt_15 : decode cL_justAt 15 = .ok (.iconst 1, 1) := by decide +kernel
theorem dL_justAt_16 : decode cL_justAt 16 = .ok (.ireturn, 1) := by decide +kernel
theorem dL_justAt_17 : decode cL_justAt 17 = .ok (.iconst 0, 1) := by decide +kernel
theorem dL_justAt_18 : decode cL_justAt 18 = .ok (.ireturn, 1) := by decide +kernel
set_option maxRecDepth 20000 in
theorem ggL_leaves_X3_leaves : GoodIn wsL_leaves wsX3_leaves := goodIn_r _ [5, 6, 7, 8, 9, 10, 11, 12, 4, 13, 14, 15, 16, 17, 18, 19, 20, 21, 22, 23, 24, 25, 26, 27, 28, 29, 30, 31, 32, 33, 34, 35, 36, 37, 38, 39, 40] (by decide +kernel) (by decide +kernel)
set_option maxRecDepth 20000 in
theorem gL_leaves_X3_leaves : GoodIn wsL_leaves (wsV RL 33 RX3 yX3_leaves wsX3_leaves) := goodIn_app (goodIn_of _ (by decide +kernel)) ggL_leaves_X3_leaves
theorem dL_leaves_0 : decode cL_leaves 0 = .ok (.aload_n 2, 1) := by decide +kernel
theorem dL_leaves_1 : decode cL_leaves 1 = .ok (.iconst 0, 1) := by decide +kernel
theorem dL_leaves_2 : decode cL_leaves 2 = .ok (.aload_n 0, 1) := by decide +kernel
theorem dL_leaves_3 : decode cL_leaves 3 = .ok (.iload_n 1, 1) := by decide +kernel
theorem dL_leaves_4 : decode cL_leaves 4 = .ok (.invokevirtual 33, 3) := by decide +kernel
theorem dL_leaves_7 : decode cL_leaves 7 = .ok (.lastore, 1) := by decide +kernel
theorem dL_leaves_8 : decode cL_leaves 8 = .ok (.goto 6, 3) := by decide +kernel
theorem dL_leaves_11 : decode cL_leaves 11 = .ok (.astore_n 3, 1) := by decide +kernel
theorem dL_leaves_12 : decode cL_leaves 12 = .ok (.iconst 1, 1) := by decide +kernel
theorem dL_leaves_13 : decode cL_leaves 13 = .ok (.ireturn, 1) := by decide +kernel
theorem dL_leaves_14 : decode cL_leaves 14 = .ok (.iconst 0, 1) := by decide +kernel
theorem dL_leaves_15 : decode cL_leaves 15 = .ok (.ireturn, 1) := by decide +kernel
set_option maxRecDepth 20000 in
theorem ggL_beside_X3_beside : GoodIn wsL_beside wsX3_beside := goodIn_r _ [5, 6, 7, 8, 9, 10, 11, 12, 13, 4, 14, 15, 16, 17, 18, 19, 20, 21, 22, 23, 24, 25, 26, 27, 28, 29, 30, 31, 32, 33, 34, 35, 36, 37, 38, 39, 40, 41, 42, 43, 44, 45, 46, 47, 48, 49, 50, 51, 52, 53, 54, 55, 56, 57, 58, 59, 60, 61, 62, 63, 64, 65] (by decide +kernel) (by decide +kernel)
set_option maxRecDepth 20000 in
theorem gL_beside_X3_beside : GoodIn wsL_beside (wsV RL 37 RX3 yX3_beside wsX3_beside) := goodIn_app (goodIn_of _ (by decide +kernel)) ggL_beside_X3_beside
theorem dL_beside_0 : decode cL_beside 0 = .ok (.aload_n 2, 1) := by decide +kernel
theorem dL_beside_1 : decode cL_beside 1 = .ok (.iconst 0, 1) := by decide +kernel
theorem dL_beside_2 : decode cL_beside 2 = .ok (.aload_n 0, 1) := by decide +kernel
theorem dL_beside_3 : decode cL_beside 3 = .ok (.iload_n 1, 1) := by decide +kernel
theorem dL_beside_4 : decode cL_beside 4 = .ok (.invokevirtual 37, 3) := by decide +kernel
theorem dL_beside_7 : decode cL_beside 7 = .ok (.i2l, 1) := by decide +kernel
theorem dL_beside_8 : decode cL_beside 8 = .ok (.lastore, 1) := by decide +kernel
theorem dL_beside_9 : decode cL_beside 9 = .ok (.goto 6, 3) := by decide +kernel
theorem dL_beside_12 : decode cL_beside 12 = .ok (.astore_n 3, 1) := by decide +kernel
theorem dL_beside_13 : decode cL_beside 13 = .ok (.iconst 1, 1) := by decide +kernel
theorem dL_beside_14 : decode cL_beside 14 = .ok (.ireturn, 1) := by decide +kernel
theorem dL_beside_15 : decode cL_beside 15 = .ok (.iconst 0, 1) := by decide +kernel
theorem dL_beside_16 : decode cL_beside 16 = .ok (.ireturn, 1) := by decide +kernel
set_option maxRecDepth 20000 in
theorem ggL_nearest_X3_nearest : GoodIn wsL_nearest wsX3_nearest := goodIn_ca (goodIn_r _ [6, 7, 8, 9, 10, 5, 11, 12, 13, 14, 15, 16, 17, 18, 19, 20, 21, 22, 23, 24, 25, 26, 27, 28, 29, 30, 31, 32, 33, 34, 35, 36, 37, 38, 39, 40, 41, 42, 43, 44, 45, 46, 47, 48, 49, 50, 51, 52, 53, 54, 55, 56, 57, 58, 59, 60, 61, 62, 63, 64, 65] (by decide +kernel) (by decide +kernel)) (goodIn_sub (fun _ h => List.mem_cons_of_mem _ (List.mem_append_right _ h)) (by decide +kernel))
set_option maxRecDepth 20000 in
theorem gL_nearest_X3_nearest : GoodIn wsL_nearest (wsV RL 41 RX3 yX3_nearest wsX3_nearest) := goodIn_app (goodIn_of _ (by decide +kernel)) ggL_nearest_X3_nearest
theorem dL_nearest_0 : decode cL_nearest 0 = .ok (.aload_n 3, 1) := by decide +kernel
theorem dL_nearest_1 : decode cL_nearest 1 = .ok (.iconst 0, 1) := by decide +kernel
theorem dL_nearest_2 : decode cL_nearest 2 = .ok (.aload_n 0, 1) := by decide +kernel
theorem dL_nearest_3 : decode cL_nearest 3 = .ok (.iload_n 1, 1) := by decide +kernel
theorem dL_nearest_4 : decode cL_nearest 4 = .ok (.iload_n 2, 1) := by decide +kernel
theorem dL_nearest_5 : decode cL_nearest 5 = .ok (.invokevirtual 41, 3) := by decide +kernel
theorem dL_nearest_8 : decode cL_nearest 8 = .ok (.i2l, 1) := by decide +kernel
theorem dL_nearest_9 : decode cL_nearest 9 = .ok (.lastore, 1) := by decide +kernel
theorem dL_nearest_10 : decode cL_nearest 10 = .ok (.goto 7, 3) := by decide +kernel
theorem dL_nearest_13 : decode cL_nearest 13 = .ok (.astore 4, 2) := by decide +kernel
theorem dL_nearest_15 : decode cL_nearest 15 = .ok (.iconst 1, 1) := by decide +kernel
theorem dL_nearest_16 : decode cL_nearest 16 = .ok (.ireturn, 1) := by decide +kernel
theorem dL_nearest_17 : decode cL_nearest 17 = .ok (.iconst 0, 1) := by decide +kernel
theorem dL_nearest_18 : decode cL_nearest 18 = .ok (.ireturn, 1) := by decide +kernel
set_option maxRecDepth 20000 in
theorem ggL_step_X3_step : GoodIn wsL_step wsX3_step := goodIn_ca (goodIn_r _ [6, 7, 8, 9, 10, 5, 11, 12, 13, 14, 15, 16, 17, 18, 19, 20, 21, 22, 23, 24, 25, 26, 27, 28, 29, 30, 31, 32, 33, 34, 35, 36, 37, 38, 39, 40, 41, 42, 43, 44, 45, 46, 47, 48, 49, 50, 51, 52, 53, 54, 55, 56, 57, 58, 59, 60] (by decide +kernel) (by decide +kernel)) (goodIn_sub (fun _ h => List.mem_cons_of_mem _ (List.mem_append_right _ h)) (by decide +kernel))
set_option maxRecDepth 20000 in
theorem gL_step_X3_step : GoodIn wsL_step (wsV RL 44 RX3 yX3_step wsX3_step) := goodIn_app (goodIn_of _ (by decide +kernel)) ggL_step_X3_step
theorem dL_step_0 : decode cL_step 0 = .ok (.aload_n 3, 1) := by decide +kernel
theorem dL_step_1 : decode cL_step 1 = .ok (.iconst 0, 1) := by decide +kernel
theorem dL_step_2 : decode cL_step 2 = .ok (.aload_n 0, 1) := by decide +kernel
theorem dL_step_3 : decode cL_step 3 = .ok (.iload_n 1, 1) := by decide +kernel
theorem dL_step_4 : decode cL_step 4 = .ok (.iload_n 2, 1) := by decide +kernel
theorem dL_step_5 : decode cL_step 5 = .ok (.invokevirtual 44, 3) := by decide +kernel
theorem dL_step_8 : decode cL_step 8 = .ok (.ifCond .eq 7, 3) := by decide +kernel
theorem dL_step_11 : decode cL_step 11 = .ok (.lconst 1, 1) := by decide +kernel
theorem dL_step_12 : decode cL_step 12 = .ok (.goto 4, 3) := by decide +kernel
theorem dL_step_15 : decode cL_step 15 = .ok (.lconst 0, 1) := by decide +kernel
theorem dL_step_16 : decode cL_step 16 = .ok (.lastore, 1) := by decide +kernel
theorem dL_step_17 : decode cL_step 17 = .ok (.goto 7, 3) := by decide +kernel
theorem dL_step_20 : decode cL_step 20 = .ok (.astore 4, 2) := by decide +kernel
theorem dL_step_22 : decode cL_step 22 = .ok (.iconst 1, 1) := by decide +kernel
theorem dL_step_23 : decode cL_step 23 = .ok (.ireturn, 1) := by decide +kernel
theorem dL_step_24 : decode cL_step 24 = .ok (.iconst 0, 1) := by decide +kernel
theorem dL_step_25 : decode cL_step 25 = .ok (.ireturn, 1) := by decide +kernel
set_option maxRecDepth 20000 in
theorem ggL_rest_X3_rest : GoodIn wsL_rest wsX3_rest := goodIn_r _ [5, 6, 7, 8, 9, 10, 11, 12, 4, 13, 14, 15, 16, 17, 18, 19, 20, 21, 22, 23, 24, 25, 26, 27, 28, 29, 30, 31, 32, 33, 34, 35, 36, 37, 38] (by decide +kernel) (by decide +kernel)
set_option maxRecDepth 20000 in
theorem gL_rest_X3_rest : GoodIn wsL_rest (wsV RL 48 RX3 yX3_rest wsX3_rest) := goodIn_app (goodIn_of _ (by decide +kernel)) ggL_rest_X3_rest
theorem dL_rest_0 : decode cL_rest 0 = .ok (.aload_n 2, 1) := by decide +kernel
theorem dL_rest_1 : decode cL_rest 1 = .ok (.iconst 0, 1) := by decide +kernel
theorem dL_rest_2 : decode cL_rest 2 = .ok (.aload_n 0, 1) := by decide +kernel
theorem dL_rest_3 : decode cL_rest 3 = .ok (.iload_n 1, 1) := by decide +kernel
theorem dL_rest_4 : decode cL_rest 4 = .ok (.invokevirtual 48, 3) := by decide +kernel
theorem dL_rest_7 : decode cL_rest 7 = .ok (.lastore, 1) := by decide +kernel
theorem dL_rest_8 : decode cL_rest 8 = .ok (.goto 6, 3) := by decide +kernel
theorem dL_rest_11 : decode cL_rest 11 = .ok (.astore_n 3, 1) := by decide +kernel
theorem dL_rest_12 : decode cL_rest 12 = .ok (.iconst 1, 1) := by decide +kernel
theorem dL_rest_13 : decode cL_rest 13 = .ok (.ireturn, 1) := by decide +kernel
theorem dL_rest_14 : decode cL_rest 14 = .ok (.iconst 0, 1) := by decide +kernel
theorem dL_rest_15 : decode cL_rest 15 = .ok (.ireturn, 1) := by decide +kernel
set_option maxRecDepth 20000 in
theorem ggL_beat_X3_beat : GoodIn wsL_beat wsX3_beat := goodIn_ca (goodIn_r _ [7, 8, 9, 10, 11, 12, 13, 6, 14, 15, 16, 17, 18, 19, 20, 21, 22, 23, 24, 25, 26, 27, 28, 29, 30, 31, 32, 33, 34, 35, 36, 37, 38, 39, 40, 41, 42, 43, 44, 45, 46, 47, 48, 49] (by decide +kernel) (by decide +kernel)) (goodIn_sub (fun _ h => List.mem_cons_of_mem _ (List.mem_append_right _ h)) (by decide +kernel))
set_option maxRecDepth 20000 in
theorem gL_beat_X3_beat : GoodIn wsL_beat (wsV RL 51 RX3 yX3_beat wsX3_beat) := goodIn_app (goodIn_of _ (by decide +kernel)) ggL_beat_X3_beat
theorem dL_beat_0 : decode cL_beat 0 = .ok (.aload 5, 2) := by decide +kernel
theorem dL_beat_2 : decode cL_beat 2 = .ok (.iconst 0, 1) := by decide +kernel
theorem dL_beat_3 : decode cL_beat 3 = .ok (.aload_n 0, 1) := by decide +kernel
theorem dL_beat_4 : decode cL_beat 4 = .ok (.iload_n 1, 1) := by decide +kernel
theorem dL_beat_5 : decode cL_beat 5 = .ok (.iload_n 2, 1) := by decide +kernel
theorem dL_beat_6 : decode cL_beat 6 = .ok (.iload_n 3, 1) := by decide +kernel
theorem dL_beat_7 : decode cL_beat 7 = .ok (.iload 4, 2) := by decide +kernel
theorem dL_beat_9 : decode cL_beat 9 = .ok (.invokevirtual 51, 3) := by decide +kernel
theorem dL_beat_12 : decode cL_beat 12 = .ok (.lastore, 1) := by decide +kernel
theorem dL_beat_13 : decode cL_beat 13 = .ok (.goto 11, 3) := by decide +kernel
theorem dL_beat_16 : decode cL_beat 16 = .ok (.astore 6, 2) := by decide +kernel
theorem dL_beat_18 : decode cL_beat 18 = .ok (.iconst 1, 1) := by decide +kernel
theorem dL_beat_19 : decode cL_beat 19 = .ok (.ireturn, 1) := by decide +kernel
theorem dL_beat_20 : decode cL_beat 20 = .ok (.astore 6, 2) := by decide +kernel
theorem dL_beat_22 : decode cL_beat 22 = .ok (.iconst 2, 1) := by decide +kernel
theorem dL_beat_23 : decode cL_beat 23 = .ok (.ireturn, 1) := by decide +kernel
theorem dL_beat_24 : decode cL_beat 24 = .ok (.iconst 0, 1) := by decide +kernel
theorem dL_beat_25 : decode cL_beat 25 = .ok (.ireturn, 1) := by decide +kernel
set_option maxRecDepth 20000 in
theorem ggL_fan_X3_fan : GoodIn wsL_fan wsX3_fan := goodIn_ca (goodIn_r _ [6, 7, 8, 9, 10, 11, 12, 13, 14, 5, 15, 16, 17, 18, 19, 20, 21, 22, 23, 24, 25, 26, 27, 28, 29, 30, 31, 32, 33, 34, 35, 36, 37, 38, 39, 40, 41, 42, 43, 44, 45] (by decide +kernel) (by decide +kernel)) (goodIn_sub (fun _ h => List.mem_cons_of_mem _ (List.mem_append_right _ h)) (by decide +kernel))
set_option maxRecDepth 20000 in
theorem gL_fan_X3_fan : GoodIn wsL_fan (wsV RL 55 RX3 yX3_fan wsX3_fan) := goodIn_app (goodIn_of _ (by decide +kernel)) ggL_fan_X3_fan
theorem dL_fan_0 : decode cL_fan 0 = .ok (.aload_n 0, 1) := by decide +kernel
theorem dL_fan_1 : decode cL_fan 1 = .ok (.iload_n 1, 1) := by decide +kernel
theorem dL_fan_2 : decode cL_fan 2 = .ok (.iload_n 2, 1) := by decide +kernel
theorem dL_fan_3 : decode cL_fan 3 = .ok (.iload_n 3, 1) := by decide +kernel
theorem dL_fan_4 : decode cL_fan 4 = .ok (.invokevirtual 55, 3) := by decide +kernel
theorem dL_fan_7 : decode cL_fan 7 = .ok (.goto 7, 3) := by decide +kernel
theorem dL_fan_10 : decode cL_fan 10 = .ok (.astore 4, 2) := by decide +kernel
theorem dL_fan_12 : decode cL_fan 12 = .ok (.iconst 1, 1) := by decide +kernel
theorem dL_fan_13 : decode cL_fan 13 = .ok (.ireturn, 1) := by decide +kernel
theorem dL_fan_14 : decode cL_fan 14 = .ok (.iconst 0, 1) := by decide +kernel
theorem dL_fan_15 : decode cL_fan 15 = .ok (.ireturn, 1) := by decide +kernel
set_option maxRecDepth 20000 in
theorem ggL_cross_X3_cross : GoodIn wsL_cross wsX3_cross := goodIn_ca (goodIn_r _ [7, 8, 9, 10, 11, 12, 13, 6, 14, 15, 16, 17, 18, 19, 20, 21, 22, 23, 24, 25, 26, 27, 28, 29, 30, 31, 32, 33, 34, 35, 36, 37, 38, 39, 40, 41, 42, 43, 44, 45, 46, 47, 48, 49, 50, 51, 52, 53, 54, 55, 56, 57, 58, 59, 60, 61, 62, 63, 64, 65, 66, 67, 68, 69, 70, 71, 72, 73, 74, 75, 76, 77, 78, 79, 80, 81, 82, 83, 84, 85, 86, 87, 88, 89, 90, 91, 92, 93, 94, 95, 96, 97, 98, 99, 100, 101, 102, 103, 104, 105, 106, 107, 108, 109, 110, 111, 112, 113, 114] (by decide +kernel) (by decide +kernel)) (goodIn_sub (fun _ h => List.mem_cons_of_mem _ (List.mem_append_right _ h)) (by decide +kernel))
set_option maxRecDepth 20000 in
theorem gL_cross_X3_cross : GoodIn wsL_cross (wsV RL 58 RX3 yX3_cross wsX3_cross) := goodIn_app (goodIn_of _ (by decide +kernel)) ggL_cross_X3_cross
theorem dL_cross_0 : decode cL_cross 0 = .ok (.aload 4, 2) := by decide +kernel
theorem dL_cross_2 : decode cL_cross 2 = .ok (.iconst 0, 1) := by decide +kernel
theorem dL_cross_3 : decode cL_cross 3 = .ok (.aload_n 0, 1) := by decide +kernel
theorem dL_cross_4 : decode cL_cross 4 = .ok (.iload_n 1, 1) := by decide +kernel
theorem dL_cross_5 : decode cL_cross 5 = .ok (.iload_n 2, 1) := by decide +kernel
theorem dL_cross_6 : decode cL_cross 6 = .ok (.iload_n 3, 1) := by decide +kernel
theorem dL_cross_7 : decode cL_cross 7 = .ok (.invokevirtual 58, 3) := by decide +kernel
theorem dL_cross_10 : decode cL_cross 10 = .ok (.lastore, 1) := by decide +kernel
theorem dL_cross_11 : decode cL_cross 11 = .ok (.goto 11, 3) := by decide +kernel
theorem dL_cross_14 : decode cL_cross 14 = .ok (.astore 5, 2) := by decide +kernel
theorem dL_cross_16 : decode cL_cross 16 = .ok (.iconst 1, 1) := by decide +kernel
theorem dL_cross_17 : decode cL_cross 17 = .ok (.ireturn, 1) := by decide +kernel
theorem dL_cross_18 : decode cL_cross 18 = .ok (.astore 5, 2) := by decide +kernel
theorem dL_cross_20 : decode cL_cross 20 = .ok (.iconst 2, 1) := by decide +kernel
theorem dL_cross_21 : decode cL_cross 21 = .ok (.ireturn, 1) := by decide +kernel
theorem dL_cross_22 : decode cL_cross 22 = .ok (.iconst 0, 1) := by decide +kernel
theorem dL_cross_23 : decode cL_cross 23 = .ok (.ireturn, 1) := by decide +kernel
set_option maxRecDepth 20000 in
theorem ggL_key_X3_key : GoodIn wsL_key wsX3_key := goodIn_ca (goodIn_r _ [7, 8, 9, 10, 11, 12, 13, 14, 15, 16, 6, 17, 18, 19, 20, 21, 22, 23, 24, 25, 26, 27, 28] (by decide +kernel) (by decide +kernel)) (goodIn_sub (fun _ h => List.mem_cons_of_mem _ (List.mem_append_right _ h)) (by decide +kernel))
set_option maxRecDepth 20000 in
theorem gL_key_X3_key : GoodIn wsL_key (wsV RL 62 RX3 yX3_key wsX3_key) := goodIn_app (goodIn_of _ (by decide +kernel)) ggL_key_X3_key
theorem dL_key_0 : decode cL_key 0 = .ok (.aload 5, 2) := by decide +kernel
theorem dL_key_2 : decode cL_key 2 = .ok (.iconst 0, 1) := by decide +kernel
theorem dL_key_3 : decode cL_key 3 = .ok (.aload_n 0, 1) := by decide +kernel
theorem dL_key_4 : decode cL_key 4 = .ok (.iload_n 1, 1) := by decide +kernel
theorem dL_key_5 : decode cL_key 5 = .ok (.lload_n 2, 1) := by decide +kernel
theorem dL_key_6 : decode cL_key 6 = .ok (.iload 4, 2) := by decide +kernel
theorem dL_key_8 : decode cL_key 8 = .ok (.invokevirtual 62, 3) := by decide +kernel
theorem dL_key_11 : decode cL_key 11 = .ok (.lastore, 1) := by decide +kernel
theorem dL_key_12 : decode cL_key 12 = .ok (.goto 11, 3) := by decide +kernel
theorem dL_key_15 : decode cL_key 15 = .ok (.astore 6, 2) := by decide +kernel
theorem dL_key_17 : decode cL_key 17 = .ok (.iconst 1, 1) := by decide +kernel
theorem dL_key_18 : decode cL_key 18 = .ok (.ireturn, 1) := by decide +kernel
theorem dL_key_19 : decode cL_key 19 = .ok (.astore 6, 2) := by decide +kernel
theorem dL_key_21 : decode cL_key 21 = .ok (.iconst 2, 1) := by decide +kernel
theorem dL_key_22 : decode cL_key 22 = .ok (.ireturn, 1) := by decide +kernel
theorem dL_key_23 : decode cL_key 23 = .ok (.iconst 0, 1) := by decide +kernel
theorem dL_key_24 : decode cL_key 24 = .ok (.ireturn, 1) := by decide +kernel
set_option maxRecDepth 20000 in
theorem ggL_pull_X3_pull : GoodIn wsL_pull wsX3_pull := goodIn_ca (goodIn_r _ [6, 7, 8, 9, 10, 5, 11, 12, 13] (by decide +kernel) (by decide +kernel)) (goodIn_sub (fun _ h => List.mem_cons_of_mem _ (List.mem_append_right _ h)) (by decide +kernel))
set_option maxRecDepth 20000 in
theorem gL_pull_X3_pull : GoodIn wsL_pull (wsV RL 66 RX3 yX3_pull wsX3_pull) := goodIn_app (goodIn_of _ (by decide +kernel)) ggL_pull_X3_pull
theorem dL_pull_0 : decode cL_pull 0 = .ok (.aload 7, 2) := by decide +kernel
theorem dL_pull_2 : decode cL_pull 2 = .ok (.iconst 0, 1) := by decide +kernel
theorem dL_pull_3 : decode cL_pull 3 = .ok (.aload_n 0, 1) := by decide +kernel
theorem dL_pull_4 : decode cL_pull 4 = .ok (.dload_n 1, 1) := by decide +kernel
theorem dL_pull_5 : decode cL_pull 5 = .ok (.dload_n 3, 1) := by decide +kernel
theorem dL_pull_6 : decode cL_pull 6 = .ok (.dload 5, 2) := by decide +kernel
theorem dL_pull_8 : decode cL_pull 8 = .ok (.invokevirtual 66, 3) := by decide +kernel
theorem dL_pull_11 : decode cL_pull 11 = .ok (.dastore, 1) := by decide +kernel
theorem dL_pull_12 : decode cL_pull 12 = .ok (.goto 7, 3) := by decide +kernel
theorem dL_pull_15 : decode cL_pull 15 = .ok (.astore 8, 2) := by decide +kernel
theorem dL_pull_17 : decode cL_pull 17 = .ok (.iconst 1, 1) := by decide +kernel
theorem dL_pull_18 : decode cL_pull 18 = .ok (.ireturn, 1) := by decide +kernel
theorem dL_pull_19 : decode cL_pull 19 = .ok (.iconst 0, 1) := by decide +kernel
theorem dL_pull_20 : decode cL_pull 20 = .ok (.ireturn, 1) := by decide +kernel
set_option maxRecDepth 20000 in
theorem ggL_pipe_X3_pipe : GoodIn wsL_pipe wsX3_pipe := goodIn_ca (goodIn_r _ [6, 7, 8, 9, 10, 11, 12, 13, 14, 5, 15, 16, 17] (by decide +kernel) (by decide +kernel)) (goodIn_sub (fun _ h => List.mem_cons_of_mem _ (List.mem_append_right _ h)) (by decide +kernel))
set_option maxRecDepth 20000 in
theorem gL_pipe_X3_pipe : GoodIn wsL_pipe (wsV RL 70 RX3 yX3_pipe wsX3_pipe) := goodIn_app (goodIn_of _ (by decide +kernel)) ggL_pipe_X3_pipe
theorem dL_pipe_0 : decode cL_pipe 0 = .ok (.aload 6, 2) := by decide +kernel
theorem dL_pipe_2 : decode cL_pipe 2 = .ok (.iconst 0, 1) := by decide +kernel
theorem dL_pipe_3 : decode cL_pipe 3 = .ok (.aload_n 0, 1) := by decide +kernel
theorem dL_pipe_4 : decode cL_pipe 4 = .ok (.dload_n 1, 1) := by decide +kernel
theorem dL_pipe_5 : decode cL_pipe 5 = .ok (.iload_n 3, 1) := by decide +kernel
theorem dL_pipe_6 : decode cL_pipe 6 = .ok (.dload 4, 2) := by decide +kernel
theorem dL_pipe_8 : decode cL_pipe 8 = .ok (.invokevirtual 70, 3) := by decide +kernel
theorem dL_pipe_11 : decode cL_pipe 11 = .ok (.dastore, 1) := by decide +kernel
theorem dL_pipe_12 : decode cL_pipe 12 = .ok (.goto 7, 3) := by decide +kernel
theorem dL_pipe_15 : decode cL_pipe 15 = .ok (.astore 7, 2) := by decide +kernel
theorem dL_pipe_17 : decode cL_pipe 17 = .ok (.iconst 1, 1) := by decide +kernel
theorem dL_pipe_18 : decode cL_pipe 18 = .ok (.ireturn, 1) := by decide +kernel
theorem dL_pipe_19 : decode cL_pipe 19 = .ok (.iconst 0, 1) := by decide +kernel
theorem dL_pipe_20 : decode cL_pipe 20 = .ok (.ireturn, 1) := by decide +kernel
set_option maxRecDepth 20000 in
theorem ggL_law_L_cell : GoodIn wsL_law wsL_cell := goodIn_r _ [13] (by decide +kernel) (by decide +kernel)
set_option maxRecDepth 20000 in
theorem gL_law_L_cell : GoodIn wsL_law (va_wsS RL 74 yL_cell wsL_cell) := goodIn_app (goodIn_of _ (by decide +kernel)) ggL_law_L_cell
set_option maxRecDepth 20000 in
theorem ggL_law_X3_init : GoodIn wsL_law wsX3_init := goodIn_r _ [16, 17, 18, 19, 20, 21, 22, 23, 24, 25, 26, 27, 28, 29, 30, 31, 32, 33, 34, 35, 36, 37, 38, 39, 40, 41, 42, 43, 44, 45, 46, 47, 48, 49, 50, 51, 52, 53, 54, 55, 56, 57, 58, 6, 59, 60, 61, 62, 2, 63, 7, 64, 65, 66, 67, 68, 69, 70, 71, 72, 73, 74, 75, 76, 77, 78, 79, 80, 81, 82, 83, 84, 85, 549, 550, 551, 552, 523, 524, 525, 526, 527, 528, 529, 530, 531, 532, 533, 534, 553, 554, 555, 556, 557] (by decide +kernel) (by decide +kernel)
set_option maxRecDepth 20000 in
theorem gL_law_X3_init : GoodIn wsL_law (wsX3_init) := ggL_law_X3_init
set_option maxRecDepth 20000 in
theorem ggL_law_X4_init : GoodIn wsL_law wsX4_init := goodIn_r _ [88, 89, 18, 19, 90, 91, 92, 40, 93, 94, 95, 96, 97, 98, 99, 100, 101, 535, 536, 537, 538, 539, 540, 541, 542, 543, 544, 545, 546, 547, 548] (by decide +kernel) (by decide +kernel)
set_option maxRecDepth 20000 in
theorem gL_law_X4_init : GoodIn wsL_law (wsX4_init) := ggL_law_X4_init
set_option maxRecDepth 20000 in
theorem ggL_law_L_scale : GoodIn wsL_law wsL_scale := goodIn_ca (goodIn_r _ [104, 105, 106, 107, 108, 2, 109, 110, 111, 29, 46, 47, 112, 48, 113, 114, 115, 116, 117, 118, 119, 120, 45, 121, 79, 81, 77, 82, 83, 84, 70, 85, 523, 524, 525, 526, 527, 528, 529, 530, 531, 532, 533, 534, 555, 556, 557] (by decide +kernel) (by decide +kernel)) (goodIn_sub (fun _ h => List.mem_append_right _ h) (by decide +kernel))
set_option maxRecDepth 20000 in
theorem gL_law_L_scale : GoodIn wsL_law (va_wsS RL 88 yL_scale wsL_scale) := goodIn_app (goodIn_of _ (by decide +kernel)) ggL_law_L_scale
set_option maxRecDepth 20000 in
theorem ggL_law_X4_scale : GoodIn wsL_law wsX4_scale := goodIn_r _ [125, 126, 127, 128, 91, 92, 129, 130, 5, 131, 535, 536, 537, 538, 539, 540, 541, 542, 543, 544, 545, 546, 547, 548] (by decide +kernel) (by decide +kernel)
set_option maxRecDepth 20000 in
theorem gL_law_X4_scale : GoodIn wsL_law (wsV RL 91 RX4 yX4_scale wsX4_scale) := goodIn_app (goodIn_of _ (by decide +kernel)) ggL_law_X4_scale
set_option maxRecDepth 20000 in
theorem ggL_law_X4_thrown : GoodIn wsL_law wsX4_thrown := goodIn_r _ [135, 128, 535, 536, 537, 538, 539, 540, 541, 542, 543, 544, 545, 546, 547, 548] (by decide +kernel) (by decide +kernel)
set_option maxRecDepth 20000 in
theorem gL_law_X4_thrown : GoodIn wsL_law (wsV RL 92 RX4 yX4_thrown wsX4_thrown) := goodIn_app (goodIn_of _ (by decide +kernel)) ggL_law_X4_thrown
set_option maxRecDepth 20000 in
theorem ggL_law_L_fret : GoodIn wsL_law wsL_fret := goodIn_r _ [138, 139, 140, 141, 2, 142, 46, 143, 144, 145, 146, 41, 42, 147, 148, 149, 150, 151, 152, 153, 38, 154, 155, 156, 157, 158, 159, 160, 161, 162, 163, 164, 39, 27, 165, 166, 167, 26, 168, 60, 169, 170, 171, 172, 59, 173, 174, 175, 176, 177, 178, 179, 180, 181, 182, 183, 33, 184, 185, 186, 187, 188, 189, 190, 191, 28, 192, 193, 194, 195, 196, 32, 34, 197, 198, 199, 200, 201, 202, 203, 204, 523, 524, 525, 526, 527, 528, 529, 530, 531, 532, 533, 534, 558, 559, 560, 561, 562, 563, 555, 556, 557, 553, 554] (by decide +kernel) (by decide +kernel)
set_option maxRecDepth 20000 in
theorem gL_law_L_fret : GoodIn wsL_law (va_wsS RL 96 yL_fret wsL_fret) := goodIn_app (goodIn_of _ (by decide +kernel)) ggL_law_L_fret
set_option maxRecDepth 20000 in
theorem ggL_law_X4_fret : GoodIn wsL_law wsX4_fret := goodIn_r _ [208, 128, 91, 92, 209, 210, 211, 5, 212, 213, 101, 129, 130, 131, 214, 215, 216, 217, 218, 219, 220, 221, 222, 223, 224, 225, 226, 227, 228, 229, 100, 230, 231, 232, 233, 234, 235, 236, 237, 238, 239, 240, 241, 242, 535, 536, 537, 538, 539, 540, 541, 542, 543, 544, 545, 546, 547, 548] (by decide +kernel) (by decide +kernel)
set_option maxRecDepth 20000 in
theorem gL_law_X4_fret : GoodIn wsL_law (wsV RL 99 RX4 yX4_fret wsX4_fret) := goodIn_app (goodIn_of _ (by decide +kernel)) ggL_law_X4_fret
set_option maxRecDepth 20000 in
theorem ggL_law_L_exact : GoodIn wsL_law wsL_exact := goodIn_r _ [245, 246, 247, 248, 2, 249, 46, 143, 144, 145, 146, 41, 42, 147, 148, 149, 150, 151, 152, 153, 38, 154, 155, 156, 157, 158, 159, 160, 161, 162, 163, 164, 39, 27, 165, 166, 167, 26, 168, 60, 169, 170, 171, 172, 59, 173, 174, 175, 176, 177, 178, 179, 180, 181, 182, 183, 33, 184, 185, 186, 187, 188, 189, 190, 191, 28, 192, 193, 194, 195, 196, 32, 34, 197, 198, 199, 200, 201, 202, 203, 204, 523, 524, 525, 526, 527, 528, 529, 530, 531, 532, 533, 534, 558, 559, 560, 561, 562, 563, 555, 556, 557, 553, 554] (by decide +kernel) (by decide +kernel)
set_option maxRecDepth 20000 in
theorem gL_law_L_exact : GoodIn wsL_law (va_wsS RL 100 yL_exact wsL_exact) := goodIn_app (goodIn_of _ (by decide +kernel)) ggL_law_L_exact
set_option maxRecDepth 20000 in
theorem ggL_law_X4_exact : GoodIn wsL_law wsX4_exact := goodIn_r _ [253, 128, 91, 92, 209, 210, 211, 5, 212, 213, 101, 129, 130, 131, 214, 215, 216, 217, 218, 219, 220, 221, 222, 223, 224, 225, 226, 227, 228, 229, 100, 230, 231, 232, 233, 234, 235, 236, 237, 238, 239, 240, 241, 242, 535, 536, 537, 538, 539, 540, 541, 542, 543, 544, 545, 546, 547, 548] (by decide +kernel) (by decide +kernel)
set_option maxRecDepth 20000 in
theorem gL_law_X4_exact : GoodIn wsL_law (wsV RL 103 RX4 yX4_exact wsX4_exact) := goodIn_app (goodIn_of _ (by decide +kernel)) ggL_law_X4_exact
set_option maxRecDepth 20000 in
theorem ggL_law_L_just : GoodIn wsL_law wsL_just := goodIn_ca (goodIn_r _ [256, 257, 105, 258, 259, 260, 2, 261, 110, 41, 42, 143, 144, 145, 146, 147, 148, 149, 113, 114, 115, 116, 117, 262, 263, 264, 265, 266, 267, 523, 524, 525, 526, 527, 528, 529, 530, 531, 532, 533, 534, 558, 559, 560, 561, 562, 563] (by decide +kernel) (by decide +kernel)) (goodIn_sub (fun _ h => List.mem_append_right _ h) (by decide +kernel))
set_option maxRecDepth 20000 in
theorem gL_law_L_just : GoodIn wsL_law (va_wsS RL 104 yL_just wsL_just) := goodIn_app (goodIn_of _ (by decide +kernel)) ggL_law_L_just
set_option maxRecDepth 20000 in
theorem ggL_law_X4_just : GoodIn wsL_law wsX4_just := goodIn_r _ [271, 128, 93, 94, 209, 210, 211, 5, 212, 213, 101, 129, 130, 131, 272, 273, 274, 126, 275, 276, 277, 535, 536, 537, 538, 539, 540, 541, 542, 543, 544, 545, 546, 547, 548] (by decide +kernel) (by decide +kernel)
set_option maxRecDepth 20000 in
theorem gL_law_X4_just : GoodIn wsL_law (wsV RL 107 RX4 yX4_just wsX4_just) := goodIn_app (goodIn_of _ (by decide +kernel)) ggL_law_X4_just
set_option maxRecDepth 20000 in
theorem ggL_law_L_justAt : GoodIn wsL_law wsL_justAt := goodIn_r _ [280, 281, 282, 283, 2, 284, 41, 42, 143, 144, 145, 146, 147, 148, 149, 285, 286, 287, 523, 524, 525, 526, 527, 528, 529, 530, 531, 532, 533, 534, 558, 559, 560, 561, 562, 563] (by decide +kernel) (by decide +kernel)
set_option maxRecDepth 20000 in
theorem gL_law_L_justAt : GoodIn wsL_law (va_wsS RL 108 yL_justAt wsL_justAt) := goodIn_app (goodIn_of _ (by decide +kernel)) ggL_law_L_justAt
set_option maxRecDepth 20000 in
theorem ggL_law_X4_justAt : GoodIn wsL_law wsX4_justAt := goodIn_r _ [291, 128, 93, 94, 209, 210, 211, 5, 212, 213, 101, 129, 130, 131, 535, 536, 537, 538, 539, 540, 541, 542, 543, 544, 545, 546, 547, 548] (by decide +kernel) (by decide +kernel)
set_option maxRecDepth 20000 in
theorem gL_law_X4_justAt : GoodIn wsL_law (wsV RL 111 RX4 yX4_justAt wsX4_justAt) := goodIn_app (goodIn_of _ (by decide +kernel)) ggL_law_X4_justAt
set_option maxRecDepth 20000 in
theorem ggL_law_L_leaves : GoodIn wsL_law wsL_leaves := goodIn_r _ [294, 295, 296, 297, 2, 298, 46, 156, 42, 41, 143, 144, 145, 146, 147, 148, 149, 265, 266, 267, 523, 524, 525, 526, 527, 528, 529, 530, 531, 532, 533, 534, 555, 556, 557, 558, 559, 560, 561, 562, 563] (by decide +kernel) (by decide +kernel)
set_option maxRecDepth 20000 in
theorem gL_law_L_leaves : GoodIn wsL_law (va_wsS RL 112 yL_leaves wsL_leaves) := goodIn_app (goodIn_of _ (by decide +kernel)) ggL_law_L_leaves
set_option maxRecDepth 20000 in
theorem ggL_law_X4_leaves : GoodIn wsL_law wsX4_leaves := goodIn_r _ [302, 128, 91, 92, 94, 93, 209, 210, 211, 5, 212, 213, 101, 129, 130, 131, 535, 536, 537, 538, 539, 540, 541, 542, 543, 544, 545, 546, 547, 548] (by decide +kernel) (by decide +kernel)
set_option maxRecDepth 20000 in
theorem gL_law_X4_leaves : GoodIn wsL_law (wsV RL 114 RX4 yX4_leaves wsX4_leaves) := goodIn_app (goodIn_of _ (by decide +kernel)) ggL_law_X4_leaves
set_option maxRecDepth 20000 in
theorem ggL_law_L_beside : GoodIn wsL_law wsL_beside := goodIn_r _ [305, 306, 307, 308, 2, 309, 27, 41, 38, 28, 42, 143, 144, 145, 146, 147, 148, 149, 165, 166, 167, 26, 168, 60, 169, 170, 171, 172, 59, 173, 174, 175, 176, 177, 192, 193, 194, 195, 196, 32, 33, 34, 197, 198, 199, 200, 523, 524, 525, 526, 527, 528, 529, 530, 531, 532, 533, 534, 558, 559, 560, 561, 562, 563, 553, 554] (by decide +kernel) (by decide +kernel)
set_option maxRecDepth 20000 in
theorem gL_law_L_beside : GoodIn wsL_law (va_wsS RL 115 yL_beside wsL_beside) := goodIn_app (goodIn_of _ (by decide +kernel)) ggL_law_L_beside
set_option maxRecDepth 20000 in
theorem ggL_law_X4_beside : GoodIn wsL_law wsX4_beside := goodIn_r _ [313, 128, 93, 94, 101, 209, 210, 211, 5, 212, 213, 129, 130, 131, 314, 315, 316, 317, 222, 223, 224, 225, 226, 227, 228, 229, 100, 230, 231, 232, 233, 234, 235, 236, 237, 238, 239, 240, 241, 242, 535, 536, 537, 538, 539, 540, 541, 542, 543, 544, 545, 546, 547, 548] (by decide +kernel) (by decide +kernel)
set_option maxRecDepth 20000 in
theorem gL_law_X4_beside : GoodIn wsL_law (wsV RL 117 RX4 yX4_beside wsX4_beside) := goodIn_app (goodIn_of _ (by decide +kernel)) ggL_law_X4_beside
set_option maxRecDepth 20000 in
theorem ggL_law_L_nearest : GoodIn wsL_law wsL_nearest := goodIn_ca (goodIn_r _ [320, 105, 321, 322, 323, 2, 324, 110, 38, 113, 114, 115, 116, 117, 325, 326, 327, 328, 27, 28, 165, 166, 167, 26, 168, 60, 169, 170, 171, 172, 59, 173, 174, 175, 176, 177, 192, 193, 194, 195, 196, 32, 33, 34, 197, 198, 199, 200, 329, 330, 331, 332, 523, 524, 525, 526, 527, 528, 529, 530, 531, 532, 533, 534, 553, 554] (by decide +kernel) (by decide +kernel)) (goodIn_sub (fun _ h => List.mem_append_right _ h) (by decide +kernel))
set_option maxRecDepth 20000 in
theorem gL_law_L_nearest : GoodIn wsL_law (va_wsS RL 118 yL_nearest wsL_nearest) := goodIn_app (goodIn_of _ (by decide +kernel)) ggL_law_L_nearest
set_option maxRecDepth 20000 in
theorem ggL_law_X4_nearest : GoodIn wsL_law wsX4_nearest := goodIn_r _ [336, 128, 101, 272, 273, 5, 274, 126, 129, 130, 131, 314, 315, 316, 317, 222, 223, 224, 225, 226, 227, 228, 229, 100, 230, 231, 232, 233, 234, 235, 236, 237, 238, 213, 239, 240, 241, 242, 535, 536, 537, 538, 539, 540, 541, 542, 543, 544, 545, 546, 547, 548] (by decide +kernel) (by decide +kernel)
set_option maxRecDepth 20000 in
theorem gL_law_X4_nearest : GoodIn wsL_law (wsV RL 120 RX4 yX4_nearest wsX4_nearest) := goodIn_app (goodIn_of _ (by decide +kernel)) ggL_law_X4_nearest
set_option maxRecDepth 20000 in
theorem ggL_law_L_step : GoodIn wsL_law wsL_step := goodIn_ca (goodIn_r _ [339, 105, 340, 341, 342, 2, 343, 110, 23, 113, 114, 115, 116, 117, 262, 263, 264, 265, 266, 267, 344, 345, 346, 22, 347, 52, 53, 348, 349, 350, 351, 352, 353, 354, 355, 356, 357, 358, 359, 360, 361, 362, 363, 54, 55, 523, 524, 525, 526, 527, 528, 529, 530, 531, 532, 533, 534, 549, 550, 551, 552] (by decide +kernel) (by decide +kernel)) (goodIn_sub (fun _ h => List.mem_append_right _ h) (by decide +kernel))
set_option maxRecDepth 20000 in
theorem gL_law_L_step : GoodIn wsL_law (va_wsS RL 121 yL_step wsL_step) := goodIn_app (goodIn_of _ (by decide +kernel)) ggL_law_L_step
set_option maxRecDepth 20000 in
theorem ggL_law_X4_step : GoodIn wsL_law wsX4_step := goodIn_r _ [367, 128, 95, 96, 213, 368, 369, 370, 272, 273, 5, 274, 126, 129, 130, 131, 275, 276, 277, 226, 227, 228, 229, 100, 230, 231, 232, 233, 234, 239, 240, 241, 242, 371, 372, 373, 374, 375, 376, 377, 378, 379, 380, 381, 382, 383, 384, 385, 386, 387, 388, 389, 535, 536, 537, 538, 539, 540, 541, 542, 543, 544, 545, 546, 547, 548] (by decide +kernel) (by decide +kernel)
set_option maxRecDepth 20000 in
theorem gL_law_X4_step : GoodIn wsL_law (wsV RL 123 RX4 yX4_step wsX4_step) := goodIn_app (goodIn_of _ (by decide +kernel)) ggL_law_X4_step
set_option maxRecDepth 20000 in
theorem ggL_law_X3_clear : GoodIn wsL_law wsX3_clear := goodIn_r _ [393, 23, 394, 395, 396, 22, 397, 52, 53, 54, 55, 523, 524, 525, 526, 527, 528, 529, 530, 531, 532, 533, 534, 549, 550, 551, 552] (by decide +kernel) (by decide +kernel)
set_option maxRecDepth 20000 in
theorem gL_law_X3_clear : GoodIn wsL_law (wsV RL 124 RX3 yX3_clear wsX3_clear) := goodIn_app (goodIn_of _ (by decide +kernel)) ggL_law_X3_clear
set_option maxRecDepth 20000 in
theorem ggL_law_X4_clear : GoodIn wsL_law wsX4_clear := goodIn_r _ [401, 128, 95, 96, 369, 370, 535, 536, 537, 538, 539, 540, 541, 542, 543, 544, 545, 546, 547, 548] (by decide +kernel) (by decide +kernel)
set_option maxRecDepth 20000 in
theorem gL_law_X4_clear : GoodIn wsL_law (wsV RL 127 RX4 yX4_clear wsX4_clear) := goodIn_app (goodIn_of _ (by decide +kernel)) ggL_law_X4_clear
set_option maxRecDepth 20000 in
theorem ggL_law_L_rest : GoodIn wsL_law wsL_rest := goodIn_r _ [404, 405, 406, 407, 2, 408, 23, 409, 410, 411, 412, 285, 286, 287, 147, 148, 149, 523, 524, 525, 526, 527, 528, 529, 530, 531, 532, 533, 534, 549, 550, 551, 552, 558, 559, 560, 561, 562, 563] (by decide +kernel) (by decide +kernel)
set_option maxRecDepth 20000 in
theorem gL_law_L_rest : GoodIn wsL_law (va_wsS RL 128 yL_rest wsL_rest) := goodIn_app (goodIn_of _ (by decide +kernel)) ggL_law_L_rest
set_option maxRecDepth 20000 in
theorem ggL_law_X4_rest : GoodIn wsL_law wsX4_rest := goodIn_r _ [416, 417, 128, 95, 96, 369, 370, 129, 130, 5, 131, 535, 536, 537, 538, 539, 540, 541, 542, 543, 544, 545, 546, 547, 548] (by decide +kernel) (by decide +kernel)
set_option maxRecDepth 20000 in
theorem gL_law_X4_rest : GoodIn wsL_law (wsV RL 130 RX4 yX4_rest wsX4_rest) := goodIn_app (goodIn_of _ (by decide +kernel)) ggL_law_X4_rest
set_option maxRecDepth 20000 in
theorem ggL_law_L_beat : GoodIn wsL_law wsL_beat := goodIn_ca (goodIn_r _ [420, 257, 105, 421, 422, 423, 2, 424, 425, 41, 42, 143, 144, 145, 146, 147, 148, 149, 285, 286, 287, 113, 114, 115, 116, 117, 262, 263, 264, 265, 266, 267, 523, 524, 525, 526, 527, 528, 529, 530, 531, 532, 533, 534, 558, 559, 560, 561, 562, 563] (by decide +kernel) (by decide +kernel)) (goodIn_sub (fun _ h => List.mem_append_right _ h) (by decide +kernel))
set_option maxRecDepth 20000 in
theorem gL_law_L_beat : GoodIn wsL_law (va_wsS RL 131 yL_beat wsL_beat) := goodIn_app (goodIn_of _ (by decide +kernel)) ggL_law_L_beat
set_option maxRecDepth 20000 in
theorem ggL_law_X4_beat : GoodIn wsL_law wsX4_beat := goodIn_r _ [429, 430, 128, 93, 94, 209, 210, 211, 5, 212, 213, 101, 129, 130, 131, 275, 276, 277, 535, 536, 537, 538, 539, 540, 541, 542, 543, 544, 545, 546, 547, 548] (by decide +kernel) (by decide +kernel)
set_option maxRecDepth 20000 in
theorem gL_law_X4_beat : GoodIn wsL_law (wsV RL 134 RX4 yX4_beat wsX4_beat) := goodIn_app (goodIn_of _ (by decide +kernel)) ggL_law_X4_beat
set_option maxRecDepth 20000 in
theorem ggL_law_L_fan : GoodIn wsL_law wsL_fan := goodIn_ca (goodIn_r _ [433, 105, 434, 435, 436, 2, 437, 110, 438, 30, 47, 29, 48, 113, 114, 115, 116, 117, 118, 119, 120, 45, 121, 79, 81, 77, 82, 83, 84, 70, 85, 523, 524, 525, 526, 527, 528, 529, 530, 531, 532, 533, 534, 555, 556, 557] (by decide +kernel) (by decide +kernel)) (goodIn_sub (fun _ h => List.mem_append_right _ h) (by decide +kernel))
set_option maxRecDepth 20000 in
theorem gL_law_L_fan : GoodIn wsL_law (va_wsS RL 135 yL_fan wsL_fan) := goodIn_app (goodIn_of _ (by decide +kernel)) ggL_law_L_fan
set_option maxRecDepth 20000 in
theorem ggL_law_X4_fan : GoodIn wsL_law wsX4_fan := goodIn_r _ [442, 90, 128, 97, 98, 99, 272, 273, 5, 274, 126, 129, 130, 131, 535, 536, 537, 538, 539, 540, 541, 542, 543, 544, 545, 546, 547, 548] (by decide +kernel) (by decide +kernel)
set_option maxRecDepth 20000 in
theorem gL_law_X4_fan : GoodIn wsL_law (wsV RL 137 RX4 yX4_fan wsX4_fan) := goodIn_app (goodIn_of _ (by decide +kernel)) ggL_law_X4_fan
set_option maxRecDepth 20000 in
theorem ggL_law_L_cross : GoodIn wsL_law wsL_cross := goodIn_ca (goodIn_r _ [445, 257, 105, 446, 447, 448, 2, 449, 30, 47, 48, 143, 144, 145, 146, 41, 42, 147, 148, 149, 285, 286, 287, 113, 114, 115, 116, 117, 150, 151, 152, 153, 38, 154, 155, 156, 157, 158, 159, 160, 161, 162, 163, 164, 39, 27, 165, 166, 167, 26, 168, 60, 169, 170, 171, 172, 59, 173, 174, 175, 176, 177, 178, 179, 180, 181, 182, 183, 33, 184, 185, 186, 187, 188, 189, 190, 191, 28, 192, 193, 194, 195, 196, 32, 34, 197, 198, 199, 200, 265, 266, 267, 523, 524, 525, 526, 527, 528, 529, 530, 531, 532, 533, 534, 558, 559, 560, 561, 562, 563, 555, 556, 557, 553, 554] (by decide +kernel) (by decide +kernel)) (goodIn_sub (fun _ h => List.mem_append_right _ h) (by decide +kernel))
set_option maxRecDepth 20000 in
theorem gL_law_L_cross : GoodIn wsL_law (va_wsS RL 138 yL_cross wsL_cross) := goodIn_app (goodIn_of _ (by decide +kernel)) ggL_law_L_cross
set_option maxRecDepth 20000 in
theorem ggL_law_X4_cross : GoodIn wsL_law wsX4_cross := goodIn_r _ [453, 99, 128, 97, 98, 209, 210, 211, 5, 212, 213, 101, 129, 130, 131, 214, 215, 216, 217, 92, 218, 219, 220, 221, 222, 223, 224, 225, 226, 227, 228, 229, 100, 230, 231, 232, 233, 234, 235, 236, 237, 238, 239, 240, 241, 242, 535, 536, 537, 538, 539, 540, 541, 542, 543, 544, 545, 546, 547, 548] (by decide +kernel) (by decide +kernel)
set_option maxRecDepth 20000 in
theorem gL_law_X4_cross : GoodIn wsL_law (wsV RL 141 RX4 yX4_cross wsX4_cross) := goodIn_app (goodIn_of _ (by decide +kernel)) ggL_law_X4_cross
set_option maxRecDepth 20000 in
theorem ggL_law_X3_upright : GoodIn wsL_law wsX3_upright := goodIn_r _ [457, 458, 38, 47, 48, 459, 460, 33, 461, 150, 151, 152, 2, 153, 154, 155, 156, 157, 158, 159, 160, 161, 162, 163, 164, 39, 27, 165, 166, 167, 26, 168, 60, 169, 170, 171, 172, 59, 173, 174, 175, 176, 177, 178, 179, 180, 181, 182, 183, 184, 185, 186, 187, 188, 189, 190, 191, 28, 192, 193, 194, 195, 196, 32, 34, 197, 198, 199, 200, 523, 524, 525, 526, 527, 528, 529, 530, 531, 532, 533, 534, 555, 556, 557, 553, 554] (by decide +kernel) (by decide +kernel)
set_option maxRecDepth 20000 in
theorem gL_law_X3_upright : GoodIn wsL_law (wsV RL 142 RX3 yX3_upright wsX3_upright) := goodIn_app (goodIn_of _ (by decide +kernel)) ggL_law_X3_upright
set_option maxRecDepth 20000 in
theorem ggL_law_X4_upright : GoodIn wsL_law wsX4_upright := goodIn_r _ [465, 128, 101, 97, 98, 214, 215, 216, 5, 217, 92, 213, 218, 219, 220, 221, 222, 223, 224, 225, 226, 227, 228, 229, 100, 230, 231, 232, 233, 234, 235, 236, 237, 238, 239, 240, 241, 242, 535, 536, 537, 538, 539, 540, 541, 542, 543, 544, 545, 546, 547, 548] (by decide +kernel) (by decide +kernel)
set_option maxRecDepth 20000 in
theorem gL_law_X4_upright : GoodIn wsL_law (wsV RL 145 RX4 yX4_upright wsX4_upright) := goodIn_app (goodIn_of _ (by decide +kernel)) ggL_law_X4_upright
set_option maxRecDepth 20000 in
theorem ggL_law_L_key : GoodIn wsL_law wsL_key := goodIn_ca (goodIn_r _ [468, 257, 105, 469, 470, 471, 2, 472, 473, 147, 148, 149, 110, 474, 475, 285, 286, 287, 113, 114, 115, 116, 117, 558, 559, 560, 561, 562, 563] (by decide +kernel) (by decide +kernel)) (goodIn_sub (fun _ h => List.mem_append_right _ h) (by decide +kernel))
set_option maxRecDepth 20000 in
theorem gL_law_L_key : GoodIn wsL_law (va_wsS RL 146 yL_key wsL_key) := goodIn_app (goodIn_of _ (by decide +kernel)) ggL_law_L_key
set_option maxRecDepth 20000 in
theorem ggL_law_X4_key : GoodIn wsL_law wsX4_key := goodIn_r _ [479, 480, 417, 126, 128, 481, 482, 213, 483, 129, 130, 5, 131, 484, 485, 486, 535, 536, 537, 538, 539, 540, 541, 542, 543, 544, 545, 546, 547, 548] (by decide +kernel) (by decide +kernel)
set_option maxRecDepth 20000 in
theorem gL_law_X4_key : GoodIn wsL_law (wsV RL 149 RX4 yX4_key wsX4_key) := goodIn_app (goodIn_of _ (by decide +kernel)) ggL_law_X4_key
set_option maxRecDepth 20000 in
theorem ggL_law_L_pull : GoodIn wsL_law wsL_pull := goodIn_ca (goodIn_r _ [489, 105, 490, 491, 492, 2, 493, 494, 495, 496, 497, 498, 116, 117] (by decide +kernel) (by decide +kernel)) (goodIn_sub (fun _ h => List.mem_append_right _ h) (by decide +kernel))
set_option maxRecDepth 20000 in
theorem gL_law_L_pull : GoodIn wsL_law (va_wsS RL 152 yL_pull wsL_pull) := goodIn_app (goodIn_of _ (by decide +kernel)) ggL_law_L_pull
set_option maxRecDepth 20000 in
theorem ggL_law_X4_pull : GoodIn wsL_law wsX4_pull := goodIn_r _ [502, 503, 128, 504, 535, 536, 537, 538, 539, 540, 541, 542, 543, 544, 545, 546, 547, 548] (by decide +kernel) (by decide +kernel)
set_option maxRecDepth 20000 in
theorem gL_law_X4_pull : GoodIn wsL_law (wsV RL 155 RX4 yX4_pull wsX4_pull) := goodIn_app (goodIn_of _ (by decide +kernel)) ggL_law_X4_pull
set_option maxRecDepth 20000 in
theorem ggL_law_L_pipe : GoodIn wsL_law wsL_pipe := goodIn_ca (goodIn_r _ [507, 105, 508, 509, 510, 2, 511, 494, 512, 513, 67, 495, 514, 496, 497, 498, 116, 117] (by decide +kernel) (by decide +kernel)) (goodIn_sub (fun _ h => List.mem_append_right _ h) (by decide +kernel))
set_option maxRecDepth 20000 in
theorem gL_law_L_pipe : GoodIn wsL_law (va_wsS RL 156 yL_pipe wsL_pipe) := goodIn_app (goodIn_of _ (by decide +kernel)) ggL_law_L_pipe
set_option maxRecDepth 20000 in
theorem ggL_law_X4_pipe : GoodIn wsL_law wsX4_pipe := goodIn_r _ [518, 503, 519, 128, 520, 521, 504, 522, 535, 536, 537, 538, 539, 540, 541, 542, 543, 544, 545, 546, 547, 548] (by decide +kernel) (by decide +kernel)
set_option maxRecDepth 20000 in
theorem gL_law_X4_pipe : GoodIn wsL_law (wsV RL 159 RX4 yX4_pipe wsX4_pipe) := goodIn_app (goodIn_of _ (by decide +kernel)) ggL_law_X4_pipe
theorem dL_law_0 : decode cL_law 0 = .ok (.new 8, 3) := by decide +kernel
theorem dL_law_3 : decode cL_law 3 = .ok (.dup, 1) := by decide +kernel
theorem dL_law_4 : decode cL_law 4 = .ok (.aload_n 0, 1) := by decide +kernel
theorem dL_law_5 : decode cL_law 5 = .ok (.iconst 0, 1) := by decide +kernel
theorem dL_law_6 : decode cL_law 6 = .ok (.invokestatic 74, 3) := by decide +kernel
theorem dL_law_9 : decode cL_law 9 = .ok (.invokespecial 80, 3) := by decide +kernel
theorem dL_law_12 : decode cL_law 12 = .ok (.astore_n 1, 1) := by decide +kernel
theorem dL_law_13 : decode cL_law 13 = .ok (.new 83, 3) := by decide +kernel
theorem dL_law_16 : decode cL_law 16 = .ok (.dup, 1) := by decide +kernel
theorem dL_law_17 : decode cL_law 17 = .ok (.aload_n 0, 1) := by decide +kernel
theorem dL_law_18 : decode cL_law 18 = .ok (.iconst 0, 1) := by decide +kernel
theorem dL_law_19 : decode cL_law 19 = .ok (.invokestatic 74, 3) := by decide +kernel
theorem dL_law_22 : decode cL_law 22 = .ok (.invokespecial 85, 3) := by decide +kernel
theorem dL_law_25 : decode cL_law 25 = .ok (.astore_n 2, 1) := by decide +kernel
theorem dL_law_26 : decode cL_law 26 = .ok (.iconst 1, 1) := by decide +kernel
theorem dL_law_27 : decode cL_law 27 = .ok (.newarray .long, 2) := by decide +kernel
theorem dL_law_29 : decode cL_law 29 = .ok (.astore_n 3, 1) := by decide +kernel
theorem dL_law_30 : decode cL_law 30 = .ok (.iconst 1, 1) := by decide +kernel
theorem dL_law_31 : decode cL_law 31 = .ok (.newarray .double, 2) := by decide +kernel
theorem dL_law_33 : decode cL_law 33 = .ok (.astore 4, 2) := by decide +kernel
theorem dL_law_35 : decode cL_law 35 = .ok (.iconst 1, 1) := by decide +kernel
theorem dL_law_36 : decode cL_law 36 = .ok (.istore 5, 2) := by decide +kernel
theorem dL_law_38 : decode cL_law 38 = .ok (.iload 5, 2) := by decide +kernel
theorem dL_law_40 : decode cL_law 40 = .ok (.aload_n 0, 1) := by decide +kernel
theorem dL_law_41 : decode cL_law 41 = .ok (.arraylength, 1) := by decide +kernel
theorem dL_law_42 : decode cL_law 42 = .ok (.iconst 5, 1) := by decide +kernel
theorem dL_law_43 : decode cL_law 43 = .ok (.isub, 1) := by decide +kernel
theorem dL_law_44 : decode cL_law 44 = .ok (.if_icmp .gt 1398, 3) := by decide +kernel
theorem dL_law_47 : decode cL_law 47 = .ok (.aload_n 0, 1) := by decide +kernel
theorem dL_law_48 : decode cL_law 48 = .ok (.iload 5, 2) := by decide +kernel
theorem dL_law_50 : decode cL_law 50 = .ok (.iaload, 1) := by decide +kernel
theorem dL_law_51 : decode cL_law 51 = .ok (.bipush 31, 2) := by decide +kernel
theorem dL_law_53 : decode cL_law 53 = .ok (.iand, 1) := by decide +kernel
theorem dL_law_54 : decode cL_law 54 = .ok (.tableswitch 1382 0 17 #[86, 166, 249, 312, 372, 440, 495, 551, 619, 694, 705, 760, 851, 911, 990, 1003, 1114, 1245], 86) := by decide +kernel
theorem dL_law_140 : decode cL_law 140 = .ok (.aload_n 1, 1) := by decide +kernel
theorem dL_law_141 : decode cL_law 141 = .ok (.aload_n 0, 1) := by decide +kernel
theorem dL_law_142 : decode cL_law 142 = .ok (.iload 5, 2) := by decide +kernel
theorem dL_law_144 : decode cL_law 144 = .ok (.iconst 1, 1) := by decide +kernel
theorem dL_law_145 : decode cL_law 145 = .ok (.iadd, 1) := by decide +kernel
theorem dL_law_146 : decode cL_law 146 = .ok (.iaload, 1) := by decide +kernel
theorem dL_law_147 : decode cL_law 147 = .ok (.i2l, 1) := by decide +kernel
theorem dL_law_148 : decode cL_law 148 = .ok (.bipush 32, 2) := by decide +kernel
theorem dL_law_150 : decode cL_law 150 = .ok (.lshl, 1) := by decide +kernel
theorem dL_law_151 : decode cL_law 151 = .ok (.aload_n 0, 1) := by decide +kernel
theorem dL_law_152 : decode cL_law 152 = .ok (.iload 5, 2) := by decide +kernel
theorem dL_law_154 : decode cL_law 154 = .ok (.iconst 2, 1) := by decide +kernel
theorem dL_law_155 : decode cL_law 155 = .ok (.iadd, 1) := by decide +kernel
theorem dL_law_156 : decode cL_law 156 = .ok (.iaload, 1) := by decide +kernel
theorem dL_law_157 : decode cL_law 157 = .ok (.i2l, 1) := by decide +kernel
theorem dL_law_158 : decode cL_law 158 = .ok (.ldc2_w 86, 3) := by decide +kernel
theorem dL_law_161 : decode cL_law 161 = .ok (.land, 1) := by decide +kernel
theorem dL_law_162 : decode cL_law 162 = .ok (.lor, 1) := by decide +kernel
theorem dL_law_163 : decode cL_law 163 = .ok (.aload_n 0, 1) := by decide +kernel
theorem dL_law_164 : decode cL_law 164 = .ok (.iload 5, 2) := by decide +kernel
theorem dL_law_166 : decode cL_law 166 = .ok (.iconst 3, 1) := by decide +kernel
theorem dL_law_167 : decode cL_law 167 = .ok (.iadd, 1) := by decide +kernel
theorem dL_law_168 : decode cL_law 168 = .ok (.iaload, 1) := by decide +kernel
theorem dL_law_169 : decode cL_law 169 = .ok (.invokestatic 88, 3) := by decide +kernel
theorem dL_law_172 : decode cL_law 172 = .ok (.istore 6, 2) := by decide +kernel
theorem dL_law_174 : decode cL_law 174 = .ok (.aload_n 2, 1) := by decide +kernel
theorem dL_law_175 : decode cL_law 175 = .ok (.aload_n 0, 1) := by decide +kernel
theorem dL_law_176 : decode cL_law 176 = .ok (.iload 5, 2) := by decide +kernel
theorem dL_law_178 : decode cL_law 178 = .ok (.iconst 1, 1) := by decide +kernel
theorem dL_law_179 : decode cL_law 179 = .ok (.iadd, 1) := by decide +kernel
theorem dL_law_180 : decode cL_law 180 = .ok (.iaload, 1) := by decide +kernel
theorem dL_law_181 : decode cL_law 181 = .ok (.i2l, 1) := by decide +kernel
theorem dL_law_182 : decode cL_law 182 = .ok (.bipush 32, 2) := by decide +kernel
theorem dL_law_184 : decode cL_law 184 = .ok (.lshl, 1) := by decide +kernel
theorem dL_law_185 : decode cL_law 185 = .ok (.aload_n 0, 1) := by decide +kernel
theorem dL_law_186 : decode cL_law 186 = .ok (.iload 5, 2) := by decide +kernel
theorem dL_law_188 : decode cL_law 188 = .ok (.iconst 2, 1) := by decide +kernel
theorem dL_law_189 : decode cL_law 189 = .ok (.iadd, 1) := by decide +kernel
theorem dL_law_190 : decode cL_law 190 = .ok (.iaload, 1) := by decide +kernel
theorem dL_law_191 : decode cL_law 191 = .ok (.i2l, 1) := by decide +kernel
theorem dL_law_192 : decode cL_law 192 = .ok (.ldc2_w 86, 3) := by decide +kernel
theorem dL_law_195 : decode cL_law 195 = .ok (.land, 1) := by decide +kernel
theorem dL_law_196 : decode cL_law 196 = .ok (.lor, 1) := by decide +kernel
theorem dL_law_197 : decode cL_law 197 = .ok (.aload_n 0, 1) := by decide +kernel
theorem dL_law_198 : decode cL_law 198 = .ok (.iload 5, 2) := by decide +kernel
theorem dL_law_200 : decode cL_law 200 = .ok (.iconst 3, 1) := by decide +kernel
theorem dL_law_201 : decode cL_law 201 = .ok (.iadd, 1) := by decide +kernel
theorem dL_law_202 : decode cL_law 202 = .ok (.iaload, 1) := by decide +kernel
theorem dL_law_203 : decode cL_law 203 = .ok (.invokevirtual 91, 3) := by decide +kernel
theorem dL_law_206 : decode cL_law 206 = .ok (.aload_n 2, 1) := by decide +kernel
theorem dL_law_207 : decode cL_law 207 = .ok (.invokevirtual 92, 3) := by decide +kernel
theorem dL_law_210 : decode cL_law 210 = .ok (.iload 6, 2) := by decide +kernel
theorem dL_law_212 : decode cL_law 212 = .ok (.if_icmp .eq 5, 3) := by decide +kernel
theorem dL_law_215 : decode cL_law 215 = .ok (.iconst 0, 1) := by decide +kernel
theorem dL_law_216 : decode cL_law 216 = .ok (.ireturn, 1) := by decide +kernel
theorem dL_law_217 : decode cL_law 217 = .ok (.goto 1219, 3) := by decide +kernel
theorem dL_law_220 : decode cL_law 220 = .ok (.aload_n 1, 1) := by decide +kernel
theorem dL_law_221 : decode cL_law 221 = .ok (.aload_n 0, 1) := by decide +kernel
theorem dL_law_222 : decode cL_law 222 = .ok (.iload 5, 2) := by decide +kernel
theorem dL_law_224 : decode cL_law 224 = .ok (.iconst 1, 1) := by decide +kernel
theorem dL_law_225 : decode cL_law 225 = .ok (.iadd, 1) := by decide +kernel
theorem dL_law_226 : decode cL_law 226 = .ok (.iaload, 1) := by decide +kernel
theorem dL_law_227 : decode cL_law 227 = .ok (.aload_n 0, 1) := by decide +kernel
theorem dL_law_228 : decode cL_law 228 = .ok (.iload 5, 2) := by decide +kernel
theorem dL_law_230 : decode cL_law 230 = .ok (.iconst 2, 1) := by decide +kernel
theorem dL_law_231 : decode cL_law 231 = .ok (.iadd, 1) := by decide +kernel
theorem dL_law_232 : decode cL_law 232 = .ok (.iaload, 1) := by decide +kernel
theorem dL_law_233 : decode cL_law 233 = .ok (.ifCond .eq 7, 3) := by decide +kernel
theorem dL_law_236 : decode cL_law 236 = .ok (.iconst 1, 1) := by decide +kernel
theorem dL_law_237 : decode cL_law 237 = .ok (.goto 4, 3) := by decide +kernel
theorem dL_law_240 : decode cL_law 240 = .ok (.iconst 0, 1) := by decide +kernel
theorem dL_law_241 : decode cL_law 241 = .ok (.aload_n 3, 1) := by decide +kernel
theorem dL_law_242 : decode cL_law 242 = .ok (.invokestatic 96, 3) := by decide +kernel
theorem dL_law_245 : decode cL_law 245 = .ok (.istore 6, 2) := by decide +kernel
theorem dL_law_247 : decode cL_law 247 = .ok (.aload_n 2, 1) := by decide +kernel
theorem dL_law_248 : decode cL_law 248 = .ok (.aload_n 0, 1) := by decide +kernel
theorem dL_law_249 : decode cL_law 249 = .ok (.iload 5, 2) := by decide +kernel
theorem dL_law_251 : decode cL_law 251 = .ok (.iconst 1, 1) := by decide +kernel
theorem dL_law_252 : decode cL_law 252 = .ok (.iadd, 1) := by decide +kernel
theorem dL_law_253 : decode cL_law 253 = .ok (.iaload, 1) := by decide +kernel
theorem dL_law_254 : decode cL_law 254 = .ok (.aload_n 0, 1) := by decide +kernel
theorem dL_law_255 : decode cL_law 255 = .ok (.iload 5, 2) := by decide +kernel
theorem dL_law_257 : decode cL_law 257 = .ok (.iconst 2, 1) := by decide +kernel
theorem dL_law_258 : decode cL_law 258 = .ok (.iadd, 1) := by decide +kernel
theorem dL_law_259 : decode cL_law 259 = .ok (.iaload, 1) := by decide +kernel
theorem dL_law_260 : decode cL_law 260 = .ok (.ifCond .eq 7, 3) := by decide +kernel
theorem dL_law_263 : decode cL_law 263 = .ok (.iconst 1, 1) := by decide +kernel
theorem dL_law_264 : decode cL_law 264 = .ok (.goto 4, 3) := by decide +kernel
theorem dL_law_267 : decode cL_law 267 = .ok (.iconst 0, 1) := by decide +kernel
theorem dL_law_268 : decode cL_law 268 = .ok (.invokevirtual 99, 3) := by decide +kernel
theorem dL_law_271 : decode cL_law 271 = .ok (.lstore 7, 2) := by decide +kernel
theorem dL_law_273 : decode cL_law 273 = .ok (.aload_n 2, 1) := by decide +kernel
theorem dL_law_274 : decode cL_law 274 = .ok (.invokevirtual 92, 3) := by decide +kernel
theorem dL_law_277 : decode cL_law 277 = .ok (.iload 6, 2) := by decide +kernel
theorem dL_law_279 : decode cL_law 279 = .ok (.if_icmp .eq 5, 3) := by decide +kernel
theorem dL_law_282 : decode cL_law 282 = .ok (.iconst 0, 1) := by decide +kernel
theorem dL_law_283 : decode cL_law 283 = .ok (.ireturn, 1) := by decide +kernel
theorem dL_law_284 : decode cL_law 284 = .ok (.iload 6, 2) := by decide +kernel
theorem dL_law_286 : decode cL_law 286 = .ok (.ifCond .ne 14, 3) := by decide +kernel
theorem dL_law_289 : decode cL_law 289 = .ok (.aload_n 3, 1) := by decide +kernel
theorem dL_law_290 : decode cL_law 290 = .ok (.iconst 0, 1) := by decide +kernel
theorem dL_law_291 : decode cL_law 291 = .ok (.laload, 1) := by decide +kernel
theorem dL_law_292 : decode cL_law 292 = .ok (.lload 7, 2) := by decide +kernel
theorem dL_law_294 : decode cL_law 294 = .ok (.lcmp, 1) := by decide +kernel
theorem dL_law_295 : decode cL_law 295 = .ok (.ifCond .eq 5, 3) := by decide +kernel
theorem dL_law_298 : decode cL_law 298 = .ok (.iconst 0, 1) := by decide +kernel
theorem dL_law_299 : decode cL_law 299 = .ok (.ireturn, 1) := by decide +kernel
theorem dL_law_300 : decode cL_law 300 = .ok (.goto 1136, 3) := by decide +kernel
theorem dL_law_303 : decode cL_law 303 = .ok (.aload_n 1, 1) := by decide +kernel
theorem dL_law_304 : decode cL_law 304 = .ok (.aload_n 0, 1) := by decide +kernel
theorem dL_law_305 : decode cL_law 305 = .ok (.iload 5, 2) := by decide +kernel
theorem dL_law_307 : decode cL_law 307 = .ok (.iconst 1, 1) := by decide +kernel
theorem dL_law_308 : decode cL_law 308 = .ok (.iadd, 1) := by decide +kernel
theorem dL_law_309 : decode cL_law 309 = .ok (.iaload, 1) := by decide +kernel
theorem dL_law_310 : decode cL_law 310 = .ok (.aload_n 3, 1) := by decide +kernel
theorem dL_law_311 : decode cL_law 311 = .ok (.invokestatic 100, 3) := by decide +kernel
theorem dL_law_314 : decode cL_law 314 = .ok (.istore 6, 2) := by decide +kernel
theorem dL_law_316 : decode cL_law 316 = .ok (.aload_n 2, 1) := by decide +kernel
theorem dL_law_317 : decode cL_law 317 = .ok (.aload_n 0, 1) := by decide +kernel
theorem dL_law_318 : decode cL_law 318 = .ok (.iload 5, 2) := by decide +kernel
theorem dL_law_320 : decode cL_law 320 = .ok (.iconst 1, 1) := by decide +kernel
theorem dL_law_321 : decode cL_law 321 = .ok (.iadd, 1) := by decide +kernel
theorem dL_law_322 : decode cL_law 322 = .ok (.iaload, 1) := by decide +kernel
theorem dL_law_323 : decode cL_law 323 = .ok (.invokevirtual 103, 3) := by decide +kernel
theorem dL_law_326 : decode cL_law 326 = .ok (.istore 7, 2) := by decide +kernel
theorem dL_law_328 : decode cL_law 328 = .ok (.aload_n 2, 1) := by decide +kernel
theorem dL_law_329 : decode cL_law 329 = .ok (.invokevirtual 92, 3) := by decide +kernel
theorem dL_law_332 : decode cL_law 332 = .ok (.iload 6, 2) := by decide +kernel
theorem dL_law_334 : decode cL_law 334 = .ok (.if_icmp .eq 5, 3) := by decide +kernel
theorem dL_law_337 : decode cL_law 337 = .ok (.iconst 0, 1) := by decide +kernel
theorem dL_law_338 : decode cL_law 338 = .ok (.ireturn, 1) := by decide +kernel
theorem dL_law_339 : decode cL_law 339 = .ok (.iload 6, 2) := by decide +kernel
theorem dL_law_341 : decode cL_law 341 = .ok (.ifCond .ne 22, 3) := by decide +kernel
theorem dL_law_344 : decode cL_law 344 = .ok (.aload_n 3, 1) := by decide +kernel
theorem dL_law_345 : decode cL_law 345 = .ok (.iconst 0, 1) := by decide +kernel
theorem dL_law_346 : decode cL_law 346 = .ok (.laload, 1) := by decide +kernel
theorem dL_law_347 : decode cL_law 347 = .ok (.iload 7, 2) := by decide +kernel
theorem dL_law_349 : decode cL_law 349 = .ok (.ifCond .eq 7, 3) := by decide +kernel
theorem dL_law_352 : decode cL_law 352 = .ok (.lconst 1, 1) := by decide +kernel
theorem dL_law_353 : decode cL_law 353 = .ok (.goto 4, 3) := by decide +kernel
theorem dL_law_356 : decode cL_law 356 = .ok (.lconst 0, 1) := by decide +kernel
theorem dL_law_357 : decode cL_law 357 = .ok (.lcmp, 1) := by decide +kernel
theorem dL_law_358 : decode cL_law 358 = .ok (.ifCond .eq 5, 3) := by decide +kernel
theorem dL_law_361 : decode cL_law 361 = .ok (.iconst 0, 1) := by decide +kernel
theorem dL_law_362 : decode cL_law 362 = .ok (.ireturn, 1) := by decide +kernel
theorem dL_law_363 : decode cL_law 363 = .ok (.goto 1073, 3) := by decide +kernel
theorem dL_law_366 : decode cL_law 366 = .ok (.aload_n 1, 1) := by decide +kernel
theorem dL_law_367 : decode cL_law 367 = .ok (.aload_n 0, 1) := by decide +kernel
theorem dL_law_368 : decode cL_law 368 = .ok (.iload 5, 2) := by decide +kernel
theorem dL_law_370 : decode cL_law 370 = .ok (.iconst 1, 1) := by decide +kernel
theorem dL_law_371 : decode cL_law 371 = .ok (.iadd, 1) := by decide +kernel
theorem dL_law_372 : decode cL_law 372 = .ok (.iaload, 1) := by decide +kernel
theorem dL_law_373 : decode cL_law 373 = .ok (.aload_n 0, 1) := by decide +kernel
theorem dL_law_374 : decode cL_law 374 = .ok (.iload 5, 2) := by decide +kernel
theorem dL_law_376 : decode cL_law 376 = .ok (.iconst 2, 1) := by decide +kernel
theorem dL_law_377 : decode cL_law 377 = .ok (.iadd, 1) := by decide +kernel
theorem dL_law_378 : decode cL_law 378 = .ok (.iaload, 1) := by decide +kernel
theorem dL_law_379 : decode cL_law 379 = .ok (.aload_n 0, 1) := by decide +kernel
theorem dL_law_380 : decode cL_law 380 = .ok (.iload 5, 2) := by decide +kernel
theorem dL_law_382 : decode cL_law 382 = .ok (.iconst 3, 1) := by decide +kernel
theorem dL_law_383 : decode cL_law 383 = .ok (.iadd, 1) := by decide +kernel
theorem dL_law_384 : decode cL_law 384 = .ok (.iaload, 1) := by decide +kernel
theorem dL_law_385 : decode cL_law 385 = .ok (.invokestatic 104, 3) := by decide +kernel
theorem dL_law_388 : decode cL_law 388 = .ok (.istore 6, 2) := by decide +kernel
theorem dL_law_390 : decode cL_law 390 = .ok (.aload_n 2, 1) := by decide +kernel
theorem dL_law_391 : decode cL_law 391 = .ok (.aload_n 0, 1) := by decide +kernel
theorem dL_law_392 : decode cL_law 392 = .ok (.iload 5, 2) := by decide +kernel
theorem dL_law_394 : decode cL_law 394 = .ok (.iconst 1, 1) := by decide +kernel
theorem dL_law_395 : decode cL_law 395 = .ok (.iadd, 1) := by decide +kernel
theorem dL_law_396 : decode cL_law 396 = .ok (.iaload, 1) := by decide +kernel
theorem dL_law_397 : decode cL_law 397 = .ok (.aload_n 0, 1) := by decide +kernel
theorem dL_law_398 : decode cL_law 398 = .ok (.iload 5, 2) := by decide +kernel
theorem dL_law_400 : decode cL_law 400 = .ok (.iconst 2, 1) := by decide +kernel
theorem dL_law_401 : decode cL_law 401 = .ok (.iadd, 1) := by decide +kernel
theorem dL_law_402 : decode cL_law 402 = .ok (.iaload, 1) := by decide +kernel
theorem dL_law_403 : decode cL_law 403 = .ok (.aload_n 0, 1) := by decide +kernel
theorem dL_law_404 : decode cL_law 404 = .ok (.iload 5, 2) := by decide +kernel
theorem dL_law_406 : decode cL_law 406 = .ok (.iconst 3, 1) := by decide +kernel
theorem dL_law_407 : decode cL_law 407 = .ok (.iadd, 1) := by decide +kernel
theorem dL_law_408 : decode cL_law 408 = .ok (.iaload, 1) := by decide +kernel
theorem dL_law_409 : decode cL_law 409 = .ok (.invokevirtual 107, 3) := by decide +kernel
theorem dL_law_412 : decode cL_law 412 = .ok (.aload_n 2, 1) := by decide +kernel
theorem dL_law_413 : decode cL_law 413 = .ok (.invokevirtual 92, 3) := by decide +kernel
theorem dL_law_416 : decode cL_law 416 = .ok (.iload 6, 2) := by decide +kernel
theorem dL_law_418 : decode cL_law 418 = .ok (.if_icmp .eq 5, 3) := by decide +kernel
theorem dL_law_421 : decode cL_law 421 = .ok (.iconst 0, 1) := by decide +kernel
theorem dL_law_422 : decode cL_law 422 = .ok (.ireturn, 1) := by decide +kernel
theorem dL_law_423 : decode cL_law 423 = .ok (.goto 1013, 3) := by decide +kernel
theorem dL_law_426 : decode cL_law 426 = .ok (.aload_n 1, 1) := by decide +kernel
theorem dL_law_427 : decode cL_law 427 = .ok (.aload_n 0, 1) := by decide +kernel
theorem dL_law_428 : decode cL_law 428 = .ok (.iload 5, 2) := by decide +kernel
theorem dL_law_430 : decode cL_law 430 = .ok (.iconst 1, 1) := by decide +kernel
theorem dL_law_431 : decode cL_law 431 = .ok (.iadd, 1) := by decide +kernel
theorem dL_law_432 : decode cL_law 432 = .ok (.iaload, 1) := by decide +kernel
theorem dL_law_433 : decode cL_law 433 = .ok (.aload_n 0, 1) := by decide +kernel
theorem dL_law_434 : decode cL_law 434 = .ok (.iload 5, 2) := by decide +kernel
theorem dL_law_436 : decode cL_law 436 = .ok (.iconst 2, 1) := by decide +kernel
theorem dL_law_437 : decode cL_law 437 = .ok (.iadd, 1) := by decide +kernel
theorem dL_law_438 : decode cL_law 438 = .ok (.iaload, 1) := by decide +kernel
theorem dL_law_439 : decode cL_law 439 = .ok (.aload_n 3, 1) := by decide +kernel
theorem dL_law_440 : decode cL_law 440 = .ok (.invokestatic 108, 3) := by decide +kernel
theorem dL_law_443 : decode cL_law 443 = .ok (.istore 6, 2) := by decide +kernel
theorem dL_law_445 : decode cL_law 445 = .ok (.aload_n 2, 1) := by decide +kernel
theorem dL_law_446 : decode cL_law 446 = .ok (.aload_n 0, 1) := by decide +kernel
theorem dL_law_447 : decode cL_law 447 = .ok (.iload 5, 2) := by decide +kernel
theorem dL_law_449 : decode cL_law 449 = .ok (.iconst 1, 1) := by decide +kernel
theorem dL_law_450 : decode cL_law 450 = .ok (.iadd, 1) := by decide +kernel
theorem dL_law_451 : decode cL_law 451 = .ok (.iaload, 1) := by decide +kernel
theorem dL_law_452 : decode cL_law 452 = .ok (.aload_n 0, 1) := by decide +kernel
theorem dL_law_453 : decode cL_law 453 = .ok (.iload 5, 2) := by decide +kernel
theorem dL_law_455 : decode cL_law 455 = .ok (.iconst 2, 1) := by decide +kernel
theorem dL_law_456 : decode cL_law 456 = .ok (.iadd, 1) := by decide +kernel
theorem dL_law_457 : decode cL_law 457 = .ok (.iaload, 1) := by decide +kernel
theorem dL_law_458 : decode cL_law 458 = .ok (.invokevirtual 111, 3) := by decide +kernel
theorem dL_law_461 : decode cL_law 461 = .ok (.istore 7, 2) := by decide +kernel
theorem dL_law_463 : decode cL_law 463 = .ok (.aload_n 2, 1) := by decide +kernel
theorem dL_law_464 : decode cL_law 464 = .ok (.invokevirtual 92, 3) := by decide +kernel
theorem dL_law_467 : decode cL_law 467 = .ok (.iload 6, 2) := by decide +kernel
theorem dL_law_469 : decode cL_law 469 = .ok (.if_icmp .eq 5, 3) := by decide +kernel
theorem dL_law_472 : decode cL_law 472 = .ok (.iconst 0, 1) := by decide +kernel
theorem dL_law_473 : decode cL_law 473 = .ok (.ireturn, 1) := by decide +kernel
theorem dL_law_474 : decode cL_law 474 = .ok (.iload 6, 2) := by decide +kernel
theorem dL_law_476 : decode cL_law 476 = .ok (.ifCond .ne 15, 3) := by decide +kernel
theorem dL_law_479 : decode cL_law 479 = .ok (.aload_n 3, 1) := by decide +kernel
theorem dL_law_480 : decode cL_law 480 = .ok (.iconst 0, 1) := by decide +kernel
theorem dL_law_481 : decode cL_law 481 = .ok (.laload, 1) := by decide +kernel
theorem dL_law_482 : decode cL_law 482 = .ok (.iload 7, 2) := by decide +kernel
theorem dL_law_484 : decode cL_law 484 = .ok (.i2l, 1) := by decide +kernel
theorem dL_law_485 : decode cL_law 485 = .ok (.lcmp, 1) := by decide +kernel
theorem dL_law_486 : decode cL_law 486 = .ok (.ifCond .eq 5, 3) := by decide +kernel
theorem dL_law_489 : decode cL_law 489 = .ok (.iconst 0, 1) := by decide +kernel
theorem dL_law_490 : decode cL_law 490 = .ok (.ireturn, 1) := by decide +kernel
theorem dL_law_491 : decode cL_law 491 = .ok (.goto 945, 3) := by decide +kernel
theorem dL_law_494 : decode cL_law 494 = .ok (.aload_n 1, 1) := by decide +kernel
theorem dL_law_495 : decode cL_law 495 = .ok (.aload_n 0, 1) := by decide +kernel
theorem dL_law_496 : decode cL_law 496 = .ok (.iload 5, 2) := by decide +kernel
theorem dL_law_498 : decode cL_law 498 = .ok (.iconst 1, 1) := by decide +kernel
theorem dL_law_499 : decode cL_law 499 = .ok (.iadd, 1) := by decide +kernel
theorem dL_law_500 : decode cL_law 500 = .ok (.iaload, 1) := by decide +kernel
theorem dL_law_501 : decode cL_law 501 = .ok (.aload_n 3, 1) := by decide +kernel
theorem dL_law_502 : decode cL_law 502 = .ok (.invokestatic 112, 3) := by decide +kernel
theorem dL_law_505 : decode cL_law 505 = .ok (.istore 6, 2) := by decide +kernel
theorem dL_law_507 : decode cL_law 507 = .ok (.aload_n 2, 1) := by decide +kernel
theorem dL_law_508 : decode cL_law 508 = .ok (.aload_n 0, 1) := by decide +kernel
theorem dL_law_509 : decode cL_law 509 = .ok (.iload 5, 2) := by decide +kernel
theorem dL_law_511 : decode cL_law 511 = .ok (.iconst 1, 1) := by decide +kernel
theorem dL_law_512 : decode cL_law 512 = .ok (.iadd, 1) := by decide +kernel
theorem dL_law_513 : decode cL_law 513 = .ok (.iaload, 1) := by decide +kernel
theorem dL_law_514 : decode cL_law 514 = .ok (.invokevirtual 114, 3) := by decide +kernel
theorem dL_law_517 : decode cL_law 517 = .ok (.lstore 7, 2) := by decide +kernel
theorem dL_law_519 : decode cL_law 519 = .ok (.aload_n 2, 1) := by decide +kernel
theorem dL_law_520 : decode cL_law 520 = .ok (.invokevirtual 92, 3) := by decide +kernel
theorem dL_law_523 : decode cL_law 523 = .ok (.iload 6, 2) := by decide +kernel
theorem dL_law_525 : decode cL_law 525 = .ok (.if_icmp .eq 5, 3) := by decide +kernel
theorem dL_law_528 : decode cL_law 528 = .ok (.iconst 0, 1) := by decide +kernel
theorem dL_law_529 : decode cL_law 529 = .ok (.ireturn, 1) := by decide +kernel
theorem dL_law_530 : decode cL_law 530 = .ok (.iload 6, 2) := by decide +kernel
theorem dL_law_532 : decode cL_law 532 = .ok (.ifCond .ne 14, 3) := by decide +kernel
theorem dL_law_535 : decode cL_law 535 = .ok (.aload_n 3, 1) := by decide +kernel
theorem dL_law_536 : decode cL_law 536 = .ok (.iconst 0, 1) := by decide +kernel
theorem dL_law_537 : decode cL_law 537 = .ok (.laload, 1) := by decide +kernel
theorem dL_law_538 : decode cL_law 538 = .ok (.lload 7, 2) := by decide +kernel
theorem dL_law_540 : decode cL_law 540 = .ok (.lcmp, 1) := by decide +kernel
theorem dL_law_541 : decode cL_law 541 = .ok (.ifCond .eq 5, 3) := by decide +kernel
theorem dL_law_544 : decode cL_law 544 = .ok (.iconst 0, 1) := by decide +kernel
theorem dL_law_545 : decode cL_law 545 = .ok (.ireturn, 1) := by decide +kernel
theorem dL_law_546 : decode cL_law 546 = .ok (.goto 890, 3) := by decide +kernel
theorem dL_law_549 : decode cL_law 549 = .ok (.aload_n 1, 1) := by decide +kernel
theorem dL_law_550 : decode cL_law 550 = .ok (.aload_n 0, 1) := by decide +kernel
theorem dL_law_551 : decode cL_law 551 = .ok (.iload 5, 2) := by decide +kernel
theorem dL_law_553 : decode cL_law 553 = .ok (.iconst 1, 1) := by decide +kernel
theorem dL_law_554 : decode cL_law 554 = .ok (.iadd, 1) := by decide +kernel
theorem dL_law_555 : decode cL_law 555 = .ok (.iaload, 1) := by decide +kernel
theorem dL_law_556 : decode cL_law 556 = .ok (.aload_n 3, 1) := by decide +kernel
theorem dL_law_557 : decode cL_law 557 = .ok (.invokestatic 115, 3) := by decide +kernel
theorem dL_law_560 : decode cL_law 560 = .ok (.istore 6, 2) := by decide +kernel
theorem dL_law_562 : decode cL_law 562 = .ok (.aload_n 2, 1) := by decide +kernel
theorem dL_law_563 : decode cL_law 563 = .ok (.aload_n 0, 1) := by decide +kernel
theorem dL_law_564 : decode cL_law 564 = .ok (.iload 5, 2) := by decide +kernel
theorem dL_law_566 : decode cL_law 566 = .ok (.iconst 1, 1) := by decide +kernel
theorem dL_law_567 : decode cL_law 567 = .ok (.iadd, 1) := by decide +kernel
theorem dL_law_568 : decode cL_law 568 = .ok (.iaload, 1) := by decide +kernel
theorem dL_law_569 : decode cL_law 569 = .ok (.invokevirtual 117, 3) := by decide +kernel
theorem dL_law_572 : decode cL_law 572 = .ok (.istore 7, 2) := by decide +kernel
theorem dL_law_574 : decode cL_law 574 = .ok (.aload_n 2, 1) := by decide +kernel
theorem dL_law_575 : decode cL_law 575 = .ok (.invokevirtual 92, 3) := by decide +kernel
theorem dL_law_578 : decode cL_law 578 = .ok (.iload 6, 2) := by decide +kernel
theorem dL_law_580 : decode cL_law 580 = .ok (.if_icmp .eq 5, 3) := by decide +kernel
theorem dL_law_583 : decode cL_law 583 = .ok (.iconst 0, 1) := by decide +kernel
theorem dL_law_584 : decode cL_law 584 = .ok (.ireturn, 1) := by decide +kernel
theorem dL_law_585 : decode cL_law 585 = .ok (.iload 6, 2) := by decide +kernel
theorem dL_law_587 : decode cL_law 587 = .ok (.ifCond .ne 15, 3) := by decide +kernel
theorem dL_law_590 : decode cL_law 590 = .ok (.aload_n 3, 1) := by decide +kernel
theorem dL_law_591 : decode cL_law 591 = .ok (.iconst 0, 1) := by decide +kernel
theorem dL_law_592 : decode cL_law 592 = .ok (.laload, 1) := by decide +kernel
theorem dL_law_593 : decode cL_law 593 = .ok (.iload 7, 2) := by decide +kernel
theorem dL_law_595 : decode cL_law 595 = .ok (.i2l, 1) := by decide +kernel
theorem dL_law_596 : decode cL_law 596 = .ok (.lcmp, 1) := by decide +kernel
theorem dL_law_597 : decode cL_law 597 = .ok (.ifCond .eq 5, 3) := by decide +kernel
theorem dL_law_600 : decode cL_law 600 = .ok (.iconst 0, 1) := by decide +kernel
theorem dL_law_601 : decode cL_law 601 = .ok (.ireturn, 1) := by decide +kernel
theorem dL_law_602 : decode cL_law 602 = .ok (.goto 834, 3) := by decide +kernel
theorem dL_law_605 : decode cL_law 605 = .ok (.aload_n 1, 1) := by decide +kernel
theorem dL_law_606 : decode cL_law 606 = .ok (.aload_n 0, 1) := by decide +kernel
theorem dL_law_607 : decode cL_law 607 = .ok (.iload 5, 2) := by decide +kernel
theorem dL_law_609 : decode cL_law 609 = .ok (.iconst 1, 1) := by decide +kernel
theorem dL_law_610 : decode cL_law 610 = .ok (.iadd, 1) := by decide +kernel
theorem dL_law_611 : decode cL_law 611 = .ok (.iaload, 1) := by decide +kernel
theorem dL_law_612 : decode cL_law 612 = .ok (.aload_n 0, 1) := by decide +kernel
theorem dL_law_613 : decode cL_law 613 = .ok (.iload 5, 2) := by decide +kernel
theorem dL_law_615 : decode cL_law 615 = .ok (.iconst 2, 1) := by decide +kernel
theorem dL_law_616 : decode cL_law 616 = .ok (.iadd, 1) := by decide +kernel
theorem dL_law_617 : decode cL_law 617 = .ok (.iaload, 1) := by decide +kernel
theorem dL_law_618 : decode cL_law 618 = .ok (.aload_n 3, 1) := by decide +kernel
theorem dL_law_619 : decode cL_law 619 = .ok (.invokestatic 118, 3) := by decide +kernel
theorem dL_law_622 : decode cL_law 622 = .ok (.istore 6, 2) := by decide +kernel
theorem dL_law_624 : decode cL_law 624 = .ok (.aload_n 2, 1) := by decide +kernel
theorem dL_law_625 : decode cL_law 625 = .ok (.aload_n 0, 1) := by decide +kernel
theorem dL_law_626 : decode cL_law 626 = .ok (.iload 5, 2) := by decide +kernel
theorem dL_law_628 : decode cL_law 628 = .ok (.iconst 1, 1) := by decide +kernel
theorem dL_law_629 : decode cL_law 629 = .ok (.iadd, 1) := by decide +kernel
theorem dL_law_630 : decode cL_law 630 = .ok (.iaload, 1) := by decide +kernel
theorem dL_law_631 : decode cL_law 631 = .ok (.aload_n 0, 1) := by decide +kernel
theorem dL_law_632 : decode cL_law 632 = .ok (.iload 5, 2) := by decide +kernel
theorem dL_law_634 : decode cL_law 634 = .ok (.iconst 2, 1) := by decide +kernel
theorem dL_law_635 : decode cL_law 635 = .ok (.iadd, 1) := by decide +kernel
theorem dL_law_636 : decode cL_law 636 = .ok (.iaload, 1) := by decide +kernel
theorem dL_law_637 : decode cL_law 637 = .ok (.invokevirtual 120, 3) := by decide +kernel
theorem dL_law_640 : decode cL_law 640 = .ok (.istore 7, 2) := by decide +kernel
theorem dL_law_642 : decode cL_law 642 = .ok (.aload_n 2, 1) := by decide +kernel
theorem dL_law_643 : decode cL_law 643 = .ok (.invokevirtual 92, 3) := by decide +kernel
theorem dL_law_646 : decode cL_law 646 = .ok (.iload 6, 2) := by decide +kernel
theorem dL_law_648 : decode cL_law 648 = .ok (.if_icmp .eq 5, 3) := by decide +kernel
theorem dL_law_651 : decode cL_law 651 = .ok (.iconst 0, 1) := by decide +kernel
theorem dL_law_652 : decode cL_law 652 = .ok (.ireturn, 1) := by decide +kernel
theorem dL_law_653 : decode cL_law 653 = .ok (.iload 6, 2) := by decide +kernel
theorem dL_law_655 : decode cL_law 655 = .ok (.ifCond .ne 15, 3) := by decide +kernel
theorem dL_law_658 : decode cL_law 658 = .ok (.aload_n 3, 1) := by decide +kernel
theorem dL_law_659 : decode cL_law 659 = .ok (.iconst 0, 1) := by decide +kernel
theorem dL_law_660 : decode cL_law 660 = .ok (.laload, 1) := by decide +kernel
theorem dL_law_661 : decode cL_law 661 = .ok (.iload 7, 2) := by decide +kernel
theorem dL_law_663 : decode cL_law 663 = .ok (.i2l, 1) := by decide +kernel
theorem dL_law_664 : decode cL_law 664 = .ok (.lcmp, 1) := by decide +kernel
theorem dL_law_665 : decode cL_law 665 = .ok (.ifCond .eq 5, 3) := by decide +kernel
theorem dL_law_668 : decode cL_law 668 = .ok (.iconst 0, 1) := by decide +kernel
theorem dL_law_669 : decode cL_law 669 = .ok (.ireturn, 1) := by decide +kernel
theorem dL_law_670 : decode cL_law 670 = .ok (.goto 766, 3) := by decide +kernel
theorem dL_law_673 : decode cL_law 673 = .ok (.aload_n 1, 1) := by decide +kernel
theorem dL_law_674 : decode cL_law 674 = .ok (.aload_n 0, 1) := by decide +kernel
theorem dL_law_675 : decode cL_law 675 = .ok (.iload 5, 2) := by decide +kernel
theorem dL_law_677 : decode cL_law 677 = .ok (.iconst 1, 1) := by decide +kernel
theorem dL_law_678 : decode cL_law 678 = .ok (.iadd, 1) := by decide +kernel
theorem dL_law_679 : decode cL_law 679 = .ok (.iaload, 1) := by decide +kernel
theorem dL_law_680 : decode cL_law 680 = .ok (.aload_n 0, 1) := by decide +kernel
theorem dL_law_681 : decode cL_law 681 = .ok (.iload 5, 2) := by decide +kernel
theorem dL_law_683 : decode cL_law 683 = .ok (.iconst 2, 1) := by decide +kernel
theorem dL_law_684 : decode cL_law 684 = .ok (.iadd, 1) := by decide +kernel
theorem dL_law_685 : decode cL_law 685 = .ok (.iaload, 1) := by decide +kernel
theorem dL_law_686 : decode cL_law 686 = .ok (.aload_n 3, 1) := by decide +kernel
theorem dL_law_687 : decode cL_law 687 = .ok (.invokestatic 121, 3) := by decide +kernel
theorem dL_law_690 : decode cL_law 690 = .ok (.istore 6, 2) := by decide +kernel
theorem dL_law_692 : decode cL_law 692 = .ok (.aload_n 2, 1) := by decide +kernel
theorem dL_law_693 : decode cL_law 693 = .ok (.aload_n 0, 1) := by decide +kernel
theorem dL_law_694 : decode cL_law 694 = .ok (.iload 5, 2) := by decide +kernel
theorem dL_law_696 : decode cL_law 696 = .ok (.iconst 1, 1) := by decide +kernel
theorem dL_law_697 : decode cL_law 697 = .ok (.iadd, 1) := by decide +kernel
theorem dL_law_698 : decode cL_law 698 = .ok (.iaload, 1) := by decide +kernel
theorem dL_law_699 : decode cL_law 699 = .ok (.aload_n 0, 1) := by decide +kernel
theorem dL_law_700 : decode cL_law 700 = .ok (.iload 5, 2) := by decide +kernel
theorem dL_law_702 : decode cL_law 702 = .ok (.iconst 2, 1) := by decide +kernel
theorem dL_law_703 : decode cL_law 703 = .ok (.iadd, 1) := by decide +kernel
theorem dL_law_704 : decode cL_law 704 = .ok (.iaload, 1) := by decide +kernel
theorem dL_law_705 : decode cL_law 705 = .ok (.invokevirtual 123, 3) := by decide +kernel
theorem dL_law_708 : decode cL_law 708 = .ok (.istore 7, 2) := by decide +kernel
theorem dL_law_710 : decode cL_law 710 = .ok (.aload_n 2, 1) := by decide +kernel
theorem dL_law_711 : decode cL_law 711 = .ok (.invokevirtual 92, 3) := by decide +kernel
theorem dL_law_714 : decode cL_law 714 = .ok (.iload 6, 2) := by decide +kernel
theorem dL_law_716 : decode cL_law 716 = .ok (.if_icmp .eq 5, 3) := by decide +kernel
theorem dL_law_719 : decode cL_law 719 = .ok (.iconst 0, 1) := by decide +kernel
theorem dL_law_720 : decode cL_law 720 = .ok (.ireturn, 1) := by decide +kernel
theorem dL_law_721 : decode cL_law 721 = .ok (.iload 6, 2) := by decide +kernel
theorem dL_law_723 : decode cL_law 723 = .ok (.ifCond .ne 22, 3) := by decide +kernel
theorem dL_law_726 : decode cL_law 726 = .ok (.aload_n 3, 1) := by decide +kernel
theorem dL_law_727 : decode cL_law 727 = .ok (.iconst 0, 1) := by decide +kernel
theorem dL_law_728 : decode cL_law 728 = .ok (.laload, 1) := by decide +kernel
theorem dL_law_729 : decode cL_law 729 = .ok (.iload 7, 2) := by decide +kernel
theorem dL_law_731 : decode cL_law 731 = .ok (.ifCond .eq 7, 3) := by decide +kernel
theorem dL_law_734 : decode cL_law 734 = .ok (.lconst 1, 1) := by decide +kernel
theorem dL_law_735 : decode cL_law 735 = .ok (.goto 4, 3) := by decide +kernel
theorem dL_law_738 : decode cL_law 738 = .ok (.lconst 0, 1) := by decide +kernel
theorem dL_law_739 : decode cL_law 739 = .ok (.lcmp, 1) := by decide +kernel
theorem dL_law_740 : decode cL_law 740 = .ok (.ifCond .eq 5, 3) := by decide +kernel
theorem dL_law_743 : decode cL_law 743 = .ok (.iconst 0, 1) := by decide +kernel
theorem dL_law_744 : decode cL_law 744 = .ok (.ireturn, 1) := by decide +kernel
theorem dL_law_745 : decode cL_law 745 = .ok (.goto 691, 3) := by decide +kernel
theorem dL_law_748 : decode cL_law 748 = .ok (.aload_n 1, 1) := by decide +kernel
theorem dL_law_749 : decode cL_law 749 = .ok (.invokevirtual 124, 3) := by decide +kernel
theorem dL_law_752 : decode cL_law 752 = .ok (.aload_n 2, 1) := by decide +kernel
theorem dL_law_753 : decode cL_law 753 = .ok (.invokevirtual 127, 3) := by decide +kernel
theorem dL_law_756 : decode cL_law 756 = .ok (.goto 680, 3) := by decide +kernel
theorem dL_law_759 : decode cL_law 759 = .ok (.aload_n 1, 1) := by decide +kernel
theorem dL_law_760 : decode cL_law 760 = .ok (.aload_n 0, 1) := by decide +kernel
theorem dL_law_761 : decode cL_law 761 = .ok (.iload 5, 2) := by decide +kernel
theorem dL_law_763 : decode cL_law 763 = .ok (.iconst 1, 1) := by decide +kernel
theorem dL_law_764 : decode cL_law 764 = .ok (.iadd, 1) := by decide +kernel
theorem dL_law_765 : decode cL_law 765 = .ok (.iaload, 1) := by decide +kernel
theorem dL_law_766 : decode cL_law 766 = .ok (.aload_n 3, 1) := by decide +kernel
theorem dL_law_767 : decode cL_law 767 = .ok (.invokestatic 128, 3) := by decide +kernel
theorem dL_law_770 : decode cL_law 770 = .ok (.istore 6, 2) := by decide +kernel
theorem dL_law_772 : decode cL_law 772 = .ok (.aload_n 2, 1) := by decide +kernel
theorem dL_law_773 : decode cL_law 773 = .ok (.aload_n 0, 1) := by decide +kernel
theorem dL_law_774 : decode cL_law 774 = .ok (.iload 5, 2) := by decide +kernel
theorem dL_law_776 : decode cL_law 776 = .ok (.iconst 1, 1) := by decide +kernel
theorem dL_law_777 : decode cL_law 777 = .ok (.iadd, 1) := by decide +kernel
theorem dL_law_778 : decode cL_law 778 = .ok (.iaload, 1) := by decide +kernel
theorem dL_law_779 : decode cL_law 779 = .ok (.invokevirtual 130, 3) := by decide +kernel
theorem dL_law_782 : decode cL_law 782 = .ok (.lstore 7, 2) := by decide +kernel
theorem dL_law_784 : decode cL_law 784 = .ok (.aload_n 2, 1) := by decide +kernel
theorem dL_law_785 : decode cL_law 785 = .ok (.invokevirtual 92, 3) := by decide +kernel
theorem dL_law_788 : decode cL_law 788 = .ok (.iload 6, 2) := by decide +kernel
theorem dL_law_790 : decode cL_law 790 = .ok (.if_icmp .eq 5, 3) := by decide +kernel
theorem dL_law_793 : decode cL_law 793 = .ok (.iconst 0, 1) := by decide +kernel
theorem dL_law_794 : decode cL_law 794 = .ok (.ireturn, 1) := by decide +kernel
theorem dL_law_795 : decode cL_law 795 = .ok (.iload 6, 2) := by decide +kernel
theorem dL_law_797 : decode cL_law 797 = .ok (.ifCond .ne 14, 3) := by decide +kernel
theorem dL_law_800 : decode cL_law 800 = .ok (.aload_n 3, 1) := by decide +kernel
theorem dL_law_801 : decode cL_law 801 = .ok (.iconst 0, 1) := by decide +kernel
theorem dL_law_802 : decode cL_law 802 = .ok (.laload, 1) := by decide +kernel
theorem dL_law_803 : decode cL_law 803 = .ok (.lload 7, 2) := by decide +kernel
theorem dL_law_805 : decode cL_law 805 = .ok (.lcmp, 1) := by decide +kernel
theorem dL_law_806 : decode cL_law 806 = .ok (.ifCond .eq 5, 3) := by decide +kernel
theorem dL_law_809 : decode cL_law 809 = .ok (.iconst 0, 1) := by decide +kernel
theorem dL_law_810 : decode cL_law 810 = .ok (.ireturn, 1) := by decide +kernel
theorem dL_law_811 : decode cL_law 811 = .ok (.goto 625, 3) := by decide +kernel
theorem dL_law_814 : decode cL_law 814 = .ok (.aload_n 1, 1) := by decide +kernel
theorem dL_law_815 : decode cL_law 815 = .ok (.aload_n 0, 1) := by decide +kernel
theorem dL_law_816 : decode cL_law 816 = .ok (.iload 5, 2) := by decide +kernel
theorem dL_law_818 : decode cL_law 818 = .ok (.iconst 1, 1) := by decide +kernel
theorem dL_law_819 : decode cL_law 819 = .ok (.iadd, 1) := by decide +kernel
theorem dL_law_820 : decode cL_law 820 = .ok (.iaload, 1) := by decide +kernel
theorem dL_law_821 : decode cL_law 821 = .ok (.aload_n 0, 1) := by decide +kernel
theorem dL_law_822 : decode cL_law 822 = .ok (.iload 5, 2) := by decide +kernel
theorem dL_law_824 : decode cL_law 824 = .ok (.iconst 2, 1) := by decide +kernel
theorem dL_law_825 : decode cL_law 825 = .ok (.iadd, 1) := by decide +kernel
theorem dL_law_826 : decode cL_law 826 = .ok (.iaload, 1) := by decide +kernel
theorem dL_law_827 : decode cL_law 827 = .ok (.aload_n 0, 1) := by decide +kernel
theorem dL_law_828 : decode cL_law 828 = .ok (.iload 5, 2) := by decide +kernel
theorem dL_law_830 : decode cL_law 830 = .ok (.iconst 3, 1) := by decide +kernel
theorem dL_law_831 : decode cL_law 831 = .ok (.iadd, 1) := by decide +kernel
theorem dL_law_832 : decode cL_law 832 = .ok (.iaload, 1) := by decide +kernel
theorem dL_law_833 : decode cL_law 833 = .ok (.aload_n 0, 1) := by decide +kernel
theorem dL_law_834 : decode cL_law 834 = .ok (.iload 5, 2) := by decide +kernel
theorem dL_law_836 : decode cL_law 836 = .ok (.iconst 4, 1) := by decide +kernel
theorem dL_law_837 : decode cL_law 837 = .ok (.iadd, 1) := by decide +kernel
theorem dL_law_838 : decode cL_law 838 = .ok (.iaload, 1) := by decide +kernel
theorem dL_law_839 : decode cL_law 839 = .ok (.aload_n 3, 1) := by decide +kernel
theorem dL_law_840 : decode cL_law 840 = .ok (.invokestatic 131, 3) := by decide +kernel
theorem dL_law_843 : decode cL_law 843 = .ok (.istore 6, 2) := by decide +kernel
theorem dL_law_845 : decode cL_law 845 = .ok (.aload_n 2, 1) := by decide +kernel
theorem dL_law_846 : decode cL_law 846 = .ok (.aload_n 0, 1) := by decide +kernel
theorem dL_law_847 : decode cL_law 847 = .ok (.iload 5, 2) := by decide +kernel
theorem dL_law_849 : decode cL_law 849 = .ok (.iconst 1, 1) := by decide +kernel
theorem dL_law_850 : decode cL_law 850 = .ok (.iadd, 1) := by decide +kernel
theorem dL_law_851 : decode cL_law 851 = .ok (.iaload, 1) := by decide +kernel
theorem dL_law_852 : decode cL_law 852 = .ok (.aload_n 0, 1) := by decide +kernel
theorem dL_law_853 : decode cL_law 853 = .ok (.iload 5, 2) := by decide +kernel
theorem dL_law_855 : decode cL_law 855 = .ok (.iconst 2, 1) := by decide +kernel
theorem dL_law_856 : decode cL_law 856 = .ok (.iadd, 1) := by decide +kernel
theorem dL_law_857 : decode cL_law 857 = .ok (.iaload, 1) := by decide +kernel
theorem dL_law_858 : decode cL_law 858 = .ok (.aload_n 0, 1) := by decide +kernel
theorem dL_law_859 : decode cL_law 859 = .ok (.iload 5, 2) := by decide +kernel
theorem dL_law_861 : decode cL_law 861 = .ok (.iconst 3, 1) := by decide +kernel
theorem dL_law_862 : decode cL_law 862 = .ok (.iadd, 1) := by decide +kernel
theorem dL_law_863 : decode cL_law 863 = .ok (.iaload, 1) := by decide +kernel
theorem dL_law_864 : decode cL_law 864 = .ok (.aload_n 0, 1) := by decide +kernel
theorem dL_law_865 : decode cL_law 865 = .ok (.iload 5, 2) := by decide +kernel
theorem dL_law_867 : decode cL_law 867 = .ok (.iconst 4, 1) := by decide +kernel
theorem dL_law_868 : decode cL_law 868 = .ok (.iadd, 1) := by decide +kernel
theorem dL_law_869 : decode cL_law 869 = .ok (.iaload, 1) := by decide +kernel
theorem dL_law_870 : decode cL_law 870 = .ok (.invokevirtual 134, 3) := by decide +kernel
theorem dL_law_873 : decode cL_law 873 = .ok (.lstore 7, 2) := by decide +kernel
theorem dL_law_875 : decode cL_law 875 = .ok (.aload_n 2, 1) := by decide +kernel
theorem dL_law_876 : decode cL_law 876 = .ok (.invokevirtual 92, 3) := by decide +kernel
theorem dL_law_879 : decode cL_law 879 = .ok (.iload 6, 2) := by decide +kernel
theorem dL_law_881 : decode cL_law 881 = .ok (.if_icmp .eq 5, 3) := by decide +kernel
theorem dL_law_884 : decode cL_law 884 = .ok (.iconst 0, 1) := by decide +kernel
theorem dL_law_885 : decode cL_law 885 = .ok (.ireturn, 1) := by decide +kernel
theorem dL_law_886 : decode cL_law 886 = .ok (.iload 6, 2) := by decide +kernel
theorem dL_law_888 : decode cL_law 888 = .ok (.ifCond .ne 14, 3) := by decide +kernel
theorem dL_law_891 : decode cL_law 891 = .ok (.aload_n 3, 1) := by decide +kernel
theorem dL_law_892 : decode cL_law 892 = .ok (.iconst 0, 1) := by decide +kernel
theorem dL_law_893 : decode cL_law 893 = .ok (.laload, 1) := by decide +kernel
theorem dL_law_894 : decode cL_law 894 = .ok (.lload 7, 2) := by decide +kernel
theorem dL_law_896 : decode cL_law 896 = .ok (.lcmp, 1) := by decide +kernel
theorem dL_law_897 : decode cL_law 897 = .ok (.ifCond .eq 5, 3) := by decide +kernel
theorem dL_law_900 : decode cL_law 900 = .ok (.iconst 0, 1) := by decide +kernel
theorem dL_law_901 : decode cL_law 901 = .ok (.ireturn, 1) := by decide +kernel
theorem dL_law_902 : decode cL_law 902 = .ok (.goto 534, 3) := by decide +kernel
theorem dL_law_905 : decode cL_law 905 = .ok (.aload_n 1, 1) := by decide +kernel
theorem dL_law_906 : decode cL_law 906 = .ok (.aload_n 0, 1) := by decide +kernel
theorem dL_law_907 : decode cL_law 907 = .ok (.iload 5, 2) := by decide +kernel
theorem dL_law_909 : decode cL_law 909 = .ok (.iconst 1, 1) := by decide +kernel
theorem dL_law_910 : decode cL_law 910 = .ok (.iadd, 1) := by decide +kernel
theorem dL_law_911 : decode cL_law 911 = .ok (.iaload, 1) := by decide +kernel
theorem dL_law_912 : decode cL_law 912 = .ok (.aload_n 0, 1) := by decide +kernel
theorem dL_law_913 : decode cL_law 913 = .ok (.iload 5, 2) := by decide +kernel
theorem dL_law_915 : decode cL_law 915 = .ok (.iconst 2, 1) := by decide +kernel
theorem dL_law_916 : decode cL_law 916 = .ok (.iadd, 1) := by decide +kernel
theorem dL_law_917 : decode cL_law 917 = .ok (.iaload, 1) := by decide +kernel
theorem dL_law_918 : decode cL_law 918 = .ok (.aload_n 0, 1) := by decide +kernel
theorem dL_law_919 : decode cL_law 919 = .ok (.iload 5, 2) := by decide +kernel
theorem dL_law_921 : decode cL_law 921 = .ok (.iconst 3, 1) := by decide +kernel
theorem dL_law_922 : decode cL_law 922 = .ok (.iadd, 1) := by decide +kernel
theorem dL_law_923 : decode cL_law 923 = .ok (.iaload, 1) := by decide +kernel
theorem dL_law_924 : decode cL_law 924 = .ok (.invokestatic 135, 3) := by decide +kernel
theorem dL_law_927 : decode cL_law 927 = .ok (.istore 6, 2) := by decide +kernel
theorem dL_law_929 : decode cL_law 929 = .ok (.aload_n 2, 1) := by decide +kernel
theorem dL_law_930 : decode cL_law 930 = .ok (.aload_n 0, 1) := by decide +kernel
theorem dL_law_931 : decode cL_law 931 = .ok (.iload 5, 2) := by decide +kernel
theorem dL_law_933 : decode cL_law 933 = .ok (.iconst 1, 1) := by decide +kernel
theorem dL_law_934 : decode cL_law 934 = .ok (.iadd, 1) := by decide +kernel
theorem dL_law_935 : decode cL_law 935 = .ok (.iaload, 1) := by decide +kernel
theorem dL_law_936 : decode cL_law 936 = .ok (.aload_n 0, 1) := by decide +kernel
theorem dL_law_937 : decode cL_law 937 = .ok (.iload 5, 2) := by decide +kernel
theorem dL_law_939 : decode cL_law 939 = .ok (.iconst 2, 1) := by decide +kernel
theorem dL_law_940 : decode cL_law 940 = .ok (.iadd, 1) := by decide +kernel
theorem dL_law_941 : decode cL_law 941 = .ok (.iaload, 1) := by decide +kernel
theorem dL_law_942 : decode cL_law 942 = .ok (.aload_n 0, 1) := by decide +kernel
theorem dL_law_943 : decode cL_law 943 = .ok (.iload 5, 2) := by decide +kernel
theorem dL_law_945 : decode cL_law 945 = .ok (.iconst 3, 1) := by decide +kernel
theorem dL_law_946 : decode cL_law 946 = .ok (.iadd, 1) := by decide +kernel
theorem dL_law_947 : decode cL_law 947 = .ok (.iaload, 1) := by decide +kernel
theorem dL_law_948 : decode cL_law 948 = .ok (.invokevirtual 137, 3) := by decide +kernel
theorem dL_law_951 : decode cL_law 951 = .ok (.aload_n 2, 1) := by decide +kernel
theorem dL_law_952 : decode cL_law 952 = .ok (.invokevirtual 92, 3) := by decide +kernel
theorem dL_law_955 : decode cL_law 955 = .ok (.iload 6, 2) := by decide +kernel
theorem dL_law_957 : decode cL_law 957 = .ok (.if_icmp .eq 5, 3) := by decide +kernel
theorem dL_law_960 : decode cL_law 960 = .ok (.iconst 0, 1) := by decide +kernel
theorem dL_law_961 : decode cL_law 961 = .ok (.ireturn, 1) := by decide +kernel
theorem dL_law_962 : decode cL_law 962 = .ok (.goto 474, 3) := by decide +kernel
theorem dL_law_965 : decode cL_law 965 = .ok (.aload_n 1, 1) := by decide +kernel
theorem dL_law_966 : decode cL_law 966 = .ok (.aload_n 0, 1) := by decide +kernel
theorem dL_law_967 : decode cL_law 967 = .ok (.iload 5, 2) := by decide +kernel
theorem dL_law_969 : decode cL_law 969 = .ok (.iconst 1, 1) := by decide +kernel
theorem dL_law_970 : decode cL_law 970 = .ok (.iadd, 1) := by decide +kernel
theorem dL_law_971 : decode cL_law 971 = .ok (.iaload, 1) := by decide +kernel
theorem dL_law_972 : decode cL_law 972 = .ok (.aload_n 0, 1) := by decide +kernel
theorem dL_law_973 : decode cL_law 973 = .ok (.iload 5, 2) := by decide +kernel
theorem dL_law_975 : decode cL_law 975 = .ok (.iconst 2, 1) := by decide +kernel
theorem dL_law_976 : decode cL_law 976 = .ok (.iadd, 1) := by decide +kernel
theorem dL_law_977 : decode cL_law 977 = .ok (.iaload, 1) := by decide +kernel
theorem dL_law_978 : decode cL_law 978 = .ok (.aload_n 0, 1) := by decide +kernel
theorem dL_law_979 : decode cL_law 979 = .ok (.iload 5, 2) := by decide +kernel
theorem dL_law_981 : decode cL_law 981 = .ok (.iconst 3, 1) := by decide +kernel
theorem dL_law_982 : decode cL_law 982 = .ok (.iadd, 1) := by decide +kernel
theorem dL_law_983 : decode cL_law 983 = .ok (.iaload, 1) := by decide +kernel
theorem dL_law_984 : decode cL_law 984 = .ok (.aload_n 3, 1) := by decide +kernel
theorem dL_law_985 : decode cL_law 985 = .ok (.invokestatic 138, 3) := by decide +kernel
theorem dL_law_988 : decode cL_law 988 = .ok (.istore 6, 2) := by decide +kernel
theorem dL_law_990 : decode cL_law 990 = .ok (.aload_n 2, 1) := by decide +kernel
theorem dL_law_991 : decode cL_law 991 = .ok (.aload_n 0, 1) := by decide +kernel
theorem dL_law_992 : decode cL_law 992 = .ok (.iload 5, 2) := by decide +kernel
theorem dL_law_994 : decode cL_law 994 = .ok (.iconst 1, 1) := by decide +kernel
theorem dL_law_995 : decode cL_law 995 = .ok (.iadd, 1) := by decide +kernel
theorem dL_law_996 : decode cL_law 996 = .ok (.iaload, 1) := by decide +kernel
theorem dL_law_997 : decode cL_law 997 = .ok (.aload_n 0, 1) := by decide +kernel
theorem dL_law_998 : decode cL_law 998 = .ok (.iload 5, 2) := by decide +kernel
theorem dL_law_1000 : decode cL_law 1000 = .ok (.iconst 2, 1) := by decide +kernel
theorem dL_law_1001 : decode cL_law 1001 = .ok (.iadd, 1) := by decide +kernel
theorem dL_law_1002 : decode cL_law 1002 = .ok (.iaload, 1) := by decide +kernel
theorem dL_law_1003 : decode cL_law 1003 = .ok (.aload_n 0, 1) := by decide +kernel
theorem dL_law_1004 : decode cL_law 1004 = .ok (.iload 5, 2) := by decide +kernel
theorem dL_law_1006 : decode cL_law 1006 = .ok (.iconst 3, 1) := by decide +kernel
theorem dL_law_1007 : decode cL_law 1007 = .ok (.iadd, 1) := by decide +kernel
theorem dL_law_1008 : decode cL_law 1008 = .ok (.iaload, 1) := by decide +kernel
theorem dL_law_1009 : decode cL_law 1009 = .ok (.invokevirtual 141, 3) := by decide +kernel
theorem dL_law_1012 : decode cL_law 1012 = .ok (.lstore 7, 2) := by decide +kernel
theorem dL_law_1014 : decode cL_law 1014 = .ok (.aload_n 2, 1) := by decide +kernel
theorem dL_law_1015 : decode cL_law 1015 = .ok (.invokevirtual 92, 3) := by decide +kernel
theorem dL_law_1018 : decode cL_law 1018 = .ok (.iload 6, 2) := by decide +kernel
theorem dL_law_1020 : decode cL_law 1020 = .ok (.if_icmp .eq 5, 3) := by decide +kernel
theorem dL_law_1023 : decode cL_law 1023 = .ok (.iconst 0, 1) := by decide +kernel
theorem dL_law_1024 : decode cL_law 1024 = .ok (.ireturn, 1) := by decide +kernel
theorem dL_law_1025 : decode cL_law 1025 = .ok (.iload 6, 2) := by decide +kernel
theorem dL_law_1027 : decode cL_law 1027 = .ok (.ifCond .ne 14, 3) := by decide +kernel
theorem dL_law_1030 : decode cL_law 1030 = .ok (.aload_n 3, 1) := by decide +kernel
theorem dL_law_1031 : decode cL_law 1031 = .ok (.iconst 0, 1) := by decide +kernel
theorem dL_law_1032 : decode cL_law 1032 = .ok (.laload, 1) := by decide +kernel
theorem dL_law_1033 : decode cL_law 1033 = .ok (.lload 7, 2) := by decide +kernel
theorem dL_law_1035 : decode cL_law 1035 = .ok (.lcmp, 1) := by decide +kernel
theorem dL_law_1036 : decode cL_law 1036 = .ok (.ifCond .eq 5, 3) := by decide +kernel
theorem dL_law_1039 : decode cL_law 1039 = .ok (.iconst 0, 1) := by decide +kernel
theorem dL_law_1040 : decode cL_law 1040 = .ok (.ireturn, 1) := by decide +kernel
theorem dL_law_1041 : decode cL_law 1041 = .ok (.goto 395, 3) := by decide +kernel
theorem dL_law_1044 : decode cL_law 1044 = .ok (.aload_n 1, 1) := by decide +kernel
theorem dL_law_1045 : decode cL_law 1045 = .ok (.invokevirtual 142, 3) := by decide +kernel
theorem dL_law_1048 : decode cL_law 1048 = .ok (.aload_n 2, 1) := by decide +kernel
theorem dL_law_1049 : decode cL_law 1049 = .ok (.invokevirtual 145, 3) := by decide +kernel
theorem dL_law_1052 : decode cL_law 1052 = .ok (.if_icmp .eq 384, 3) := by decide +kernel
theorem dL_law_1055 : decode cL_law 1055 = .ok (.iconst 0, 1) := by decide +kernel
theorem dL_law_1056 : decode cL_law 1056 = .ok (.ireturn, 1) := by decide +kernel
theorem dL_law_1057 : decode cL_law 1057 = .ok (.aload_n 1, 1) := by decide +kernel
theorem dL_law_1058 : decode cL_law 1058 = .ok (.aload_n 0, 1) := by decide +kernel
theorem dL_law_1059 : decode cL_law 1059 = .ok (.iload 5, 2) := by decide +kernel
theorem dL_law_1061 : decode cL_law 1061 = .ok (.iconst 1, 1) := by decide +kernel
theorem dL_law_1062 : decode cL_law 1062 = .ok (.iadd, 1) := by decide +kernel
theorem dL_law_1063 : decode cL_law 1063 = .ok (.iaload, 1) := by decide +kernel
theorem dL_law_1064 : decode cL_law 1064 = .ok (.aload_n 0, 1) := by decide +kernel
theorem dL_law_1065 : decode cL_law 1065 = .ok (.iload 5, 2) := by decide +kernel
theorem dL_law_1067 : decode cL_law 1067 = .ok (.iconst 2, 1) := by decide +kernel
theorem dL_law_1068 : decode cL_law 1068 = .ok (.iadd, 1) := by decide +kernel
theorem dL_law_1069 : decode cL_law 1069 = .ok (.iaload, 1) := by decide +kernel
theorem dL_law_1070 : decode cL_law 1070 = .ok (.i2l, 1) := by decide +kernel
theorem dL_law_1071 : decode cL_law 1071 = .ok (.bipush 32, 2) := by decide +kernel
theorem dL_law_1073 : decode cL_law 1073 = .ok (.lshl, 1) := by decide +kernel
theorem dL_law_1074 : decode cL_law 1074 = .ok (.aload_n 0, 1) := by decide +kernel
theorem dL_law_1075 : decode cL_law 1075 = .ok (.iload 5, 2) := by decide +kernel
theorem dL_law_1077 : decode cL_law 1077 = .ok (.iconst 3, 1) := by decide +kernel
theorem dL_law_1078 : decode cL_law 1078 = .ok (.iadd, 1) := by decide +kernel
theorem dL_law_1079 : decode cL_law 1079 = .ok (.iaload, 1) := by decide +kernel
theorem dL_law_1080 : decode cL_law 1080 = .ok (.i2l, 1) := by decide +kernel
theorem dL_law_1081 : decode cL_law 1081 = .ok (.ldc2_w 86, 3) := by decide +kernel
theorem dL_law_1084 : decode cL_law 1084 = .ok (.land, 1) := by decide +kernel
theorem dL_law_1085 : decode cL_law 1085 = .ok (.lor, 1) := by decide +kernel
theorem dL_law_1086 : decode cL_law 1086 = .ok (.aload_n 0, 1) := by decide +kernel
theorem dL_law_1087 : decode cL_law 1087 = .ok (.iload 5, 2) := by decide +kernel
theorem dL_law_1089 : decode cL_law 1089 = .ok (.iconst 4, 1) := by decide +kernel
theorem dL_law_1090 : decode cL_law 1090 = .ok (.iadd, 1) := by decide +kernel
theorem dL_law_1091 : decode cL_law 1091 = .ok (.iaload, 1) := by decide +kernel
theorem dL_law_1092 : decode cL_law 1092 = .ok (.aload_n 3, 1) := by decide +kernel
theorem dL_law_1093 : decode cL_law 1093 = .ok (.invokestatic 146, 3) := by decide +kernel
theorem dL_law_1096 : decode cL_law 1096 = .ok (.istore 6, 2) := by decide +kernel
theorem dL_law_1098 : decode cL_law 1098 = .ok (.aload_n 2, 1) := by decide +kernel
theorem dL_law_1099 : decode cL_law 1099 = .ok (.aload_n 0, 1) := by decide +kernel
theorem dL_law_1100 : decode cL_law 1100 = .ok (.iload 5, 2) := by decide +kernel
theorem dL_law_1102 : decode cL_law 1102 = .ok (.iconst 1, 1) := by decide +kernel
theorem dL_law_1103 : decode cL_law 1103 = .ok (.iadd, 1) := by decide +kernel
theorem dL_law_1104 : decode cL_law 1104 = .ok (.iaload, 1) := by decide +kernel
theorem dL_law_1105 : decode cL_law 1105 = .ok (.aload_n 0, 1) := by decide +kernel
theorem dL_law_1106 : decode cL_law 1106 = .ok (.iload 5, 2) := by decide +kernel
theorem dL_law_1108 : decode cL_law 1108 = .ok (.iconst 2, 1) := by decide +kernel
theorem dL_law_1109 : decode cL_law 1109 = .ok (.iadd, 1) := by decide +kernel
theorem dL_law_1110 : decode cL_law 1110 = .ok (.iaload, 1) := by decide +kernel
theorem dL_law_1111 : decode cL_law 1111 = .ok (.i2l, 1) := by decide +kernel
theorem dL_law_1112 : decode cL_law 1112 = .ok (.bipush 32, 2) := by decide +kernel
theorem dL_law_1114 : decode cL_law 1114 = .ok (.lshl, 1) := by decide +kernel
theorem dL_law_1115 : decode cL_law 1115 = .ok (.aload_n 0, 1) := by decide +kernel
theorem dL_law_1116 : decode cL_law 1116 = .ok (.iload 5, 2) := by decide +kernel
theorem dL_law_1118 : decode cL_law 1118 = .ok (.iconst 3, 1) := by decide +kernel
theorem dL_law_1119 : decode cL_law 1119 = .ok (.iadd, 1) := by decide +kernel
theorem dL_law_1120 : decode cL_law 1120 = .ok (.iaload, 1) := by decide +kernel
theorem dL_law_1121 : decode cL_law 1121 = .ok (.i2l, 1) := by decide +kernel
theorem dL_law_1122 : decode cL_law 1122 = .ok (.ldc2_w 86, 3) := by decide +kernel
theorem dL_law_1125 : decode cL_law 1125 = .ok (.land, 1) := by decide +kernel
theorem dL_law_1126 : decode cL_law 1126 = .ok (.lor, 1) := by decide +kernel
theorem dL_law_1127 : decode cL_law 1127 = .ok (.aload_n 0, 1) := by decide +kernel
theorem dL_law_1128 : decode cL_law 1128 = .ok (.iload 5, 2) := by decide +kernel
theorem dL_law_1130 : decode cL_law 1130 = .ok (.iconst 4, 1) := by decide +kernel
theorem dL_law_1131 : decode cL_law 1131 = .ok (.iadd, 1) := by decide +kernel
theorem dL_law_1132 : decode cL_law 1132 = .ok (.iaload, 1) := by decide +kernel
theorem dL_law_1133 : decode cL_law 1133 = .ok (.invokevirtual 149, 3) := by decide +kernel
theorem dL_law_1136 : decode cL_law 1136 = .ok (.lstore 7, 2) := by decide +kernel
theorem dL_law_1138 : decode cL_law 1138 = .ok (.aload_n 2, 1) := by decide +kernel
theorem dL_law_1139 : decode cL_law 1139 = .ok (.invokevirtual 92, 3) := by decide +kernel
theorem dL_law_1142 : decode cL_law 1142 = .ok (.iload 6, 2) := by decide +kernel
theorem dL_law_1144 : decode cL_law 1144 = .ok (.if_icmp .eq 5, 3) := by decide +kernel
theorem dL_law_1147 : decode cL_law 1147 = .ok (.iconst 0, 1) := by decide +kernel
theorem dL_law_1148 : decode cL_law 1148 = .ok (.ireturn, 1) := by decide +kernel
theorem dL_law_1149 : decode cL_law 1149 = .ok (.iload 6, 2) := by decide +kernel
theorem dL_law_1151 : decode cL_law 1151 = .ok (.ifCond .ne 14, 3) := by decide +kernel
theorem dL_law_1154 : decode cL_law 1154 = .ok (.aload_n 3, 1) := by decide +kernel
theorem dL_law_1155 : decode cL_law 1155 = .ok (.iconst 0, 1) := by decide +kernel
theorem dL_law_1156 : decode cL_law 1156 = .ok (.laload, 1) := by decide +kernel
theorem dL_law_1157 : decode cL_law 1157 = .ok (.lload 7, 2) := by decide +kernel
theorem dL_law_1159 : decode cL_law 1159 = .ok (.lcmp, 1) := by decide +kernel
theorem dL_law_1160 : decode cL_law 1160 = .ok (.ifCond .eq 5, 3) := by decide +kernel
theorem dL_law_1163 : decode cL_law 1163 = .ok (.iconst 0, 1) := by decide +kernel
theorem dL_law_1164 : decode cL_law 1164 = .ok (.ireturn, 1) := by decide +kernel
theorem dL_law_1165 : decode cL_law 1165 = .ok (.goto 271, 3) := by decide +kernel
theorem dL_law_1168 : decode cL_law 1168 = .ok (.aload_n 1, 1) := by decide +kernel
theorem dL_law_1169 : decode cL_law 1169 = .ok (.aload_n 0, 1) := by decide +kernel
theorem dL_law_1170 : decode cL_law 1170 = .ok (.iload 5, 2) := by decide +kernel
theorem dL_law_1172 : decode cL_law 1172 = .ok (.iconst 1, 1) := by decide +kernel
theorem dL_law_1173 : decode cL_law 1173 = .ok (.iadd, 1) := by decide +kernel
theorem dL_law_1174 : decode cL_law 1174 = .ok (.iaload, 1) := by decide +kernel
theorem dL_law_1175 : decode cL_law 1175 = .ok (.i2d, 1) := by decide +kernel
theorem dL_law_1176 : decode cL_law 1176 = .ok (.ldc2_w 150, 3) := by decide +kernel
theorem dL_law_1179 : decode cL_law 1179 = .ok (.dmul, 1) := by decide +kernel
theorem dL_law_1180 : decode cL_law 1180 = .ok (.aload_n 0, 1) := by decide +kernel
theorem dL_law_1181 : decode cL_law 1181 = .ok (.iload 5, 2) := by decide +kernel
theorem dL_law_1183 : decode cL_law 1183 = .ok (.iconst 2, 1) := by decide +kernel
theorem dL_law_1184 : decode cL_law 1184 = .ok (.iadd, 1) := by decide +kernel
theorem dL_law_1185 : decode cL_law 1185 = .ok (.iaload, 1) := by decide +kernel
theorem dL_law_1186 : decode cL_law 1186 = .ok (.i2d, 1) := by decide +kernel
theorem dL_law_1187 : decode cL_law 1187 = .ok (.ldc2_w 150, 3) := by decide +kernel
theorem dL_law_1190 : decode cL_law 1190 = .ok (.dmul, 1) := by decide +kernel
theorem dL_law_1191 : decode cL_law 1191 = .ok (.aload_n 0, 1) := by decide +kernel
theorem dL_law_1192 : decode cL_law 1192 = .ok (.iload 5, 2) := by decide +kernel
theorem dL_law_1194 : decode cL_law 1194 = .ok (.iconst 3, 1) := by decide +kernel
theorem dL_law_1195 : decode cL_law 1195 = .ok (.iadd, 1) := by decide +kernel
theorem dL_law_1196 : decode cL_law 1196 = .ok (.iaload, 1) := by decide +kernel
theorem dL_law_1197 : decode cL_law 1197 = .ok (.i2d, 1) := by decide +kernel
theorem dL_law_1198 : decode cL_law 1198 = .ok (.ldc2_w 150, 3) := by decide +kernel
theorem dL_law_1201 : decode cL_law 1201 = .ok (.dmul, 1) := by decide +kernel
theorem dL_law_1202 : decode cL_law 1202 = .ok (.aload 4, 2) := by decide +kernel
theorem dL_law_1204 : decode cL_law 1204 = .ok (.invokestatic 152, 3) := by decide +kernel
theorem dL_law_1207 : decode cL_law 1207 = .ok (.istore 6, 2) := by decide +kernel
theorem dL_law_1209 : decode cL_law 1209 = .ok (.aload_n 2, 1) := by decide +kernel
theorem dL_law_1210 : decode cL_law 1210 = .ok (.aload_n 0, 1) := by decide +kernel
theorem dL_law_1211 : decode cL_law 1211 = .ok (.iload 5, 2) := by decide +kernel
theorem dL_law_1213 : decode cL_law 1213 = .ok (.iconst 1, 1) := by decide +kernel
theorem dL_law_1214 : decode cL_law 1214 = .ok (.iadd, 1) := by decide +kernel
theorem dL_law_1215 : decode cL_law 1215 = .ok (.iaload, 1) := by decide +kernel
theorem dL_law_1216 : decode cL_law 1216 = .ok (.i2d, 1) := by decide +kernel
theorem dL_law_1217 : decode cL_law 1217 = .ok (.ldc2_w 150, 3) := by decide +kernel
theorem dL_law_1220 : decode cL_law 1220 = .ok (.dmul, 1) := by decide +kernel
theorem dL_law_1221 : decode cL_law 1221 = .ok (.aload_n 0, 1) := by decide +kernel
theorem dL_law_1222 : decode cL_law 1222 = .ok (.iload 5, 2) := by decide +kernel
theorem dL_law_1224 : decode cL_law 1224 = .ok (.iconst 2, 1) := by decide +kernel
theorem dL_law_1225 : decode cL_law 1225 = .ok (.iadd, 1) := by decide +kernel
theorem dL_law_1226 : decode cL_law 1226 = .ok (.iaload, 1) := by decide +kernel
theorem dL_law_1227 : decode cL_law 1227 = .ok (.i2d, 1) := by decide +kernel
theorem dL_law_1228 : decode cL_law 1228 = .ok (.ldc2_w 150, 3) := by decide +kernel
theorem dL_law_1231 : decode cL_law 1231 = .ok (.dmul, 1) := by decide +kernel
theorem dL_law_1232 : decode cL_law 1232 = .ok (.aload_n 0, 1) := by decide +kernel
theorem dL_law_1233 : decode cL_law 1233 = .ok (.iload 5, 2) := by decide +kernel
theorem dL_law_1235 : decode cL_law 1235 = .ok (.iconst 3, 1) := by decide +kernel
theorem dL_law_1236 : decode cL_law 1236 = .ok (.iadd, 1) := by decide +kernel
theorem dL_law_1237 : decode cL_law 1237 = .ok (.iaload, 1) := by decide +kernel
theorem dL_law_1238 : decode cL_law 1238 = .ok (.i2d, 1) := by decide +kernel
theorem dL_law_1239 : decode cL_law 1239 = .ok (.ldc2_w 150, 3) := by decide +kernel
theorem dL_law_1242 : decode cL_law 1242 = .ok (.dmul, 1) := by decide +kernel
theorem dL_law_1243 : decode cL_law 1243 = .ok (.invokevirtual 155, 3) := by decide +kernel
theorem dL_law_1246 : decode cL_law 1246 = .ok (.dstore 7, 2) := by decide +kernel
theorem dL_law_1248 : decode cL_law 1248 = .ok (.aload_n 2, 1) := by decide +kernel
theorem dL_law_1249 : decode cL_law 1249 = .ok (.invokevirtual 92, 3) := by decide +kernel
theorem dL_law_1252 : decode cL_law 1252 = .ok (.iload 6, 2) := by decide +kernel
theorem dL_law_1254 : decode cL_law 1254 = .ok (.if_icmp .eq 5, 3) := by decide +kernel
theorem dL_law_1257 : decode cL_law 1257 = .ok (.iconst 0, 1) := by decide +kernel
theorem dL_law_1258 : decode cL_law 1258 = .ok (.ireturn, 1) := by decide +kernel
theorem dL_law_1259 : decode cL_law 1259 = .ok (.iload 6, 2) := by decide +kernel
theorem dL_law_1261 : decode cL_law 1261 = .ok (.ifCond .ne 35, 3) := by decide +kernel
theorem dL_law_1264 : decode cL_law 1264 = .ok (.aload 4, 2) := by decide +kernel
theorem dL_law_1266 : decode cL_law 1266 = .ok (.iconst 0, 1) := by decide +kernel
theorem dL_law_1267 : decode cL_law 1267 = .ok (.daload, 1) := by decide +kernel
theorem dL_law_1268 : decode cL_law 1268 = .ok (.dload 7, 2) := by decide +kernel
theorem dL_law_1270 : decode cL_law 1270 = .ok (.dcmp .l, 1) := by decide +kernel
theorem dL_law_1271 : decode cL_law 1271 = .ok (.ifCond .eq 25, 3) := by decide +kernel
theorem dL_law_1274 : decode cL_law 1274 = .ok (.aload 4, 2) := by decide +kernel
theorem dL_law_1276 : decode cL_law 1276 = .ok (.iconst 0, 1) := by decide +kernel
theorem dL_law_1277 : decode cL_law 1277 = .ok (.daload, 1) := by decide +kernel
theorem dL_law_1278 : decode cL_law 1278 = .ok (.aload 4, 2) := by decide +kernel
theorem dL_law_1280 : decode cL_law 1280 = .ok (.iconst 0, 1) := by decide +kernel
theorem dL_law_1281 : decode cL_law 1281 = .ok (.daload, 1) := by decide +kernel
theorem dL_law_1282 : decode cL_law 1282 = .ok (.dcmp .l, 1) := by decide +kernel
theorem dL_law_1283 : decode cL_law 1283 = .ok (.ifCond .eq 11, 3) := by decide +kernel
theorem dL_law_1286 : decode cL_law 1286 = .ok (.dload 7, 2) := by decide +kernel
theorem dL_law_1288 : decode cL_law 1288 = .ok (.dload 7, 2) := by decide +kernel
theorem dL_law_1290 : decode cL_law 1290 = .ok (.dcmp .l, 1) := by decide +kernel
theorem dL_law_1291 : decode cL_law 1291 = .ok (.ifCond .ne 5, 3) := by decide +kernel
theorem dL_law_1294 : decode cL_law 1294 = .ok (.iconst 0, 1) := by decide +kernel
theorem dL_law_1295 : decode cL_law 1295 = .ok (.ireturn, 1) := by decide +kernel
theorem dL_law_1296 : decode cL_law 1296 = .ok (.goto 140, 3) := by decide +kernel
theorem dL_law_1299 : decode cL_law 1299 = .ok (.aload_n 1, 1) := by decide +kernel
theorem dL_law_1300 : decode cL_law 1300 = .ok (.aload_n 0, 1) := by decide +kernel
theorem dL_law_1301 : decode cL_law 1301 = .ok (.iload 5, 2) := by decide +kernel
theorem dL_law_1303 : decode cL_law 1303 = .ok (.iconst 1, 1) := by decide +kernel
theorem dL_law_1304 : decode cL_law 1304 = .ok (.iadd, 1) := by decide +kernel
theorem dL_law_1305 : decode cL_law 1305 = .ok (.iaload, 1) := by decide +kernel
theorem dL_law_1306 : decode cL_law 1306 = .ok (.i2d, 1) := by decide +kernel
theorem dL_law_1307 : decode cL_law 1307 = .ok (.ldc2_w 150, 3) := by decide +kernel
theorem dL_law_1310 : decode cL_law 1310 = .ok (.dmul, 1) := by decide +kernel
theorem dL_law_1311 : decode cL_law 1311 = .ok (.aload_n 0, 1) := by decide +kernel
theorem dL_law_1312 : decode cL_law 1312 = .ok (.iload 5, 2) := by decide +kernel
theorem dL_law_1314 : decode cL_law 1314 = .ok (.iconst 2, 1) := by decide +kernel
theorem dL_law_1315 : decode cL_law 1315 = .ok (.iadd, 1) := by decide +kernel
theorem dL_law_1316 : decode cL_law 1316 = .ok (.iaload, 1) := by decide +kernel
theorem dL_law_1317 : decode cL_law 1317 = .ok (.ifCond .eq 7, 3) := by decide +kernel
theorem dL_law_1320 : decode cL_law 1320 = .ok (.iconst 1, 1) := by decide +kernel
theorem dL_law_1321 : decode cL_law 1321 = .ok (.goto 4, 3) := by decide +kernel
theorem dL_law_1324 : decode cL_law 1324 = .ok (.iconst 0, 1) := by decide +kernel
theorem dL_law_1325 : decode cL_law 1325 = .ok (.aload_n 0, 1) := by decide +kernel
theorem dL_law_1326 : decode cL_law 1326 = .ok (.iload 5, 2) := by decide +kernel
theorem dL_law_1328 : decode cL_law 1328 = .ok (.iconst 3, 1) := by decide +kernel
theorem dL_law_1329 : decode cL_law 1329 = .ok (.iadd, 1) := by decide +kernel
theorem dL_law_1330 : decode cL_law 1330 = .ok (.iaload, 1) := by decide +kernel
theorem dL_law_1331 : decode cL_law 1331 = .ok (.i2d, 1) := by decide +kernel
theorem dL_law_1332 : decode cL_law 1332 = .ok (.ldc2_w 150, 3) := by decide +kernel
theorem dL_law_1335 : decode cL_law 1335 = .ok (.dmul, 1) := by decide +kernel
theorem dL_law_1336 : decode cL_law 1336 = .ok (.aload 4, 2) := by decide +kernel
theorem dL_law_1338 : decode cL_law 1338 = .ok (.invokestatic 156, 3) := by decide +kernel
theorem dL_law_1341 : decode cL_law 1341 = .ok (.istore 6, 2) := by decide +kernel
theorem dL_law_1343 : decode cL_law 1343 = .ok (.aload_n 2, 1) := by decide +kernel
theorem dL_law_1344 : decode cL_law 1344 = .ok (.aload_n 0, 1) := by decide +kernel
theorem dL_law_1345 : decode cL_law 1345 = .ok (.iload 5, 2) := by decide +kernel
theorem dL_law_1347 : decode cL_law 1347 = .ok (.iconst 1, 1) := by decide +kernel
theorem dL_law_1348 : decode cL_law 1348 = .ok (.iadd, 1) := by decide +kernel
theorem dL_law_1349 : decode cL_law 1349 = .ok (.iaload, 1) := by decide +kernel
theorem dL_law_1350 : decode cL_law 1350 = .ok (.i2d, 1) := by decide +kernel
theorem dL_law_1351 : decode cL_law 1351 = .ok (.ldc2_w 150, 3) := by decide +kernel
theorem dL_law_1354 : decode cL_law 1354 = .ok (.dmul, 1) := by decide +kernel
theorem dL_law_1355 : decode cL_law 1355 = .ok (.aload_n 0, 1) := by decide +kernel
theorem dL_law_1356 : decode cL_law 1356 = .ok (.iload 5, 2) := by decide +kernel
theorem dL_law_1358 : decode cL_law 1358 = .ok (.iconst 2, 1) := by decide +kernel
theorem dL_law_1359 : decode cL_law 1359 = .ok (.iadd, 1) := by decide +kernel
theorem dL_law_1360 : decode cL_law 1360 = .ok (.iaload, 1) := by decide +kernel
theorem dL_law_1361 : decode cL_law 1361 = .ok (.ifCond .eq 7, 3) := by decide +kernel
theorem dL_law_1364 : decode cL_law 1364 = .ok (.iconst 1, 1) := by decide +kernel
theorem dL_law_1365 : decode cL_law 1365 = .ok (.goto 4, 3) := by decide +kernel
theorem dL_law_1368 : decode cL_law 1368 = .ok (.iconst 0, 1) := by decide +kernel
theorem dL_law_1369 : decode cL_law 1369 = .ok (.aload_n 0, 1) := by decide +kernel
theorem dL_law_1370 : decode cL_law 1370 = .ok (.iload 5, 2) := by decide +kernel
theorem dL_law_1372 : decode cL_law 1372 = .ok (.iconst 3, 1) := by decide +kernel
theorem dL_law_1373 : decode cL_law 1373 = .ok (.iadd, 1) := by decide +kernel
theorem dL_law_1374 : decode cL_law 1374 = .ok (.iaload, 1) := by decide +kernel
theorem dL_law_1375 : decode cL_law 1375 = .ok (.i2d, 1) := by decide +kernel
theorem dL_law_1376 : decode cL_law 1376 = .ok (.ldc2_w 150, 3) := by decide +kernel
theorem dL_law_1379 : decode cL_law 1379 = .ok (.dmul, 1) := by decide +kernel
theorem dL_law_1380 : decode cL_law 1380 = .ok (.invokevirtual 159, 3) := by decide +kernel
theorem dL_law_1383 : decode cL_law 1383 = .ok (.dstore 7, 2) := by decide +kernel
theorem dL_law_1385 : decode cL_law 1385 = .ok (.aload_n 2, 1) := by decide +kernel
theorem dL_law_1386 : decode cL_law 1386 = .ok (.invokevirtual 92, 3) := by decide +kernel
theorem dL_law_1389 : decode cL_law 1389 = .ok (.iload 6, 2) := by decide +kernel
theorem dL_law_1391 : decode cL_law 1391 = .ok (.if_icmp .eq 5, 3) := by decide +kernel
theorem dL_law_1394 : decode cL_law 1394 = .ok (.iconst 0, 1) := by decide +kernel
theorem dL_law_1395 : decode cL_law 1395 = .ok (.ireturn, 1) := by decide +kernel
theorem dL_law_1396 : decode cL_law 1396 = .ok (.iload 6, 2) := by decide +kernel
theorem dL_law_1398 : decode cL_law 1398 = .ok (.ifCond .ne 35, 3) := by decide +kernel
theorem dL_law_1401 : decode cL_law 1401 = .ok (.aload 4, 2) := by decide +kernel
theorem dL_law_1403 : decode cL_law 1403 = .ok (.iconst 0, 1) := by decide +kernel
theorem dL_law_1404 : decode cL_law 1404 = .ok (.daload, 1) := by decide +kernel
theorem dL_law_1405 : decode cL_law 1405 = .ok (.dload 7, 2) := by decide +kernel
theorem dL_law_1407 : decode cL_law 1407 = .ok (.dcmp .l, 1) := by decide +kernel
theorem dL_law_1408 : decode cL_law 1408 = .ok (.ifCond .eq 25, 3) := by decide +kernel
theorem dL_law_1411 : decode cL_law 1411 = .ok (.aload 4, 2) := by decide +kernel
theorem dL_law_1413 : decode cL_law 1413 = .ok (.iconst 0, 1) := by decide +kernel
theorem dL_law_1414 : decode cL_law 1414 = .ok (.daload, 1) := by decide +kernel
theorem dL_law_1415 : decode cL_law 1415 = .ok (.aload 4, 2) := by decide +kernel
theorem dL_law_1417 : decode cL_law 1417 = .ok (.iconst 0, 1) := by decide +kernel
theorem dL_law_1418 : decode cL_law 1418 = .ok (.daload, 1) := by decide +kernel
theorem dL_law_1419 : decode cL_law 1419 = .ok (.dcmp .l, 1) := by decide +kernel
theorem dL_law_1420 : decode cL_law 1420 = .ok (.ifCond .eq 11, 3) := by decide +kernel
theorem dL_law_1423 : decode cL_law 1423 = .ok (.dload 7, 2) := by decide +kernel
theorem dL_law_1425 : decode cL_law 1425 = .ok (.dload 7, 2) := by decide +kernel
theorem dL_law_1427 : decode cL_law 1427 = .ok (.dcmp .l, 1) := by decide +kernel
theorem dL_law_1428 : decode cL_law 1428 = .ok (.ifCond .ne 5, 3) := by decide +kernel
theorem dL_law_1431 : decode cL_law 1431 = .ok (.iconst 0, 1) := by decide +kernel
theorem dL_law_1432 : decode cL_law 1432 = .ok (.ireturn, 1) := by decide +kernel
theorem dL_law_1433 : decode cL_law 1433 = .ok (.goto 3, 3) := by decide +kernel
theorem dL_law_1436 : decode cL_law 1436 = .ok (.iinc 5 5, 3) := by decide +kernel
theorem dL_law_1439 : decode cL_law 1439 = .ok (.goto (-1401), 3) := by decide +kernel
theorem dL_law_1442 : decode cL_law 1442 = .ok (.iconst 1, 1) := by decide +kernel
theorem dL_law_1443 : decode cL_law 1443 = .ok (.ireturn, 1) := by decide +kernel
abbrev vwCl : List vw_C := [(RJx00060, TJx00060, 6), (RX0, TX0, 2), (RX1, TX1, 4), (RX2, TX2, 3), (RX3, TX3, 12), (RX4, TX4, 14)]
/-! ===== END printed: names ===== -/
end
section
/-! ===== this proof's own base: contracts over a world, calls with the frame joined, ends ===== -/
abbrev cl5 : List vw_C := [(RX0, TX0, 2), (RX1, TX1, 4), (RX2, TX2, 3), (RX3, TX3, 12), (RX4, TX4, 14)]
/-- a contract's start over a world -/
abbrev zP (D : va_G) (tys : List (ClassId × FieldType)) (av : List Value) (sz : Nat) (ws : va_W) (E : State → Prop) : Array Value → State → Prop :=
  va_Pc av (fun U => U.heap.size = sz ∧ va_P D cl5 ws U.heap ∧ va_K D cl5 tys U ∧ va_D (fun _ => True) ws ∧ E U)
/-- .. and its end -/
abbrev zB (D : va_G) (tys : List (ClassId × FieldType)) {S : Type} (Wf : S → va_W) (A : Nat → Prop) : S → State → Prop :=
  fun u t => va_P D cl5 (Wf u) t.heap ∧ va_K D cl5 tys t ∧ va_D A (Wf u)
abbrev zT : State → Prop := fun _ => True
abbrev zTb : ∀ (U : State) (g : JFrame) (mk : MethodId) (a : Array Value), zT U → zT (U.calling g mk a) := fun _ _ _ _ _ => trivial
section ZB
variable {p : Program} {l : Launch} {e : Env} {R : Room} {s : State} {m : MethodId} {args : Array Value} {below : List Frame} {meth : Method} {c : Code} {H : Heap} {locs : List Loc} {cells slots : Nat} {Q : State → Prop}
variable {mc ms : Nat} {A A0 : Nat → Prop} {H0 : Heap} {a : Array Value} {pc : Nat} {ls : Array Slot} {st0 rest : List Value}
variable {D : va_G} {tys : List (ClassId × FieldType)} {ws wc wr : va_W}
theorem zK_dr {d : Drawn} (h : va_K D cl5 tys s) : va_K D cl5 tys (s.setDrawn d) := va_K.moved (Vm.Alike.refl s.vm) h
theorem zPreS {E : State → Prop} {As : List Value} (hK : va_K D cl5 tys s) (hP : va_P D cl5 wc H) (hD : va_D A0 wc) (hE1 : ∀ (U : State) (g : JFrame) (mk : MethodId) (a : Array Value), E U → E (U.calling g mk a)) (hE2 : ∀ U : State, U.heap = H → s.WarmedH U.vm → E U) : PreS s H (zP D tys As H.size wc E) As :=
  ⟨fun a U g mk q => by
    obtain ⟨q0, q1, qP, qK, qD, qE⟩ := q
    exact ⟨q0, q1, qP, va_K.moved (u := U) (U := U.calling g mk a) (Vm.Alike.refl U.vm) qK, qD, hE1 U g mk a qE⟩, fun U hU hW => ⟨rfl, by rw [hU], by rw [hU]; exact hP, va_K.moved hW.alike hK, hD.weaken (fun _ _ _ _ => trivial), hE2 U hU hW⟩⟩
theorem zPreV {E : State → Prop} {As : List Value} {b : Addr} {C : String} (hK : va_K D cl5 tys s) (hP : va_P D cl5 wc H) (hD : va_D A0 wc) (ci q0 : Nat) {T : u_T} {N : Nat} {fs : List Value} (hc : cl5[ci]? = some (C, T, N)) (he : wc[q0]? = some (b, .inr (ci, fs))) (hE1 : ∀ (U : State) (g : JFrame) (mk : MethodId) (a : Array Value), E U → E (U.calling g mk a)) (hE2 : ∀ U : State, U.heap = H → s.WarmedH U.vm → E U) : PreV s H C b (zP D tys (.ref b :: As) H.size wc E) As :=
  ⟨(zPreS (As := .ref b :: As) hK hP hD hE1 hE2).1, va_recv hK hP hc he, (zPreS (As := .ref b :: As) hK hP hD hE1 hE2).2⟩
theorem zc_i {S : Type} {post : Int32 → S → Prop} {Wf : S → va_W} (hP : va_P D cl5 ws H) (hD : va_D A0 ws) (hS : va_S A0 H0 H locs) (hA : ∀ q, H0.size ≤ q → A0 q) (isC isR : List Nat) (hC : isC.map (fun i => ws[i]?) = wc.map some) (hR : isR.map (fun i => ws[i]?) = wr.map some) (hn : va_nd isR = true) (hdis : ∀ i ∈ isR, i ∉ isC)
    (hr : va_Run p l e R s m args below meth c H locs cells slots mc ms (F0 m pc ls st0) rest (va_Qi post (zB D tys Wf (va_A wc H.size)) (va_A wc H.size) a) (va_A wc H.size))
    (kk : ∀ (r : Int32) (u : S) (H1 : Heap) (locs1 : List Loc), post r u → va_P D cl5 (wr ++ Wf u) H1 → va_D A0 (wr ++ Wf u) → va_S A0 H0 H1 locs1 → W p l e R s m args below meth c H1 locs1 (cells + mc) (slots + ms) Q (F0 m (pc + 3) ls (.int r :: rest))) : W p l e R s m args below meth c H locs cells slots Q (F0 m pc ls st0) := by
  have hF := va_free (wc := wc) hD hS hA isC hC
  refine va_calli hr hS (fun q _ h => hF q h) hF (fun r u t H1 locs1 ht hvm hw hB hz1 hk1 hS1 => ?_)
  obtain ⟨hP1, hK1, hD1⟩ := hB
  rw [ht] at hP1
  obtain ⟨hP2, hD2⟩ := va_join (wr := wr) hP hD isC isR hC hR hn hdis hk1 hF hP1 hD1
  exact kk r u H1 locs1 hw hP2 hD2 hS1
theorem zc_l {S : Type} {post : Int64 → S → Prop} {Wf : S → va_W} (hP : va_P D cl5 ws H) (hD : va_D A0 ws) (hS : va_S A0 H0 H locs) (hA : ∀ q, H0.size ≤ q → A0 q) (isC isR : List Nat) (hC : isC.map (fun i => ws[i]?) = wc.map some) (hR : isR.map (fun i => ws[i]?) = wr.map some) (hn : va_nd isR = true) (hdis : ∀ i ∈ isR, i ∉ isC)
    (hr : va_Run p l e R s m args below meth c H locs cells slots mc ms (F0 m pc ls st0) rest (va_Ql post (zB D tys Wf (va_A wc H.size)) (va_A wc H.size) a) (va_A wc H.size))
    (kk : ∀ (r : Int64) (u : S) (H1 : Heap) (locs1 : List Loc), post r u → va_P D cl5 (wr ++ Wf u) H1 → va_D A0 (wr ++ Wf u) → va_S A0 H0 H1 locs1 → W p l e R s m args below meth c H1 locs1 (cells + mc) (slots + ms) Q (F0 m (pc + 3) ls (.long r :: rest))) : W p l e R s m args below meth c H locs cells slots Q (F0 m pc ls st0) := by
  have hF := va_free (wc := wc) hD hS hA isC hC
  refine va_calll hr hS (fun q _ h => hF q h) hF (fun r u t H1 locs1 ht hvm hw hB hz1 hk1 hS1 => ?_)
  obtain ⟨hP1, hK1, hD1⟩ := hB
  rw [ht] at hP1
  obtain ⟨hP2, hD2⟩ := va_join (wr := wr) hP hD isC isR hC hR hn hdis hk1 hF hP1 hD1
  exact kk r u H1 locs1 hw hP2 hD2 hS1
theorem zc_d {S : Type} {post : UInt64 → S → Prop} {Wf : S → va_W} (hP : va_P D cl5 ws H) (hD : va_D A0 ws) (hS : va_S A0 H0 H locs) (hA : ∀ q, H0.size ≤ q → A0 q) (isC isR : List Nat) (hC : isC.map (fun i => ws[i]?) = wc.map some) (hR : isR.map (fun i => ws[i]?) = wr.map some) (hn : va_nd isR = true) (hdis : ∀ i ∈ isR, i ∉ isC)
    (hr : va_Run p l e R s m args below meth c H locs cells slots mc ms (F0 m pc ls st0) rest (va_Qd post (zB D tys Wf (va_A wc H.size)) (va_A wc H.size) a) (va_A wc H.size))
    (kk : ∀ (r : UInt64) (u : S) (H1 : Heap) (locs1 : List Loc), post r u → va_P D cl5 (wr ++ Wf u) H1 → va_D A0 (wr ++ Wf u) → va_S A0 H0 H1 locs1 → W p l e R s m args below meth c H1 locs1 (cells + mc) (slots + ms) Q (F0 m (pc + 3) ls (.double r :: rest))) : W p l e R s m args below meth c H locs cells slots Q (F0 m pc ls st0) := by
  have hF := va_free (wc := wc) hD hS hA isC hC
  refine va_calld hr hS (fun q _ h => hF q h) hF (fun r u t H1 locs1 ht hvm hw hB hz1 hk1 hS1 => ?_)
  obtain ⟨hP1, hK1, hD1⟩ := hB
  rw [ht] at hP1
  obtain ⟨hP2, hD2⟩ := va_join (wr := wr) hP hD isC isR hC hR hn hdis hk1 hF hP1 hD1
  exact kk r u H1 locs1 hw hP2 hD2 hS1
theorem zc_v {S : Type} {post : S → Prop} {Wf : S → va_W} (hP : va_P D cl5 ws H) (hD : va_D A0 ws) (hS : va_S A0 H0 H locs) (hA : ∀ q, H0.size ≤ q → A0 q) (isC isR : List Nat) (hC : isC.map (fun i => ws[i]?) = wc.map some) (hR : isR.map (fun i => ws[i]?) = wr.map some) (hn : va_nd isR = true) (hdis : ∀ i ∈ isR, i ∉ isC)
    (hr : va_Run p l e R s m args below meth c H locs cells slots mc ms (F0 m pc ls st0) rest (va_Qv post (zB D tys Wf (va_A wc H.size)) (va_A wc H.size) a) (va_A wc H.size))
    (kk : ∀ (u : S) (H1 : Heap) (locs1 : List Loc), post u → va_P D cl5 (wr ++ Wf u) H1 → va_D A0 (wr ++ Wf u) → va_S A0 H0 H1 locs1 → W p l e R s m args below meth c H1 locs1 (cells + mc) (slots + ms) Q (F0 m (pc + 3) ls rest)) : W p l e R s m args below meth c H locs cells slots Q (F0 m pc ls st0) := by
  have hF := va_free (wc := wc) hD hS hA isC hC
  refine va_callv hr hS (fun q _ h => hF q h) hF (fun u t H1 locs1 ht hvm hw hB hz1 hk1 hS1 => ?_)
  obtain ⟨hP1, hK1, hD1⟩ := hB
  rw [ht] at hP1
  obtain ⟨hP2, hD2⟩ := va_join (wr := wr) hP hD isC isR hC hR hn hdis hk1 hF hP1 hD1
  exact kk u H1 locs1 hw hP2 hD2 hS1
section
variable {cs : List Choice} {d0 : Drawn}
theorem zd_i (hd0 : s.drawn.sameBut d0 cs) {S : Type} {post : Int32 → S → Prop} {Wf : S → va_W} (hP : va_P D cl5 ws H) (hD : va_D A0 ws) (hS : va_S A0 H0 H locs) (hA : ∀ q, H0.size ≤ q → A0 q) (isC isR : List Nat) (hC : isC.map (fun i => ws[i]?) = wc.map some) (hR : isR.map (fun i => ws[i]?) = wr.map some) (hn : va_nd isR = true) (hdis : ∀ i ∈ isR, i ∉ isC)
    (hr : va_RunD cs p l e R (s.setDrawn d0) m args below meth c H locs cells slots mc ms (F0 m pc ls st0) rest (va_Qi post (zB D tys Wf (va_A wc H.size)) (va_A wc H.size) a) (va_A wc H.size))
    (kk : ∀ (r : Int32) (u : S) (H1 : Heap) (locs1 : List Loc), post r u → va_P D cl5 (wr ++ Wf u) H1 → va_D A0 (wr ++ Wf u) → va_S A0 H0 H1 locs1 → ∀ d' : Drawn, s.drawn.sameBut d' cs → W p l e R (s.setDrawn d') m args below meth c H1 locs1 (cells + mc) (slots + ms) Q (F0 m (pc + 3) ls (.int r :: rest))) : W p l e R (s.setDrawn d0) m args below meth c H locs cells slots Q (F0 m pc ls st0) := by
  have hF := va_free (wc := wc) hD hS hA isC hC
  refine va_calliD hd0 hr hS (fun q _ h => hF q h) hF (fun r u t H1 locs1 ht hvm hw hB hz1 hk1 hS1 d' hd' => ?_)
  obtain ⟨hP1, hK1, hD1⟩ := hB
  rw [ht] at hP1
  obtain ⟨hP2, hD2⟩ := va_join (wr := wr) hP hD isC isR hC hR hn hdis hk1 hF hP1 hD1
  exact kk r u H1 locs1 hw hP2 hD2 hS1 d' hd'
theorem zd_l (hd0 : s.drawn.sameBut d0 cs) {S : Type} {post : Int64 → S → Prop} {Wf : S → va_W} (hP : va_P D cl5 ws H) (hD : va_D A0 ws) (hS : va_S A0 H0 H locs) (hA : ∀ q, H0.size ≤ q → A0 q) (isC isR : List Nat) (hC : isC.map (fun i => ws[i]?) = wc.map some) (hR : isR.map (fun i => ws[i]?) = wr.map some) (hn : va_nd isR = true) (hdis : ∀ i ∈ isR, i ∉ isC)
    (hr : va_RunD cs p l e R (s.setDrawn d0) m args below meth c H locs cells slots mc ms (F0 m pc ls st0) rest (va_Ql post (zB D tys Wf (va_A wc H.size)) (va_A wc H.size) a) (va_A wc H.size))
    (kk : ∀ (r : Int64) (u : S) (H1 : Heap) (locs1 : List Loc), post r u → va_P D cl5 (wr ++ Wf u) H1 → va_D A0 (wr ++ Wf u) → va_S A0 H0 H1 locs1 → ∀ d' : Drawn, s.drawn.sameBut d' cs → W p l e R (s.setDrawn d') m args below meth c H1 locs1 (cells + mc) (slots + ms) Q (F0 m (pc + 3) ls (.long r :: rest))) : W p l e R (s.setDrawn d0) m args below meth c H locs cells slots Q (F0 m pc ls st0) := by
  have hF := va_free (wc := wc) hD hS hA isC hC
  refine va_calllD hd0 hr hS (fun q _ h => hF q h) hF (fun r u t H1 locs1 ht hvm hw hB hz1 hk1 hS1 d' hd' => ?_)
  obtain ⟨hP1, hK1, hD1⟩ := hB
  rw [ht] at hP1
  obtain ⟨hP2, hD2⟩ := va_join (wr := wr) hP hD isC isR hC hR hn hdis hk1 hF hP1 hD1
  exact kk r u H1 locs1 hw hP2 hD2 hS1 d' hd'
theorem zd_d (hd0 : s.drawn.sameBut d0 cs) {S : Type} {post : UInt64 → S → Prop} {Wf : S → va_W} (hP : va_P D cl5 ws H) (hD : va_D A0 ws) (hS : va_S A0 H0 H locs) (hA : ∀ q, H0.size ≤ q → A0 q) (isC isR : List Nat) (hC : isC.map (fun i => ws[i]?) = wc.map some) (hR : isR.map (fun i => ws[i]?) = wr.map some) (hn : va_nd isR = true) (hdis : ∀ i ∈ isR, i ∉ isC)
    (hr : va_RunD cs p l e R (s.setDrawn d0) m args below meth c H locs cells slots mc ms (F0 m pc ls st0) rest (va_Qd post (zB D tys Wf (va_A wc H.size)) (va_A wc H.size) a) (va_A wc H.size))
    (kk : ∀ (r : UInt64) (u : S) (H1 : Heap) (locs1 : List Loc), post r u → va_P D cl5 (wr ++ Wf u) H1 → va_D A0 (wr ++ Wf u) → va_S A0 H0 H1 locs1 → ∀ d' : Drawn, s.drawn.sameBut d' cs → W p l e R (s.setDrawn d') m args below meth c H1 locs1 (cells + mc) (slots + ms) Q (F0 m (pc + 3) ls (.double r :: rest))) : W p l e R (s.setDrawn d0) m args below meth c H locs cells slots Q (F0 m pc ls st0) := by
  have hF := va_free (wc := wc) hD hS hA isC hC
  refine va_calldD hd0 hr hS (fun q _ h => hF q h) hF (fun r u t H1 locs1 ht hvm hw hB hz1 hk1 hS1 d' hd' => ?_)
  obtain ⟨hP1, hK1, hD1⟩ := hB
  rw [ht] at hP1
  obtain ⟨hP2, hD2⟩ := va_join (wr := wr) hP hD isC isR hC hR hn hdis hk1 hF hP1 hD1
  exact kk r u H1 locs1 hw hP2 hD2 hS1 d' hd'
theorem zd_v (hd0 : s.drawn.sameBut d0 cs) {S : Type} {post : S → Prop} {Wf : S → va_W} (hP : va_P D cl5 ws H) (hD : va_D A0 ws) (hS : va_S A0 H0 H locs) (hA : ∀ q, H0.size ≤ q → A0 q) (isC isR : List Nat) (hC : isC.map (fun i => ws[i]?) = wc.map some) (hR : isR.map (fun i => ws[i]?) = wr.map some) (hn : va_nd isR = true) (hdis : ∀ i ∈ isR, i ∉ isC)
    (hr : va_RunD cs p l e R (s.setDrawn d0) m args below meth c H locs cells slots mc ms (F0 m pc ls st0) rest (va_Qv post (zB D tys Wf (va_A wc H.size)) (va_A wc H.size) a) (va_A wc H.size))
    (kk : ∀ (u : S) (H1 : Heap) (locs1 : List Loc), post u → va_P D cl5 (wr ++ Wf u) H1 → va_D A0 (wr ++ Wf u) → va_S A0 H0 H1 locs1 → ∀ d' : Drawn, s.drawn.sameBut d' cs → W p l e R (s.setDrawn d') m args below meth c H1 locs1 (cells + mc) (slots + ms) Q (F0 m (pc + 3) ls rest)) : W p l e R (s.setDrawn d0) m args below meth c H locs cells slots Q (F0 m pc ls st0) := by
  have hF := va_free (wc := wc) hD hS hA isC hC
  refine va_callvD hd0 hr hS (fun q _ h => hF q h) hF (fun u t H1 locs1 ht hvm hw hB hz1 hk1 hS1 d' hd' => ?_)
  obtain ⟨hP1, hK1, hD1⟩ := hB
  rw [ht] at hP1
  obtain ⟨hP2, hD2⟩ := va_join (wr := wr) hP hD isC isR hC hR hn hdis hk1 hF hP1 hD1
  exact kk u H1 locs1 hw hP2 hD2 hS1 d' hd'
end
/-- the ends -/
theorem ze_i {S : Type} {post : Int32 → S → Prop} {Wf : S → va_W} {cc : ByteArray} {v : Int32} (hexec : p.tables.exec = Jvm.exec) (hb : c.code = cc) (hr : meth.sig.returnType = some .int) (hlocks : meth.locks = false) (u : S) (hp : post v u) (hP : va_P D cl5 (Wf u) H) (hK : va_K D cl5 tys s) (hD : va_D A (Wf u)) (hS : va_S A s.heap H locs) (hdg : decode cc pc = .ok (.ireturn, 1)) :
    W p l e R s m args below meth c H locs cells slots (MQ below (va_Qi post (zB D tys Wf A) A) args s cells slots A) (F0 m pc ls [.int v]) :=
  W.iret (v := v) hexec hb hr (fun t ht hW => ⟨⟨v, u, rfl, hp, by rw [ht]; exact hP, va_K.moved hW.alike hK, hD⟩, hS.F ht⟩) hS.2.2 hdg hlocks
theorem ze_z {S : Type} {post : Int32 → S → Prop} {Wf : S → va_W} {cc : ByteArray} {v : Int32} (hexec : p.tables.exec = Jvm.exec) (hb : c.code = cc) (hr : meth.sig.returnType = some .boolean) (hlocks : meth.locks = false) (u : S) (hv : v = 0 ∨ v = 1) (hp : post v u) (hP : va_P D cl5 (Wf u) H) (hK : va_K D cl5 tys s) (hD : va_D A (Wf u)) (hS : va_S A s.heap H locs) (hdg : decode cc pc = .ok (.ireturn, 1)) :
    W p l e R s m args below meth c H locs cells slots (MQ below (va_Qi post (zB D tys Wf A) A) args s cells slots A) (F0 m pc ls [.int v]) :=
  W.zret (v := v) hexec hb hr (by rcases hv with rfl | rfl <;> rfl) (fun t ht hW => ⟨⟨v, u, rfl, hp, by rw [ht]; exact hP, va_K.moved hW.alike hK, hD⟩, hS.F ht⟩) hS.2.2 hdg hlocks
theorem ze_l {S : Type} {post : Int64 → S → Prop} {Wf : S → va_W} {cc : ByteArray} {v : Int64} (hexec : p.tables.exec = Jvm.exec) (hb : c.code = cc) (hr : meth.sig.returnType = some .long) (hlocks : meth.locks = false) (u : S) (hp : post v u) (hP : va_P D cl5 (Wf u) H) (hK : va_K D cl5 tys s) (hD : va_D A (Wf u)) (hS : va_S A s.heap H locs) (hdg : decode cc pc = .ok (.lreturn, 1)) :
    W p l e R s m args below meth c H locs cells slots (MQ below (va_Ql post (zB D tys Wf A) A) args s cells slots A) (F0 m pc ls [.long v]) :=
  W.lret (v := v) hexec hb hr (fun t ht hW => ⟨⟨v, u, rfl, hp, by rw [ht]; exact hP, va_K.moved hW.alike hK, hD⟩, hS.F ht⟩) hS.2.2 hdg hlocks
theorem ze_d {S : Type} {post : UInt64 → S → Prop} {Wf : S → va_W} {cc : ByteArray} {v : UInt64} (hexec : p.tables.exec = Jvm.exec) (hb : c.code = cc) (hr : meth.sig.returnType = some .double) (hlocks : meth.locks = false) (u : S) (hp : post v u) (hP : va_P D cl5 (Wf u) H) (hK : va_K D cl5 tys s) (hD : va_D A (Wf u)) (hS : va_S A s.heap H locs) (hdg : decode cc pc = .ok (.dreturn, 1)) :
    W p l e R s m args below meth c H locs cells slots (MQ below (va_Qd post (zB D tys Wf A) A) args s cells slots A) (F0 m pc ls [.double v]) :=
  W.dret (v := v) hexec hb hr (fun t ht hW => ⟨⟨v, u, rfl, hp, by rw [ht]; exact hP, va_K.moved hW.alike hK, hD⟩, hS.F ht⟩) hS.2.2 hdg hlocks
theorem ze_v {S : Type} {post : S → Prop} {Wf : S → va_W} {cc : ByteArray} (hexec : p.tables.exec = Jvm.exec) (hb : c.code = cc) (hr : meth.sig.returnType = none) (hlocks : meth.locks = false) (u : S) (hp : post u) (hP : va_P D cl5 (Wf u) H) (hK : va_K D cl5 tys s) (hD : va_D A (Wf u)) (hS : va_S A s.heap H locs) (hdg : decode cc pc = .ok (.return_, 1)) :
    W p l e R s m args below meth c H locs cells slots (MQ below (va_Qv post (zB D tys Wf A) A) args s cells slots A) (F0 m pc ls []) :=
  W.vret hexec hb hr (fun t ht hW => ⟨⟨u, rfl, hp, by rw [ht]; exact hP, va_K.moved hW.alike hK, hD⟩, hS.F ht⟩) hS.2.2 hdg hlocks
/-- a new name for the top of the stack -/
theorem zi_ {x y : Int32} (h : x = y) (k : W p l e R s m args below meth c H locs cells slots Q (F0 m pc ls (.int y :: rest))) : W p l e R s m args below meth c H locs cells slots Q (F0 m pc ls (.int x :: rest)) := by rw [h]; exact k
theorem zl_ {x y : Int64} (h : x = y) (k : W p l e R s m args below meth c H locs cells slots Q (F0 m pc ls (.long y :: rest))) : W p l e R s m args below meth c H locs cells slots Q (F0 m pc ls (.long x :: rest)) := by rw [h]; exact k
/-- a comparison of longs and its branch, in one -/
theorem zl_lt {cc : ByteArray} (hexec : p.tables.exec = Jvm.exec) (hb : c.code = cc) {x y : Int64} {off : Int} {tgt : Nat} (hdg : decode cc pc = .ok (.lcmp, 1)) (hd2 : decode cc (pc + 1) = .ok (.ifCond .lt off, 3)) (ht : ((pc + 1 : Nat) : Int) + off = (tgt : Int))
    (kt : x < y → W p l e R s m args below meth c H locs cells slots Q (F0 m tgt ls rest)) (kf : ¬ x < y → W p l e R s m args below meth c H locs cells slots Q (F0 m (pc + 4) ls rest)) : W p l e R s m args below meth c H locs cells slots Q (F0 m pc ls (.long y :: .long x :: rest)) :=
  W.lcmp hexec hb hdg (lv_if_lt hexec hb hd2 ht (fun h => kt ((lg_cmp_lt x y).mp h)) (fun h => kf (fun g => h ((lg_cmp_lt x y).mpr g))))
theorem zl_ge {cc : ByteArray} (hexec : p.tables.exec = Jvm.exec) (hb : c.code = cc) {x y : Int64} {off : Int} {tgt : Nat} (hdg : decode cc pc = .ok (.lcmp, 1)) (hd2 : decode cc (pc + 1) = .ok (.ifCond .ge off, 3)) (ht : ((pc + 1 : Nat) : Int) + off = (tgt : Int))
    (kt : y ≤ x → W p l e R s m args below meth c H locs cells slots Q (F0 m tgt ls rest)) (kf : ¬ y ≤ x → W p l e R s m args below meth c H locs cells slots Q (F0 m (pc + 4) ls rest)) : W p l e R s m args below meth c H locs cells slots Q (F0 m pc ls (.long y :: .long x :: rest)) :=
  W.lcmp hexec hb hdg (lv_if_ge hexec hb hd2 ht (fun h => kt ((lg_cmp_ge x y).mp h)) (fun h => kf (fun g => h ((lg_cmp_ge x y).mpr g))))
theorem zl_gt {cc : ByteArray} (hexec : p.tables.exec = Jvm.exec) (hb : c.code = cc) {x y : Int64} {off : Int} {tgt : Nat} (hdg : decode cc pc = .ok (.lcmp, 1)) (hd2 : decode cc (pc + 1) = .ok (.ifCond .gt off, 3)) (ht : ((pc + 1 : Nat) : Int) + off = (tgt : Int))
    (kt : y < x → W p l e R s m args below meth c H locs cells slots Q (F0 m tgt ls rest)) (kf : ¬ y < x → W p l e R s m args below meth c H locs cells slots Q (F0 m (pc + 4) ls rest)) : W p l e R s m args below meth c H locs cells slots Q (F0 m pc ls (.long y :: .long x :: rest)) :=
  W.lcmp hexec hb hdg (lv_if_gt hexec hb hd2 ht (fun h => kt ((lg_cmp_gt x y).mp h)) (fun h => kf (fun g => h ((lg_cmp_gt x y).mpr g))))
theorem zl_le {cc : ByteArray} (hexec : p.tables.exec = Jvm.exec) (hb : c.code = cc) {x y : Int64} {off : Int} {tgt : Nat} (hdg : decode cc pc = .ok (.lcmp, 1)) (hd2 : decode cc (pc + 1) = .ok (.ifCond .le off, 3)) (ht : ((pc + 1 : Nat) : Int) + off = (tgt : Int))
    (kt : x ≤ y → W p l e R s m args below meth c H locs cells slots Q (F0 m tgt ls rest)) (kf : ¬ x ≤ y → W p l e R s m args below meth c H locs cells slots Q (F0 m (pc + 4) ls rest)) : W p l e R s m args below meth c H locs cells slots Q (F0 m pc ls (.long y :: .long x :: rest)) :=
  W.lcmp hexec hb hdg (lv_if_le hexec hb hd2 ht (fun h => kt ((lg_cmp_le x y).mp h)) (fun h => kf (fun g => h ((lg_cmp_le x y).mpr g))))
theorem zl_eq {cc : ByteArray} (hexec : p.tables.exec = Jvm.exec) (hb : c.code = cc) {x y : Int64} {off : Int} {tgt : Nat} (hdg : decode cc pc = .ok (.lcmp, 1)) (hd2 : decode cc (pc + 1) = .ok (.ifCond .eq off, 3)) (ht : ((pc + 1 : Nat) : Int) + off = (tgt : Int))
    (kt : x = y → W p l e R s m args below meth c H locs cells slots Q (F0 m tgt ls rest)) (kf : ¬ x = y → W p l e R s m args below meth c H locs cells slots Q (F0 m (pc + 4) ls rest)) : W p l e R s m args below meth c H locs cells slots Q (F0 m pc ls (.long y :: .long x :: rest)) :=
  W.lcmp hexec hb hdg (lv_if_eq hexec hb hd2 ht (fun h => kt ((lg_cmp_eq x y).mp h)) (fun h => kf (fun g => h ((lg_cmp_eq x y).mpr g))))
theorem zl_ne {cc : ByteArray} (hexec : p.tables.exec = Jvm.exec) (hb : c.code = cc) {x y : Int64} {off : Int} {tgt : Nat} (hdg : decode cc pc = .ok (.lcmp, 1)) (hd2 : decode cc (pc + 1) = .ok (.ifCond .ne off, 3)) (ht : ((pc + 1 : Nat) : Int) + off = (tgt : Int))
    (kt : ¬ x = y → W p l e R s m args below meth c H locs cells slots Q (F0 m tgt ls rest)) (kf : x = y → W p l e R s m args below meth c H locs cells slots Q (F0 m (pc + 4) ls rest)) : W p l e R s m args below meth c H locs cells slots Q (F0 m pc ls (.long y :: .long x :: rest)) :=
  W.lcmp hexec hb hdg (lv_if_ne hexec hb hd2 ht (fun h => kt (fun g => h ((lg_cmp_eq x y).mpr g))) (fun h => kf ((lg_cmp_eq x y).mp h)))
/-- a new array, its class the one that the tables name -/
theorem z_newa {cc : ByteArray} (hexec : p.tables.exec = Jvm.exec) (hb : c.code = cc) {atype : ArrayType} (harr : (Cond.arrayClass (newarray.typeOf atype)).before args s = true) {ty : FieldType} (hty : newarray.typeOf atype = ty) (hK : va_K D cl5 tys s) (hP : va_P D cl5 ws H) (hD : va_D A ws) (hS : va_S A H0 H locs) (hA : ∀ q, H0.size ≤ q → A q)
    {cJ : ClassId} (t0 : Nat) (ht : tys[t0]? = some (cJ, ty)) (hJ : ∀ (x : ClassId) (U : State), va_RA U x ty → U.vm.findClass ("[" ++ ty.toString) = some x)
    {n : Int32} {N' : Nat} {a0 : vp_A} (ha : ∀ cA : ClassId, vp_cell cA a0 = arrV cA N' (fun _ => defaultValue ty)) (hn : ¬ n < 0) (hN : n.toNatClampNeg = N') (hbytes : N' * componentBytes ty ≤ 536870912) (hcells : cells + 1 ≤ R.cells) (hslots : slots + N' ≤ R.slots) (hdg : decode cc pc = .ok (.newarray atype, 2))
    (kk : ∀ (q : Nat) (H1 : Heap), va_P D cl5 (ws ++ [(q, .inl (cJ, a0))]) H1 → va_D A (ws ++ [(q, .inl (cJ, a0))]) → va_S A H0 H1 locs →
      W p l e R s m args below meth c H1 locs (cells + 1) (slots + N') Q (F0 m (pc + 2) ls (.ref q :: rest))) : W p l e R s m args below meth c H locs cells slots Q (F0 m pc ls (.int n :: rest)) := by
  refine va_newa hexec hb harr hty hK hP hD hS hA ha hn hN hbytes hcells hslots hdg (fun q cA H1 hK1 hP1 hD1 hS1 => ?_)
  have e1 := hJ _ _ (hK.2 t0 _ ht).2
  have e2 := hJ _ _ (hK1.2 tys.length (cA, ty) (by simp)).2
  have e3 : cA = cJ := Option.some.inj (e2.symm.trans e1)
  subst e3
  exact kk q H1 hP1 hD1 hS1
end ZB
section ZM
variable {l : Launch} {D : va_G} {tys : List (ClassId × FieldType)} {wc : va_W} {E : State → Prop} {av : List Value} {sz : Nat}
/-- the body of a contract: everything at its entry under a name -/
abbrev zBody (D : va_G) (tys : List (ClassId × FieldType)) (wc : va_W) (E : State → Prop) (av : List Value) (l : Launch) (y : MethodName) (ws : List Cond) (rm : Room) (cc : ByteArray) (maxL : Nat) (ret : Option FieldType) (Qg : List Frame → (Nat → Prop) → Array Value → State → State → Prop) : Prop :=
  ∀ (p : Program) (e : Env) (s : State) (m : MethodId) (args : Array Value) (below : List Frame) (meth : Method) (c : Code) (A : Nat → Prop) (ls : Array Slot) (Q : State → Prop) (H : Heap), args = av.toArray → Q = Qg below A args s → H = s.heap → p.tables.exec = Jvm.exec → c.code = cc → meth.sig.returnType = ret → c.maxLocals = maxL → s.vm.findClass y.cls = some m.cls → (∀ w ∈ ws, w.before args s = true) → meth.locks = false → meth.name = y.name →
      va_P D cl5 wc H → va_K D cl5 tys s → va_D A wc → (∀ q : Nat, s.heap.size ≤ q → A q) → va_S A s.heap H [] → E s → va_A wc s.heap.size = A → lv_has ls maxL (lv_args 0 av) →
      W p l e rm s m args below meth c H [] 0 0 Q (F0 m 0 ls [])
abbrev zBodyD (cs : List Choice) (D : va_G) (tys : List (ClassId × FieldType)) (wc : va_W) (E : State → Prop) (av : List Value) (l : Launch) (y : MethodName) (ws : List Cond) (rm : Room) (cc : ByteArray) (maxL : Nat) (ret : Option FieldType) (Qg : List Frame → (Nat → Prop) → Array Value → State → State → Prop) : Prop :=
  ∀ (p : Program) (e : Env) (s : State) (m : MethodId) (args : Array Value) (below : List Frame) (meth : Method) (c : Code) (A : Nat → Prop) (ls : Array Slot) (Q : State → Prop) (H : Heap) (d : Drawn), args = av.toArray → Q = Qg below A args s → H = s.heap → p.tables.exec = Jvm.exec → c.code = cc → meth.sig.returnType = ret → c.maxLocals = maxL → s.vm.findClass y.cls = some m.cls → (∀ w ∈ ws, w.before args s = true) → meth.locks = false → meth.name = y.name →
      va_P D cl5 wc H → va_K D cl5 tys s → va_D A wc → (∀ q : Nat, s.heap.size ≤ q → A q) → va_S A s.heap H [] → E s → va_A wc s.heap.size = A → lv_has ls maxL (lv_args 0 av) → s.drawn.sameBut d cs →
      W p l e rm (s.setDrawn d) m args below meth c H [] 0 0 Q (F0 m 0 ls [])
theorem zMet {y : MethodName} {ws ws' : List Cond} {rm : Room} {Qf : (Nat → Prop) → Array Value → State → Outcome → State → Prop} {mc ms : Nat} {cc : ByteArray} {maxL : Nat} {ret : Option FieldType}
    (hy : plainName y.cls = true) (hw : ws = Cond.code y cc maxL ret :: ws') (hlen : (lg_sl av).length ≤ maxL)
    (body : zBody D tys wc E av l y ws rm cc maxL ret (fun below A args s => MQ below (Qf A) args s mc ms A)) : Met l y ws rm (zP D tys av sz wc E) (Qf (va_A wc sz)) mc ms (va_A wc sz) := by
  refine Met.ofW (cc := cc) (maxL := maxL) (ret := ret) hy hw ?_
  intro p e s m args below meth c s₁ B hml hv
  obtain ⟨hav, hsz, hP, hK, hD0, hE⟩ := hv
  subst hsz
  have hD := hD0.self (sz := s.heap.size)
  have hts := atoms_spec (ws := ws) B.pre
  have he : entryFrame m args maxL = F0 m 0 ((lg_sl av ++ List.replicate (maxL - (lg_sl av).length) Slot.unset).toArray) [] := by rw [hav]; exact lg_entry_eq m av maxL
  rw [he]
  exact body p e s m args below meth c _ _ _ _ hav rfl rfl B.exec B.bytes B.returns hml (findClass_of_methodNamed B.named) hts B.notSynchronized (name_of_methodNamed B.named B.method).1 hP hK hD (fun q h => Or.inr h) va_S.rf hE rfl (lv_entry av hlen)
theorem zMetD {cs : List Choice} {y : MethodName} {ws ws' : List Cond} {rm : Room} {Qf : (Nat → Prop) → Array Value → State → Outcome → State → Prop} {mc ms : Nat} {cc : ByteArray} {maxL : Nat} {ret : Option FieldType}
    (hy : plainName y.cls = true) (hw : ws = Cond.code y cc maxL ret :: ws') (hlen : (lg_sl av).length ≤ maxL)
    (body : zBodyD cs D tys wc E av l y ws rm cc maxL ret (fun below A args s => MQD cs below (Qf A) args s mc ms A)) : MetD cs l y ws rm (zP D tys av sz wc E) (Qf (va_A wc sz)) mc ms (va_A wc sz) := by
  refine MetD.ofW (cc := cc) (maxL := maxL) (ret := ret) hy hw ?_
  intro p e s m args below meth c s₁ B hml hv hd0
  obtain ⟨hav, hsz, hP, hK, hD0, hE⟩ := hv
  subst hsz
  have hD := hD0.self (sz := s.heap.size)
  have hts := atoms_spec (ws := ws) B.pre
  have he : entryFrame m args maxL = F0 m 0 ((lg_sl av ++ List.replicate (maxL - (lg_sl av).length) Slot.unset).toArray) [] := by rw [hav]; exact lg_entry_eq m av maxL
  rw [he]
  exact body p e s m args below meth c _ _ _ _ _ hav rfl rfl B.exec B.bytes B.returns hml (findClass_of_methodNamed B.named) hts B.notSynchronized (name_of_methodNamed B.named B.method).1 hP hK hD (fun q h => Or.inr h) va_S.rf hE rfl (lv_entry av hlen) hd0
end ZM
abbrev ty3 (cI cJ cD : ClassId) : List (ClassId × FieldType) := [(cI, .int), (cJ, .long), (cD, .double)]
theorem zh {w : Cond} {ws : List Cond} {args : Array Value} {s : State} (hts : ∀ w ∈ ws, w.before args s = true) (i : Nat) (h : ws[i]? = some w) : w.before args s = true := hts w (List.mem_of_getElem? h)
section ZA
variable {p : Program} {l : Launch} {e : Env} {R : Room} {s : State} {m : MethodId} {args : Array Value} {below : List Frame} {meth : Method} {c : Code} {H : Heap} {locs : List Loc} {cells slots : Nat} {Q : State → Prop}
variable {A : Nat → Prop} {H0 : Heap} {pc : Nat} {ls : Array Slot} {rest : List Value} {a : Nat}
variable {D : va_G} {tys : List (ClassId × FieldType)} {ws : va_W} {cc : ByteArray}
theorem z_iald (hexec : p.tables.exec = Jvm.exec) (hb : c.code = cc) (hK : va_K D cl5 tys s) (hP : va_P D cl5 ws H) (q0 t0 : Nat) {cA : ClassId} {n j : Nat} {f : Nat → Int32} (ha : ws[q0]? = some (a, .inl (cA, n, .inl f))) (ht : tys[t0]? = some (cA, .int)) (hin : j < n) (hn : n < 2 ^ 31) (hdg : decode cc pc = .ok (.iaload, 1))
    (kk : W p l e R s m args below meth c H locs cells slots Q (F0 m (pc + 1) ls (.int (f j) :: rest))) : W p l e R s m args below meth c H locs cells slots Q (F0 m pc ls (.int (nI j) :: .ref a :: rest)) := by
  refine va_iald hexec hb hK hP q0 t0 ha ht (vp_in_nI hin hn) hdg ?_
  rw [nI_clamp (Nat.lt_trans hin hn)]; exact kk
theorem z_lald (hexec : p.tables.exec = Jvm.exec) (hb : c.code = cc) (hK : va_K D cl5 tys s) (hP : va_P D cl5 ws H) (q0 t0 : Nat) {cA : ClassId} {n j : Nat} {f : Nat → Int64} (ha : ws[q0]? = some (a, .inl (cA, n, .inr (.inl f)))) (ht : tys[t0]? = some (cA, .long)) (hin : j < n) (hn : n < 2 ^ 31) (hdg : decode cc pc = .ok (.laload, 1))
    (kk : W p l e R s m args below meth c H locs cells slots Q (F0 m (pc + 1) ls (.long (f j) :: rest))) : W p l e R s m args below meth c H locs cells slots Q (F0 m pc ls (.int (nI j) :: .ref a :: rest)) := by
  refine va_lald hexec hb hK hP q0 t0 ha ht (vp_in_nI hin hn) hdg ?_
  rw [nI_clamp (Nat.lt_trans hin hn)]; exact kk
theorem z_dald (hexec : p.tables.exec = Jvm.exec) (hb : c.code = cc) (hK : va_K D cl5 tys s) (hP : va_P D cl5 ws H) (q0 t0 : Nat) {cA : ClassId} {n j : Nat} {f : Nat → UInt64} (ha : ws[q0]? = some (a, .inl (cA, n, .inr (.inr (.inr (.inl f)))))) (ht : tys[t0]? = some (cA, .double)) (hin : j < n) (hn : n < 2 ^ 31) (hdg : decode cc pc = .ok (.daload, 1))
    (kk : W p l e R s m args below meth c H locs cells slots Q (F0 m (pc + 1) ls (.double (f j) :: rest))) : W p l e R s m args below meth c H locs cells slots Q (F0 m pc ls (.int (nI j) :: .ref a :: rest)) := by
  refine va_dald hexec hb hK hP q0 t0 ha ht (vp_in_nI hin hn) hdg ?_
  rw [nI_clamp (Nat.lt_trans hin hn)]; exact kk
theorem z_iast (hexec : p.tables.exec = Jvm.exec) (hb : c.code = cc) (hK : va_K D cl5 tys s) (hP : va_P D cl5 ws H) (hD : va_D A ws) (hS : va_S A H0 H locs) (q0 t0 : Nat) {cA : ClassId} {n j : Nat} {f : Nat → Int32} {x : Int32} (ha : ws[q0]? = some (a, .inl (cA, n, .inl f))) (ht : tys[t0]? = some (cA, .int)) (hin : j < n) (hn : n < 2 ^ 31) (hdg : decode cc pc = .ok (.iastore, 1))
    (kk : ∀ (H1 : Heap) (locs1 : List Loc), va_P D cl5 (ws.set q0 (a, .inl (cA, n, .inl (upd f j x)))) H1 → va_D A (ws.set q0 (a, .inl (cA, n, .inl (upd f j x)))) → va_S A H0 H1 locs1 → W p l e R s m args below meth c H1 locs1 cells slots Q (F0 m (pc + 1) ls rest)) : W p l e R s m args below meth c H locs cells slots Q (F0 m pc ls (.int x :: .int (nI j) :: .ref a :: rest)) := by
  refine va_iast hexec hb hK hP hD hS q0 t0 ha ht (vp_in_nI hin hn) hdg ?_
  rw [nI_clamp (Nat.lt_trans hin hn)]; exact kk
theorem z_last (hexec : p.tables.exec = Jvm.exec) (hb : c.code = cc) (hK : va_K D cl5 tys s) (hP : va_P D cl5 ws H) (hD : va_D A ws) (hS : va_S A H0 H locs) (q0 t0 : Nat) {cA : ClassId} {n j : Nat} {f : Nat → Int64} {x : Int64} (ha : ws[q0]? = some (a, .inl (cA, n, .inr (.inl f)))) (ht : tys[t0]? = some (cA, .long)) (hin : j < n) (hn : n < 2 ^ 31) (hdg : decode cc pc = .ok (.lastore, 1))
    (kk : ∀ (H1 : Heap) (locs1 : List Loc), va_P D cl5 (ws.set q0 (a, .inl (cA, n, .inr (.inl (vp_updL f j x))))) H1 → va_D A (ws.set q0 (a, .inl (cA, n, .inr (.inl (vp_updL f j x))))) → va_S A H0 H1 locs1 → W p l e R s m args below meth c H1 locs1 cells slots Q (F0 m (pc + 1) ls rest)) : W p l e R s m args below meth c H locs cells slots Q (F0 m pc ls (.long x :: .int (nI j) :: .ref a :: rest)) := by
  refine va_last hexec hb hK hP hD hS q0 t0 ha ht (vp_in_nI hin hn) hdg ?_
  rw [nI_clamp (Nat.lt_trans hin hn)]; exact kk
theorem z_dast (hexec : p.tables.exec = Jvm.exec) (hb : c.code = cc) (hK : va_K D cl5 tys s) (hP : va_P D cl5 ws H) (hD : va_D A ws) (hS : va_S A H0 H locs) (q0 t0 : Nat) {cA : ClassId} {n j : Nat} {f : Nat → UInt64} {x : UInt64} (ha : ws[q0]? = some (a, .inl (cA, n, .inr (.inr (.inr (.inl f)))))) (ht : tys[t0]? = some (cA, .double)) (hin : j < n) (hn : n < 2 ^ 31) (hdg : decode cc pc = .ok (.dastore, 1))
    (kk : ∀ (H1 : Heap) (locs1 : List Loc), va_P D cl5 (ws.set q0 (a, .inl (cA, n, .inr (.inr (.inr (.inl (vf_upd f j x))))))) H1 → va_D A (ws.set q0 (a, .inl (cA, n, .inr (.inr (.inr (.inl (vf_upd f j x))))))) → va_S A H0 H1 locs1 → W p l e R s m args below meth c H1 locs1 cells slots Q (F0 m (pc + 1) ls rest)) : W p l e R s m args below meth c H locs cells slots Q (F0 m pc ls (.double x :: .int (nI j) :: .ref a :: rest)) := by
  refine va_dast hexec hb hK hP hD hS q0 t0 ha ht (vp_in_nI hin hn) hdg ?_
  rw [nI_clamp (Nat.lt_trans hin hn)]; exact kk
end ZA
/-! ===== numbers ===== -/
theorem z_inc (a n : Nat) : nI a + Int32.ofInt (n : Int) = nI (a + n) := by
  have e : Int32.ofInt (n : Int) = nI n := by
    apply Int32.toBitVec_inj.mp
    show BitVec.ofInt 32 (n : Int) = BitVec.ofNat 32 n
    exact BitVec.ofInt_natCast 32 n
  rw [e]; exact nI_add a n
theorem z_dec (a n : Nat) (h : n ≤ a) : nI a + Int32.ofInt (-(n : Int)) = nI (a - n) := by
  have e : Int32.ofInt (-(n : Int)) = - nI n := by
    apply Int32.toBitVec_inj.mp
    show BitVec.ofInt 32 (-(n : Int)) = - BitVec.ofNat 32 n
    rw [BitVec.ofInt_neg, BitVec.ofInt_natCast]
  rw [e, ← pk_sub h]
  exact (Int32.sub_eq_add_neg _ _).symm
theorem zji_eq {a b : Nat} (ha : a < 2 ^ 31) (hb : b < 2 ^ 31) (h : nI a = nI b) : a = b := (nI_eq ha hb).mp h
theorem zji_ne {a b : Nat} (ha : a < 2 ^ 31) (hb : b < 2 ^ 31) (h : ¬ nI a = nI b) : a ≠ b := fun q => h (by rw [q])
theorem zji_lt {a b : Nat} (ha : a < 2 ^ 31) (hb : b < 2 ^ 31) (h : nI a < nI b) : a < b := (nI_ltI ha hb).mp h
theorem zji_nlt {a b : Nat} (ha : a < 2 ^ 31) (hb : b < 2 ^ 31) (h : ¬ nI a < nI b) : b ≤ a := Nat.le_of_not_lt (fun q => h ((nI_ltI ha hb).mpr q))
theorem zji_le {a b : Nat} (ha : a < 2 ^ 31) (hb : b < 2 ^ 31) (h : nI a ≤ nI b) : a ≤ b := (nI_leI ha hb).mp h
theorem zji_nle {a b : Nat} (ha : a < 2 ^ 31) (hb : b < 2 ^ 31) (h : ¬ nI a ≤ nI b) : b < a := Nat.lt_of_not_le (fun q => h ((nI_leI ha hb).mpr q))
theorem zjl_eq {a b : Nat} (ha : a < 2 ^ 63) (hb : b < 2 ^ 63) (h : lN a = lN b) : a = b := (pk_lEQ ha hb).mp h
theorem zjl_ne {a b : Nat} (ha : a < 2 ^ 63) (hb : b < 2 ^ 63) (h : ¬ lN a = lN b) : a ≠ b := fun q => h (by rw [q])
theorem zjl_lt {a b : Nat} (ha : a < 2 ^ 63) (hb : b < 2 ^ 63) (h : lN a < lN b) : a < b := (pk_lLT ha hb).mp h
theorem zjl_nlt {a b : Nat} (ha : a < 2 ^ 63) (hb : b < 2 ^ 63) (h : ¬ lN a < lN b) : b ≤ a := Nat.le_of_not_lt (fun q => h ((pk_lLT ha hb).mpr q))
theorem zjl_le {a b : Nat} (ha : a < 2 ^ 63) (hb : b < 2 ^ 63) (h : lN a ≤ lN b) : a ≤ b := (pk_lLE ha hb).mp h
theorem zjl_nle {a b : Nat} (ha : a < 2 ^ 63) (hb : b < 2 ^ 63) (h : ¬ lN a ≤ lN b) : b < a := Nat.lt_of_not_le (fun q => h ((pk_lLE ha hb).mpr q))
theorem zine0 {b : Nat} (h0 : 0 < b) (h : b < 2 ^ 31) : ¬ nI b = 0 := nI_ne0 h0 h
theorem zlne0 {b : Nat} (h0 : 0 < b) (h : b < 2 ^ 63) : ¬ lN b = 0 := fun q => by
  have := (pk_lEQ h (by decide : (0 : Nat) < 2 ^ 63)).mp q
  omega
theorem z_sm : ∀ k, k < 64 → ((nI k).toInt64 &&& 63).toBitVec.smod 64 = BitVec.ofNat 64 k := by decide +kernel
theorem z_shl (n : Nat) {k : Nat} (hk : k < 64) : lN n <<< ((nI k).toInt64 &&& 63) = lN (n * 2 ^ k) := by
  apply Int64.toBitVec_inj.mp
  show (lN n).toBitVec <<< (((nI k).toInt64 &&& 63).toBitVec.smod 64) = (lN (n * 2 ^ k)).toBitVec
  rw [z_sm k hk]
  show BitVec.ofNat 64 n <<< BitVec.ofNat 64 k = BitVec.ofNat 64 (n * 2 ^ k)
  apply BitVec.eq_of_toNat_eq
  rw [BitVec.shiftLeft_eq', BitVec.toNat_shiftLeft, BitVec.toNat_ofNat, BitVec.toNat_ofNat, BitVec.toNat_ofNat, Nat.mod_eq_of_lt (a := k) (by omega), Nat.shiftLeft_eq, Nat.mod_mul_mod]
theorem z_shr {a k : Nat} (hk : k < 64) (h : a < 2 ^ 63) : lN a >>> ((nI k).toInt64 &&& 63) = lN (a / 2 ^ k) := by
  have hd : a / 2 ^ k ≤ a := Nat.div_le_self _ _
  have hD : ((((nI k).toInt64 &&& 63).toBitVec).smod 64).toNat = k := by
    rw [z_sm k hk, BitVec.toNat_ofNat, Nat.mod_eq_of_lt (by omega)]
  apply Int64.toInt_inj.mp
  have e : (lN a >>> ((nI k).toInt64 &&& 63)).toInt = (lN a).toInt >>> k := by
    conv => rhs; rw [← hD]
    exact BitVec.toInt_sshiftRight ..
  rw [e, Int.shiftRight_eq_div_pow, pk_lT (by omega), pk_lT (by omega)]
  rfl
theorem z_and26 {a : Nat} (h : a < 2 ^ 64) : lN a &&& lN 67108863 = lN (a % 67108864) := by
  apply Int64.toBitVec_inj.mp
  apply BitVec.eq_of_toNat_eq
  show ((BitVec.ofNat 64 a) &&& (BitVec.ofNat 64 67108863)).toNat = (BitVec.ofNat 64 (a % 67108864)).toNat
  rw [BitVec.toNat_and, BitVec.toNat_ofNat, BitVec.toNat_ofNat, BitVec.toNat_ofNat, Nat.mod_eq_of_lt h]
  have h2 := Nat.and_two_pow_sub_one_eq_mod a 26
  rw [show (67108863 % 2 ^ 64 : Nat) = 2 ^ 26 - 1 from rfl, h2]
  have h3 : a % 67108864 < 67108864 := Nat.mod_lt _ (by decide)
  rw [Nat.mod_eq_of_lt (a := a % 67108864) (by omega)]
end
section
/-! ===== whole numbers in digits of 26 bits ===== -/
def bigL (f : Nat → Int64) (u M : Nat) : Prop := ∀ j, j < u → f j = lN (M / 67108864 ^ j % 67108864)
def bigN (u M : Nat) : Prop := M < 67108864 ^ u ∧ (u = 0 ∨ 67108864 ^ (u - 1) ≤ M)
def bigM (f : Nat → Int64) (i u N g : Nat) : Prop := (∀ j, j < i → f j = lN (N * g / 67108864 ^ j % 67108864)) ∧ ∀ j, i ≤ j → j < u → f j = lN (N / 67108864 ^ j % 67108864)
def cmpI (a b : Nat) : Int32 := if a < b then -1 else if a = b then nI 0 else nI 1
theorem cmpI_lt {a b : Nat} (h : a < b) : cmpI a b = -1 := by unfold cmpI; rw [if_pos h]
theorem cmpI_gt {a b : Nat} (h : b < a) : cmpI a b = nI 1 := by unfold cmpI; rw [if_neg (by omega), if_neg (by omega)]
theorem cmpI_eq {a b : Nat} (h : a = b) : cmpI a b = nI 0 := by unfold cmpI; rw [if_neg (by omega), if_pos h]
theorem b_pos (i : Nat) : 0 < 67108864 ^ i := Nat.pow_pos (by decide)
theorem b_26 : (2 : Nat) ^ 26 = 67108864 := rfl
theorem bdiv (M i : Nat) : M / 67108864 ^ i / 2 ^ 26 = M / 67108864 ^ (i + 1) := by
  rw [b_26, Nat.div_div_eq_div_mul, Nat.pow_succ]
theorem b_zero {M i : Nat} (h : M / 67108864 ^ i ≤ 0) : M < 67108864 ^ i := by
  rcases Nat.lt_or_ge M (67108864 ^ i) with h1 | h1
  · exact h1
  · have := Nat.div_pos h1 (b_pos i)
    omega
theorem b_le {M i : Nat} (h : 0 < M / 67108864 ^ i) : 67108864 ^ i ≤ M := by
  rcases Nat.lt_or_ge M (67108864 ^ i) with h1 | h1
  · rw [Nat.div_eq_of_lt h1] at h; omega
  · exact h1
theorem b_split (N i : Nat) : N % 67108864 ^ (i + 1) = N % 67108864 ^ i + 67108864 ^ i * (N / 67108864 ^ i % 67108864) := by
  rw [Nat.pow_succ, Nat.mod_mul]
theorem b_step (N g i : Nat) : N / 67108864 ^ i % 67108864 * g + N % 67108864 ^ i * g / 67108864 ^ i = N % 67108864 ^ (i + 1) * g / 67108864 ^ i := by
  rw [b_split, Nat.add_mul, Nat.mul_assoc, Nat.add_mul_div_left _ _ (b_pos i), Nat.add_comm]
theorem b_low (N g i : Nat) : N % 67108864 ^ (i + 1) * g / 67108864 ^ i % 67108864 = N * g / 67108864 ^ i % 67108864 := by
  have e : N * g = N % 67108864 ^ (i + 1) * g + 67108864 ^ i * (67108864 * (N / 67108864 ^ (i + 1) * g)) := by
    have h := Nat.mod_add_div N (67108864 ^ (i + 1))
    calc N * g = (N % 67108864 ^ (i + 1) + 67108864 ^ (i + 1) * (N / 67108864 ^ (i + 1))) * g := by rw [h]
      _ = _ := by rw [Nat.add_mul, Nat.pow_succ]; simp only [Nat.mul_assoc]
  rw [e, Nat.add_mul_div_left _ _ (b_pos i), Nat.add_mul_mod_self_left]
theorem b_lt (N g i : Nat) (hg : g < 2 ^ 36) : N % 67108864 ^ (i + 1) * g / 67108864 ^ i < 2 ^ 62 := by
  rw [Nat.div_lt_iff_lt_mul (b_pos i)]
  have h1 : N % 67108864 ^ (i + 1) < 67108864 ^ (i + 1) := Nat.mod_lt _ (b_pos _)
  have h2 : N % 67108864 ^ (i + 1) * g ≤ N % 67108864 ^ (i + 1) * 2 ^ 36 := Nat.mul_le_mul_left _ (Nat.le_of_lt hg)
  have h3 : N % 67108864 ^ (i + 1) * 2 ^ 36 < 67108864 ^ (i + 1) * 2 ^ 36 := Nat.mul_lt_mul_of_pos_right h1 (by decide)
  have h4 : 67108864 ^ (i + 1) * 2 ^ 36 = 2 ^ 62 * 67108864 ^ i := by
    rw [Nat.pow_succ, Nat.mul_assoc, Nat.mul_comm]
  omega
theorem b_lt1 (N g i : Nat) (hg : g < 2 ^ 36) : N / 67108864 ^ i % 67108864 * g < 2 ^ 62 := by
  have h := b_lt N g i hg
  rw [← b_step] at h
  exact Nat.lt_of_le_of_lt (Nat.le_add_right _ _) h
theorem bigL_snoc {f : Nat → Int64} {i M : Nat} (h : bigL f i M) : bigL (vp_updL f i (lN (M / 67108864 ^ i % 67108864))) (i + 1) M := by
  intro j hj
  by_cases e : j = i
  · subst e; exact pk_uLs
  · rw [pk_uLn e]; exact h j (by omega)
theorem bigM_snoc {f : Nat → Int64} {i u N g : Nat} (h : bigM f i u N g) : bigM (vp_updL f i (lN (N * g / 67108864 ^ i % 67108864))) (i + 1) u N g := by
  refine ⟨fun j hj => ?_, fun j h1 h2 => ?_⟩
  · by_cases e : j = i
    · subst e; exact pk_uLs
    · rw [pk_uLn e]; exact h.1 j (by omega)
  · rw [pk_uLn (by omega)]; exact h.2 j (by omega) h2
theorem bigN_prod {u N g : Nat} (h : bigN u N) (hg : 1 ≤ g) : u = 0 ∨ 67108864 ^ (u - 1) ≤ N * g := by
  rcases h.2 with h1 | h1
  · exact Or.inl h1
  · exact Or.inr (Nat.le_trans h1 (Nat.le_mul_of_pos_right _ hg))
theorem bigN_carry {u N g : Nat} (h : bigN u N) (hg : g < 2 ^ 36) : N * g / 67108864 ^ u < 2 ^ 63 := by
  rw [Nat.div_lt_iff_lt_mul (b_pos u)]
  have h2 : N * g ≤ N * 2 ^ 36 := Nat.mul_le_mul_left _ (Nat.le_of_lt hg)
  have h3 : N * 2 ^ 36 < 67108864 ^ u * 2 ^ 36 := Nat.mul_lt_mul_of_pos_right h.1 (by decide)
  have h4 : 67108864 ^ u * 2 ^ 36 ≤ 2 ^ 63 * 67108864 ^ u := by rw [Nat.mul_comm]; exact Nat.mul_le_mul_right _ (by decide)
  omega
theorem bigN_lt {u v N K : Nat} (h1 : bigN u N) (h2 : bigN v K) (h : u < v) : N < K := by
  rcases h2.2 with h3 | h3
  · omega
  · exact Nat.lt_of_lt_of_le h1.1 (Nat.le_trans (Nat.pow_le_pow_right (by decide) (by omega)) h3)
theorem bigN_pos {u N : Nat} (h : bigN u N) (h1 : 1 ≤ N) : 1 ≤ u := by
  rcases Nat.eq_zero_or_pos u with h2 | h2
  · subst h2; have := h.1; simp at this; omega
  · exact h2
theorem b_top {N i : Nat} (hi : 1 ≤ i) : N / 67108864 ^ (i - 1) = 67108864 * (N / 67108864 ^ i) + N / 67108864 ^ (i - 1) % 67108864 := by
  obtain ⟨k, rfl⟩ : ∃ k, i = k + 1 := ⟨i - 1, by omega⟩
  have e : N / 67108864 ^ (k + 1) = N / 67108864 ^ k / 67108864 := by
    rw [Nat.div_div_eq_div_mul, Nat.pow_succ]
  rw [Nat.add_sub_cancel, e]; exact (Nat.div_add_mod _ _).symm
theorem b_cmp {N K i : Nat} (h : N / 67108864 ^ i < K / 67108864 ^ i) : N < K := by
  rcases Nat.lt_or_ge N K with h1 | h1
  · exact h1
  · have := Nat.div_le_div_right (c := 67108864 ^ i) h1
    omega
theorem z_min (a b : Nat) (ha : a < 2 ^ 31) (hb : b < 2 ^ 31) : (if nI b < nI a then nI b else nI a) = nI (min a b) := by
  by_cases h : b < a
  · rw [if_pos (nI_lt h ha), Nat.min_eq_right (by omega)]
  · rw [if_neg (fun q => h ((nI_ltI hb ha).mp q)), Nat.min_eq_left (by omega)]
theorem z_max (a b : Nat) (ha : a < 2 ^ 31) (hb : b < 2 ^ 31) : (if nI a < nI b then nI b else nI a) = nI (max a b) := by
  by_cases h : a < b
  · rw [if_pos (nI_lt h hb), Nat.max_eq_right (by omega)]
  · rw [if_neg (fun q => h ((nI_ltI ha hb).mp q)), Nat.max_eq_left (by omega)]
end
section
theorem z_m1 (x : Int32) : x + Int32.ofInt (-1) = x - nI 1 := by
  rw [Int32.sub_eq_add_neg]; rfl
theorem d_fac (o : Nat) : 1 * 2 ^ (min o 26) < 2 ^ 36 := by
  have := Nat.pow_le_pow_right (n := 2) (by decide) (Nat.min_le_right o 26)
  omega
theorem d_pow (N t o : Nat) (h : o ≤ t) : N * 2 ^ (t - o) * (1 * 2 ^ (min o 26)) = N * 2 ^ (t - (o - 26)) := by
  rw [Nat.one_mul, Nat.mul_assoc, ← Nat.pow_add]
  congr 2
  omega
theorem d_sub (o : Nat) (h : o - 26 = 0) : nI o - nI 26 ≤ 0 := by
  have h1 : o < 27 := by omega
  revert h1
  have : ∀ o, o < 27 → nI o - nI 26 ≤ 0 := by decide +kernel
  exact this o
theorem nX0_append_0 : ∀ w ∈ wsX00, w ∈ wsX0_append := by decide +kernel
abbrev rm_X0_append : Room := { frames := 0, cells := 0, slots := 0, locals := 0 }
set_option maxHeartbeats 4000000 in
set_option maxRecDepth 100000 in
/-- append: the digits of what is open -/
theorem ct_X0_append (l : Launch) (D : va_G) (cI cJ cD : ClassId) (h_ : Nat) (dd_ : Nat) (u_ : Nat) (M_ : Nat) (f_ : Nat → Int64) (sz : Nat) (hu : u_ ≤ 40) (hM : M_ < 67108864 ^ 40) (hL : bigL f_ u_ M_) (hc : M_ / 67108864 ^ u_ < 2 ^ 63) (hn : u_ = 0 ∨ 67108864 ^ (u_ - 1) ≤ M_) : Met l yX0_append wsX0_append rm_X0_append (zP D (ty3 cI cJ cD) [.ref h_, .long (lN (M_ / 67108864 ^ u_))] sz [(h_, .inr (0, [.ref dd_, .int (nI u_)])), (dd_, .inl (cJ, 40, .inr (.inl f_)))] zT) (va_Qv (fun (u : (Nat → Int64) × Nat) => bigL (u.1) (u.2) M_ ∧ bigN (u.2) M_ ∧ (u.2) ≤ 40) (zB D (ty3 cI cJ cD) (fun (u : (Nat → Int64) × Nat) => [(h_, .inr (0, [.ref dd_, .int (nI (u.2))])), (dd_, .inl (cJ, 40, .inr (.inl (u.1))))]) (va_A [(h_, .inr (0, [.ref dd_, .int (nI u_)])), (dd_, .inl (cJ, 40, .inr (.inl f_)))] sz)) (va_A [(h_, .inr (0, [.ref dd_, .int (nI u_)])), (dd_, .inl (cJ, 40, .inr (.inl f_)))] sz)) 0 0 (va_A [(h_, .inr (0, [.ref dd_, .int (nI u_)])), (dd_, .inl (cJ, 40, .inr (.inl f_)))] sz) := by
  refine zMet (Qf := fun A => va_Qv (fun (u : (Nat → Int64) × Nat) => bigL (u.1) (u.2) M_ ∧ bigN (u.2) M_ ∧ (u.2) ≤ 40) (zB D (ty3 cI cJ cD) (fun (u : (Nat → Int64) × Nat) => [(h_, .inr (0, [.ref dd_, .int (nI (u.2))])), (dd_, .inl (cJ, 40, .inr (.inl (u.1))))]) A) A) (cc := cX0_append) (maxL := 6) (ret := none) (by decide) rfl (Nat.le_of_ble_eq_true rfl) ?_
  intro p e s m args below meth c A ls Q H hargs hQ hHe hx hb hr hml hown hts hlocks hin hP hK hD hA hS hE hAe hl
  have hl : lv_has ls 6 [(0, .ref h_), (1, .long (lN (M_ / 67108864 ^ u_)))] := hl
  have lp_8 : ∀ (n_ : Nat) (i : Nat) (f : Nat → Int64) (H : Heap) (locs : List Loc) (ls : Array Slot), 40 - i < n_ → i ≤ 40 → bigL f i M_ → M_ / 67108864 ^ i < 2 ^ 63 → i = 0 ∨ 67108864 ^ (i - 1) ≤ M_ →  va_P D cl5 [(h_, .inr (0, [.ref dd_, .int (nI i)])), (dd_, .inl (cJ, 40, .inr (.inl f)))] H → va_D A [(h_, .inr (0, [.ref dd_, .int (nI i)])), (dd_, .inl (cJ, 40, .inr (.inl f)))] → va_S A s.heap H locs → lv_has ls 6 [(0, .ref h_), (3, .long (lN (M_ / 67108864 ^ i))), (5, .int (nI i))] → W p l e rm_X0_append s m args below meth c H locs 0 0 Q (F0 m 8 ls []) := by
    intro n_
    induction n_ with
    | zero => intro i f H locs ls hm; exact absurd hm (Nat.not_lt_zero _)
    | succ n_ ih =>
      intro i f H locs ls hm  h1 h2 h3 h4 hP hD hS hl
      refine lv_lload_n hx hb dX0_append_8 rfl (lv_at hl 1 rfl) ?_
      refine lv_lconst (v := lN 0) hx hb dX0_append_9 rfl ?_
      refine zl_le (tgt := 55) hx hb dX0_append_10 dX0_append_11 (by decide) (fun c_11 => ?_) (fun c_11 => ?_)
      · skip
        have c_11 := zjl_le (a := M_ / 67108864 ^ i) (b := 0) (by omega) (by omega) c_11
        subst hQ
        exact ze_v hx hb hr hlocks (f, i) (⟨h2, ⟨b_zero c_11, h4⟩, h1⟩) hP hK hD hS dX0_append_55
      · skip
        have c_11 := zjl_nle (a := M_ / 67108864 ^ i) (b := 0) (by omega) (by omega) c_11
        refine lv_iload hx hb dX0_append_14 (lv_at hl 2 rfl) ?_
        refine lv_aload_n hx hb dX0_append_16 rfl (lv_at hl 0 rfl) ?_
        refine va_get (D := D) (ci := 0) (v := .ref dd_) (C := RX0) (T := TX0) (N := 2) hx hb hts nX0_append_0 hown hK hP 0 rfl rfl 0 (by decide) (zh (w := .fieldLink RX0 9 "FretRoots$BigNumbe\x72" "digits" "[J") hts 2 rfl) (fun _ h9 => h9) rfl dX0_append_17 ?_
        refine va_alen hx hb hK hP 1 1 rfl (ty := .long) rfl (v := nI 40) rfl dX0_append_20 ?_
        refine lv_icmp_ge (tgt := 55) hx hb dX0_append_21 (by decide) (fun c_21 => ?_) (fun c_21 => ?_)
        · skip
          have c_21 := zji_le (a := 40) (b := i) (by omega) (by omega) c_21
          exact absurd c_11 (Nat.not_lt.mpr (by rw [show i = 40 by omega, Nat.div_eq_of_lt hM]; exact Nat.le_refl 0))
        · skip
          have c_21 := zji_nle (a := 40) (b := i) (by omega) (by omega) c_21
          refine lv_aload_n hx hb dX0_append_24 rfl (lv_at hl 0 rfl) ?_
          refine va_get (D := D) (ci := 0) (v := .ref dd_) (C := RX0) (T := TX0) (N := 2) hx hb hts nX0_append_0 hown hK hP 0 rfl rfl 0 (by decide) (zh (w := .fieldLink RX0 9 "FretRoots$BigNumbe\x72" "digits" "[J") hts 2 rfl) (fun _ h9 => h9) rfl dX0_append_25 ?_
          refine lv_iload hx hb dX0_append_28 (lv_at hl 2 rfl) ?_
          refine lv_lload_n hx hb dX0_append_30 rfl (lv_at hl 1 rfl) ?_
          refine lv_ldc2 (v := 67108863) hx hb hown (zh (w := .constantLong RX0 30 (67108863)) hts 3 rfl) dX0_append_31 ?_
          refine zl_ (y := lN 67108863) rfl ?_
          refine lv_land hx hb dX0_append_34 ?_
          refine zl_ (y := lN (M_ / 67108864 ^ i % 67108864)) (z_and26 (by omega)) ?_
          refine z_last (j := i) hx hb hK hP hD hS 1 1 rfl rfl (by omega) (by omega) dX0_append_35 (fun H locs hP hD hS => ?_)
          obtain ⟨fA, efA⟩ : ∃ f9, f9 = vp_updL f i (lN (M_ / 67108864 ^ i % 67108864)) := ⟨_, rfl⟩
          have hP : va_P D cl5 [(h_, .inr (0, [.ref dd_, .int (nI i)])), (dd_, .inl (cJ, 40, .inr (.inl fA)))] H := by rw [efA]; exact hP
          have hD : va_D A [(h_, .inr (0, [.ref dd_, .int (nI i)])), (dd_, .inl (cJ, 40, .inr (.inl fA)))] := by rw [efA]; exact hD
          refine lv_lload_n hx hb dX0_append_36 rfl (lv_at hl 1 rfl) ?_
          refine lv_bipush (v := nI 26) hx hb dX0_append_37 (by decide) ?_
          refine lv_lshr (v := lN ((M_ / 67108864 ^ i) / 2 ^ 26)) hx hb dX0_append_39 (z_shr (by omega) (by omega)) ?_
          refine zl_ (y := lN (M_ / 67108864 ^ (i + 1))) (congrArg lN (bdiv M_ i)) ?_
          refine lv_lstore_n (lv' := [(3, .long (lN (M_ / 67108864 ^ (i + 1)))), (0, .ref h_), (5, .int (nI i))]) hx hb dX0_append_40 rfl hl (by decide) rfl (fun ls hl => ?_)
          refine lv_aload_n hx hb dX0_append_41 rfl (lv_at hl 1 rfl) ?_
          refine lv_iload hx hb dX0_append_42 (lv_at hl 2 rfl) ?_
          refine lv_iconst (v := nI 1) hx hb dX0_append_44 (by decide) ?_
          refine lv_iadd hx hb dX0_append_45 ?_
          refine zi_ (y := nI (i + 1)) (nI_add i 1) ?_
          refine va_put (D := D) (ci := 0) (v := .int (nI (i + 1))) (ty := .int) (C := RX0) (T := TX0) (N := 2) hx hb hts nX0_append_0 tyX0 tyX0_ok nmX0 hown hK hP hD hS 0 rfl rfl 1 (by decide) (zh (w := .fieldLink RX0 13 "FretRoots$BigNumbe\x72" "used" "I") hts 1 rfl) (fun _ h9 => h9) rfl (by decide +kernel) rfl rfl (Nat.le_of_ble_eq_true rfl) dX0_append_46 (fun H locs hP hD hS => ?_)
          have hP : va_P D cl5 [(h_, .inr (0, [.ref dd_, .int (nI (i + 1))])), (dd_, .inl (cJ, 40, .inr (.inl fA)))] H := hP
          have hD : va_D A [(h_, .inr (0, [.ref dd_, .int (nI (i + 1))])), (dd_, .inl (cJ, 40, .inr (.inl fA)))] := hD
          refine lv_iinc (v := nI (i + 1)) (lv' := [(5, .int (nI (i + 1))), (3, .long (lN (M_ / 67108864 ^ (i + 1)))), (0, .ref h_)]) hx hb dX0_append_49 hl (k := 2) rfl (z_inc i 1) (by decide) rfl (fun ls hl => ?_)
          refine lv_goto (tgt := 8) hx hb dX0_append_52 (by decide) ?_
          exact ih (i + 1) fA _ _ _ (by omega) (by omega) (by rw [efA]; exact bigL_snoc h2) (Nat.lt_of_le_of_lt (by rw [← bdiv]; exact Nat.div_le_self _ _) h3) (Or.inr (b_le c_11)) hP hD hS (lv_sub hl [2, 1, 0] rfl)
  refine lv_lload_n hx hb dX0_append_0 rfl (lv_at hl 1 rfl) ?_
  refine lv_lstore_n (lv' := [(3, .long (lN (M_ / 67108864 ^ u_))), (0, .ref h_), (1, .long (lN (M_ / 67108864 ^ u_)))]) hx hb dX0_append_1 rfl hl (by decide) rfl (fun ls hl => ?_)
  refine lv_aload_n hx hb dX0_append_2 rfl (lv_at hl 1 rfl) ?_
  refine va_get (D := D) (ci := 0) (v := .int (nI u_)) (C := RX0) (T := TX0) (N := 2) hx hb hts nX0_append_0 hown hK hP 0 rfl rfl 1 (by decide) (zh (w := .fieldLink RX0 13 "FretRoots$BigNumbe\x72" "used" "I") hts 1 rfl) (fun _ h9 => h9) rfl dX0_append_3 ?_
  refine lv_istore (lv' := [(5, .int (nI u_)), (3, .long (lN (M_ / 67108864 ^ u_))), (0, .ref h_), (1, .long (lN (M_ / 67108864 ^ u_)))]) hx hb dX0_append_6 hl (by decide) rfl (fun ls hl => ?_)
  exact lp_8 ((40 - u_) + 1) u_ f_ _ _ _ (Nat.lt_succ_self _) hu hL hc hn hP hD hS (lv_sub hl [2, 1, 0] rfl)
theorem nX0_multiply_0 : ∀ w ∈ wsX00, w ∈ wsX0_multiply := by decide +kernel
abbrev rm_X0_multiply : Room := { frames := 1, cells := 0, slots := 0, locals := 25 }
set_option maxHeartbeats 4000000 in
set_option maxRecDepth 100000 in
/-- multiply: times g -/
theorem ct_X0_multiply (l : Launch) (D : va_G) (cI cJ cD : ClassId) (h_ : Nat) (dd_ : Nat) (u_ : Nat) (N_ : Nat) (g_ : Nat) (f_ : Nat → Int64) (sz : Nat) (hu : u_ ≤ 40) (hL : bigL f_ u_ N_) (hN : bigN u_ N_) (hg1 : 1 ≤ g_) (hg : g_ < 2 ^ 36) (hM : N_ * g_ < 67108864 ^ 40) : Met l yX0_multiply wsX0_multiply rm_X0_multiply (zP D (ty3 cI cJ cD) [.ref h_, .long (lN g_)] sz [(h_, .inr (0, [.ref dd_, .int (nI u_)])), (dd_, .inl (cJ, 40, .inr (.inl f_)))] zT) (va_Qv (fun (u : (Nat → Int64) × Nat) => bigL (u.1) (u.2) (N_ * g_) ∧ bigN (u.2) (N_ * g_) ∧ (u.2) ≤ 40) (zB D (ty3 cI cJ cD) (fun (u : (Nat → Int64) × Nat) => [(h_, .inr (0, [.ref dd_, .int (nI (u.2))])), (dd_, .inl (cJ, 40, .inr (.inl (u.1))))]) (va_A [(h_, .inr (0, [.ref dd_, .int (nI u_)])), (dd_, .inl (cJ, 40, .inr (.inl f_)))] sz)) (va_A [(h_, .inr (0, [.ref dd_, .int (nI u_)])), (dd_, .inl (cJ, 40, .inr (.inl f_)))] sz)) 0 0 (va_A [(h_, .inr (0, [.ref dd_, .int (nI u_)])), (dd_, .inl (cJ, 40, .inr (.inl f_)))] sz) := by
  refine zMet (Qf := fun A => va_Qv (fun (u : (Nat → Int64) × Nat) => bigL (u.1) (u.2) (N_ * g_) ∧ bigN (u.2) (N_ * g_) ∧ (u.2) ≤ 40) (zB D (ty3 cI cJ cD) (fun (u : (Nat → Int64) × Nat) => [(h_, .inr (0, [.ref dd_, .int (nI (u.2))])), (dd_, .inl (cJ, 40, .inr (.inl (u.1))))]) A) A) (cc := cX0_multiply) (maxL := 8) (ret := none) (by decide) rfl (Nat.le_of_ble_eq_true rfl) ?_
  intro p e s m args below meth c A ls Q H hargs hQ hHe hx hb hr hml hown hts hlocks hin hP hK hD hA hS hE hAe hl
  have hl : lv_has ls 8 [(0, .ref h_), (1, .long (lN g_))] := hl
  have lp_5 : ∀ (n_ : Nat) (i : Nat) (f : Nat → Int64) (H : Heap) (locs : List Loc) (ls : Array Slot), u_ - i < n_ → i ≤ u_ → bigM f i u_ N_ g_ →  va_P D cl5 [(h_, .inr (0, [.ref dd_, .int (nI u_)])), (dd_, .inl (cJ, 40, .inr (.inl f)))] H → va_D A [(h_, .inr (0, [.ref dd_, .int (nI u_)])), (dd_, .inl (cJ, 40, .inr (.inl f)))] → va_S A s.heap H locs → lv_has ls 8 [(0, .ref h_), (1, .long (lN g_)), (3, .long (lN (N_ % 67108864 ^ i * g_ / 67108864 ^ i))), (5, .int (nI i))] → W p l e rm_X0_multiply s m args below meth c H locs 0 0 Q (F0 m 5 ls []) := by
    intro n_
    induction n_ with
    | zero => intro i f H locs ls hm; exact absurd hm (Nat.not_lt_zero _)
    | succ n_ ih =>
      intro i f H locs ls hm  h1 h2 hP hD hS hl
      refine lv_iload hx hb dX0_multiply_5 (lv_at hl 3 rfl) ?_
      refine lv_aload_n hx hb dX0_multiply_7 rfl (lv_at hl 0 rfl) ?_
      refine va_get (D := D) (ci := 0) (v := .int (nI u_)) (C := RX0) (T := TX0) (N := 2) hx hb hts nX0_multiply_0 hown hK hP 0 rfl rfl 1 (by decide) (zh (w := .fieldLink RX0 13 "FretRoots$BigNumbe\x72" "used" "I") hts 1 rfl) (fun _ h9 => h9) rfl dX0_multiply_8 ?_
      refine lv_icmp_ge (tgt := 62) hx hb dX0_multiply_11 (by decide) (fun c_11 => ?_) (fun c_11 => ?_)
      · skip
        have c_11 := zji_le (a := u_) (b := i) (by omega) (by omega) c_11
        have hiu : u_ = i := by omega
        subst hiu
        refine lv_aload_n hx hb dX0_multiply_62 rfl (lv_at hl 0 rfl) ?_
        refine lv_lload_n hx hb dX0_multiply_63 rfl (lv_at hl 2 rfl) ?_
        refine zl_ (y := lN (N_ * g_ / 67108864 ^ u_)) (by rw [Nat.mod_eq_of_lt hN.1]) ?_
        refine zc_v (wc := [(h_, .inr (0, [.ref dd_, .int (nI u_)])), (dd_, .inl (cJ, 40, .inr (.inl f)))]) (wr := []) hP hD hS hA [0, 1] [] rfl rfl (by decide) (by decide) (va_runV (As := [.long (lN (N_ * g_ / 67108864 ^ u_))]) (rest := []) ⟨hx, hb, hml, hown, hts⟩ (ct_X0_append l D cI cJ cD h_ dd_ u_ (N_ * g_) f H.size hu hM h2.1 (bigN_carry hN hg) (bigN_prod hN hg1)) (cwV 1 hts gX0_multiply_X0_append rfl rfl rfl (by decide +kernel) ⟨Nat.le_of_ble_eq_true rfl, Nat.le_of_ble_eq_true rfl⟩) (zPreV (wc := [(h_, .inr (0, [.ref dd_, .int (nI u_)])), (dd_, .inl (cJ, 40, .inr (.inl f)))]) hK hP hD 0 0 rfl rfl zTb (fun _ _ _ => trivial)) rfl rfl hl.1 rfl (lv_room (Nat.le_of_ble_eq_true rfl)) dX0_multiply_64 ⟨Nat.le_of_ble_eq_true rfl, Nat.le_of_ble_eq_true rfl⟩) (fun u H locs hw hP hD hS => ?_)
        obtain ⟨f2_2, u2_3⟩ := u
        have hP : va_P D cl5 [(h_, .inr (0, [.ref dd_, .int (nI u2_3)])), (dd_, .inl (cJ, 40, .inr (.inl f2_2)))] H := hP.sub [0, 1] rfl
        have hD : va_D A [(h_, .inr (0, [.ref dd_, .int (nI u2_3)])), (dd_, .inl (cJ, 40, .inr (.inl f2_2)))] := hD.sub [0, 1] (by decide) rfl
        have hw : bigL f2_2 u2_3 (N_ * g_) ∧ bigN u2_3 (N_ * g_) ∧ u2_3 ≤ 40 := hw
        obtain ⟨hL_64, hN_64, hu_64⟩ := hw
        subst hQ
        exact ze_v hx hb hr hlocks (f2_2, u2_3) (⟨hL_64, hN_64, hu_64⟩) hP hK hD hS dX0_multiply_67
      · skip
        have c_11 := zji_nle (a := u_) (b := i) (by omega) (by omega) c_11
        refine lv_iload hx hb dX0_multiply_14 (lv_at hl 3 rfl) ?_
        refine lv_aload_n hx hb dX0_multiply_16 rfl (lv_at hl 0 rfl) ?_
        refine va_get (D := D) (ci := 0) (v := .ref dd_) (C := RX0) (T := TX0) (N := 2) hx hb hts nX0_multiply_0 hown hK hP 0 rfl rfl 0 (by decide) (zh (w := .fieldLink RX0 9 "FretRoots$BigNumbe\x72" "digits" "[J") hts 2 rfl) (fun _ h9 => h9) rfl dX0_multiply_17 ?_
        refine va_alen hx hb hK hP 1 1 rfl (ty := .long) rfl (v := nI 40) rfl dX0_multiply_20 ?_
        refine lv_icmp_ge (tgt := 62) hx hb dX0_multiply_21 (by decide) (fun c_21 => ?_) (fun c_21 => ?_)
        · skip
          have c_21 := zji_le (a := 40) (b := i) (by omega) (by omega) c_21
          omega
        · skip
          have c_21 := zji_nle (a := 40) (b := i) (by omega) (by omega) c_21
          have hb1 := b_lt1 N_ g_ i hg
          have hb2 := b_lt N_ g_ i hg
          have hb3 := b_step N_ g_ i
          refine lv_aload_n hx hb dX0_multiply_24 rfl (lv_at hl 0 rfl) ?_
          refine va_get (D := D) (ci := 0) (v := .ref dd_) (C := RX0) (T := TX0) (N := 2) hx hb hts nX0_multiply_0 hown hK hP 0 rfl rfl 0 (by decide) (zh (w := .fieldLink RX0 9 "FretRoots$BigNumbe\x72" "digits" "[J") hts 2 rfl) (fun _ h9 => h9) rfl dX0_multiply_25 ?_
          refine lv_iload hx hb dX0_multiply_28 (lv_at hl 3 rfl) ?_
          refine z_lald (j := i) hx hb hK hP 1 1 rfl rfl (by omega) (by omega) dX0_multiply_30 ?_
          refine zl_ (y := lN (N_ / 67108864 ^ i % 67108864)) (h2.2 i (Nat.le_refl _) c_11) ?_
          refine lv_lload_n hx hb dX0_multiply_31 rfl (lv_at hl 1 rfl) ?_
          refine lv_lmul hx hb dX0_multiply_32 ?_
          refine zl_ (y := lN ((N_ / 67108864 ^ i % 67108864) * g_)) (lN_mul (N_ / 67108864 ^ i % 67108864) g_) ?_
          refine lv_lload_n hx hb dX0_multiply_33 rfl (lv_at hl 2 rfl) ?_
          refine lv_ladd hx hb dX0_multiply_34 ?_
          refine zl_ (y := lN ((N_ / 67108864 ^ i % 67108864) * g_ + (N_ % 67108864 ^ i * g_ / 67108864 ^ i))) (lN_add ((N_ / 67108864 ^ i % 67108864) * g_) (N_ % 67108864 ^ i * g_ / 67108864 ^ i)) ?_
          refine zl_ (y := lN (N_ % 67108864 ^ (i + 1) * g_ / 67108864 ^ i)) (congrArg lN hb3) ?_
          refine lv_lstore (lv' := [(6, .long (lN (N_ % 67108864 ^ (i + 1) * g_ / 67108864 ^ i))), (0, .ref h_), (1, .long (lN g_)), (3, .long (lN (N_ % 67108864 ^ i * g_ / 67108864 ^ i))), (5, .int (nI i))]) hx hb dX0_multiply_35 hl (by decide) rfl (fun ls hl => ?_)
          refine lv_aload_n hx hb dX0_multiply_37 rfl (lv_at hl 1 rfl) ?_
          refine va_get (D := D) (ci := 0) (v := .ref dd_) (C := RX0) (T := TX0) (N := 2) hx hb hts nX0_multiply_0 hown hK hP 0 rfl rfl 0 (by decide) (zh (w := .fieldLink RX0 9 "FretRoots$BigNumbe\x72" "digits" "[J") hts 2 rfl) (fun _ h9 => h9) rfl dX0_multiply_38 ?_
          refine lv_iload hx hb dX0_multiply_41 (lv_at hl 4 rfl) ?_
          refine lv_lload hx hb dX0_multiply_43 (lv_at hl 0 rfl) ?_
          refine lv_ldc2 (v := 67108863) hx hb hown (zh (w := .constantLong RX0 30 (67108863)) hts 3 rfl) dX0_multiply_45 ?_
          refine zl_ (y := lN 67108863) rfl ?_
          refine lv_land hx hb dX0_multiply_48 ?_
          refine zl_ (y := lN (N_ * g_ / 67108864 ^ i % 67108864)) ((z_and26 (by omega)).trans (congrArg lN (b_low N_ g_ i))) ?_
          refine z_last (j := i) hx hb hK hP hD hS 1 1 rfl rfl (by omega) (by omega) dX0_multiply_49 (fun H locs hP hD hS => ?_)
          obtain ⟨fA, efA⟩ : ∃ f9, f9 = vp_updL f i (lN (N_ * g_ / 67108864 ^ i % 67108864)) := ⟨_, rfl⟩
          have hP : va_P D cl5 [(h_, .inr (0, [.ref dd_, .int (nI u_)])), (dd_, .inl (cJ, 40, .inr (.inl fA)))] H := by rw [efA]; exact hP
          have hD : va_D A [(h_, .inr (0, [.ref dd_, .int (nI u_)])), (dd_, .inl (cJ, 40, .inr (.inl fA)))] := by rw [efA]; exact hD
          refine lv_lload hx hb dX0_multiply_50 (lv_at hl 0 rfl) ?_
          refine lv_bipush (v := nI 26) hx hb dX0_multiply_52 (by decide) ?_
          refine lv_lshr (v := lN ((N_ % 67108864 ^ (i + 1) * g_ / 67108864 ^ i) / 2 ^ 26)) hx hb dX0_multiply_54 (z_shr (by omega) (by omega)) ?_
          refine zl_ (y := lN (N_ % 67108864 ^ (i + 1) * g_ / 67108864 ^ (i + 1))) (congrArg lN (bdiv _ i)) ?_
          refine lv_lstore_n (lv' := [(3, .long (lN (N_ % 67108864 ^ (i + 1) * g_ / 67108864 ^ (i + 1)))), (6, .long (lN (N_ % 67108864 ^ (i + 1) * g_ / 67108864 ^ i))), (0, .ref h_), (1, .long (lN g_)), (5, .int (nI i))]) hx hb dX0_multiply_55 rfl hl (by decide) rfl (fun ls hl => ?_)
          refine lv_iinc (v := nI (i + 1)) (lv' := [(5, .int (nI (i + 1))), (3, .long (lN (N_ % 67108864 ^ (i + 1) * g_ / 67108864 ^ (i + 1)))), (6, .long (lN (N_ % 67108864 ^ (i + 1) * g_ / 67108864 ^ i))), (0, .ref h_), (1, .long (lN g_))]) hx hb dX0_multiply_56 hl (k := 4) rfl (z_inc i 1) (by decide) rfl (fun ls hl => ?_)
          refine lv_goto (tgt := 5) hx hb dX0_multiply_59 (by decide) ?_
          exact ih (i + 1) fA _ _ _ (by omega) (by omega) (by rw [efA]; exact bigM_snoc h2) hP hD hS (lv_sub hl [3, 4, 1, 0] rfl)
  refine lv_lconst (v := lN 0) hx hb dX0_multiply_0 rfl ?_
  refine zl_ (y := lN (N_ % 67108864 ^ 0 * g_ / 67108864 ^ 0)) (by simp [Nat.mod_one]) ?_
  refine lv_lstore_n (lv' := [(3, .long (lN (N_ % 67108864 ^ 0 * g_ / 67108864 ^ 0))), (0, .ref h_), (1, .long (lN g_))]) hx hb dX0_multiply_1 rfl hl (by decide) rfl (fun ls hl => ?_)
  refine lv_iconst (v := nI 0) hx hb dX0_multiply_2 (by decide) ?_
  refine lv_istore (lv' := [(5, .int (nI 0)), (3, .long (lN (N_ % 67108864 ^ 0 * g_ / 67108864 ^ 0))), (0, .ref h_), (1, .long (lN g_))]) hx hb dX0_multiply_3 hl (by decide) rfl (fun ls hl => ?_)
  exact lp_5 ((u_ - 0) + 1) 0 f_ _ _ _ (Nat.lt_succ_self _) (Nat.zero_le _) (⟨fun j hj => absurd hj (Nat.not_lt_zero _), fun j _ hj => hL j hj⟩) hP hD hS (lv_sub hl [2, 3, 1, 0] rfl)
theorem nX0_setPower_0 : ∀ w ∈ wsX00, w ∈ wsX0_setPower := by decide +kernel
abbrev rm_X0_setPower : Room := { frames := 2, cells := 0, slots := 0, locals := 52 }
set_option maxHeartbeats 4000000 in
set_option maxRecDepth 100000 in
/-- setPower -/
theorem ct_X0_setPower (l : Launch) (D : va_G) (cI cJ cD : ClassId) (h_ : Nat) (dd_ : Nat) (b_ : Nat) (e_ : Nat) (w_ : Int32) (f_ : Nat → Int64) (sz : Nat) (hb1 : 1 ≤ b_) (hb2 : b_ < 2 ^ 36) (he : e_ < 2 ^ 31) (hM : b_ ^ e_ < 67108864 ^ 40) : Met l yX0_setPower wsX0_setPower rm_X0_setPower (zP D (ty3 cI cJ cD) [.ref h_, .long (lN b_), .int (nI e_)] sz [(h_, .inr (0, [.ref dd_, .int w_])), (dd_, .inl (cJ, 40, .inr (.inl f_)))] zT) (va_Qv (fun (u : (Nat → Int64) × Nat) => bigL (u.1) (u.2) (b_ ^ e_) ∧ bigN (u.2) (b_ ^ e_) ∧ (u.2) ≤ 40) (zB D (ty3 cI cJ cD) (fun (u : (Nat → Int64) × Nat) => [(h_, .inr (0, [.ref dd_, .int (nI (u.2))])), (dd_, .inl (cJ, 40, .inr (.inl (u.1))))]) (va_A [(h_, .inr (0, [.ref dd_, .int w_])), (dd_, .inl (cJ, 40, .inr (.inl f_)))] sz)) (va_A [(h_, .inr (0, [.ref dd_, .int w_])), (dd_, .inl (cJ, 40, .inr (.inl f_)))] sz)) 0 0 (va_A [(h_, .inr (0, [.ref dd_, .int w_])), (dd_, .inl (cJ, 40, .inr (.inl f_)))] sz) := by
  refine zMet (Qf := fun A => va_Qv (fun (u : (Nat → Int64) × Nat) => bigL (u.1) (u.2) (b_ ^ e_) ∧ bigN (u.2) (b_ ^ e_) ∧ (u.2) ≤ 40) (zB D (ty3 cI cJ cD) (fun (u : (Nat → Int64) × Nat) => [(h_, .inr (0, [.ref dd_, .int (nI (u.2))])), (dd_, .inl (cJ, 40, .inr (.inl (u.1))))]) A) A) (cc := cX0_setPower) (maxL := 5) (ret := none) (by decide) rfl (Nat.le_of_ble_eq_true rfl) ?_
  intro p e s m args below meth c A ls Q H hargs hQ hHe hx hb hr hml hown hts hlocks hin hP hK hD hA hS hE hAe hl
  have hl : lv_has ls 5 [(0, .ref h_), (1, .long (lN b_)), (3, .int (nI e_))] := hl
  have lp_13 : ∀ (n_ : Nat) (i : Nat) (f : Nat → Int64) (u : Nat) (H : Heap) (locs : List Loc) (ls : Array Slot), e_ - i < n_ → i ≤ e_ → bigL f u (b_ ^ i) → bigN u (b_ ^ i) → u ≤ 40 →  va_P D cl5 [(h_, .inr (0, [.ref dd_, .int (nI u)])), (dd_, .inl (cJ, 40, .inr (.inl f)))] H → va_D A [(h_, .inr (0, [.ref dd_, .int (nI u)])), (dd_, .inl (cJ, 40, .inr (.inl f)))] → va_S A s.heap H locs → lv_has ls 5 [(0, .ref h_), (1, .long (lN b_)), (3, .int (nI e_)), (4, .int (nI i))] → W p l e rm_X0_setPower s m args below meth c H locs 0 0 Q (F0 m 13 ls []) := by
    intro n_
    induction n_ with
    | zero => intro i f u H locs ls hm; exact absurd hm (Nat.not_lt_zero _)
    | succ n_ ih =>
      intro i f u H locs ls hm  h1 h2 h3 h4 hP hD hS hl
      refine lv_iload hx hb dX0_setPower_13 (lv_at hl 3 rfl) ?_
      refine lv_iload_n hx hb dX0_setPower_15 rfl (lv_at hl 2 rfl) ?_
      refine lv_icmp_ge (tgt := 30) hx hb dX0_setPower_16 (by decide) (fun c_16 => ?_) (fun c_16 => ?_)
      · skip
        have c_16 := zji_le (a := e_) (b := i) (by omega) (by omega) c_16
        have hie : e_ = i := by omega
        subst hie
        subst hQ
        exact ze_v hx hb hr hlocks (f, u) (⟨h2, h3, h4⟩) hP hK hD hS dX0_setPower_30
      · skip
        have c_16 := zji_nle (a := e_) (b := i) (by omega) (by omega) c_16
        refine lv_aload_n hx hb dX0_setPower_19 rfl (lv_at hl 0 rfl) ?_
        refine lv_lload_n hx hb dX0_setPower_20 rfl (lv_at hl 1 rfl) ?_
        refine zc_v (wc := [(h_, .inr (0, [.ref dd_, .int (nI u)])), (dd_, .inl (cJ, 40, .inr (.inl f)))]) (wr := []) hP hD hS hA [0, 1] [] rfl rfl (by decide) (by decide) (va_runV (As := [.long (lN b_)]) (rest := []) ⟨hx, hb, hml, hown, hts⟩ (ct_X0_multiply l D cI cJ cD h_ dd_ u (b_ ^ i) b_ f H.size h4 h2 h3 hb1 hb2 (Nat.lt_of_le_of_lt (Nat.pow_le_pow_right hb1 (show i + 1 ≤ e_ by omega)) hM)) (cwV 1 hts gX0_setPower_X0_multiply rfl rfl rfl (by decide +kernel) ⟨Nat.le_of_ble_eq_true rfl, Nat.le_of_ble_eq_true rfl⟩) (zPreV (wc := [(h_, .inr (0, [.ref dd_, .int (nI u)])), (dd_, .inl (cJ, 40, .inr (.inl f)))]) hK hP hD 0 0 rfl rfl zTb (fun _ _ _ => trivial)) rfl rfl hl.1 rfl (lv_room (Nat.le_of_ble_eq_true rfl)) dX0_setPower_21 ⟨Nat.le_of_ble_eq_true rfl, Nat.le_of_ble_eq_true rfl⟩) (fun u H locs hw hP hD hS => ?_)
        obtain ⟨f2_2, u2_3⟩ := u
        have hP : va_P D cl5 [(h_, .inr (0, [.ref dd_, .int (nI u2_3)])), (dd_, .inl (cJ, 40, .inr (.inl f2_2)))] H := hP.sub [0, 1] rfl
        have hD : va_D A [(h_, .inr (0, [.ref dd_, .int (nI u2_3)])), (dd_, .inl (cJ, 40, .inr (.inl f2_2)))] := hD.sub [0, 1] (by decide) rfl
        have hw : bigL f2_2 u2_3 ((b_ ^ i) * b_) ∧ bigN u2_3 ((b_ ^ i) * b_) ∧ u2_3 ≤ 40 := hw
        obtain ⟨hL_21, hN_21, hu_21⟩ := hw
        refine lv_iinc (v := nI (i + 1)) (lv' := [(4, .int (nI (i + 1))), (0, .ref h_), (1, .long (lN b_)), (3, .int (nI e_))]) hx hb dX0_setPower_24 hl (k := 3) rfl (z_inc i 1) (by decide) rfl (fun ls hl => ?_)
        refine lv_goto (tgt := 13) hx hb dX0_setPower_27 (by decide) ?_
        exact ih (i + 1) f2_2 u2_3 _ _ _ (by omega) (by omega) hL_21 hN_21 hu_21 hP hD hS (lv_sub hl [1, 2, 3, 0] rfl)
  refine lv_aload_n hx hb dX0_setPower_0 rfl (lv_at hl 0 rfl) ?_
  refine lv_iconst (v := nI 0) hx hb dX0_setPower_1 (by decide) ?_
  refine va_put (D := D) (ci := 0) (v := .int (nI 0)) (ty := .int) (C := RX0) (T := TX0) (N := 2) hx hb hts nX0_setPower_0 tyX0 tyX0_ok nmX0 hown hK hP hD hS 0 rfl rfl 1 (by decide) (zh (w := .fieldLink RX0 13 "FretRoots$BigNumbe\x72" "used" "I") hts 1 rfl) (fun _ h9 => h9) rfl (by decide +kernel) rfl rfl (Nat.le_of_ble_eq_true rfl) dX0_setPower_2 (fun H locs hP hD hS => ?_)
  have hP : va_P D cl5 [(h_, .inr (0, [.ref dd_, .int (nI 0)])), (dd_, .inl (cJ, 40, .inr (.inl f_)))] H := hP
  have hD : va_D A [(h_, .inr (0, [.ref dd_, .int (nI 0)])), (dd_, .inl (cJ, 40, .inr (.inl f_)))] := hD
  refine lv_aload_n hx hb dX0_setPower_5 rfl (lv_at hl 0 rfl) ?_
  refine lv_lconst (v := lN 1) hx hb dX0_setPower_6 rfl ?_
  refine zl_ (y := lN (1 / 67108864 ^ 0)) (rfl) ?_
  refine zc_v (wc := [(h_, .inr (0, [.ref dd_, .int (nI 0)])), (dd_, .inl (cJ, 40, .inr (.inl f_)))]) (wr := []) hP hD hS hA [0, 1] [] rfl rfl (by decide) (by decide) (va_runV (As := [.long (lN (1 / 67108864 ^ 0))]) (rest := []) ⟨hx, hb, hml, hown, hts⟩ (ct_X0_append l D cI cJ cD h_ dd_ 0 1 f_ H.size (Nat.zero_le _) (by decide) (fun j h => absurd h (Nat.not_lt_zero _)) (by decide) (Or.inl rfl)) (cwV 1 hts gX0_setPower_X0_append rfl rfl rfl (by decide +kernel) ⟨Nat.le_of_ble_eq_true rfl, Nat.le_of_ble_eq_true rfl⟩) (zPreV (wc := [(h_, .inr (0, [.ref dd_, .int (nI 0)])), (dd_, .inl (cJ, 40, .inr (.inl f_)))]) hK hP hD 0 0 rfl rfl zTb (fun _ _ _ => trivial)) rfl rfl hl.1 rfl (lv_room (Nat.le_of_ble_eq_true rfl)) dX0_setPower_7 ⟨Nat.le_of_ble_eq_true rfl, Nat.le_of_ble_eq_true rfl⟩) (fun u H locs hw hP hD hS => ?_)
  obtain ⟨f2_5, u2_6⟩ := u
  have hP : va_P D cl5 [(h_, .inr (0, [.ref dd_, .int (nI u2_6)])), (dd_, .inl (cJ, 40, .inr (.inl f2_5)))] H := hP.sub [0, 1] rfl
  have hD : va_D A [(h_, .inr (0, [.ref dd_, .int (nI u2_6)])), (dd_, .inl (cJ, 40, .inr (.inl f2_5)))] := hD.sub [0, 1] (by decide) rfl
  have hw : bigL f2_5 u2_6 1 ∧ bigN u2_6 1 ∧ u2_6 ≤ 40 := hw
  obtain ⟨hL_7, hN_7, hu_7⟩ := hw
  refine lv_iconst (v := nI 0) hx hb dX0_setPower_10 (by decide) ?_
  refine lv_istore (lv' := [(4, .int (nI 0)), (0, .ref h_), (1, .long (lN b_)), (3, .int (nI e_))]) hx hb dX0_setPower_11 hl (by decide) rfl (fun ls hl => ?_)
  exact lp_13 ((e_ - 0) + 1) 0 f2_5 u2_6 _ _ _ (Nat.lt_succ_self _) (Nat.zero_le _) hL_7 hN_7 hu_7 hP hD hS (lv_sub hl [1, 2, 3, 0] rfl)
abbrev rm_X0_doubleTimes : Room := { frames := 2, cells := 0, slots := 0, locals := 52 }
set_option maxHeartbeats 4000000 in
set_option maxRecDepth 100000 in
/-- doubleTimes -/
theorem ct_X0_doubleTimes (l : Launch) (D : va_G) (cI cJ cD : ClassId) (h_ : Nat) (dd_ : Nat) (u_ : Nat) (N_ : Nat) (t_ : Nat) (f_ : Nat → Int64) (sz : Nat) (hu : u_ ≤ 40) (hL : bigL f_ u_ N_) (hN : bigN u_ N_) (ht : t_ < 2 ^ 31) (hM : N_ * 2 ^ t_ < 67108864 ^ 40) : Met l yX0_doubleTimes wsX0_doubleTimes rm_X0_doubleTimes (zP D (ty3 cI cJ cD) [.ref h_, .int (nI t_)] sz [(h_, .inr (0, [.ref dd_, .int (nI u_)])), (dd_, .inl (cJ, 40, .inr (.inl f_)))] zT) (va_Qv (fun (u : (Nat → Int64) × Nat) => bigL (u.1) (u.2) (N_ * 2 ^ t_) ∧ bigN (u.2) (N_ * 2 ^ t_) ∧ (u.2) ≤ 40) (zB D (ty3 cI cJ cD) (fun (u : (Nat → Int64) × Nat) => [(h_, .inr (0, [.ref dd_, .int (nI (u.2))])), (dd_, .inl (cJ, 40, .inr (.inl (u.1))))]) (va_A [(h_, .inr (0, [.ref dd_, .int (nI u_)])), (dd_, .inl (cJ, 40, .inr (.inl f_)))] sz)) (va_A [(h_, .inr (0, [.ref dd_, .int (nI u_)])), (dd_, .inl (cJ, 40, .inr (.inl f_)))] sz)) 0 0 (va_A [(h_, .inr (0, [.ref dd_, .int (nI u_)])), (dd_, .inl (cJ, 40, .inr (.inl f_)))] sz) := by
  refine zMet (Qf := fun A => va_Qv (fun (u : (Nat → Int64) × Nat) => bigL (u.1) (u.2) (N_ * 2 ^ t_) ∧ bigN (u.2) (N_ * 2 ^ t_) ∧ (u.2) ≤ 40) (zB D (ty3 cI cJ cD) (fun (u : (Nat → Int64) × Nat) => [(h_, .inr (0, [.ref dd_, .int (nI (u.2))])), (dd_, .inl (cJ, 40, .inr (.inl (u.1))))]) A) A) (cc := cX0_doubleTimes) (maxL := 3) (ret := none) (by decide) rfl (Nat.le_of_ble_eq_true rfl) ?_
  intro p e s m args below meth c A ls Q H hargs hQ hHe hx hb hr hml hown hts hlocks hin hP hK hD hA hS hE hAe hl
  have hl : lv_has ls 3 [(0, .ref h_), (1, .int (nI t_))] := hl
  have lp_2 : ∀ (n_ : Nat) (o : Nat) (x : Int32) (f : Nat → Int64) (u : Nat) (H : Heap) (locs : List Loc) (ls : Array Slot), o < n_ → o ≤ t_ → (0 < o → x = nI o) → (o = 0 → x ≤ 0) → bigL f u (N_ * 2 ^ (t_ - o)) → bigN u (N_ * 2 ^ (t_ - o)) → u ≤ 40 →  va_P D cl5 [(h_, .inr (0, [.ref dd_, .int (nI u)])), (dd_, .inl (cJ, 40, .inr (.inl f)))] H → va_D A [(h_, .inr (0, [.ref dd_, .int (nI u)])), (dd_, .inl (cJ, 40, .inr (.inl f)))] → va_S A s.heap H locs → lv_has ls 3 [(0, .ref h_), (2, .int x)] → W p l e rm_X0_doubleTimes s m args below meth c H locs 0 0 Q (F0 m 2 ls []) := by
    intro n_
    induction n_ with
    | zero => intro o x f u H locs ls hm; exact absurd hm (Nat.not_lt_zero _)
    | succ n_ ih =>
      intro o x f u H locs ls hm  h0 hx1 hx2 h2 h3 h4 hP hD hS hl
      refine lv_iload_n hx hb dX0_doubleTimes_2 rfl (lv_at hl 1 rfl) ?_
      refine lv_if_le (tgt := 26) hx hb dX0_doubleTimes_3 (by decide) (fun c_3 => ?_) (fun c_3 => ?_)
      · skip
        have ho : o = 0 := Nat.eq_zero_of_not_pos (fun q => absurd c_3 (by rw [hx1 q]; exact nI_nle q (by omega)))
        subst ho
        subst hQ
        exact ze_v hx hb hr hlocks (f, u) (⟨h2, h3, h4⟩) hP hK hD hS dX0_doubleTimes_26
      · skip
        have ho : 0 < o := Nat.pos_of_ne_zero (fun q => c_3 (hx2 q))
        have ex := hx1 ho
        refine lv_aload_n hx hb dX0_doubleTimes_6 rfl (lv_at hl 0 rfl) ?_
        refine lv_lconst (v := lN 1) hx hb dX0_doubleTimes_7 rfl ?_
        refine lv_iload_n hx hb dX0_doubleTimes_8 rfl (lv_at hl 1 rfl) ?_
        refine zi_ (y := nI o) (ex) ?_
        refine lv_bipush (v := nI 26) hx hb dX0_doubleTimes_9 (by decide) ?_
        refine va_mmin hx hb (hml.trans hl.1.symm) hown (zh (w := .methodLink RX0 24 Lib.Math.min.name) hts 1 rfl) (zh (w := .static Lib.Math.min.name) hts 2 rfl) (zh (w := .initialized "java/lang/Math") hts 3 rfl) (zh (w := .code Lib.Math.min.name Lib.Math.min.code 2 (some .int)) hts 4 rfl) (Nat.le_of_ble_eq_true rfl) (Nat.le_of_ble_eq_true rfl) (Nat.le_of_ble_eq_true rfl) (Nat.le_of_ble_eq_true rfl) dX0_doubleTimes_11 ?_
        refine zi_ (y := nI (min o 26)) (z_min o 26 (by omega) (by decide)) ?_
        refine lv_lshl (v := lN (1 * 2 ^ (min o 26))) hx hb dX0_doubleTimes_14 (z_shl 1 (by omega)) ?_
        refine zc_v (wc := [(h_, .inr (0, [.ref dd_, .int (nI u)])), (dd_, .inl (cJ, 40, .inr (.inl f)))]) (wr := []) hP hD hS hA [0, 1] [] rfl rfl (by decide) (by decide) (va_runV (As := [.long (lN (1 * 2 ^ (min o 26)))]) (rest := []) ⟨hx, hb, hml, hown, hts⟩ (ct_X0_multiply l D cI cJ cD h_ dd_ u (N_ * 2 ^ (t_ - o)) (1 * 2 ^ (min o 26)) f H.size h4 h2 h3 (by rw [Nat.one_mul]; exact Nat.pow_pos (by decide)) (d_fac o) (by rw [d_pow N_ t_ o h0]; exact Nat.lt_of_le_of_lt (Nat.mul_le_mul_left _ (Nat.pow_le_pow_right (by decide) (by omega))) hM)) (cwV 1 hts gX0_doubleTimes_X0_multiply rfl rfl rfl (by decide +kernel) ⟨Nat.le_of_ble_eq_true rfl, Nat.le_of_ble_eq_true rfl⟩) (zPreV (wc := [(h_, .inr (0, [.ref dd_, .int (nI u)])), (dd_, .inl (cJ, 40, .inr (.inl f)))]) hK hP hD 0 0 rfl rfl zTb (fun _ _ _ => trivial)) rfl rfl hl.1 rfl (lv_room (Nat.le_of_ble_eq_true rfl)) dX0_doubleTimes_15 ⟨Nat.le_of_ble_eq_true rfl, Nat.le_of_ble_eq_true rfl⟩) (fun u H locs hw hP hD hS => ?_)
        obtain ⟨f2_2, u2_3⟩ := u
        have hP : va_P D cl5 [(h_, .inr (0, [.ref dd_, .int (nI u2_3)])), (dd_, .inl (cJ, 40, .inr (.inl f2_2)))] H := hP.sub [0, 1] rfl
        have hD : va_D A [(h_, .inr (0, [.ref dd_, .int (nI u2_3)])), (dd_, .inl (cJ, 40, .inr (.inl f2_2)))] := hD.sub [0, 1] (by decide) rfl
        have hw : bigL f2_2 u2_3 ((N_ * 2 ^ (t_ - o)) * (1 * 2 ^ (min o 26))) ∧ bigN u2_3 ((N_ * 2 ^ (t_ - o)) * (1 * 2 ^ (min o 26))) ∧ u2_3 ≤ 40 := hw
        obtain ⟨hL_15, hN_15, hu_15⟩ := hw
        refine lv_iload_n hx hb dX0_doubleTimes_18 rfl (lv_at hl 1 rfl) ?_
        refine zi_ (y := nI o) (ex) ?_
        refine lv_bipush (v := nI 26) hx hb dX0_doubleTimes_19 (by decide) ?_
        refine lv_isub hx hb dX0_doubleTimes_21 ?_
        refine lv_istore_n (lv' := [(2, .int ((nI o) - (nI 26))), (0, .ref h_)]) hx hb dX0_doubleTimes_22 rfl hl (by decide) rfl (fun ls hl => ?_)
        refine lv_goto (tgt := 2) hx hb dX0_doubleTimes_23 (by decide) ?_
        exact ih (o - 26) ((nI o) - (nI 26)) f2_2 u2_3 _ _ _ (by omega) (by omega) (fun q => pk_sub (by omega)) (fun q => d_sub o (by omega)) (by rw [d_pow N_ t_ o h0] at hL_15; exact hL_15) (by rw [d_pow N_ t_ o h0] at hN_15; exact hN_15) hu_15 hP hD hS (lv_sub hl [1, 0] rfl)
  refine lv_iload_n hx hb dX0_doubleTimes_0 rfl (lv_at hl 1 rfl) ?_
  refine lv_istore_n (lv' := [(2, .int (nI t_)), (0, .ref h_), (1, .int (nI t_))]) hx hb dX0_doubleTimes_1 rfl hl (by decide) rfl (fun ls hl => ?_)
  exact lp_2 (t_ + 1) t_ (nI t_) f_ u_ _ _ _ (Nat.lt_succ_self _) (Nat.le_refl _) (fun _ => rfl) (fun q => by rw [q]; decide) (by rw [Nat.sub_self, Nat.pow_zero, Nat.mul_one]; exact hL) (by rw [Nat.sub_self, Nat.pow_zero, Nat.mul_one]; exact hN) hu hP hD hS (lv_sub hl [1, 0] rfl)
theorem nX0_compareWith_0 : ∀ w ∈ wsX00, w ∈ wsX0_compareWith := by decide +kernel
abbrev rm_X0_compareWith : Room := { frames := 1, cells := 0, slots := 0, locals := 13 }
set_option maxHeartbeats 4000000 in
set_option maxRecDepth 100000 in
/-- compareWith -/
theorem ct_X0_compareWith (l : Launch) (D : va_G) (cI cJ cD : ClassId) (h_ : Nat) (dd_ : Nat) (k_ : Nat) (dk_ : Nat) (u_ : Nat) (v_ : Nat) (N_ : Nat) (K_ : Nat) (f_ : Nat → Int64) (g_ : Nat → Int64) (sz : Nat) (hu : u_ ≤ 40) (hv : v_ ≤ 40) (hL : bigL f_ u_ N_) (hN : bigN u_ N_) (hL2 : bigL g_ v_ K_) (hN2 : bigN v_ K_) : Met l yX0_compareWith wsX0_compareWith rm_X0_compareWith (zP D (ty3 cI cJ cD) [.ref h_, .ref k_] sz [(h_, .inr (0, [.ref dd_, .int (nI u_)])), (dd_, .inl (cJ, 40, .inr (.inl f_))), (k_, .inr (0, [.ref dk_, .int (nI v_)])), (dk_, .inl (cJ, 40, .inr (.inl g_)))] zT) (va_Qi (fun (r : Int32) (u : Unit) => r = cmpI N_ K_) (zB D (ty3 cI cJ cD) (fun (u : Unit) => [(h_, .inr (0, [.ref dd_, .int (nI u_)])), (dd_, .inl (cJ, 40, .inr (.inl f_))), (k_, .inr (0, [.ref dk_, .int (nI v_)])), (dk_, .inl (cJ, 40, .inr (.inl g_)))]) (va_A [(h_, .inr (0, [.ref dd_, .int (nI u_)])), (dd_, .inl (cJ, 40, .inr (.inl f_))), (k_, .inr (0, [.ref dk_, .int (nI v_)])), (dk_, .inl (cJ, 40, .inr (.inl g_)))] sz)) (va_A [(h_, .inr (0, [.ref dd_, .int (nI u_)])), (dd_, .inl (cJ, 40, .inr (.inl f_))), (k_, .inr (0, [.ref dk_, .int (nI v_)])), (dk_, .inl (cJ, 40, .inr (.inl g_)))] sz)) 0 0 (va_A [(h_, .inr (0, [.ref dd_, .int (nI u_)])), (dd_, .inl (cJ, 40, .inr (.inl f_))), (k_, .inr (0, [.ref dk_, .int (nI v_)])), (dk_, .inl (cJ, 40, .inr (.inl g_)))] sz) := by
  refine zMet (Qf := fun A => va_Qi (fun (r : Int32) (u : Unit) => r = cmpI N_ K_) (zB D (ty3 cI cJ cD) (fun (u : Unit) => [(h_, .inr (0, [.ref dd_, .int (nI u_)])), (dd_, .inl (cJ, 40, .inr (.inl f_))), (k_, .inr (0, [.ref dk_, .int (nI v_)])), (dk_, .inl (cJ, 40, .inr (.inl g_)))]) A) A) (cc := cX0_compareWith) (maxL := 3) (ret := (some .int)) (by decide) rfl (Nat.le_of_ble_eq_true rfl) ?_
  intro p e s m args below meth c A ls Q H hargs hQ hHe hx hb hr hml hown hts hlocks hin hP hK hD hA hS hE hAe hl
  have hl : lv_has ls 3 [(0, .ref h_), (1, .ref k_)] := hl
  have lp_40 : ∀ (n_ : Nat) (j : Nat) (H : Heap) (locs : List Loc) (ls : Array Slot), j < n_ → j ≤ u_ → N_ / 67108864 ^ j = K_ / 67108864 ^ j → u_ = v_ →  va_P D cl5 [(h_, .inr (0, [.ref dd_, .int (nI u_)])), (dd_, .inl (cJ, 40, .inr (.inl f_))), (k_, .inr (0, [.ref dk_, .int (nI v_)])), (dk_, .inl (cJ, 40, .inr (.inl g_)))] H → va_D A [(h_, .inr (0, [.ref dd_, .int (nI u_)])), (dd_, .inl (cJ, 40, .inr (.inl f_))), (k_, .inr (0, [.ref dk_, .int (nI v_)])), (dk_, .inl (cJ, 40, .inr (.inl g_)))] → va_S A s.heap H locs → lv_has ls 3 [(0, .ref h_), (1, .ref k_), (2, .int (nI j - nI 1))] → W p l e rm_X0_compareWith s m args below meth c H locs 0 0 Q (F0 m 40 ls []) := by
    intro n_
    induction n_ with
    | zero => intro j H locs ls hm; exact absurd hm (Nat.not_lt_zero _)
    | succ n_ ih =>
      intro j H locs ls hm  h1 h2 h3 hP hD hS hl
      refine lv_iload_n hx hb dX0_compareWith_40 rfl (lv_at hl 2 rfl) ?_
      refine lv_if_lt (tgt := 88) hx hb dX0_compareWith_41 (by decide) (fun c_41 => ?_) (fun c_41 => ?_)
      · skip
        have hj : j = 0 := Nat.eq_zero_of_not_pos (fun q => absurd c_41 (by rw [pk_sub q]; exact nI_pos (by omega)))
        subst hj
        rw [Nat.pow_zero, Nat.div_one, Nat.div_one] at h2
        refine lv_iconst (v := nI 0) hx hb dX0_compareWith_88 (by decide) ?_
        subst hQ
        exact ze_i hx hb hr hlocks () ((cmpI_eq h2).symm) hP hK hD hS dX0_compareWith_89
      · skip
        have hj : 1 ≤ j := Nat.pos_of_ne_zero (fun q => c_41 (by subst q; decide))
        have ex : nI j - nI 1 = nI (j - 1) := pk_sub hj
        have eN := b_top (N := N_) hj
        have eK := b_top (N := K_) hj
        refine lv_aload_n hx hb dX0_compareWith_44 rfl (lv_at hl 0 rfl) ?_
        refine va_get (D := D) (ci := 0) (v := .ref dd_) (C := RX0) (T := TX0) (N := 2) hx hb hts nX0_compareWith_0 hown hK hP 0 rfl rfl 0 (by decide) (zh (w := .fieldLink RX0 9 "FretRoots$BigNumbe\x72" "digits" "[J") hts 6 rfl) (fun _ h9 => h9) rfl dX0_compareWith_45 ?_
        refine lv_iload_n hx hb dX0_compareWith_48 rfl (lv_at hl 2 rfl) ?_
        refine zi_ (y := nI (j - 1)) (ex) ?_
        refine z_lald (j := (j - 1)) hx hb hK hP 1 1 rfl rfl (by omega) (by omega) dX0_compareWith_49 ?_
        refine zl_ (y := lN (N_ / 67108864 ^ (j - 1) % 67108864)) (hL _ (by omega)) ?_
        refine lv_aload_n hx hb dX0_compareWith_50 rfl (lv_at hl 1 rfl) ?_
        refine va_get (D := D) (ci := 0) (v := .ref dk_) (C := RX0) (T := TX0) (N := 2) hx hb hts nX0_compareWith_0 hown hK hP 2 rfl rfl 0 (by decide) (zh (w := .fieldLink RX0 9 "FretRoots$BigNumbe\x72" "digits" "[J") hts 6 rfl) (fun _ h9 => h9) rfl dX0_compareWith_51 ?_
        refine lv_iload_n hx hb dX0_compareWith_54 rfl (lv_at hl 2 rfl) ?_
        refine zi_ (y := nI (j - 1)) (ex) ?_
        refine z_lald (j := (j - 1)) hx hb hK hP 3 1 rfl rfl (by omega) (by omega) dX0_compareWith_55 ?_
        refine zl_ (y := lN (K_ / 67108864 ^ (j - 1) % 67108864)) (hL2 _ (by omega)) ?_
        refine zl_eq (tgt := 82) hx hb dX0_compareWith_56 dX0_compareWith_57 (by decide) (fun c_57 => ?_) (fun c_57 => ?_)
        · skip
          have c_57 := zjl_eq (a := N_ / 67108864 ^ (j - 1) % 67108864) (b := K_ / 67108864 ^ (j - 1) % 67108864) (by omega) (by omega) c_57
          refine lv_iinc (v := nI (j - 1) - nI 1) (lv' := [(2, .int (nI (j - 1) - nI 1)), (0, .ref h_), (1, .ref k_)]) hx hb dX0_compareWith_82 hl (k := 2) rfl (by rw [ex]; exact z_m1 _) (by decide) rfl (fun ls hl => ?_)
          refine lv_goto (tgt := 40) hx hb dX0_compareWith_85 (by decide) ?_
          exact ih (j - 1) _ _ _ (by omega) (by omega) (by rw [b_top hj, b_top (N := K_) hj, h2, c_57]) h3 hP hD hS (lv_sub hl [1, 2, 0] rfl)
        · skip
          have c_57 := zjl_ne (a := N_ / 67108864 ^ (j - 1) % 67108864) (b := K_ / 67108864 ^ (j - 1) % 67108864) (by omega) (by omega) c_57
          refine lv_aload_n hx hb dX0_compareWith_60 rfl (lv_at hl 0 rfl) ?_
          refine va_get (D := D) (ci := 0) (v := .ref dd_) (C := RX0) (T := TX0) (N := 2) hx hb hts nX0_compareWith_0 hown hK hP 0 rfl rfl 0 (by decide) (zh (w := .fieldLink RX0 9 "FretRoots$BigNumbe\x72" "digits" "[J") hts 6 rfl) (fun _ h9 => h9) rfl dX0_compareWith_61 ?_
          refine lv_iload_n hx hb dX0_compareWith_64 rfl (lv_at hl 2 rfl) ?_
          refine zi_ (y := nI (j - 1)) (ex) ?_
          refine z_lald (j := (j - 1)) hx hb hK hP 1 1 rfl rfl (by omega) (by omega) dX0_compareWith_65 ?_
          refine zl_ (y := lN (N_ / 67108864 ^ (j - 1) % 67108864)) (hL _ (by omega)) ?_
          refine lv_aload_n hx hb dX0_compareWith_66 rfl (lv_at hl 1 rfl) ?_
          refine va_get (D := D) (ci := 0) (v := .ref dk_) (C := RX0) (T := TX0) (N := 2) hx hb hts nX0_compareWith_0 hown hK hP 2 rfl rfl 0 (by decide) (zh (w := .fieldLink RX0 9 "FretRoots$BigNumbe\x72" "digits" "[J") hts 6 rfl) (fun _ h9 => h9) rfl dX0_compareWith_67 ?_
          refine lv_iload_n hx hb dX0_compareWith_70 rfl (lv_at hl 2 rfl) ?_
          refine zi_ (y := nI (j - 1)) (ex) ?_
          refine z_lald (j := (j - 1)) hx hb hK hP 3 1 rfl rfl (by omega) (by omega) dX0_compareWith_71 ?_
          refine zl_ (y := lN (K_ / 67108864 ^ (j - 1) % 67108864)) (hL2 _ (by omega)) ?_
          refine zl_ge (tgt := 80) hx hb dX0_compareWith_72 dX0_compareWith_73 (by decide) (fun c_73 => ?_) (fun c_73 => ?_)
          · skip
            have c_73 := zjl_le (a := K_ / 67108864 ^ (j - 1) % 67108864) (b := N_ / 67108864 ^ (j - 1) % 67108864) (by omega) (by omega) c_73
            refine lv_iconst (v := nI 1) hx hb dX0_compareWith_80 (by decide) ?_
            subst hQ
            exact ze_i hx hb hr hlocks () ((cmpI_gt (b_cmp (i := j - 1) (by omega))).symm) hP hK hD hS dX0_compareWith_81
          · skip
            have c_73 := zjl_nle (a := K_ / 67108864 ^ (j - 1) % 67108864) (b := N_ / 67108864 ^ (j - 1) % 67108864) (by omega) (by omega) c_73
            refine lv_iconst (v := -1) hx hb dX0_compareWith_76 (by decide) ?_
            refine lv_goto (tgt := 81) hx hb dX0_compareWith_77 (by decide) ?_
            subst hQ
            exact ze_i hx hb hr hlocks () ((cmpI_lt (b_cmp (i := j - 1) (by omega))).symm) hP hK hD hS dX0_compareWith_81
  refine lv_aload_n hx hb dX0_compareWith_0 rfl (lv_at hl 0 rfl) ?_
  refine va_get (D := D) (ci := 0) (v := .int (nI u_)) (C := RX0) (T := TX0) (N := 2) hx hb hts nX0_compareWith_0 hown hK hP 0 rfl rfl 1 (by decide) (zh (w := .fieldLink RX0 13 "FretRoots$BigNumbe\x72" "used" "I") hts 1 rfl) (fun _ h9 => h9) rfl dX0_compareWith_1 ?_
  refine lv_aload_n hx hb dX0_compareWith_4 rfl (lv_at hl 1 rfl) ?_
  refine va_get (D := D) (ci := 0) (v := .int (nI v_)) (C := RX0) (T := TX0) (N := 2) hx hb hts nX0_compareWith_0 hown hK hP 2 rfl rfl 1 (by decide) (zh (w := .fieldLink RX0 13 "FretRoots$BigNumbe\x72" "used" "I") hts 1 rfl) (fun _ h9 => h9) rfl dX0_compareWith_5 ?_
  refine lv_icmp_eq (tgt := 28) hx hb dX0_compareWith_8 (by decide) (fun c_8 => ?_) (fun c_8 => ?_)
  · skip
    have c_8 := zji_eq (a := u_) (b := v_) (by omega) (by omega) c_8
    refine lv_aload_n hx hb dX0_compareWith_28 rfl (lv_at hl 0 rfl) ?_
    refine va_get (D := D) (ci := 0) (v := .int (nI u_)) (C := RX0) (T := TX0) (N := 2) hx hb hts nX0_compareWith_0 hown hK hP 0 rfl rfl 1 (by decide) (zh (w := .fieldLink RX0 13 "FretRoots$BigNumbe\x72" "used" "I") hts 1 rfl) (fun _ h9 => h9) rfl dX0_compareWith_29 ?_
    refine lv_bipush (v := nI 40) hx hb dX0_compareWith_32 (by decide) ?_
    refine va_mmin hx hb (hml.trans hl.1.symm) hown (zh (w := .methodLink RX0 24 Lib.Math.min.name) hts 2 rfl) (zh (w := .static Lib.Math.min.name) hts 3 rfl) (zh (w := .initialized "java/lang/Math") hts 4 rfl) (zh (w := .code Lib.Math.min.name Lib.Math.min.code 2 (some .int)) hts 5 rfl) (Nat.le_of_ble_eq_true rfl) (Nat.le_of_ble_eq_true rfl) (Nat.le_of_ble_eq_true rfl) (Nat.le_of_ble_eq_true rfl) dX0_compareWith_34 ?_
    refine zi_ (y := nI u_) ((z_min u_ 40 (by omega) (by decide)).trans (congrArg nI (Nat.min_eq_left hu))) ?_
    refine lv_iconst (v := nI 1) hx hb dX0_compareWith_37 (by decide) ?_
    refine lv_isub hx hb dX0_compareWith_38 ?_
    refine lv_istore_n (lv' := [(2, .int ((nI u_) - (nI 1))), (0, .ref h_), (1, .ref k_)]) hx hb dX0_compareWith_39 rfl hl (by decide) rfl (fun ls hl => ?_)
    exact lp_40 (u_ + 1) u_ _ _ _ (Nat.lt_succ_self _) (Nat.le_refl _) (by rw [Nat.div_eq_of_lt hN.1, c_8, Nat.div_eq_of_lt hN2.1]) c_8 hP hD hS (lv_sub hl [1, 2, 0] rfl)
  · skip
    have c_8 := zji_ne (a := u_) (b := v_) (by omega) (by omega) c_8
    refine lv_aload_n hx hb dX0_compareWith_11 rfl (lv_at hl 0 rfl) ?_
    refine va_get (D := D) (ci := 0) (v := .int (nI u_)) (C := RX0) (T := TX0) (N := 2) hx hb hts nX0_compareWith_0 hown hK hP 0 rfl rfl 1 (by decide) (zh (w := .fieldLink RX0 13 "FretRoots$BigNumbe\x72" "used" "I") hts 1 rfl) (fun _ h9 => h9) rfl dX0_compareWith_12 ?_
    refine lv_aload_n hx hb dX0_compareWith_15 rfl (lv_at hl 1 rfl) ?_
    refine va_get (D := D) (ci := 0) (v := .int (nI v_)) (C := RX0) (T := TX0) (N := 2) hx hb hts nX0_compareWith_0 hown hK hP 2 rfl rfl 1 (by decide) (zh (w := .fieldLink RX0 13 "FretRoots$BigNumbe\x72" "used" "I") hts 1 rfl) (fun _ h9 => h9) rfl dX0_compareWith_16 ?_
    refine lv_icmp_ge (tgt := 26) hx hb dX0_compareWith_19 (by decide) (fun c_19 => ?_) (fun c_19 => ?_)
    · skip
      have c_19 := zji_le (a := v_) (b := u_) (by omega) (by omega) c_19
      refine lv_iconst (v := nI 1) hx hb dX0_compareWith_26 (by decide) ?_
      subst hQ
      exact ze_i hx hb hr hlocks () ((cmpI_gt (bigN_lt hN2 hN (by omega))).symm) hP hK hD hS dX0_compareWith_27
    · skip
      have c_19 := zji_nle (a := v_) (b := u_) (by omega) (by omega) c_19
      refine lv_iconst (v := -1) hx hb dX0_compareWith_22 (by decide) ?_
      refine lv_goto (tgt := 27) hx hb dX0_compareWith_23 (by decide) ?_
      subst hQ
      exact ze_i hx hb hr hlocks () ((cmpI_lt (bigN_lt hN hN2 c_19)).symm) hP hK hD hS dX0_compareWith_27
end
section
/-! ===== the reference's numbers: two of 76 digits of 15 bits in one row ===== -/
def modP (g : Nat → Int32) (x k N : Nat) : Prop := ∀ j, j < k → g (76 * x + j) = nI (N / 32768 ^ j % 32768)
def modL (g : Nat → Int32) (x N : Nat) : Prop := modP g x 76 N
def modR (g : Nat → Int32) (x k N : Nat) : Prop := ∀ j, k ≤ j → j < 76 → g (76 * x + j) = nI (N / 32768 ^ j % 32768)
def modF (g0 g : Nat → Int32) (x : Nat) : Prop := ∀ j, (j < 76 * x ∨ 76 * x + 76 ≤ j) → g j = g0 j
theorem modF_rf (g : Nat → Int32) (x : Nat) : modF g g x := fun _ _ => rfl
theorem modF_tr {g g1 g2 : Nat → Int32} {x : Nat} (h1 : modF g g1 x) (h2 : modF g1 g2 x) : modF g g2 x := fun j hj => (h2 j hj).trans (h1 j hj)
theorem modL_keep {g0 g : Nat → Int32} {x y N : Nat} (h : modF g0 g x) (hxy : x ≠ y) (hL : modL g0 y N) : modL g y N := by
  intro j hj
  rw [h _ (by rcases Nat.lt_or_gt_of_ne hxy with q | q <;> omega)]
  exact hL j hj
theorem modP_snoc {g : Nat → Int32} {x k N : Nat} (h : modP g x k N) : modP (upd g (76 * x + k) (nI (N / 32768 ^ k % 32768))) x (k + 1) N := by
  intro j hj
  by_cases e : j = k
  · subst e; exact pk_us
  · rw [pk_un (by omega)]; exact h j (by omega)
theorem modR_snoc {g : Nat → Int32} {x k N : Nat} {v : Int32} (h : modR g x k N) : modR (upd g (76 * x + k) v) x (k + 1) N := by
  intro j h1 h2
  rw [pk_un (by omega)]; exact h j (by omega) h2
theorem modF_upd {g0 g : Nat → Int32} {x k : Nat} {v : Int32} (h : modF g0 g x) (hk : k < 76) : modF g0 (upd g (76 * x + k) v) x := by
  intro j hj
  rw [pk_un (by omega)]; exact h j hj
theorem modL_R {g : Nat → Int32} {x N : Nat} (h : modL g x N) : modR g x 0 N := fun j _ h2 => h j h2
theorem e_pos (i : Nat) : 0 < 32768 ^ i := Nat.pow_pos (by decide)
theorem z_and15 (a : Nat) : nI a &&& nI 32767 = nI (a % 32768) := by
  apply Int32.toBitVec_inj.mp
  apply BitVec.eq_of_toNat_eq
  show ((BitVec.ofNat 32 a) &&& (BitVec.ofNat 32 32767)).toNat = (BitVec.ofNat 32 (a % 32768)).toNat
  rw [BitVec.toNat_and, BitVec.toNat_ofNat, BitVec.toNat_ofNat, BitVec.toNat_ofNat]
  have h2 := Nat.and_two_pow_sub_one_eq_mod (a % 2 ^ 32) 15
  rw [show (32767 % 2 ^ 32 : Nat) = 2 ^ 15 - 1 from rfl, h2]
  omega
theorem z_and15l {a : Nat} (h : a < 2 ^ 64) : lN a &&& lN 32767 = lN (a % 32768) := by
  apply Int64.toBitVec_inj.mp
  apply BitVec.eq_of_toNat_eq
  show ((BitVec.ofNat 64 a) &&& (BitVec.ofNat 64 32767)).toNat = (BitVec.ofNat 64 (a % 32768)).toNat
  rw [BitVec.toNat_and, BitVec.toNat_ofNat, BitVec.toNat_ofNat, BitVec.toNat_ofNat, Nat.mod_eq_of_lt h]
  have h2 := Nat.and_two_pow_sub_one_eq_mod a 15
  rw [show (32767 % 2 ^ 64 : Nat) = 2 ^ 15 - 1 from rfl, h2]
  have h3 : a % 32768 < 32768 := Nat.mod_lt _ (by decide)
  rw [Nat.mod_eq_of_lt (a := a % 32768) (by omega)]
theorem z_and1 (a : Nat) : nI a &&& nI 1 = nI (a % 2) := by
  apply Int32.toBitVec_inj.mp
  apply BitVec.eq_of_toNat_eq
  show ((BitVec.ofNat 32 a) &&& (BitVec.ofNat 32 1)).toNat = (BitVec.ofNat 32 (a % 2)).toNat
  rw [BitVec.toNat_and, BitVec.toNat_ofNat, BitVec.toNat_ofNat, BitVec.toNat_ofNat]
  have h2 := Nat.and_two_pow_sub_one_eq_mod (a % 2 ^ 32) 1
  rw [show (1 % 2 ^ 32 : Nat) = 2 ^ 1 - 1 from rfl, h2]
  omega
theorem set_pow (k : Nat) : (2 : Nat) ^ (15 * k) = 32768 ^ k := by rw [Nat.pow_mul]
theorem set_digit (v k : Nat) : nI (v / 2 ^ (15 * k)) &&& nI 32767 = nI (v / 32768 ^ k % 32768) := by rw [z_and15, set_pow]
theorem set_zero {v k : Nat} (h : v < 2 ^ 63) (hk : 5 ≤ k) : nI 0 = nI (v / 32768 ^ k % 32768) := by
  have h1 : (32768 : Nat) ^ 5 ≤ 32768 ^ k := Nat.pow_le_pow_right (by decide) hk
  rw [Nat.div_eq_of_lt (Nat.lt_of_lt_of_le (Nat.lt_trans h (by decide)) h1)]
theorem t_bound {v l o m t h c : Nat} (hv : v < 32768) (hl : l < 32768) (ho : o < 32768) (hm : m < 32768) (ht : t < 32768) (hh : h < 32768) (hc : c < 2 ^ 18) : v * l + o * m + t * h + c < 2 ^ 32 := by
  have h1 : v * l ≤ 32767 * 32767 := Nat.mul_le_mul (by omega) (by omega)
  have h2 : o * m ≤ 32767 * 32767 := Nat.mul_le_mul (by omega) (by omega)
  have h3 : t * h ≤ 32767 * 32767 := Nat.mul_le_mul (by omega) (by omega)
  omega
theorem t_split (f : Nat) : f = f % 32768 + 32768 * (f / 32768 % 32768) + 32768 * 32768 * (f / 1073741824) := by omega
/-- one digit on -/
theorem t_step {f N k c o t q : Nat} (hE : f * (N % 32768 ^ k) = N * f % 32768 ^ k + 32768 ^ k * (c + f / 32768 % 32768 * o + f / 1073741824 * t) + 32768 ^ (k + 1) * (f / 1073741824 * o))
    (hq : q = N / 32768 ^ k % 32768 * (f % 32768) + o * (f / 32768 % 32768) + t * (f / 1073741824) + c) :
    q % 32768 = N * f / 32768 ^ k % 32768 ∧ f * (N % 32768 ^ (k + 1)) = N * f % 32768 ^ (k + 1) + 32768 ^ (k + 1) * (q / 32768 + f / 32768 % 32768 * (N / 32768 ^ k % 32768) + f / 1073741824 * o) + 32768 ^ (k + 1 + 1) * (f / 1073741824 * (N / 32768 ^ k % 32768)) := by
  have hX := e_pos k
  have hs := t_split f
  have hN : N % 32768 ^ (k + 1) = N % 32768 ^ k + 32768 ^ k * (N / 32768 ^ k % 32768) := by rw [Nat.pow_succ, Nat.mod_mul]
  have hR : N * f % 32768 ^ (k + 1) = N * f % 32768 ^ k + 32768 ^ k * (N * f / 32768 ^ k % 32768) := by rw [Nat.pow_succ, Nat.mod_mul]
  have hdm := Nat.div_add_mod q 32768
  have hRlt : N * f % 32768 ^ k < 32768 ^ k := Nat.mod_lt _ hX
  have hmod : f * (N % 32768 ^ (k + 1)) % 32768 ^ (k + 1) = N * f % 32768 ^ (k + 1) := by
    rw [Nat.mul_mod, Nat.mod_mod, ← Nat.mul_mod, Nat.mul_comm]
  rw [Nat.pow_succ] at hE
  generalize hX' : 32768 ^ k = X at *
  have eX : (32768 : Nat) ^ (k + 1) = X * 32768 := by rw [Nat.pow_succ, hX']
  have eXX : (32768 : Nat) ^ (k + 1 + 1) = X * 32768 * 32768 := by rw [Nat.pow_succ, eX]
  rw [eX] at hN hR hmod ⊢
  rw [eXX]
  generalize f % 32768 = l at *
  generalize f / 32768 % 32768 = m at *
  generalize f / 1073741824 = h at *
  generalize N / X % 32768 = v at *
  generalize N % X = a at *
  generalize N * f % X = R at *
  generalize N * f / X % 32768 = e at *
  generalize q / 32768 = q1 at *
  generalize hq0 : q % 32768 = q0 at *
  have hq0' : q0 < 32768 := by rw [← hq0]; exact Nat.mod_lt _ (by decide)
  have key : f * (N % (X * 32768)) = (R + X * q0) + X * 32768 * (q1 + m * v + h * o + 32768 * (h * v)) := by
    rw [hN, Nat.mul_add, hE]
    have h1 : f * (X * v) = X * (l * v) + X * 32768 * (m * v) + X * 32768 * 32768 * (h * v) := by
      rw [hs]; grind
    rw [h1]
    have h2 : X * q = X * (32768 * q1) + X * q0 := by rw [← hdm]; grind
    rw [hq] at h2
    grind
  have hlt : R + X * q0 < X * 32768 := by
    have := Nat.mul_le_mul_left X (show q0 ≤ 32767 by omega)
    omega
  have e1 : R + X * q0 = R + X * e := by
    rw [key, Nat.add_mul_mod_self_left, Nat.mod_eq_of_lt hlt, hR] at hmod
    exact hmod
  have e2 : q0 = e := Nat.eq_of_mul_eq_mul_left hX (by omega)
  refine ⟨e2, ?_⟩
  rw [key, hR, e2]
  grind
theorem t_init (f N : Nat) : f * (N % 32768 ^ 0) = N * f % 32768 ^ 0 + 32768 ^ 0 * (0 + f / 32768 % 32768 * 0 + f / 1073741824 * 0) + 32768 ^ (0 + 1) * (f / 1073741824 * 0) := by
  simp [Nat.mod_one]
theorem e_top {N i : Nat} (hi : 1 ≤ i) : N / 32768 ^ (i - 1) = 32768 * (N / 32768 ^ i) + N / 32768 ^ (i - 1) % 32768 := by
  obtain ⟨k, rfl⟩ : ∃ k, i = k + 1 := ⟨i - 1, by omega⟩
  have e : N / 32768 ^ (k + 1) = N / 32768 ^ k / 32768 := by
    rw [Nat.div_div_eq_div_mul, Nat.pow_succ]
  rw [Nat.add_sub_cancel, e]; exact (Nat.div_add_mod _ _).symm
theorem e_cmp {N K i : Nat} (h : N / 32768 ^ i < K / 32768 ^ i) : N < K := by
  rcases Nat.lt_or_ge N K with h1 | h1
  · exact h1
  · have := Nat.div_le_div_right (c := 32768 ^ i) h1
    omega
theorem z_sub0 {a b : Nat} (ha : a < 2 ^ 30) (hb : b < 2 ^ 30) (h : nI a - nI b = 0) : a = b := by
  have := pk_sub_toInt ha hb
  rw [h] at this
  simp at this
  omega
theorem z_subn {a b : Nat} (ha : a < 2 ^ 30) (hb : b < 2 ^ 30) (h : ¬ nI a - nI b = 0) : a ≠ b := by
  intro q; subst q; exact h (Int32.sub_self _)
theorem z_subge {a b : Nat} (ha : a < 2 ^ 30) (hb : b < 2 ^ 30) (h : 0 ≤ nI a - nI b) : b ≤ a := by
  have := pk_sub_toInt ha hb
  rw [Int32.le_iff_toInt_le, this] at h
  simp at h
  omega
theorem z_sublt {a b : Nat} (ha : a < 2 ^ 30) (hb : b < 2 ^ 30) (h : ¬ 0 ≤ nI a - nI b) : a < b := by
  have := pk_sub_toInt ha hb
  rw [Int32.le_iff_toInt_le, this] at h
  simp at h
  omega
theorem e_1140 : (32768 : Nat) ^ 76 = 2 ^ 1140 := by rw [show (32768 : Nat) = 2 ^ 15 from rfl, ← Nat.pow_mul]
theorem e_bound {b n k B : Nat} (hb : b < 2 ^ B) (h : B * n + k < 1140) : b ^ n * 2 ^ k < 32768 ^ 76 := by
  rw [e_1140]
  have h1 : b ^ n ≤ (2 ^ B) ^ n := Nat.pow_le_pow_left (Nat.le_of_lt hb) n
  rw [← Nat.pow_mul] at h1
  have h2 : b ^ n * 2 ^ k ≤ 2 ^ (B * n) * 2 ^ k := Nat.mul_le_mul_right _ h1
  rw [← Nat.pow_add] at h2
  exact Nat.lt_of_le_of_lt h2 (Nat.pow_lt_pow_right (by decide) h)
theorem e_bound0 {b n B : Nat} (hb : b < 2 ^ B) (h : B * n < 1140) : b ^ n < 32768 ^ 76 := by
  have := e_bound (k := 0) hb h
  simpa using this
end
section
theorem nX4_set_4 : ∀ w ∈ wsX40, w ∈ wsX4_set := by decide +kernel
abbrev rm_X4_set : Room := { frames := 0, cells := 0, slots := 0, locals := 0 }
set_option maxHeartbeats 4000000 in
set_option maxRecDepth 100000 in
/-- set -/
theorem ct_X4_set (l : Launch) (D : va_G) (cI cJ cD : ClassId) (m_ : Nat) (ab_ : Nat) (be_ : Nat) (rr_ : Nat) (th_ : Int32) (nn_ : Int32) (sh_ : Int32) (bs_ : Int32) (tr_ : Int32) (sp_ : Int32) (le_ : Int64) (ca_ : Int64) (cb_ : Int64) (oc_ : Int64) (st_ : Int64) (x_ : Nat) (v_ : Nat) (g_ : Nat → Int32) (sz : Nat) (hx_ : x_ ≤ 1) (hv : v_ < 2 ^ 63) : Met l yX4_set wsX4_set rm_X4_set (zP D (ty3 cI cJ cD) [.ref m_, .int (nI x_), .long (lN v_)] sz [(m_, .inr (4, [.int th_, .int nn_, .long le_, .int sh_, .ref ab_, .ref be_, .long ca_, .long cb_, .long oc_, .long st_, .int bs_, .int tr_, .int sp_, .ref rr_])), (rr_, .inl (cI, 152, .inl g_))] zT) (va_Qv (fun (u : (Nat → Int32)) => modL u x_ v_ ∧ modF g_ u x_) (zB D (ty3 cI cJ cD) (fun (u : (Nat → Int32)) => [(m_, .inr (4, [.int th_, .int nn_, .long le_, .int sh_, .ref ab_, .ref be_, .long ca_, .long cb_, .long oc_, .long st_, .int bs_, .int tr_, .int sp_, .ref rr_])), (rr_, .inl (cI, 152, .inl u))]) (va_A [(m_, .inr (4, [.int th_, .int nn_, .long le_, .int sh_, .ref ab_, .ref be_, .long ca_, .long cb_, .long oc_, .long st_, .int bs_, .int tr_, .int sp_, .ref rr_])), (rr_, .inl (cI, 152, .inl g_))] sz)) (va_A [(m_, .inr (4, [.int th_, .int nn_, .long le_, .int sh_, .ref ab_, .ref be_, .long ca_, .long cb_, .long oc_, .long st_, .int bs_, .int tr_, .int sp_, .ref rr_])), (rr_, .inl (cI, 152, .inl g_))] sz)) 0 0 (va_A [(m_, .inr (4, [.int th_, .int nn_, .long le_, .int sh_, .ref ab_, .ref be_, .long ca_, .long cb_, .long oc_, .long st_, .int bs_, .int tr_, .int sp_, .ref rr_])), (rr_, .inl (cI, 152, .inl g_))] sz) := by
  refine zMet (Qf := fun A => va_Qv (fun (u : (Nat → Int32)) => modL u x_ v_ ∧ modF g_ u x_) (zB D (ty3 cI cJ cD) (fun (u : (Nat → Int32)) => [(m_, .inr (4, [.int th_, .int nn_, .long le_, .int sh_, .ref ab_, .ref be_, .long ca_, .long cb_, .long oc_, .long st_, .int bs_, .int tr_, .int sp_, .ref rr_])), (rr_, .inl (cI, 152, .inl u))]) A) A) (cc := cX4_set) (maxL := 5) (ret := none) (by decide) rfl (Nat.le_of_ble_eq_true rfl) ?_
  intro p e s m args below meth c A ls Q H hargs hQ hHe hx hb hr hml hown hts hlocks hin hP hK hD hA hS hE hAe hl
  have hl : lv_has ls 5 [(0, .ref m_), (1, .int (nI x_)), (2, .long (lN v_))] := hl
  have lp_3 : ∀ (n_ : Nat) (k : Nat) (g : Nat → Int32) (H : Heap) (locs : List Loc) (ls : Array Slot), 76 - k < n_ → k ≤ 76 → modP g x_ k v_ → modF g_ g x_ →  va_P D cl5 [(m_, .inr (4, [.int th_, .int nn_, .long le_, .int sh_, .ref ab_, .ref be_, .long ca_, .long cb_, .long oc_, .long st_, .int bs_, .int tr_, .int sp_, .ref rr_])), (rr_, .inl (cI, 152, .inl g))] H → va_D A [(m_, .inr (4, [.int th_, .int nn_, .long le_, .int sh_, .ref ab_, .ref be_, .long ca_, .long cb_, .long oc_, .long st_, .int bs_, .int tr_, .int sp_, .ref rr_])), (rr_, .inl (cI, 152, .inl g))] → va_S A s.heap H locs → lv_has ls 5 [(0, .ref m_), (1, .int (nI x_)), (2, .long (lN v_)), (4, .int (nI k))] → W p l e rm_X4_set s m args below meth c H locs 0 0 Q (F0 m 3 ls []) := by
    intro n_
    induction n_ with
    | zero => intro k g H locs ls hm; exact absurd hm (Nat.not_lt_zero _)
    | succ n_ ih =>
      intro k g H locs ls hm  h1 h2 h3 hP hD hS hl
      refine lv_iload hx hb dX4_set_3 (lv_at hl 3 rfl) ?_
      refine lv_bipush (v := nI 76) hx hb dX4_set_5 (by decide) ?_
      refine lv_icmp_ge (tgt := 50) hx hb dX4_set_7 (by decide) (fun c_7 => ?_) (fun c_7 => ?_)
      · skip
        have c_7 := zji_le (a := 76) (b := k) (by omega) (by omega) c_7
        have hk : k = 76 := by omega
        subst hk
        subst hQ
        exact ze_v hx hb hr hlocks g (⟨h2, h3⟩) hP hK hD hS dX4_set_50
      · skip
        have c_7 := zji_nle (a := 76) (b := k) (by omega) (by omega) c_7
        refine lv_aload_n hx hb dX4_set_10 rfl (lv_at hl 0 rfl) ?_
        refine va_get (D := D) (ci := 4) (v := .ref rr_) (C := RX4) (T := TX4) (N := 14) hx hb hts nX4_set_4 hown hK hP 0 rfl rfl 13 (by decide) (zh (w := .fieldLink RX4 41 "FretRootsModel" "\x72" "[I") hts 1 rfl) (fun _ h9 => h9) rfl dX4_set_11 ?_
        refine lv_bipush (v := nI 76) hx hb dX4_set_14 (by decide) ?_
        refine lv_iload_n hx hb dX4_set_16 rfl (lv_at hl 1 rfl) ?_
        refine lv_imul hx hb dX4_set_17 ?_
        refine zi_ (y := nI (76 * x_)) (pk_mul 76 x_) ?_
        refine lv_iload hx hb dX4_set_18 (lv_at hl 3 rfl) ?_
        refine lv_iadd hx hb dX4_set_20 ?_
        refine zi_ (y := nI (76 * x_ + k)) (nI_add (76 * x_) k) ?_
        refine lv_iload hx hb dX4_set_21 (lv_at hl 3 rfl) ?_
        refine lv_iconst (v := nI 5) hx hb dX4_set_23 (by decide) ?_
        refine lv_icmp_ge (tgt := 42) hx hb dX4_set_24 (by decide) (fun c_24 => ?_) (fun c_24 => ?_)
        · skip
          have c_24 := zji_le (a := 5) (b := k) (by omega) (by omega) c_24
          refine lv_iconst (v := nI 0) hx hb dX4_set_42 (by decide) ?_
          refine zi_ (y := nI (v_ / 32768 ^ k % 32768)) (set_zero hv (by omega)) ?_
          refine z_iast (j := (76 * x_ + k)) hx hb hK hP hD hS 1 0 rfl rfl (by omega) (by omega) dX4_set_43 (fun H locs hP hD hS => ?_)
          obtain ⟨gA, egA⟩ : ∃ f9, f9 = upd g (76 * x_ + k) (nI (v_ / 32768 ^ k % 32768)) := ⟨_, rfl⟩
          have hP : va_P D cl5 [(m_, .inr (4, [.int th_, .int nn_, .long le_, .int sh_, .ref ab_, .ref be_, .long ca_, .long cb_, .long oc_, .long st_, .int bs_, .int tr_, .int sp_, .ref rr_])), (rr_, .inl (cI, 152, .inl gA))] H := by rw [egA]; exact hP
          have hD : va_D A [(m_, .inr (4, [.int th_, .int nn_, .long le_, .int sh_, .ref ab_, .ref be_, .long ca_, .long cb_, .long oc_, .long st_, .int bs_, .int tr_, .int sp_, .ref rr_])), (rr_, .inl (cI, 152, .inl gA))] := by rw [egA]; exact hD
          refine lv_iinc (v := nI (k + 1)) (lv' := [(4, .int (nI (k + 1))), (0, .ref m_), (1, .int (nI x_)), (2, .long (lN v_))]) hx hb dX4_set_44 hl (k := 3) rfl (z_inc k 1) (by decide) rfl (fun ls hl => ?_)
          refine lv_goto (tgt := 3) hx hb dX4_set_47 (by decide) ?_
          exact ih (k + 1) gA _ _ _ (by omega) (by omega) (by rw [egA]; exact modP_snoc h2) (by rw [egA]; exact modF_upd h3 c_7) hP hD hS (lv_sub hl [1, 2, 3, 0] rfl)
        · skip
          have c_24 := zji_nle (a := 5) (b := k) (by omega) (by omega) c_24
          refine lv_lload_n hx hb dX4_set_27 rfl (lv_at hl 2 rfl) ?_
          refine lv_bipush (v := nI 15) hx hb dX4_set_28 (by decide) ?_
          refine lv_iload hx hb dX4_set_30 (lv_at hl 3 rfl) ?_
          refine lv_imul hx hb dX4_set_32 ?_
          refine zi_ (y := nI (15 * k)) (pk_mul 15 k) ?_
          refine lv_lshr (v := lN (v_ / 2 ^ (15 * k))) hx hb dX4_set_33 (z_shr (by omega) (by omega)) ?_
          refine lv_l2i (v := nI (v_ / 2 ^ (15 * k))) hx hb dX4_set_34 (lN_i (v_ / 2 ^ (15 * k))) ?_
          refine lv_sipush (v := nI 32767) hx hb dX4_set_35 (by decide) ?_
          refine lv_iand hx hb dX4_set_38 ?_
          refine zi_ (y := nI (v_ / 32768 ^ k % 32768)) (set_digit v_ k) ?_
          refine lv_goto (tgt := 43) hx hb dX4_set_39 (by decide) ?_
          refine z_iast (j := (76 * x_ + k)) hx hb hK hP hD hS 1 0 rfl rfl (by omega) (by omega) dX4_set_43 (fun H locs hP hD hS => ?_)
          obtain ⟨gA, egA⟩ : ∃ f9, f9 = upd g (76 * x_ + k) (nI (v_ / 32768 ^ k % 32768)) := ⟨_, rfl⟩
          have hP : va_P D cl5 [(m_, .inr (4, [.int th_, .int nn_, .long le_, .int sh_, .ref ab_, .ref be_, .long ca_, .long cb_, .long oc_, .long st_, .int bs_, .int tr_, .int sp_, .ref rr_])), (rr_, .inl (cI, 152, .inl gA))] H := by rw [egA]; exact hP
          have hD : va_D A [(m_, .inr (4, [.int th_, .int nn_, .long le_, .int sh_, .ref ab_, .ref be_, .long ca_, .long cb_, .long oc_, .long st_, .int bs_, .int tr_, .int sp_, .ref rr_])), (rr_, .inl (cI, 152, .inl gA))] := by rw [egA]; exact hD
          refine lv_iinc (v := nI (k + 1)) (lv' := [(4, .int (nI (k + 1))), (0, .ref m_), (1, .int (nI x_)), (2, .long (lN v_))]) hx hb dX4_set_44 hl (k := 3) rfl (z_inc k 1) (by decide) rfl (fun ls hl => ?_)
          refine lv_goto (tgt := 3) hx hb dX4_set_47 (by decide) ?_
          exact ih (k + 1) gA _ _ _ (by omega) (by omega) (by rw [egA]; exact modP_snoc h2) (by rw [egA]; exact modF_upd h3 c_7) hP hD hS (lv_sub hl [1, 2, 3, 0] rfl)
  refine lv_iconst (v := nI 0) hx hb dX4_set_0 (by decide) ?_
  refine lv_istore (lv' := [(4, .int (nI 0)), (0, .ref m_), (1, .int (nI x_)), (2, .long (lN v_))]) hx hb dX4_set_1 hl (by decide) rfl (fun ls hl => ?_)
  exact lp_3 ((76 - 0) + 1) 0 g_ _ _ _ (Nat.lt_succ_self _) (Nat.zero_le _) (fun j h => absurd h (Nat.not_lt_zero _)) (modF_rf _ _) hP hD hS (lv_sub hl [1, 2, 3, 0] rfl)
theorem nX4_times_4 : ∀ w ∈ wsX40, w ∈ wsX4_times := by decide +kernel
abbrev rm_X4_times : Room := { frames := 0, cells := 0, slots := 0, locals := 0 }
set_option maxHeartbeats 4000000 in
set_option maxRecDepth 100000 in
/-- times -/
theorem ct_X4_times (l : Launch) (D : va_G) (cI cJ cD : ClassId) (m_ : Nat) (ab_ : Nat) (be_ : Nat) (rr_ : Nat) (th_ : Int32) (nn_ : Int32) (sh_ : Int32) (bs_ : Int32) (tr_ : Int32) (sp_ : Int32) (le_ : Int64) (ca_ : Int64) (cb_ : Int64) (oc_ : Int64) (st_ : Int64) (x_ : Nat) (N_ : Nat) (f_ : Nat) (g_ : Nat → Int32) (sz : Nat) (hx_ : x_ ≤ 1) (hf : f_ < 2 ^ 45) (hL : modL g_ x_ N_) : Met l yX4_times wsX4_times rm_X4_times (zP D (ty3 cI cJ cD) [.ref m_, .int (nI x_), .long (lN f_)] sz [(m_, .inr (4, [.int th_, .int nn_, .long le_, .int sh_, .ref ab_, .ref be_, .long ca_, .long cb_, .long oc_, .long st_, .int bs_, .int tr_, .int sp_, .ref rr_])), (rr_, .inl (cI, 152, .inl g_))] zT) (va_Qv (fun (u : (Nat → Int32)) => modL u x_ (N_ * f_) ∧ modF g_ u x_) (zB D (ty3 cI cJ cD) (fun (u : (Nat → Int32)) => [(m_, .inr (4, [.int th_, .int nn_, .long le_, .int sh_, .ref ab_, .ref be_, .long ca_, .long cb_, .long oc_, .long st_, .int bs_, .int tr_, .int sp_, .ref rr_])), (rr_, .inl (cI, 152, .inl u))]) (va_A [(m_, .inr (4, [.int th_, .int nn_, .long le_, .int sh_, .ref ab_, .ref be_, .long ca_, .long cb_, .long oc_, .long st_, .int bs_, .int tr_, .int sp_, .ref rr_])), (rr_, .inl (cI, 152, .inl g_))] sz)) (va_A [(m_, .inr (4, [.int th_, .int nn_, .long le_, .int sh_, .ref ab_, .ref be_, .long ca_, .long cb_, .long oc_, .long st_, .int bs_, .int tr_, .int sp_, .ref rr_])), (rr_, .inl (cI, 152, .inl g_))] sz)) 0 0 (va_A [(m_, .inr (4, [.int th_, .int nn_, .long le_, .int sh_, .ref ab_, .ref be_, .long ca_, .long cb_, .long oc_, .long st_, .int bs_, .int tr_, .int sp_, .ref rr_])), (rr_, .inl (cI, 152, .inl g_))] sz) := by
  refine zMet (Qf := fun A => va_Qv (fun (u : (Nat → Int32)) => modL u x_ (N_ * f_) ∧ modF g_ u x_) (zB D (ty3 cI cJ cD) (fun (u : (Nat → Int32)) => [(m_, .inr (4, [.int th_, .int nn_, .long le_, .int sh_, .ref ab_, .ref be_, .long ca_, .long cb_, .long oc_, .long st_, .int bs_, .int tr_, .int sp_, .ref rr_])), (rr_, .inl (cI, 152, .inl u))]) A) A) (cc := cX4_times) (maxL := 21) (ret := none) (by decide) rfl (Nat.le_of_ble_eq_true rfl) ?_
  intro p e s m args below meth c A ls Q H hargs hQ hHe hx hb hr hml hown hts hlocks hin hP hK hD hA hS hE hAe hl
  have hl : lv_has ls 21 [(0, .ref m_), (1, .int (nI x_)), (2, .long (lN f_))] := hl
  have lp_35 : ∀ (n_ : Nat) (k : Nat) (cy : Nat) (o : Nat) (t : Nat) (g : Nat → Int32) (H : Heap) (locs : List Loc) (ls : Array Slot), 76 - k < n_ → k ≤ 76 → cy < 2 ^ 18 → o < 32768 → t < 32768 → f_ * (N_ % 32768 ^ k) = N_ * f_ % 32768 ^ k + 32768 ^ k * (cy + f_ / 32768 % 32768 * o + f_ / 1073741824 * t) + 32768 ^ (k + 1) * (f_ / 1073741824 * o) → modP g x_ k (N_ * f_) → modR g x_ k N_ → modF g_ g x_ →  va_P D cl5 [(m_, .inr (4, [.int th_, .int nn_, .long le_, .int sh_, .ref ab_, .ref be_, .long ca_, .long cb_, .long oc_, .long st_, .int bs_, .int tr_, .int sp_, .ref rr_])), (rr_, .inl (cI, 152, .inl g))] H → va_D A [(m_, .inr (4, [.int th_, .int nn_, .long le_, .int sh_, .ref ab_, .ref be_, .long ca_, .long cb_, .long oc_, .long st_, .int bs_, .int tr_, .int sp_, .ref rr_])), (rr_, .inl (cI, 152, .inl g))] → va_S A s.heap H locs → lv_has ls 21 [(0, .ref m_), (1, .int (nI x_)), (4, .long (lN (f_ % 32768))), (6, .long (lN (f_ / 32768 % 32768))), (8, .long (lN (f_ / 1073741824))), (10, .long (lN cy)), (12, .long (lN o)), (14, .long (lN t)), (16, .int (nI k))] → W p l e rm_X4_times s m args below meth c H locs 0 0 Q (F0 m 35 ls []) := by
    intro n_
    induction n_ with
    | zero => intro k cy o t g H locs ls hm; exact absurd hm (Nat.not_lt_zero _)
    | succ n_ ih =>
      intro k cy o t g H locs ls hm  h1 hc ho ht hE1 h2 h4 h3 hP hD hS hl
      refine lv_iload hx hb dX4_times_35 (lv_at hl 8 rfl) ?_
      refine lv_bipush (v := nI 76) hx hb dX4_times_37 (by decide) ?_
      refine lv_icmp_ge (tgt := 119) hx hb dX4_times_39 (by decide) (fun c_39 => ?_) (fun c_39 => ?_)
      · skip
        have c_39 := zji_le (a := 76) (b := k) (by omega) (by omega) c_39
        have hk : k = 76 := by omega
        subst hk
        subst hQ
        exact ze_v hx hb hr hlocks g (⟨h2, h3⟩) hP hK hD hS dX4_times_119
      · skip
        have c_39 := zji_nle (a := 76) (b := k) (by omega) (by omega) c_39
        refine lv_aload_n hx hb dX4_times_42 rfl (lv_at hl 0 rfl) ?_
        refine va_get (D := D) (ci := 4) (v := .ref rr_) (C := RX4) (T := TX4) (N := 14) hx hb hts nX4_times_4 hown hK hP 0 rfl rfl 13 (by decide) (zh (w := .fieldLink RX4 41 "FretRootsModel" "\x72" "[I") hts 2 rfl) (fun _ h9 => h9) rfl dX4_times_43 ?_
        refine lv_bipush (v := nI 76) hx hb dX4_times_46 (by decide) ?_
        refine lv_iload_n hx hb dX4_times_48 rfl (lv_at hl 1 rfl) ?_
        refine lv_imul hx hb dX4_times_49 ?_
        refine zi_ (y := nI (76 * x_)) (pk_mul 76 x_) ?_
        refine lv_iload hx hb dX4_times_50 (lv_at hl 8 rfl) ?_
        refine lv_iadd hx hb dX4_times_52 ?_
        refine zi_ (y := nI (76 * x_ + k)) (nI_add (76 * x_) k) ?_
        refine z_iald (j := (76 * x_ + k)) hx hb hK hP 1 0 rfl rfl (by omega) (by omega) dX4_times_53 ?_
        refine zi_ (y := nI (N_ / 32768 ^ k % 32768)) (h4 _ (Nat.le_refl _) c_39) ?_
        refine lv_i2l (v := lN (N_ / 32768 ^ k % 32768)) hx hb dX4_times_54 (nI_l (by omega)) ?_
        refine lv_lstore (lv' := [(17, .long (lN (N_ / 32768 ^ k % 32768))), (0, .ref m_), (1, .int (nI x_)), (4, .long (lN (f_ % 32768))), (6, .long (lN (f_ / 32768 % 32768))), (8, .long (lN (f_ / 1073741824))), (10, .long (lN cy)), (12, .long (lN o)), (14, .long (lN t)), (16, .int (nI k))]) hx hb dX4_times_55 hl (by decide) rfl (fun ls hl => ?_)
        refine lv_lload hx hb dX4_times_57 (lv_at hl 0 rfl) ?_
        refine lv_lload hx hb dX4_times_59 (lv_at hl 3 rfl) ?_
        refine lv_lmul hx hb dX4_times_61 ?_
        refine zl_ (y := lN ((N_ / 32768 ^ k % 32768) * (f_ % 32768))) (lN_mul (N_ / 32768 ^ k % 32768) (f_ % 32768)) ?_
        refine lv_lload hx hb dX4_times_62 (lv_at hl 7 rfl) ?_
        refine lv_lload hx hb dX4_times_64 (lv_at hl 4 rfl) ?_
        refine lv_lmul hx hb dX4_times_66 ?_
        refine zl_ (y := lN (o * (f_ / 32768 % 32768))) (lN_mul o (f_ / 32768 % 32768)) ?_
        refine lv_ladd hx hb dX4_times_67 ?_
        refine zl_ (y := lN ((N_ / 32768 ^ k % 32768) * (f_ % 32768) + (o * (f_ / 32768 % 32768)))) (lN_add ((N_ / 32768 ^ k % 32768) * (f_ % 32768)) (o * (f_ / 32768 % 32768))) ?_
        refine lv_lload hx hb dX4_times_68 (lv_at hl 8 rfl) ?_
        refine lv_lload hx hb dX4_times_70 (lv_at hl 5 rfl) ?_
        refine lv_lmul hx hb dX4_times_72 ?_
        refine zl_ (y := lN (t * (f_ / 1073741824))) (lN_mul t (f_ / 1073741824)) ?_
        refine lv_ladd hx hb dX4_times_73 ?_
        refine zl_ (y := lN ((N_ / 32768 ^ k % 32768) * (f_ % 32768) + (o * (f_ / 32768 % 32768)) + (t * (f_ / 1073741824)))) (lN_add ((N_ / 32768 ^ k % 32768) * (f_ % 32768) + (o * (f_ / 32768 % 32768))) (t * (f_ / 1073741824))) ?_
        refine lv_lload hx hb dX4_times_74 (lv_at hl 6 rfl) ?_
        obtain ⟨q, hq⟩ : ∃ q, q = N_ / 32768 ^ k % 32768 * (f_ % 32768) + o * (f_ / 32768 % 32768) + t * (f_ / 1073741824) + cy := ⟨_, rfl⟩
        have hst := t_step hE1 hq
        have hqb : q < 2 ^ 32 := by rw [hq]; exact t_bound (Nat.mod_lt _ (by decide)) (Nat.mod_lt _ (by decide)) ho (Nat.mod_lt _ (by decide)) ht (by omega) hc
        refine lv_ladd hx hb dX4_times_76 ?_
        refine zl_ (y := lN ((N_ / 32768 ^ k % 32768) * (f_ % 32768) + (o * (f_ / 32768 % 32768)) + (t * (f_ / 1073741824)) + cy)) (lN_add ((N_ / 32768 ^ k % 32768) * (f_ % 32768) + (o * (f_ / 32768 % 32768)) + (t * (f_ / 1073741824))) cy) ?_
        refine zl_ (y := lN q) (by rw [hq]) ?_
        refine lv_lstore (lv' := [(19, .long (lN q)), (17, .long (lN (N_ / 32768 ^ k % 32768))), (0, .ref m_), (1, .int (nI x_)), (4, .long (lN (f_ % 32768))), (6, .long (lN (f_ / 32768 % 32768))), (8, .long (lN (f_ / 1073741824))), (10, .long (lN cy)), (12, .long (lN o)), (14, .long (lN t)), (16, .int (nI k))]) hx hb dX4_times_77 hl (by decide) rfl (fun ls hl => ?_)
        refine lv_aload_n hx hb dX4_times_79 rfl (lv_at hl 2 rfl) ?_
        refine va_get (D := D) (ci := 4) (v := .ref rr_) (C := RX4) (T := TX4) (N := 14) hx hb hts nX4_times_4 hown hK hP 0 rfl rfl 13 (by decide) (zh (w := .fieldLink RX4 41 "FretRootsModel" "\x72" "[I") hts 2 rfl) (fun _ h9 => h9) rfl dX4_times_80 ?_
        refine lv_bipush (v := nI 76) hx hb dX4_times_83 (by decide) ?_
        refine lv_iload_n hx hb dX4_times_85 rfl (lv_at hl 3 rfl) ?_
        refine lv_imul hx hb dX4_times_86 ?_
        refine zi_ (y := nI (76 * x_)) (pk_mul 76 x_) ?_
        refine lv_iload hx hb dX4_times_87 (lv_at hl 10 rfl) ?_
        refine lv_iadd hx hb dX4_times_89 ?_
        refine zi_ (y := nI (76 * x_ + k)) (nI_add (76 * x_) k) ?_
        refine lv_lload hx hb dX4_times_90 (lv_at hl 0 rfl) ?_
        refine lv_ldc2 (v := 32767) hx hb hown (zh (w := .constantLong RX4 56 (32767)) hts 1 rfl) dX4_times_92 ?_
        refine zl_ (y := lN 32767) rfl ?_
        refine lv_land hx hb dX4_times_95 ?_
        refine zl_ (y := lN (N_ * f_ / 32768 ^ k % 32768)) ((z_and15l (by omega)).trans (congrArg lN hst.1)) ?_
        refine lv_l2i (v := nI (N_ * f_ / 32768 ^ k % 32768)) hx hb dX4_times_96 (lN_i (N_ * f_ / 32768 ^ k % 32768)) ?_
        refine z_iast (j := (76 * x_ + k)) hx hb hK hP hD hS 1 0 rfl rfl (by omega) (by omega) dX4_times_97 (fun H locs hP hD hS => ?_)
        obtain ⟨gA, egA⟩ : ∃ f9, f9 = upd g (76 * x_ + k) (nI (N_ * f_ / 32768 ^ k % 32768)) := ⟨_, rfl⟩
        have hP : va_P D cl5 [(m_, .inr (4, [.int th_, .int nn_, .long le_, .int sh_, .ref ab_, .ref be_, .long ca_, .long cb_, .long oc_, .long st_, .int bs_, .int tr_, .int sp_, .ref rr_])), (rr_, .inl (cI, 152, .inl gA))] H := by rw [egA]; exact hP
        have hD : va_D A [(m_, .inr (4, [.int th_, .int nn_, .long le_, .int sh_, .ref ab_, .ref be_, .long ca_, .long cb_, .long oc_, .long st_, .int bs_, .int tr_, .int sp_, .ref rr_])), (rr_, .inl (cI, 152, .inl gA))] := by rw [egA]; exact hD
        refine lv_lload hx hb dX4_times_98 (lv_at hl 0 rfl) ?_
        refine lv_bipush (v := nI 15) hx hb dX4_times_100 (by decide) ?_
        refine lv_lshr (v := lN (q / 2 ^ 15)) hx hb dX4_times_102 (z_shr (by omega) (by omega)) ?_
        refine zl_ (y := lN (q / 32768)) (rfl) ?_
        refine lv_lstore (lv' := [(10, .long (lN (q / 32768))), (19, .long (lN q)), (17, .long (lN (N_ / 32768 ^ k % 32768))), (0, .ref m_), (1, .int (nI x_)), (4, .long (lN (f_ % 32768))), (6, .long (lN (f_ / 32768 % 32768))), (8, .long (lN (f_ / 1073741824))), (12, .long (lN o)), (14, .long (lN t)), (16, .int (nI k))]) hx hb dX4_times_103 hl (by decide) rfl (fun ls hl => ?_)
        refine lv_lload hx hb dX4_times_105 (lv_at hl 8 rfl) ?_
        refine lv_lstore (lv' := [(14, .long (lN o)), (10, .long (lN (q / 32768))), (19, .long (lN q)), (17, .long (lN (N_ / 32768 ^ k % 32768))), (0, .ref m_), (1, .int (nI x_)), (4, .long (lN (f_ % 32768))), (6, .long (lN (f_ / 32768 % 32768))), (8, .long (lN (f_ / 1073741824))), (12, .long (lN o)), (16, .int (nI k))]) hx hb dX4_times_107 hl (by decide) rfl (fun ls hl => ?_)
        refine lv_lload hx hb dX4_times_109 (lv_at hl 3 rfl) ?_
        refine lv_lstore (lv' := [(12, .long (lN (N_ / 32768 ^ k % 32768))), (14, .long (lN o)), (10, .long (lN (q / 32768))), (19, .long (lN q)), (17, .long (lN (N_ / 32768 ^ k % 32768))), (0, .ref m_), (1, .int (nI x_)), (4, .long (lN (f_ % 32768))), (6, .long (lN (f_ / 32768 % 32768))), (8, .long (lN (f_ / 1073741824))), (16, .int (nI k))]) hx hb dX4_times_111 hl (by decide) rfl (fun ls hl => ?_)
        refine lv_iinc (v := nI (k + 1)) (lv' := [(16, .int (nI (k + 1))), (12, .long (lN (N_ / 32768 ^ k % 32768))), (14, .long (lN o)), (10, .long (lN (q / 32768))), (19, .long (lN q)), (17, .long (lN (N_ / 32768 ^ k % 32768))), (0, .ref m_), (1, .int (nI x_)), (4, .long (lN (f_ % 32768))), (6, .long (lN (f_ / 32768 % 32768))), (8, .long (lN (f_ / 1073741824)))]) hx hb dX4_times_113 hl (k := 10) rfl (z_inc k 1) (by decide) rfl (fun ls hl => ?_)
        refine lv_goto (tgt := 35) hx hb dX4_times_116 (by decide) ?_
        exact ih (k + 1) (q / 32768) (N_ / 32768 ^ k % 32768) o gA _ _ _ (by omega) (by omega) (by omega) (Nat.mod_lt _ (by decide)) ho hst.2 (by rw [egA]; exact modP_snoc h2) (by rw [egA]; exact modR_snoc h4) (by rw [egA]; exact modF_upd h3 c_39) hP hD hS (lv_sub hl [6, 7, 8, 9, 10, 3, 1, 2, 0] rfl)
  refine lv_lload_n hx hb dX4_times_0 rfl (lv_at hl 2 rfl) ?_
  refine lv_ldc2 (v := 32767) hx hb hown (zh (w := .constantLong RX4 56 (32767)) hts 1 rfl) dX4_times_1 ?_
  refine zl_ (y := lN 32767) rfl ?_
  refine lv_land hx hb dX4_times_4 ?_
  refine zl_ (y := lN (f_ % 32768)) (z_and15l (by omega)) ?_
  refine lv_lstore (lv' := [(4, .long (lN (f_ % 32768))), (0, .ref m_), (1, .int (nI x_)), (2, .long (lN f_))]) hx hb dX4_times_5 hl (by decide) rfl (fun ls hl => ?_)
  refine lv_lload_n hx hb dX4_times_7 rfl (lv_at hl 3 rfl) ?_
  refine lv_bipush (v := nI 15) hx hb dX4_times_8 (by decide) ?_
  refine lv_lshr (v := lN (f_ / 2 ^ 15)) hx hb dX4_times_10 (z_shr (by omega) (by omega)) ?_
  refine lv_ldc2 (v := 32767) hx hb hown (zh (w := .constantLong RX4 56 (32767)) hts 1 rfl) dX4_times_11 ?_
  refine zl_ (y := lN 32767) rfl ?_
  refine lv_land hx hb dX4_times_14 ?_
  refine zl_ (y := lN (f_ / 32768 % 32768)) (z_and15l (by omega)) ?_
  refine lv_lstore (lv' := [(6, .long (lN (f_ / 32768 % 32768))), (4, .long (lN (f_ % 32768))), (0, .ref m_), (1, .int (nI x_)), (2, .long (lN f_))]) hx hb dX4_times_15 hl (by decide) rfl (fun ls hl => ?_)
  refine lv_lload_n hx hb dX4_times_17 rfl (lv_at hl 4 rfl) ?_
  refine lv_bipush (v := nI 30) hx hb dX4_times_18 (by decide) ?_
  refine lv_lshr (v := lN (f_ / 2 ^ 30)) hx hb dX4_times_20 (z_shr (by omega) (by omega)) ?_
  refine zl_ (y := lN (f_ / 1073741824)) (rfl) ?_
  refine lv_lstore (lv' := [(8, .long (lN (f_ / 1073741824))), (6, .long (lN (f_ / 32768 % 32768))), (4, .long (lN (f_ % 32768))), (0, .ref m_), (1, .int (nI x_)), (2, .long (lN f_))]) hx hb dX4_times_21 hl (by decide) rfl (fun ls hl => ?_)
  refine lv_lconst (v := lN 0) hx hb dX4_times_23 rfl ?_
  refine lv_lstore (lv' := [(10, .long (lN 0)), (8, .long (lN (f_ / 1073741824))), (6, .long (lN (f_ / 32768 % 32768))), (4, .long (lN (f_ % 32768))), (0, .ref m_), (1, .int (nI x_)), (2, .long (lN f_))]) hx hb dX4_times_24 hl (by decide) rfl (fun ls hl => ?_)
  refine lv_lconst (v := lN 0) hx hb dX4_times_26 rfl ?_
  refine lv_lstore (lv' := [(12, .long (lN 0)), (10, .long (lN 0)), (8, .long (lN (f_ / 1073741824))), (6, .long (lN (f_ / 32768 % 32768))), (4, .long (lN (f_ % 32768))), (0, .ref m_), (1, .int (nI x_)), (2, .long (lN f_))]) hx hb dX4_times_27 hl (by decide) rfl (fun ls hl => ?_)
  refine lv_lconst (v := lN 0) hx hb dX4_times_29 rfl ?_
  refine lv_lstore (lv' := [(14, .long (lN 0)), (12, .long (lN 0)), (10, .long (lN 0)), (8, .long (lN (f_ / 1073741824))), (6, .long (lN (f_ / 32768 % 32768))), (4, .long (lN (f_ % 32768))), (0, .ref m_), (1, .int (nI x_)), (2, .long (lN f_))]) hx hb dX4_times_30 hl (by decide) rfl (fun ls hl => ?_)
  refine lv_iconst (v := nI 0) hx hb dX4_times_32 (by decide) ?_
  refine lv_istore (lv' := [(16, .int (nI 0)), (14, .long (lN 0)), (12, .long (lN 0)), (10, .long (lN 0)), (8, .long (lN (f_ / 1073741824))), (6, .long (lN (f_ / 32768 % 32768))), (4, .long (lN (f_ % 32768))), (0, .ref m_), (1, .int (nI x_)), (2, .long (lN f_))]) hx hb dX4_times_33 hl (by decide) rfl (fun ls hl => ?_)
  exact lp_35 ((76 - 0) + 1) 0 0 0 0 g_ _ _ _ (Nat.lt_succ_self _) (Nat.zero_le _) (by decide) (by decide) (by decide) (t_init f_ N_) (fun j h => absurd h (Nat.not_lt_zero _)) (modL_R hL) (modF_rf _ _) hP hD hS (lv_sub hl [7, 8, 6, 5, 4, 3, 2, 1, 0] rfl)
abbrev rm_X4_power : Room := { frames := 1, cells := 0, slots := 0, locals := 40 }
set_option maxHeartbeats 4000000 in
set_option maxRecDepth 100000 in
/-- power -/
theorem ct_X4_power (l : Launch) (D : va_G) (cI cJ cD : ClassId) (m_ : Nat) (ab_ : Nat) (be_ : Nat) (rr_ : Nat) (th_ : Int32) (nn_ : Int32) (sh_ : Int32) (bs_ : Int32) (tr_ : Int32) (sp_ : Int32) (le_ : Int64) (ca_ : Int64) (cb_ : Int64) (oc_ : Int64) (st_ : Int64) (x_ : Nat) (b_ : Nat) (e_ : Nat) (g_ : Nat → Int32) (sz : Nat) (hx_ : x_ ≤ 1) (hb_ : b_ < 2 ^ 45) (he : e_ < 2 ^ 31) : Met l yX4_power wsX4_power rm_X4_power (zP D (ty3 cI cJ cD) [.ref m_, .int (nI x_), .long (lN b_), .int (nI e_)] sz [(m_, .inr (4, [.int th_, .int nn_, .long le_, .int sh_, .ref ab_, .ref be_, .long ca_, .long cb_, .long oc_, .long st_, .int bs_, .int tr_, .int sp_, .ref rr_])), (rr_, .inl (cI, 152, .inl g_))] zT) (va_Qv (fun (u : (Nat → Int32)) => modL u x_ (b_ ^ e_) ∧ modF g_ u x_) (zB D (ty3 cI cJ cD) (fun (u : (Nat → Int32)) => [(m_, .inr (4, [.int th_, .int nn_, .long le_, .int sh_, .ref ab_, .ref be_, .long ca_, .long cb_, .long oc_, .long st_, .int bs_, .int tr_, .int sp_, .ref rr_])), (rr_, .inl (cI, 152, .inl u))]) (va_A [(m_, .inr (4, [.int th_, .int nn_, .long le_, .int sh_, .ref ab_, .ref be_, .long ca_, .long cb_, .long oc_, .long st_, .int bs_, .int tr_, .int sp_, .ref rr_])), (rr_, .inl (cI, 152, .inl g_))] sz)) (va_A [(m_, .inr (4, [.int th_, .int nn_, .long le_, .int sh_, .ref ab_, .ref be_, .long ca_, .long cb_, .long oc_, .long st_, .int bs_, .int tr_, .int sp_, .ref rr_])), (rr_, .inl (cI, 152, .inl g_))] sz)) 0 0 (va_A [(m_, .inr (4, [.int th_, .int nn_, .long le_, .int sh_, .ref ab_, .ref be_, .long ca_, .long cb_, .long oc_, .long st_, .int bs_, .int tr_, .int sp_, .ref rr_])), (rr_, .inl (cI, 152, .inl g_))] sz) := by
  refine zMet (Qf := fun A => va_Qv (fun (u : (Nat → Int32)) => modL u x_ (b_ ^ e_) ∧ modF g_ u x_) (zB D (ty3 cI cJ cD) (fun (u : (Nat → Int32)) => [(m_, .inr (4, [.int th_, .int nn_, .long le_, .int sh_, .ref ab_, .ref be_, .long ca_, .long cb_, .long oc_, .long st_, .int bs_, .int tr_, .int sp_, .ref rr_])), (rr_, .inl (cI, 152, .inl u))]) A) A) (cc := cX4_power) (maxL := 6) (ret := none) (by decide) rfl (Nat.le_of_ble_eq_true rfl) ?_
  intro p e s m args below meth c A ls Q H hargs hQ hHe hx hb hr hml hown hts hlocks hin hP hK hD hA hS hE hAe hl
  have hl : lv_has ls 6 [(0, .ref m_), (1, .int (nI x_)), (2, .long (lN b_)), (4, .int (nI e_))] := hl
  have lp_9 : ∀ (n_ : Nat) (i : Nat) (g : Nat → Int32) (H : Heap) (locs : List Loc) (ls : Array Slot), e_ - i < n_ → i ≤ e_ → modL g x_ (b_ ^ i) → modF g_ g x_ →  va_P D cl5 [(m_, .inr (4, [.int th_, .int nn_, .long le_, .int sh_, .ref ab_, .ref be_, .long ca_, .long cb_, .long oc_, .long st_, .int bs_, .int tr_, .int sp_, .ref rr_])), (rr_, .inl (cI, 152, .inl g))] H → va_D A [(m_, .inr (4, [.int th_, .int nn_, .long le_, .int sh_, .ref ab_, .ref be_, .long ca_, .long cb_, .long oc_, .long st_, .int bs_, .int tr_, .int sp_, .ref rr_])), (rr_, .inl (cI, 152, .inl g))] → va_S A s.heap H locs → lv_has ls 6 [(0, .ref m_), (1, .int (nI x_)), (2, .long (lN b_)), (4, .int (nI e_)), (5, .int (nI i))] → W p l e rm_X4_power s m args below meth c H locs 0 0 Q (F0 m 9 ls []) := by
    intro n_
    induction n_ with
    | zero => intro i g H locs ls hm; exact absurd hm (Nat.not_lt_zero _)
    | succ n_ ih =>
      intro i g H locs ls hm  h1 h2 h3 hP hD hS hl
      refine lv_iload hx hb dX4_power_9 (lv_at hl 4 rfl) ?_
      refine lv_iload hx hb dX4_power_11 (lv_at hl 3 rfl) ?_
      refine lv_icmp_ge (tgt := 28) hx hb dX4_power_13 (by decide) (fun c_13 => ?_) (fun c_13 => ?_)
      · skip
        have c_13 := zji_le (a := e_) (b := i) (by omega) (by omega) c_13
        have hk : e_ = i := by omega
        subst hk
        subst hQ
        exact ze_v hx hb hr hlocks g (⟨h2, h3⟩) hP hK hD hS dX4_power_28
      · skip
        have c_13 := zji_nle (a := e_) (b := i) (by omega) (by omega) c_13
        refine lv_aload_n hx hb dX4_power_16 rfl (lv_at hl 0 rfl) ?_
        refine lv_iload_n hx hb dX4_power_17 rfl (lv_at hl 1 rfl) ?_
        refine lv_lload_n hx hb dX4_power_18 rfl (lv_at hl 2 rfl) ?_
        refine zc_v (wc := [(m_, .inr (4, [.int th_, .int nn_, .long le_, .int sh_, .ref ab_, .ref be_, .long ca_, .long cb_, .long oc_, .long st_, .int bs_, .int tr_, .int sp_, .ref rr_])), (rr_, .inl (cI, 152, .inl g))]) (wr := []) hP hD hS hA [0, 1] [] rfl rfl (by decide) (by decide) (va_runV (As := [.int (nI x_), .long (lN b_)]) (rest := []) ⟨hx, hb, hml, hown, hts⟩ (ct_X4_times l D cI cJ cD m_ ab_ be_ rr_ th_ nn_ sh_ bs_ tr_ sp_ le_ ca_ cb_ oc_ st_ x_ (b_ ^ i) b_ g H.size hx_ hb_ h2) (cwV 2 hts gX4_power_X4_times rfl rfl rfl (by decide +kernel) ⟨Nat.le_of_ble_eq_true rfl, Nat.le_of_ble_eq_true rfl⟩) (zPreV (wc := [(m_, .inr (4, [.int th_, .int nn_, .long le_, .int sh_, .ref ab_, .ref be_, .long ca_, .long cb_, .long oc_, .long st_, .int bs_, .int tr_, .int sp_, .ref rr_])), (rr_, .inl (cI, 152, .inl g))]) hK hP hD 4 0 rfl rfl zTb (fun _ _ _ => trivial)) rfl rfl hl.1 rfl (lv_room (Nat.le_of_ble_eq_true rfl)) dX4_power_19 ⟨Nat.le_of_ble_eq_true rfl, Nat.le_of_ble_eq_true rfl⟩) (fun u H locs hw hP hD hS => ?_)
        obtain ⟨g2_2, rfl⟩ : ∃ z, z = u := ⟨_, rfl⟩
        have hP : va_P D cl5 [(m_, .inr (4, [.int th_, .int nn_, .long le_, .int sh_, .ref ab_, .ref be_, .long ca_, .long cb_, .long oc_, .long st_, .int bs_, .int tr_, .int sp_, .ref rr_])), (rr_, .inl (cI, 152, .inl g2_2))] H := hP.sub [0, 1] rfl
        have hD : va_D A [(m_, .inr (4, [.int th_, .int nn_, .long le_, .int sh_, .ref ab_, .ref be_, .long ca_, .long cb_, .long oc_, .long st_, .int bs_, .int tr_, .int sp_, .ref rr_])), (rr_, .inl (cI, 152, .inl g2_2))] := hD.sub [0, 1] (by decide) rfl
        have hw : modL g2_2 x_ ((b_ ^ i) * b_) ∧ modF g g2_2 x_ := hw
        obtain ⟨hL_19, hF_19⟩ := hw
        refine lv_iinc (v := nI (i + 1)) (lv' := [(5, .int (nI (i + 1))), (0, .ref m_), (1, .int (nI x_)), (2, .long (lN b_)), (4, .int (nI e_))]) hx hb dX4_power_22 hl (k := 4) rfl (z_inc i 1) (by decide) rfl (fun ls hl => ?_)
        refine lv_goto (tgt := 9) hx hb dX4_power_25 (by decide) ?_
        exact ih (i + 1) g2_2 _ _ _ (by omega) (by omega) hL_19 (modF_tr h3 hF_19) hP hD hS (lv_sub hl [1, 2, 3, 4, 0] rfl)
  refine lv_aload_n hx hb dX4_power_0 rfl (lv_at hl 0 rfl) ?_
  refine lv_iload_n hx hb dX4_power_1 rfl (lv_at hl 1 rfl) ?_
  refine lv_lconst (v := lN 1) hx hb dX4_power_2 rfl ?_
  refine zc_v (wc := [(m_, .inr (4, [.int th_, .int nn_, .long le_, .int sh_, .ref ab_, .ref be_, .long ca_, .long cb_, .long oc_, .long st_, .int bs_, .int tr_, .int sp_, .ref rr_])), (rr_, .inl (cI, 152, .inl g_))]) (wr := []) hP hD hS hA [0, 1] [] rfl rfl (by decide) (by decide) (va_runV (As := [.int (nI x_), .long (lN 1)]) (rest := []) ⟨hx, hb, hml, hown, hts⟩ (ct_X4_set l D cI cJ cD m_ ab_ be_ rr_ th_ nn_ sh_ bs_ tr_ sp_ le_ ca_ cb_ oc_ st_ x_ 1 g_ H.size hx_ (by decide)) (cwV 2 hts gX4_power_X4_set rfl rfl rfl (by decide +kernel) ⟨Nat.le_of_ble_eq_true rfl, Nat.le_of_ble_eq_true rfl⟩) (zPreV (wc := [(m_, .inr (4, [.int th_, .int nn_, .long le_, .int sh_, .ref ab_, .ref be_, .long ca_, .long cb_, .long oc_, .long st_, .int bs_, .int tr_, .int sp_, .ref rr_])), (rr_, .inl (cI, 152, .inl g_))]) hK hP hD 4 0 rfl rfl zTb (fun _ _ _ => trivial)) rfl rfl hl.1 rfl (lv_room (Nat.le_of_ble_eq_true rfl)) dX4_power_3 ⟨Nat.le_of_ble_eq_true rfl, Nat.le_of_ble_eq_true rfl⟩) (fun u H locs hw hP hD hS => ?_)
  obtain ⟨g2_4, rfl⟩ : ∃ z, z = u := ⟨_, rfl⟩
  have hP : va_P D cl5 [(m_, .inr (4, [.int th_, .int nn_, .long le_, .int sh_, .ref ab_, .ref be_, .long ca_, .long cb_, .long oc_, .long st_, .int bs_, .int tr_, .int sp_, .ref rr_])), (rr_, .inl (cI, 152, .inl g2_4))] H := hP.sub [0, 1] rfl
  have hD : va_D A [(m_, .inr (4, [.int th_, .int nn_, .long le_, .int sh_, .ref ab_, .ref be_, .long ca_, .long cb_, .long oc_, .long st_, .int bs_, .int tr_, .int sp_, .ref rr_])), (rr_, .inl (cI, 152, .inl g2_4))] := hD.sub [0, 1] (by decide) rfl
  have hw : modL g2_4 x_ 1 ∧ modF g_ g2_4 x_ := hw
  obtain ⟨hL_3, hF_3⟩ := hw
  refine lv_iconst (v := nI 0) hx hb dX4_power_6 (by decide) ?_
  refine lv_istore (lv' := [(5, .int (nI 0)), (0, .ref m_), (1, .int (nI x_)), (2, .long (lN b_)), (4, .int (nI e_))]) hx hb dX4_power_7 hl (by decide) rfl (fun ls hl => ?_)
  exact lp_9 ((e_ - 0) + 1) 0 g2_4 _ _ _ (Nat.lt_succ_self _) (Nat.zero_le _) hL_3 hF_3 hP hD hS (lv_sub hl [1, 2, 3, 4, 0] rfl)
abbrev rm_X4_twice : Room := { frames := 1, cells := 0, slots := 0, locals := 40 }
set_option maxHeartbeats 4000000 in
set_option maxRecDepth 100000 in
/-- twice -/
theorem ct_X4_twice (l : Launch) (D : va_G) (cI cJ cD : ClassId) (m_ : Nat) (ab_ : Nat) (be_ : Nat) (rr_ : Nat) (th_ : Int32) (nn_ : Int32) (sh_ : Int32) (bs_ : Int32) (tr_ : Int32) (sp_ : Int32) (le_ : Int64) (ca_ : Int64) (cb_ : Int64) (oc_ : Int64) (st_ : Int64) (x_ : Nat) (N_ : Nat) (e_ : Nat) (g_ : Nat → Int32) (sz : Nat) (hx_ : x_ ≤ 1) (he : e_ < 2 ^ 31) (hL : modL g_ x_ N_) : Met l yX4_twice wsX4_twice rm_X4_twice (zP D (ty3 cI cJ cD) [.ref m_, .int (nI x_), .int (nI e_)] sz [(m_, .inr (4, [.int th_, .int nn_, .long le_, .int sh_, .ref ab_, .ref be_, .long ca_, .long cb_, .long oc_, .long st_, .int bs_, .int tr_, .int sp_, .ref rr_])), (rr_, .inl (cI, 152, .inl g_))] zT) (va_Qv (fun (u : (Nat → Int32)) => modL u x_ (N_ * 2 ^ e_) ∧ modF g_ u x_) (zB D (ty3 cI cJ cD) (fun (u : (Nat → Int32)) => [(m_, .inr (4, [.int th_, .int nn_, .long le_, .int sh_, .ref ab_, .ref be_, .long ca_, .long cb_, .long oc_, .long st_, .int bs_, .int tr_, .int sp_, .ref rr_])), (rr_, .inl (cI, 152, .inl u))]) (va_A [(m_, .inr (4, [.int th_, .int nn_, .long le_, .int sh_, .ref ab_, .ref be_, .long ca_, .long cb_, .long oc_, .long st_, .int bs_, .int tr_, .int sp_, .ref rr_])), (rr_, .inl (cI, 152, .inl g_))] sz)) (va_A [(m_, .inr (4, [.int th_, .int nn_, .long le_, .int sh_, .ref ab_, .ref be_, .long ca_, .long cb_, .long oc_, .long st_, .int bs_, .int tr_, .int sp_, .ref rr_])), (rr_, .inl (cI, 152, .inl g_))] sz)) 0 0 (va_A [(m_, .inr (4, [.int th_, .int nn_, .long le_, .int sh_, .ref ab_, .ref be_, .long ca_, .long cb_, .long oc_, .long st_, .int bs_, .int tr_, .int sp_, .ref rr_])), (rr_, .inl (cI, 152, .inl g_))] sz) := by
  refine zMet (Qf := fun A => va_Qv (fun (u : (Nat → Int32)) => modL u x_ (N_ * 2 ^ e_) ∧ modF g_ u x_) (zB D (ty3 cI cJ cD) (fun (u : (Nat → Int32)) => [(m_, .inr (4, [.int th_, .int nn_, .long le_, .int sh_, .ref ab_, .ref be_, .long ca_, .long cb_, .long oc_, .long st_, .int bs_, .int tr_, .int sp_, .ref rr_])), (rr_, .inl (cI, 152, .inl u))]) A) A) (cc := cX4_twice) (maxL := 4) (ret := none) (by decide) rfl (Nat.le_of_ble_eq_true rfl) ?_
  intro p e s m args below meth c A ls Q H hargs hQ hHe hx hb hr hml hown hts hlocks hin hP hK hD hA hS hE hAe hl
  have hl : lv_has ls 4 [(0, .ref m_), (1, .int (nI x_)), (2, .int (nI e_))] := hl
  have lp_2 : ∀ (n_ : Nat) (i : Nat) (g : Nat → Int32) (H : Heap) (locs : List Loc) (ls : Array Slot), e_ - i < n_ → i ≤ e_ → modL g x_ (N_ * 2 ^ i) → modF g_ g x_ →  va_P D cl5 [(m_, .inr (4, [.int th_, .int nn_, .long le_, .int sh_, .ref ab_, .ref be_, .long ca_, .long cb_, .long oc_, .long st_, .int bs_, .int tr_, .int sp_, .ref rr_])), (rr_, .inl (cI, 152, .inl g))] H → va_D A [(m_, .inr (4, [.int th_, .int nn_, .long le_, .int sh_, .ref ab_, .ref be_, .long ca_, .long cb_, .long oc_, .long st_, .int bs_, .int tr_, .int sp_, .ref rr_])), (rr_, .inl (cI, 152, .inl g))] → va_S A s.heap H locs → lv_has ls 4 [(0, .ref m_), (1, .int (nI x_)), (2, .int (nI e_)), (3, .int (nI i))] → W p l e rm_X4_twice s m args below meth c H locs 0 0 Q (F0 m 2 ls []) := by
    intro n_
    induction n_ with
    | zero => intro i g H locs ls hm; exact absurd hm (Nat.not_lt_zero _)
    | succ n_ ih =>
      intro i g H locs ls hm  h1 h2 h3 hP hD hS hl
      refine lv_iload_n hx hb dX4_twice_2 rfl (lv_at hl 3 rfl) ?_
      refine lv_iload_n hx hb dX4_twice_3 rfl (lv_at hl 2 rfl) ?_
      refine lv_icmp_ge (tgt := 21) hx hb dX4_twice_4 (by decide) (fun c_4 => ?_) (fun c_4 => ?_)
      · skip
        have c_4 := zji_le (a := e_) (b := i) (by omega) (by omega) c_4
        have hk : e_ = i := by omega
        subst hk
        subst hQ
        exact ze_v hx hb hr hlocks g (⟨h2, h3⟩) hP hK hD hS dX4_twice_21
      · skip
        have c_4 := zji_nle (a := e_) (b := i) (by omega) (by omega) c_4
        refine lv_aload_n hx hb dX4_twice_7 rfl (lv_at hl 0 rfl) ?_
        refine lv_iload_n hx hb dX4_twice_8 rfl (lv_at hl 1 rfl) ?_
        refine lv_ldc2 (v := 2) hx hb hown (zh (w := .constantLong RX4 50 (2)) hts 1 rfl) dX4_twice_9 ?_
        refine zl_ (y := lN 2) rfl ?_
        refine zc_v (wc := [(m_, .inr (4, [.int th_, .int nn_, .long le_, .int sh_, .ref ab_, .ref be_, .long ca_, .long cb_, .long oc_, .long st_, .int bs_, .int tr_, .int sp_, .ref rr_])), (rr_, .inl (cI, 152, .inl g))]) (wr := []) hP hD hS hA [0, 1] [] rfl rfl (by decide) (by decide) (va_runV (As := [.int (nI x_), .long (lN 2)]) (rest := []) ⟨hx, hb, hml, hown, hts⟩ (ct_X4_times l D cI cJ cD m_ ab_ be_ rr_ th_ nn_ sh_ bs_ tr_ sp_ le_ ca_ cb_ oc_ st_ x_ (N_ * 2 ^ i) 2 g H.size hx_ (by decide) h2) (cwV 2 hts gX4_twice_X4_times rfl rfl rfl (by decide +kernel) ⟨Nat.le_of_ble_eq_true rfl, Nat.le_of_ble_eq_true rfl⟩) (zPreV (wc := [(m_, .inr (4, [.int th_, .int nn_, .long le_, .int sh_, .ref ab_, .ref be_, .long ca_, .long cb_, .long oc_, .long st_, .int bs_, .int tr_, .int sp_, .ref rr_])), (rr_, .inl (cI, 152, .inl g))]) hK hP hD 4 0 rfl rfl zTb (fun _ _ _ => trivial)) rfl rfl hl.1 rfl (lv_room (Nat.le_of_ble_eq_true rfl)) dX4_twice_12 ⟨Nat.le_of_ble_eq_true rfl, Nat.le_of_ble_eq_true rfl⟩) (fun u H locs hw hP hD hS => ?_)
        obtain ⟨g2_2, rfl⟩ : ∃ z, z = u := ⟨_, rfl⟩
        have hP : va_P D cl5 [(m_, .inr (4, [.int th_, .int nn_, .long le_, .int sh_, .ref ab_, .ref be_, .long ca_, .long cb_, .long oc_, .long st_, .int bs_, .int tr_, .int sp_, .ref rr_])), (rr_, .inl (cI, 152, .inl g2_2))] H := hP.sub [0, 1] rfl
        have hD : va_D A [(m_, .inr (4, [.int th_, .int nn_, .long le_, .int sh_, .ref ab_, .ref be_, .long ca_, .long cb_, .long oc_, .long st_, .int bs_, .int tr_, .int sp_, .ref rr_])), (rr_, .inl (cI, 152, .inl g2_2))] := hD.sub [0, 1] (by decide) rfl
        have hw : modL g2_2 x_ ((N_ * 2 ^ i) * 2) ∧ modF g g2_2 x_ := hw
        obtain ⟨hL_12, hF_12⟩ := hw
        refine lv_iinc (v := nI (i + 1)) (lv' := [(3, .int (nI (i + 1))), (0, .ref m_), (1, .int (nI x_)), (2, .int (nI e_))]) hx hb dX4_twice_15 hl (k := 3) rfl (z_inc i 1) (by decide) rfl (fun ls hl => ?_)
        refine lv_goto (tgt := 2) hx hb dX4_twice_18 (by decide) ?_
        exact ih (i + 1) g2_2 _ _ _ (by omega) (by omega) (by rw [Nat.pow_succ, ← Nat.mul_assoc]; exact hL_12) (modF_tr h3 hF_12) hP hD hS (lv_sub hl [1, 2, 3, 0] rfl)
  refine lv_iconst (v := nI 0) hx hb dX4_twice_0 (by decide) ?_
  refine lv_istore_n (lv' := [(3, .int (nI 0)), (0, .ref m_), (1, .int (nI x_)), (2, .int (nI e_))]) hx hb dX4_twice_1 rfl hl (by decide) rfl (fun ls hl => ?_)
  exact lp_2 ((e_ - 0) + 1) 0 g_ _ _ _ (Nat.lt_succ_self _) (Nat.zero_le _) (by rw [Nat.pow_zero, Nat.mul_one]; exact hL) (modF_rf _ _) hP hD hS (lv_sub hl [1, 2, 3, 0] rfl)
theorem nX4_compare_4 : ∀ w ∈ wsX40, w ∈ wsX4_compare := by decide +kernel
abbrev rm_X4_compare : Room := { frames := 0, cells := 0, slots := 0, locals := 0 }
set_option maxHeartbeats 4000000 in
set_option maxRecDepth 100000 in
/-- compare -/
theorem ct_X4_compare (l : Launch) (D : va_G) (cI cJ cD : ClassId) (m_ : Nat) (ab_ : Nat) (be_ : Nat) (rr_ : Nat) (th_ : Int32) (nn_ : Int32) (sh_ : Int32) (bs_ : Int32) (tr_ : Int32) (sp_ : Int32) (le_ : Int64) (ca_ : Int64) (cb_ : Int64) (oc_ : Int64) (st_ : Int64) (N_ : Nat) (K_ : Nat) (g_ : Nat → Int32) (sz : Nat) (hA_ : modL g_ 0 N_) (hB_ : modL g_ 1 K_) (hN : N_ < 32768 ^ 76) (hK_ : K_ < 32768 ^ 76) : Met l yX4_compare wsX4_compare rm_X4_compare (zP D (ty3 cI cJ cD) [.ref m_] sz [(m_, .inr (4, [.int th_, .int nn_, .long le_, .int sh_, .ref ab_, .ref be_, .long ca_, .long cb_, .long oc_, .long st_, .int bs_, .int tr_, .int sp_, .ref rr_])), (rr_, .inl (cI, 152, .inl g_))] zT) (va_Qi (fun (r : Int32) (u : Unit) => r = cmpI N_ K_) (zB D (ty3 cI cJ cD) (fun (u : Unit) => [(m_, .inr (4, [.int th_, .int nn_, .long le_, .int sh_, .ref ab_, .ref be_, .long ca_, .long cb_, .long oc_, .long st_, .int bs_, .int tr_, .int sp_, .ref rr_])), (rr_, .inl (cI, 152, .inl g_))]) (va_A [(m_, .inr (4, [.int th_, .int nn_, .long le_, .int sh_, .ref ab_, .ref be_, .long ca_, .long cb_, .long oc_, .long st_, .int bs_, .int tr_, .int sp_, .ref rr_])), (rr_, .inl (cI, 152, .inl g_))] sz)) (va_A [(m_, .inr (4, [.int th_, .int nn_, .long le_, .int sh_, .ref ab_, .ref be_, .long ca_, .long cb_, .long oc_, .long st_, .int bs_, .int tr_, .int sp_, .ref rr_])), (rr_, .inl (cI, 152, .inl g_))] sz)) 0 0 (va_A [(m_, .inr (4, [.int th_, .int nn_, .long le_, .int sh_, .ref ab_, .ref be_, .long ca_, .long cb_, .long oc_, .long st_, .int bs_, .int tr_, .int sp_, .ref rr_])), (rr_, .inl (cI, 152, .inl g_))] sz) := by
  refine zMet (Qf := fun A => va_Qi (fun (r : Int32) (u : Unit) => r = cmpI N_ K_) (zB D (ty3 cI cJ cD) (fun (u : Unit) => [(m_, .inr (4, [.int th_, .int nn_, .long le_, .int sh_, .ref ab_, .ref be_, .long ca_, .long cb_, .long oc_, .long st_, .int bs_, .int tr_, .int sp_, .ref rr_])), (rr_, .inl (cI, 152, .inl g_))]) A) A) (cc := cX4_compare) (maxL := 3) (ret := (some .int)) (by decide) rfl (Nat.le_of_ble_eq_true rfl) ?_
  intro p e s m args below meth c A ls Q H hargs hQ hHe hx hb hr hml hown hts hlocks hin hP hK hD hA hS hE hAe hl
  have hl : lv_has ls 3 [(0, .ref m_)] := hl
  have lp_3 : ∀ (n_ : Nat) (j : Nat) (H : Heap) (locs : List Loc) (ls : Array Slot), j < n_ → j ≤ 76 → N_ / 32768 ^ j = K_ / 32768 ^ j →  va_P D cl5 [(m_, .inr (4, [.int th_, .int nn_, .long le_, .int sh_, .ref ab_, .ref be_, .long ca_, .long cb_, .long oc_, .long st_, .int bs_, .int tr_, .int sp_, .ref rr_])), (rr_, .inl (cI, 152, .inl g_))] H → va_D A [(m_, .inr (4, [.int th_, .int nn_, .long le_, .int sh_, .ref ab_, .ref be_, .long ca_, .long cb_, .long oc_, .long st_, .int bs_, .int tr_, .int sp_, .ref rr_])), (rr_, .inl (cI, 152, .inl g_))] → va_S A s.heap H locs → lv_has ls 3 [(0, .ref m_), (1, .int (nI j - nI 1))] → W p l e rm_X4_compare s m args below meth c H locs 0 0 Q (F0 m 3 ls []) := by
    intro n_
    induction n_ with
    | zero => intro j H locs ls hm; exact absurd hm (Nat.not_lt_zero _)
    | succ n_ ih =>
      intro j H locs ls hm  h1 h2 hP hD hS hl
      refine lv_iload_n hx hb dX4_compare_3 rfl (lv_at hl 1 rfl) ?_
      refine lv_if_lt (tgt := 44) hx hb dX4_compare_4 (by decide) (fun c_4 => ?_) (fun c_4 => ?_)
      · skip
        have hj : j = 0 := Nat.eq_zero_of_not_pos (fun q => absurd c_4 (by rw [pk_sub q]; exact nI_pos (by omega)))
        subst hj
        rw [Nat.pow_zero, Nat.div_one, Nat.div_one] at h2
        refine lv_iconst (v := nI 0) hx hb dX4_compare_44 (by decide) ?_
        subst hQ
        exact ze_i hx hb hr hlocks () ((cmpI_eq h2).symm) hP hK hD hS dX4_compare_45
      · skip
        have hj : 1 ≤ j := Nat.pos_of_ne_zero (fun q => c_4 (by subst q; decide))
        have ex : nI j - nI 1 = nI (j - 1) := pk_sub hj
        have eN := e_top (N := N_) hj
        have eK := e_top (N := K_) hj
        have l1 : N_ / 32768 ^ (j - 1) % 32768 < 32768 := Nat.mod_lt _ (by decide)
        have l2 : K_ / 32768 ^ (j - 1) % 32768 < 32768 := Nat.mod_lt _ (by decide)
        refine lv_aload_n hx hb dX4_compare_7 rfl (lv_at hl 0 rfl) ?_
        refine va_get (D := D) (ci := 4) (v := .ref rr_) (C := RX4) (T := TX4) (N := 14) hx hb hts nX4_compare_4 hown hK hP 0 rfl rfl 13 (by decide) (zh (w := .fieldLink RX4 41 "FretRootsModel" "\x72" "[I") hts 1 rfl) (fun _ h9 => h9) rfl dX4_compare_8 ?_
        refine lv_iload_n hx hb dX4_compare_11 rfl (lv_at hl 1 rfl) ?_
        refine zi_ (y := nI (j - 1)) (ex) ?_
        refine z_iald (j := (j - 1)) hx hb hK hP 1 0 rfl rfl (by omega) (by omega) dX4_compare_12 ?_
        refine zi_ (y := nI (N_ / 32768 ^ (j - 1) % 32768)) (by have := hA_ (j - 1) (by omega); simpa using this) ?_
        refine lv_aload_n hx hb dX4_compare_13 rfl (lv_at hl 0 rfl) ?_
        refine va_get (D := D) (ci := 4) (v := .ref rr_) (C := RX4) (T := TX4) (N := 14) hx hb hts nX4_compare_4 hown hK hP 0 rfl rfl 13 (by decide) (zh (w := .fieldLink RX4 41 "FretRootsModel" "\x72" "[I") hts 1 rfl) (fun _ h9 => h9) rfl dX4_compare_14 ?_
        refine lv_bipush (v := nI 76) hx hb dX4_compare_17 (by decide) ?_
        refine lv_iload_n hx hb dX4_compare_19 rfl (lv_at hl 1 rfl) ?_
        refine zi_ (y := nI (j - 1)) (ex) ?_
        refine lv_iadd hx hb dX4_compare_20 ?_
        refine zi_ (y := nI (76 + (j - 1))) (nI_add 76 (j - 1)) ?_
        refine z_iald (j := (76 + (j - 1))) hx hb hK hP 1 0 rfl rfl (by omega) (by omega) dX4_compare_21 ?_
        refine zi_ (y := nI (K_ / 32768 ^ (j - 1) % 32768)) (by have := hB_ (j - 1) (by omega); simpa using this) ?_
        refine lv_isub hx hb dX4_compare_22 ?_
        refine lv_topi (fun y ey => ?_)
        refine lv_istore_n (lv' := [(2, .int y), (0, .ref m_), (1, .int (nI j - nI 1))]) hx hb dX4_compare_23 rfl hl (by decide) rfl (fun ls hl => ?_)
        refine lv_iload_n hx hb dX4_compare_24 rfl (lv_at hl 0 rfl) ?_
        refine lv_if_eq (tgt := 38) hx hb dX4_compare_25 (by decide) (fun c_25 => ?_) (fun c_25 => ?_)
        · skip
          have hd1 := z_sub0 (a := N_ / 32768 ^ (j - 1) % 32768) (b := K_ / 32768 ^ (j - 1) % 32768) (by omega) (by omega) (ey.symm.trans c_25)
          refine lv_iinc (v := nI (j - 1) - nI 1) (lv' := [(1, .int (nI (j - 1) - nI 1)), (2, .int y), (0, .ref m_)]) hx hb dX4_compare_38 hl (k := 2) rfl (by rw [ex]; exact z_m1 _) (by decide) rfl (fun ls hl => ?_)
          refine lv_goto (tgt := 3) hx hb dX4_compare_41 (by decide) ?_
          exact ih (j - 1) _ _ _ (by omega) (by omega) (by rw [e_top hj, e_top (N := K_) hj, h2, hd1]) hP hD hS (lv_sub hl [2, 0] rfl)
        · skip
          have hd1 := z_subn (a := N_ / 32768 ^ (j - 1) % 32768) (b := K_ / 32768 ^ (j - 1) % 32768) (by omega) (by omega) (fun q => c_25 (ey.trans q))
          refine lv_iload_n hx hb dX4_compare_28 rfl (lv_at hl 0 rfl) ?_
          refine lv_if_ge (tgt := 36) hx hb dX4_compare_29 (by decide) (fun c_29 => ?_) (fun c_29 => ?_)
          · skip
            have hd2 := z_subge (a := N_ / 32768 ^ (j - 1) % 32768) (b := K_ / 32768 ^ (j - 1) % 32768) (by omega) (by omega) (by rw [← ey]; exact c_29)
            refine lv_iconst (v := nI 1) hx hb dX4_compare_36 (by decide) ?_
            subst hQ
            exact ze_i hx hb hr hlocks () ((cmpI_gt (e_cmp (i := j - 1) (by omega))).symm) hP hK hD hS dX4_compare_37
          · skip
            have hd2 := z_sublt (a := N_ / 32768 ^ (j - 1) % 32768) (b := K_ / 32768 ^ (j - 1) % 32768) (by omega) (by omega) (by rw [← ey]; exact c_29)
            refine lv_iconst (v := -1) hx hb dX4_compare_32 (by decide) ?_
            refine lv_goto (tgt := 37) hx hb dX4_compare_33 (by decide) ?_
            subst hQ
            exact ze_i hx hb hr hlocks () ((cmpI_lt (e_cmp (i := j - 1) (by omega))).symm) hP hK hD hS dX4_compare_37
  refine lv_bipush (v := nI 75) hx hb dX4_compare_0 (by decide) ?_
  refine zi_ (y := nI 76 - nI 1) (by decide) ?_
  refine lv_istore_n (lv' := [(1, .int (nI 76 - nI 1)), (0, .ref m_)]) hx hb dX4_compare_2 rfl hl (by decide) rfl (fun ls hl => ?_)
  exact lp_3 (76 + 1) 76 _ _ _ (Nat.lt_succ_self _) (Nat.le_refl _) (by rw [Nat.div_eq_of_lt hN, Nat.div_eq_of_lt hK_]) hP hD hS (lv_sub hl [1, 0] rfl)
theorem nX4_side_4 : ∀ w ∈ wsX40, w ∈ wsX4_side := by decide +kernel
abbrev rm_X4_side : Room := { frames := 2, cells := 0, slots := 0, locals := 65 }
set_option maxHeartbeats 4000000 in
set_option maxRecDepth 100000 in
/-- side -/
theorem ct_X4_side (l : Launch) (D : va_G) (cI cJ cD : ClassId) (m_ : Nat) (ab_ : Nat) (be_ : Nat) (rr_ : Nat) (th_ : Int32) (sh_ : Int32) (bs_ : Int32) (tr_ : Int32) (sp_ : Int32) (le_ : Int64) (ca_ : Int64) (cb_ : Int64) (oc_ : Int64) (st_ : Int64) (n_ : Nat) (w_ : Nat) (k_ : Nat) (a_ : Nat) (g_ : Nat → Int32) (sz : Nat) (hn : n_ ≤ 24) (hw_ : w_ < 2 ^ 37) (hk : k_ ≤ 48) (ha : a_ < 2 ^ 37) : Met l yX4_side wsX4_side rm_X4_side (zP D (ty3 cI cJ cD) [.ref m_, .long (lN w_), .int (nI k_), .long (lN a_)] sz [(m_, .inr (4, [.int th_, .int (nI n_), .long le_, .int sh_, .ref ab_, .ref be_, .long ca_, .long cb_, .long oc_, .long st_, .int bs_, .int tr_, .int sp_, .ref rr_])), (rr_, .inl (cI, 152, .inl g_))] zT) (va_Qi (fun (r : Int32) (u : (Nat → Int32)) => r = cmpI (w_ ^ n_ * 2 ^ k_) (a_ ^ n_)) (zB D (ty3 cI cJ cD) (fun (u : (Nat → Int32)) => [(m_, .inr (4, [.int th_, .int (nI n_), .long le_, .int sh_, .ref ab_, .ref be_, .long ca_, .long cb_, .long oc_, .long st_, .int bs_, .int tr_, .int sp_, .ref rr_])), (rr_, .inl (cI, 152, .inl u))]) (va_A [(m_, .inr (4, [.int th_, .int (nI n_), .long le_, .int sh_, .ref ab_, .ref be_, .long ca_, .long cb_, .long oc_, .long st_, .int bs_, .int tr_, .int sp_, .ref rr_])), (rr_, .inl (cI, 152, .inl g_))] sz)) (va_A [(m_, .inr (4, [.int th_, .int (nI n_), .long le_, .int sh_, .ref ab_, .ref be_, .long ca_, .long cb_, .long oc_, .long st_, .int bs_, .int tr_, .int sp_, .ref rr_])), (rr_, .inl (cI, 152, .inl g_))] sz)) 0 0 (va_A [(m_, .inr (4, [.int th_, .int (nI n_), .long le_, .int sh_, .ref ab_, .ref be_, .long ca_, .long cb_, .long oc_, .long st_, .int bs_, .int tr_, .int sp_, .ref rr_])), (rr_, .inl (cI, 152, .inl g_))] sz) := by
  refine zMet (Qf := fun A => va_Qi (fun (r : Int32) (u : (Nat → Int32)) => r = cmpI (w_ ^ n_ * 2 ^ k_) (a_ ^ n_)) (zB D (ty3 cI cJ cD) (fun (u : (Nat → Int32)) => [(m_, .inr (4, [.int th_, .int (nI n_), .long le_, .int sh_, .ref ab_, .ref be_, .long ca_, .long cb_, .long oc_, .long st_, .int bs_, .int tr_, .int sp_, .ref rr_])), (rr_, .inl (cI, 152, .inl u))]) A) A) (cc := cX4_side) (maxL := 6) (ret := (some .int)) (by decide) rfl (Nat.le_of_ble_eq_true rfl) ?_
  intro p e s m args below meth c A ls Q H hargs hQ hHe hx hb hr hml hown hts hlocks hin hP hK hD hA hS hE hAe hl
  have hl : lv_has ls 6 [(0, .ref m_), (1, .long (lN w_)), (3, .int (nI k_)), (4, .long (lN a_))] := hl
  refine lv_aload_n hx hb dX4_side_0 rfl (lv_at hl 0 rfl) ?_
  refine lv_iconst (v := nI 0) hx hb dX4_side_1 (by decide) ?_
  refine lv_lload_n hx hb dX4_side_2 rfl (lv_at hl 1 rfl) ?_
  refine lv_aload_n hx hb dX4_side_3 rfl (lv_at hl 0 rfl) ?_
  refine va_get (D := D) (ci := 4) (v := .int (nI n_)) (C := RX4) (T := TX4) (N := 14) hx hb hts nX4_side_4 hown hK hP 0 rfl rfl 1 (by decide) (zh (w := .fieldLink RX4 44 "FretRootsModel" "notes" "I") hts 1 rfl) (fun _ h9 => h9) rfl dX4_side_4 ?_
  refine zc_v (wc := [(m_, .inr (4, [.int th_, .int (nI n_), .long le_, .int sh_, .ref ab_, .ref be_, .long ca_, .long cb_, .long oc_, .long st_, .int bs_, .int tr_, .int sp_, .ref rr_])), (rr_, .inl (cI, 152, .inl g_))]) (wr := []) hP hD hS hA [0, 1] [] rfl rfl (by decide) (by decide) (va_runV (As := [.int (nI 0), .long (lN w_), .int (nI n_)]) (rest := []) ⟨hx, hb, hml, hown, hts⟩ (ct_X4_power l D cI cJ cD m_ ab_ be_ rr_ th_ (nI n_) sh_ bs_ tr_ sp_ le_ ca_ cb_ oc_ st_ 0 w_ n_ g_ H.size (by decide) (by omega) (by omega)) (cwV 3 hts gX4_side_X4_power rfl rfl rfl (by decide +kernel) ⟨Nat.le_of_ble_eq_true rfl, Nat.le_of_ble_eq_true rfl⟩) (zPreV (wc := [(m_, .inr (4, [.int th_, .int (nI n_), .long le_, .int sh_, .ref ab_, .ref be_, .long ca_, .long cb_, .long oc_, .long st_, .int bs_, .int tr_, .int sp_, .ref rr_])), (rr_, .inl (cI, 152, .inl g_))]) hK hP hD 4 0 rfl rfl zTb (fun _ _ _ => trivial)) rfl rfl hl.1 rfl (lv_room (Nat.le_of_ble_eq_true rfl)) dX4_side_7 ⟨Nat.le_of_ble_eq_true rfl, Nat.le_of_ble_eq_true rfl⟩) (fun u H locs hw hP hD hS => ?_)
  obtain ⟨g2_2, rfl⟩ : ∃ z, z = u := ⟨_, rfl⟩
  have hP : va_P D cl5 [(m_, .inr (4, [.int th_, .int (nI n_), .long le_, .int sh_, .ref ab_, .ref be_, .long ca_, .long cb_, .long oc_, .long st_, .int bs_, .int tr_, .int sp_, .ref rr_])), (rr_, .inl (cI, 152, .inl g2_2))] H := hP.sub [0, 1] rfl
  have hD : va_D A [(m_, .inr (4, [.int th_, .int (nI n_), .long le_, .int sh_, .ref ab_, .ref be_, .long ca_, .long cb_, .long oc_, .long st_, .int bs_, .int tr_, .int sp_, .ref rr_])), (rr_, .inl (cI, 152, .inl g2_2))] := hD.sub [0, 1] (by decide) rfl
  have hw : modL g2_2 0 (w_ ^ n_) ∧ modF g_ g2_2 0 := hw
  obtain ⟨hL_7, hF_7⟩ := hw
  refine lv_aload_n hx hb dX4_side_10 rfl (lv_at hl 0 rfl) ?_
  refine lv_iconst (v := nI 0) hx hb dX4_side_11 (by decide) ?_
  refine lv_iload_n hx hb dX4_side_12 rfl (lv_at hl 2 rfl) ?_
  refine zc_v (wc := [(m_, .inr (4, [.int th_, .int (nI n_), .long le_, .int sh_, .ref ab_, .ref be_, .long ca_, .long cb_, .long oc_, .long st_, .int bs_, .int tr_, .int sp_, .ref rr_])), (rr_, .inl (cI, 152, .inl g2_2))]) (wr := []) hP hD hS hA [0, 1] [] rfl rfl (by decide) (by decide) (va_runV (As := [.int (nI 0), .int (nI k_)]) (rest := []) ⟨hx, hb, hml, hown, hts⟩ (ct_X4_twice l D cI cJ cD m_ ab_ be_ rr_ th_ (nI n_) sh_ bs_ tr_ sp_ le_ ca_ cb_ oc_ st_ 0 (w_ ^ n_) k_ g2_2 H.size (by decide) (by omega) hL_7) (cwV 2 hts gX4_side_X4_twice rfl rfl rfl (by decide +kernel) ⟨Nat.le_of_ble_eq_true rfl, Nat.le_of_ble_eq_true rfl⟩) (zPreV (wc := [(m_, .inr (4, [.int th_, .int (nI n_), .long le_, .int sh_, .ref ab_, .ref be_, .long ca_, .long cb_, .long oc_, .long st_, .int bs_, .int tr_, .int sp_, .ref rr_])), (rr_, .inl (cI, 152, .inl g2_2))]) hK hP hD 4 0 rfl rfl zTb (fun _ _ _ => trivial)) rfl rfl hl.1 rfl (lv_room (Nat.le_of_ble_eq_true rfl)) dX4_side_13 ⟨Nat.le_of_ble_eq_true rfl, Nat.le_of_ble_eq_true rfl⟩) (fun u H locs hw hP hD hS => ?_)
  obtain ⟨g2_4, rfl⟩ : ∃ z, z = u := ⟨_, rfl⟩
  have hP : va_P D cl5 [(m_, .inr (4, [.int th_, .int (nI n_), .long le_, .int sh_, .ref ab_, .ref be_, .long ca_, .long cb_, .long oc_, .long st_, .int bs_, .int tr_, .int sp_, .ref rr_])), (rr_, .inl (cI, 152, .inl g2_4))] H := hP.sub [0, 1] rfl
  have hD : va_D A [(m_, .inr (4, [.int th_, .int (nI n_), .long le_, .int sh_, .ref ab_, .ref be_, .long ca_, .long cb_, .long oc_, .long st_, .int bs_, .int tr_, .int sp_, .ref rr_])), (rr_, .inl (cI, 152, .inl g2_4))] := hD.sub [0, 1] (by decide) rfl
  have hw : modL g2_4 0 ((w_ ^ n_) * 2 ^ k_) ∧ modF g2_2 g2_4 0 := hw
  obtain ⟨hL_13, hF_13⟩ := hw
  refine lv_aload_n hx hb dX4_side_16 rfl (lv_at hl 0 rfl) ?_
  refine lv_iconst (v := nI 1) hx hb dX4_side_17 (by decide) ?_
  refine lv_lload hx hb dX4_side_18 (lv_at hl 3 rfl) ?_
  refine lv_aload_n hx hb dX4_side_20 rfl (lv_at hl 0 rfl) ?_
  refine va_get (D := D) (ci := 4) (v := .int (nI n_)) (C := RX4) (T := TX4) (N := 14) hx hb hts nX4_side_4 hown hK hP 0 rfl rfl 1 (by decide) (zh (w := .fieldLink RX4 44 "FretRootsModel" "notes" "I") hts 1 rfl) (fun _ h9 => h9) rfl dX4_side_21 ?_
  refine zc_v (wc := [(m_, .inr (4, [.int th_, .int (nI n_), .long le_, .int sh_, .ref ab_, .ref be_, .long ca_, .long cb_, .long oc_, .long st_, .int bs_, .int tr_, .int sp_, .ref rr_])), (rr_, .inl (cI, 152, .inl g2_4))]) (wr := []) hP hD hS hA [0, 1] [] rfl rfl (by decide) (by decide) (va_runV (As := [.int (nI 1), .long (lN a_), .int (nI n_)]) (rest := []) ⟨hx, hb, hml, hown, hts⟩ (ct_X4_power l D cI cJ cD m_ ab_ be_ rr_ th_ (nI n_) sh_ bs_ tr_ sp_ le_ ca_ cb_ oc_ st_ 1 a_ n_ g2_4 H.size (by decide) (by omega) (by omega)) (cwV 3 hts gX4_side_X4_power rfl rfl rfl (by decide +kernel) ⟨Nat.le_of_ble_eq_true rfl, Nat.le_of_ble_eq_true rfl⟩) (zPreV (wc := [(m_, .inr (4, [.int th_, .int (nI n_), .long le_, .int sh_, .ref ab_, .ref be_, .long ca_, .long cb_, .long oc_, .long st_, .int bs_, .int tr_, .int sp_, .ref rr_])), (rr_, .inl (cI, 152, .inl g2_4))]) hK hP hD 4 0 rfl rfl zTb (fun _ _ _ => trivial)) rfl rfl hl.1 rfl (lv_room (Nat.le_of_ble_eq_true rfl)) dX4_side_24 ⟨Nat.le_of_ble_eq_true rfl, Nat.le_of_ble_eq_true rfl⟩) (fun u H locs hw hP hD hS => ?_)
  obtain ⟨g2_6, rfl⟩ : ∃ z, z = u := ⟨_, rfl⟩
  have hP : va_P D cl5 [(m_, .inr (4, [.int th_, .int (nI n_), .long le_, .int sh_, .ref ab_, .ref be_, .long ca_, .long cb_, .long oc_, .long st_, .int bs_, .int tr_, .int sp_, .ref rr_])), (rr_, .inl (cI, 152, .inl g2_6))] H := hP.sub [0, 1] rfl
  have hD : va_D A [(m_, .inr (4, [.int th_, .int (nI n_), .long le_, .int sh_, .ref ab_, .ref be_, .long ca_, .long cb_, .long oc_, .long st_, .int bs_, .int tr_, .int sp_, .ref rr_])), (rr_, .inl (cI, 152, .inl g2_6))] := hD.sub [0, 1] (by decide) rfl
  have hw : modL g2_6 1 (a_ ^ n_) ∧ modF g2_4 g2_6 1 := hw
  obtain ⟨hL_24, hF_24⟩ := hw
  refine lv_aload_n hx hb dX4_side_27 rfl (lv_at hl 0 rfl) ?_
  refine zc_i (wc := [(m_, .inr (4, [.int th_, .int (nI n_), .long le_, .int sh_, .ref ab_, .ref be_, .long ca_, .long cb_, .long oc_, .long st_, .int bs_, .int tr_, .int sp_, .ref rr_])), (rr_, .inl (cI, 152, .inl g2_6))]) (wr := []) hP hD hS hA [0, 1] [] rfl rfl (by decide) (by decide) (va_runV (As := []) (rest := []) ⟨hx, hb, hml, hown, hts⟩ (ct_X4_compare l D cI cJ cD m_ ab_ be_ rr_ th_ (nI n_) sh_ bs_ tr_ sp_ le_ ca_ cb_ oc_ st_ (w_ ^ n_ * 2 ^ k_) (a_ ^ n_) g2_6 H.size (modL_keep hF_24 (by decide) hL_13) hL_24 (e_bound hw_ (by omega)) (e_bound0 ha (by omega))) (cwV 0 hts gX4_side_X4_compare rfl rfl rfl (by decide +kernel) ⟨Nat.le_of_ble_eq_true rfl, Nat.le_of_ble_eq_true rfl⟩) (zPreV (wc := [(m_, .inr (4, [.int th_, .int (nI n_), .long le_, .int sh_, .ref ab_, .ref be_, .long ca_, .long cb_, .long oc_, .long st_, .int bs_, .int tr_, .int sp_, .ref rr_])), (rr_, .inl (cI, 152, .inl g2_6))]) hK hP hD 4 0 rfl rfl zTb (fun _ _ _ => trivial)) rfl rfl hl.1 rfl (lv_room (Nat.le_of_ble_eq_true rfl)) dX4_side_28 ⟨Nat.le_of_ble_eq_true rfl, Nat.le_of_ble_eq_true rfl⟩) (fun r_7 u H locs hw hP hD hS => ?_)
  have hP : va_P D cl5 [(m_, .inr (4, [.int th_, .int (nI n_), .long le_, .int sh_, .ref ab_, .ref be_, .long ca_, .long cb_, .long oc_, .long st_, .int bs_, .int tr_, .int sp_, .ref rr_])), (rr_, .inl (cI, 152, .inl g2_6))] H := hP.sub [0, 1] rfl
  have hD : va_D A [(m_, .inr (4, [.int th_, .int (nI n_), .long le_, .int sh_, .ref ab_, .ref be_, .long ca_, .long cb_, .long oc_, .long st_, .int bs_, .int tr_, .int sp_, .ref rr_])), (rr_, .inl (cI, 152, .inl g2_6))] := hD.sub [0, 1] (by decide) rfl
  have hw : r_7 = cmpI (w_ ^ n_ * 2 ^ k_) (a_ ^ n_) := hw
  subst hw
  subst hQ
  exact ze_i hx hb hr hlocks g2_6 (rfl) hP hK hD hS dX4_side_31
abbrev rm_X4_side_ : Room := { frames := 2, cells := 0, slots := 0, locals := 65 }
set_option maxHeartbeats 4000000 in
set_option maxRecDepth 100000 in
/-- side of a fraction -/
theorem ct_X4_side_ (l : Launch) (D : va_G) (cI cJ cD : ClassId) (m_ : Nat) (ab_ : Nat) (be_ : Nat) (rr_ : Nat) (th_ : Int32) (nn_ : Int32) (sh_ : Int32) (bs_ : Int32) (tr_ : Int32) (sp_ : Int32) (le_ : Int64) (ca_ : Int64) (cb_ : Int64) (oc_ : Int64) (st_ : Int64) (a_ : Nat) (b_ : Nat) (e_ : Nat) (t_ : Nat) (g_ : Nat → Int32) (sz : Nat) (he : e_ ≤ 48) (ha : a_ < 2 ^ 20) (hb_ : b_ < 2 ^ 20) (ht : t_ ≤ 97) : Met l yX4_side_ wsX4_side_ rm_X4_side_ (zP D (ty3 cI cJ cD) [.ref m_, .int (nI a_), .int (nI b_), .int (nI e_), .int (nI t_)] sz [(m_, .inr (4, [.int th_, .int nn_, .long le_, .int sh_, .ref ab_, .ref be_, .long ca_, .long cb_, .long oc_, .long st_, .int bs_, .int tr_, .int sp_, .ref rr_])), (rr_, .inl (cI, 152, .inl g_))] zT) (va_Qi (fun (r : Int32) (u : (Nat → Int32)) => r = cmpI (a_ ^ e_) (b_ ^ e_ * 2 ^ t_)) (zB D (ty3 cI cJ cD) (fun (u : (Nat → Int32)) => [(m_, .inr (4, [.int th_, .int nn_, .long le_, .int sh_, .ref ab_, .ref be_, .long ca_, .long cb_, .long oc_, .long st_, .int bs_, .int tr_, .int sp_, .ref rr_])), (rr_, .inl (cI, 152, .inl u))]) (va_A [(m_, .inr (4, [.int th_, .int nn_, .long le_, .int sh_, .ref ab_, .ref be_, .long ca_, .long cb_, .long oc_, .long st_, .int bs_, .int tr_, .int sp_, .ref rr_])), (rr_, .inl (cI, 152, .inl g_))] sz)) (va_A [(m_, .inr (4, [.int th_, .int nn_, .long le_, .int sh_, .ref ab_, .ref be_, .long ca_, .long cb_, .long oc_, .long st_, .int bs_, .int tr_, .int sp_, .ref rr_])), (rr_, .inl (cI, 152, .inl g_))] sz)) 0 0 (va_A [(m_, .inr (4, [.int th_, .int nn_, .long le_, .int sh_, .ref ab_, .ref be_, .long ca_, .long cb_, .long oc_, .long st_, .int bs_, .int tr_, .int sp_, .ref rr_])), (rr_, .inl (cI, 152, .inl g_))] sz) := by
  refine zMet (Qf := fun A => va_Qi (fun (r : Int32) (u : (Nat → Int32)) => r = cmpI (a_ ^ e_) (b_ ^ e_ * 2 ^ t_)) (zB D (ty3 cI cJ cD) (fun (u : (Nat → Int32)) => [(m_, .inr (4, [.int th_, .int nn_, .long le_, .int sh_, .ref ab_, .ref be_, .long ca_, .long cb_, .long oc_, .long st_, .int bs_, .int tr_, .int sp_, .ref rr_])), (rr_, .inl (cI, 152, .inl u))]) A) A) (cc := cX4_side_) (maxL := 5) (ret := (some .int)) (by decide) rfl (Nat.le_of_ble_eq_true rfl) ?_
  intro p e s m args below meth c A ls Q H hargs hQ hHe hx hb hr hml hown hts hlocks hin hP hK hD hA hS hE hAe hl
  have hl : lv_has ls 5 [(0, .ref m_), (1, .int (nI a_)), (2, .int (nI b_)), (3, .int (nI e_)), (4, .int (nI t_))] := hl
  refine lv_aload_n hx hb dX4_side__0 rfl (lv_at hl 0 rfl) ?_
  refine lv_iconst (v := nI 0) hx hb dX4_side__1 (by decide) ?_
  refine lv_iload_n hx hb dX4_side__2 rfl (lv_at hl 1 rfl) ?_
  refine lv_i2l (v := lN a_) hx hb dX4_side__3 (nI_l (by omega)) ?_
  refine lv_iload_n hx hb dX4_side__4 rfl (lv_at hl 3 rfl) ?_
  refine zc_v (wc := [(m_, .inr (4, [.int th_, .int nn_, .long le_, .int sh_, .ref ab_, .ref be_, .long ca_, .long cb_, .long oc_, .long st_, .int bs_, .int tr_, .int sp_, .ref rr_])), (rr_, .inl (cI, 152, .inl g_))]) (wr := []) hP hD hS hA [0, 1] [] rfl rfl (by decide) (by decide) (va_runV (As := [.int (nI 0), .long (lN a_), .int (nI e_)]) (rest := []) ⟨hx, hb, hml, hown, hts⟩ (ct_X4_power l D cI cJ cD m_ ab_ be_ rr_ th_ nn_ sh_ bs_ tr_ sp_ le_ ca_ cb_ oc_ st_ 0 a_ e_ g_ H.size (by decide) (by omega) (by omega)) (cwV 3 hts gX4_side__X4_power rfl rfl rfl (by decide +kernel) ⟨Nat.le_of_ble_eq_true rfl, Nat.le_of_ble_eq_true rfl⟩) (zPreV (wc := [(m_, .inr (4, [.int th_, .int nn_, .long le_, .int sh_, .ref ab_, .ref be_, .long ca_, .long cb_, .long oc_, .long st_, .int bs_, .int tr_, .int sp_, .ref rr_])), (rr_, .inl (cI, 152, .inl g_))]) hK hP hD 4 0 rfl rfl zTb (fun _ _ _ => trivial)) rfl rfl hl.1 rfl (lv_room (Nat.le_of_ble_eq_true rfl)) dX4_side__5 ⟨Nat.le_of_ble_eq_true rfl, Nat.le_of_ble_eq_true rfl⟩) (fun u H locs hw hP hD hS => ?_)
  obtain ⟨g2_2, rfl⟩ : ∃ z, z = u := ⟨_, rfl⟩
  have hP : va_P D cl5 [(m_, .inr (4, [.int th_, .int nn_, .long le_, .int sh_, .ref ab_, .ref be_, .long ca_, .long cb_, .long oc_, .long st_, .int bs_, .int tr_, .int sp_, .ref rr_])), (rr_, .inl (cI, 152, .inl g2_2))] H := hP.sub [0, 1] rfl
  have hD : va_D A [(m_, .inr (4, [.int th_, .int nn_, .long le_, .int sh_, .ref ab_, .ref be_, .long ca_, .long cb_, .long oc_, .long st_, .int bs_, .int tr_, .int sp_, .ref rr_])), (rr_, .inl (cI, 152, .inl g2_2))] := hD.sub [0, 1] (by decide) rfl
  have hw : modL g2_2 0 (a_ ^ e_) ∧ modF g_ g2_2 0 := hw
  obtain ⟨hL_5, hF_5⟩ := hw
  refine lv_aload_n hx hb dX4_side__8 rfl (lv_at hl 0 rfl) ?_
  refine lv_iconst (v := nI 1) hx hb dX4_side__9 (by decide) ?_
  refine lv_iload_n hx hb dX4_side__10 rfl (lv_at hl 2 rfl) ?_
  refine lv_i2l (v := lN b_) hx hb dX4_side__11 (nI_l (by omega)) ?_
  refine lv_iload_n hx hb dX4_side__12 rfl (lv_at hl 3 rfl) ?_
  refine zc_v (wc := [(m_, .inr (4, [.int th_, .int nn_, .long le_, .int sh_, .ref ab_, .ref be_, .long ca_, .long cb_, .long oc_, .long st_, .int bs_, .int tr_, .int sp_, .ref rr_])), (rr_, .inl (cI, 152, .inl g2_2))]) (wr := []) hP hD hS hA [0, 1] [] rfl rfl (by decide) (by decide) (va_runV (As := [.int (nI 1), .long (lN b_), .int (nI e_)]) (rest := []) ⟨hx, hb, hml, hown, hts⟩ (ct_X4_power l D cI cJ cD m_ ab_ be_ rr_ th_ nn_ sh_ bs_ tr_ sp_ le_ ca_ cb_ oc_ st_ 1 b_ e_ g2_2 H.size (by decide) (by omega) (by omega)) (cwV 3 hts gX4_side__X4_power rfl rfl rfl (by decide +kernel) ⟨Nat.le_of_ble_eq_true rfl, Nat.le_of_ble_eq_true rfl⟩) (zPreV (wc := [(m_, .inr (4, [.int th_, .int nn_, .long le_, .int sh_, .ref ab_, .ref be_, .long ca_, .long cb_, .long oc_, .long st_, .int bs_, .int tr_, .int sp_, .ref rr_])), (rr_, .inl (cI, 152, .inl g2_2))]) hK hP hD 4 0 rfl rfl zTb (fun _ _ _ => trivial)) rfl rfl hl.1 rfl (lv_room (Nat.le_of_ble_eq_true rfl)) dX4_side__13 ⟨Nat.le_of_ble_eq_true rfl, Nat.le_of_ble_eq_true rfl⟩) (fun u H locs hw hP hD hS => ?_)
  obtain ⟨g2_4, rfl⟩ : ∃ z, z = u := ⟨_, rfl⟩
  have hP : va_P D cl5 [(m_, .inr (4, [.int th_, .int nn_, .long le_, .int sh_, .ref ab_, .ref be_, .long ca_, .long cb_, .long oc_, .long st_, .int bs_, .int tr_, .int sp_, .ref rr_])), (rr_, .inl (cI, 152, .inl g2_4))] H := hP.sub [0, 1] rfl
  have hD : va_D A [(m_, .inr (4, [.int th_, .int nn_, .long le_, .int sh_, .ref ab_, .ref be_, .long ca_, .long cb_, .long oc_, .long st_, .int bs_, .int tr_, .int sp_, .ref rr_])), (rr_, .inl (cI, 152, .inl g2_4))] := hD.sub [0, 1] (by decide) rfl
  have hw : modL g2_4 1 (b_ ^ e_) ∧ modF g2_2 g2_4 1 := hw
  obtain ⟨hL_13, hF_13⟩ := hw
  refine lv_aload_n hx hb dX4_side__16 rfl (lv_at hl 0 rfl) ?_
  refine lv_iconst (v := nI 1) hx hb dX4_side__17 (by decide) ?_
  refine lv_iload hx hb dX4_side__18 (lv_at hl 4 rfl) ?_
  refine zc_v (wc := [(m_, .inr (4, [.int th_, .int nn_, .long le_, .int sh_, .ref ab_, .ref be_, .long ca_, .long cb_, .long oc_, .long st_, .int bs_, .int tr_, .int sp_, .ref rr_])), (rr_, .inl (cI, 152, .inl g2_4))]) (wr := []) hP hD hS hA [0, 1] [] rfl rfl (by decide) (by decide) (va_runV (As := [.int (nI 1), .int (nI t_)]) (rest := []) ⟨hx, hb, hml, hown, hts⟩ (ct_X4_twice l D cI cJ cD m_ ab_ be_ rr_ th_ nn_ sh_ bs_ tr_ sp_ le_ ca_ cb_ oc_ st_ 1 (b_ ^ e_) t_ g2_4 H.size (by decide) (by omega) hL_13) (cwV 2 hts gX4_side__X4_twice rfl rfl rfl (by decide +kernel) ⟨Nat.le_of_ble_eq_true rfl, Nat.le_of_ble_eq_true rfl⟩) (zPreV (wc := [(m_, .inr (4, [.int th_, .int nn_, .long le_, .int sh_, .ref ab_, .ref be_, .long ca_, .long cb_, .long oc_, .long st_, .int bs_, .int tr_, .int sp_, .ref rr_])), (rr_, .inl (cI, 152, .inl g2_4))]) hK hP hD 4 0 rfl rfl zTb (fun _ _ _ => trivial)) rfl rfl hl.1 rfl (lv_room (Nat.le_of_ble_eq_true rfl)) dX4_side__20 ⟨Nat.le_of_ble_eq_true rfl, Nat.le_of_ble_eq_true rfl⟩) (fun u H locs hw hP hD hS => ?_)
  obtain ⟨g2_6, rfl⟩ : ∃ z, z = u := ⟨_, rfl⟩
  have hP : va_P D cl5 [(m_, .inr (4, [.int th_, .int nn_, .long le_, .int sh_, .ref ab_, .ref be_, .long ca_, .long cb_, .long oc_, .long st_, .int bs_, .int tr_, .int sp_, .ref rr_])), (rr_, .inl (cI, 152, .inl g2_6))] H := hP.sub [0, 1] rfl
  have hD : va_D A [(m_, .inr (4, [.int th_, .int nn_, .long le_, .int sh_, .ref ab_, .ref be_, .long ca_, .long cb_, .long oc_, .long st_, .int bs_, .int tr_, .int sp_, .ref rr_])), (rr_, .inl (cI, 152, .inl g2_6))] := hD.sub [0, 1] (by decide) rfl
  have hw : modL g2_6 1 ((b_ ^ e_) * 2 ^ t_) ∧ modF g2_4 g2_6 1 := hw
  obtain ⟨hL_20, hF_20⟩ := hw
  refine lv_aload_n hx hb dX4_side__23 rfl (lv_at hl 0 rfl) ?_
  refine zc_i (wc := [(m_, .inr (4, [.int th_, .int nn_, .long le_, .int sh_, .ref ab_, .ref be_, .long ca_, .long cb_, .long oc_, .long st_, .int bs_, .int tr_, .int sp_, .ref rr_])), (rr_, .inl (cI, 152, .inl g2_6))]) (wr := []) hP hD hS hA [0, 1] [] rfl rfl (by decide) (by decide) (va_runV (As := []) (rest := []) ⟨hx, hb, hml, hown, hts⟩ (ct_X4_compare l D cI cJ cD m_ ab_ be_ rr_ th_ nn_ sh_ bs_ tr_ sp_ le_ ca_ cb_ oc_ st_ (a_ ^ e_) (b_ ^ e_ * 2 ^ t_) g2_6 H.size (modL_keep hF_20 (by decide) (modL_keep hF_13 (by decide) hL_5)) hL_20 (e_bound0 ha (by omega)) (e_bound hb_ (by omega))) (cwV 0 hts gX4_side__X4_compare rfl rfl rfl (by decide +kernel) ⟨Nat.le_of_ble_eq_true rfl, Nat.le_of_ble_eq_true rfl⟩) (zPreV (wc := [(m_, .inr (4, [.int th_, .int nn_, .long le_, .int sh_, .ref ab_, .ref be_, .long ca_, .long cb_, .long oc_, .long st_, .int bs_, .int tr_, .int sp_, .ref rr_])), (rr_, .inl (cI, 152, .inl g2_6))]) hK hP hD 4 0 rfl rfl zTb (fun _ _ _ => trivial)) rfl rfl hl.1 rfl (lv_room (Nat.le_of_ble_eq_true rfl)) dX4_side__24 ⟨Nat.le_of_ble_eq_true rfl, Nat.le_of_ble_eq_true rfl⟩) (fun r_7 u H locs hw hP hD hS => ?_)
  have hP : va_P D cl5 [(m_, .inr (4, [.int th_, .int nn_, .long le_, .int sh_, .ref ab_, .ref be_, .long ca_, .long cb_, .long oc_, .long st_, .int bs_, .int tr_, .int sp_, .ref rr_])), (rr_, .inl (cI, 152, .inl g2_6))] H := hP.sub [0, 1] rfl
  have hD : va_D A [(m_, .inr (4, [.int th_, .int nn_, .long le_, .int sh_, .ref ab_, .ref be_, .long ca_, .long cb_, .long oc_, .long st_, .int bs_, .int tr_, .int sp_, .ref rr_])), (rr_, .inl (cI, 152, .inl g2_6))] := hD.sub [0, 1] (by decide) rfl
  have hw : r_7 = cmpI (a_ ^ e_) (b_ ^ e_ * 2 ^ t_) := hw
  subst hw
  subst hQ
  exact ze_i hx hb hr hlocks g2_6 (rfl) hP hK hD hS dX4_side__27
end
section
/-! ===== further plain facts ===== -/
theorem z_or14 {a b : Nat} (h : a < 16384) : nI a ||| nI (b * 16384) = nI (a + b * 16384) := by
  have e : nI a ||| nI (b * 16384) = nI (a ||| b * 16384) := by
    apply Int32.toBitVec_inj.mp
    show BitVec.ofNat 32 a ||| BitVec.ofNat 32 (b * 16384) = BitVec.ofNat 32 (a ||| b * 16384)
    exact (BitVec.ofNat_or ..).symm
  rw [e]
  congr 1
  have := Nat.two_pow_add_eq_or_of_lt (i := 14) h b
  rw [Nat.or_comm, Nat.mul_comm b 16384, show (16384 : Nat) = 2 ^ 14 from rfl, ← this]
  exact Nat.add_comm _ _
theorem half_digit (N k : Nat) : nI (N / 32768 ^ k % 32768 / 2) ||| nI (N / 32768 ^ (k + 1) % 2 * 16384) = nI (N / 2 / 32768 ^ k % 32768) := by
  have e1 : N / 32768 ^ (k + 1) = N / 32768 ^ k / 32768 := by rw [Nat.div_div_eq_div_mul, Nat.pow_succ]
  have e2 : N / 2 / 32768 ^ k = N / 32768 ^ k / 2 := by rw [Nat.div_div_eq_div_mul, Nat.mul_comm, ← Nat.div_div_eq_div_mul]
  rw [e1, e2]
  generalize N / 32768 ^ k = M
  rw [z_or14 (by omega)]
  congr 1
  omega
def toldL (N : Nat) : Int64 := if N ≤ 1000000000000000 then lN N else lN 1000000000000001
theorem told_step {N j v : Nat} (hj : 1 ≤ j) (h : v = N / 32768 ^ j ∨ (1000000000000000 < N / 32768 ^ j ∧ 1000000000000000 < v)) (hv : v ≤ 30517578125) : v * 32768 + N / 32768 ^ (j - 1) % 32768 = N / 32768 ^ (j - 1) := by
  have := e_top (N := N) hj
  omega
theorem told_big {N j v : Nat} (hj : 1 ≤ j) (h : v = N / 32768 ^ j ∨ (1000000000000000 < N / 32768 ^ j ∧ 1000000000000000 < v)) (hv : 30517578125 < v) : 1000000000000000 < N / 32768 ^ (j - 1) := by
  have := e_top (N := N) hj
  omega
def rootI (n k a w : Nat) : Prop := w ^ n * 2 ^ k ≤ a ^ n ∧ a ^ n < (w + 1) ^ n * 2 ^ k
theorem cmpI_pos {a b : Nat} (h : 0 < cmpI a b) : b < a := by
  unfold cmpI at h
  split at h
  · exact absurd h (by decide)
  · split at h
    · exact absurd h (by decide)
    · omega
theorem cmpI_npos {a b : Nat} (h : ¬ 0 < cmpI a b) : a ≤ b := by
  rcases Nat.lt_or_ge b a with h1 | h1
  · exact absurd (by rw [cmpI_gt h1]; decide) h
  · exact h1
theorem cmpI_nneg {a b : Nat} (h : 0 ≤ cmpI a b) : b ≤ a := by
  rcases Nat.lt_or_ge a b with h1 | h1
  · exact absurd h (by rw [cmpI_lt h1]; decide)
  · exact h1
theorem cmpI_neg {a b : Nat} (h : ¬ 0 ≤ cmpI a b) : a < b := by
  rcases Nat.lt_trichotomy a b with h1 | h1 | h1
  · exact h1
  · exact absurd (by rw [cmpI_eq h1]; decide) h
  · exact absurd (by rw [cmpI_gt h1]; decide) h
theorem cmpI_zero {a b : Nat} (h : cmpI a b = 0) : a = b := by
  rcases Nat.lt_trichotomy a b with h1 | h1 | h1
  · exact absurd h (by rw [cmpI_lt h1]; decide)
  · exact h1
  · exact absurd h (by rw [cmpI_gt h1]; decide)
theorem cmpI_nz {a b : Nat} (h : ¬ cmpI a b = 0) : a ≠ b := fun q => h (cmpI_eq q)
def inI (v a b : Int64) : Nat := if a ≤ v ∧ v ≤ b then 1 else 0
theorem inI_le (v a b : Int64) : inI v a b ≤ 1 := by unfold inI; split <;> omega
theorem inI_1 {v a b : Int64} (h1 : a ≤ v) (h2 : v ≤ b) : inI v a b = 1 := if_pos ⟨h1, h2⟩
theorem inI_a {v a b : Int64} (h : ¬ a ≤ v) : inI v a b = 0 := if_neg (fun q => h q.1)
theorem inI_b {v a b : Int64} (h : ¬ v ≤ b) : inI v a b = 0 := if_neg (fun q => h q.2)
def ptI (v : Int32) : Nat := inI v.toInt64 (lN 1) (lN 1000000)
def npI (k : Int32) (n : Nat) : Nat := 1 - inI k.toInt64 (lN 0) (lN (2 * n))
theorem own_le {o h : Nat} (ho : o ≤ 1000000) (hh : h ≤ 16) : o * 2 ^ h ≤ 65536000000 := by
  have h1 : 2 ^ h ≤ 2 ^ 16 := Nat.pow_le_pow_right (by decide) hh
  have := Nat.mul_le_mul ho h1
  omega
theorem root_0 {n k a : Nat} (hn : 1 ≤ n) : 0 ^ n * 2 ^ k ≤ a ^ n := by
  rw [Nat.zero_pow (by omega), Nat.zero_mul]; exact Nat.zero_le _
theorem root_top {n k a : Nat} (hn : 1 ≤ n) : a ^ n < (a + 1) ^ n * 2 ^ k :=
  Nat.lt_of_lt_of_le (Nat.pow_lt_pow_left (Nat.lt_succ_self a) (by omega)) (Nat.le_mul_of_pos_right _ (Nat.pow_pos (by decide)))
end
section
theorem gcd_step (x y : Nat) : Nat.gcd y (x % y) = Nat.gcd x y := by rw [Nat.gcd_comm x y, Nat.gcd_rec y x, Nat.gcd_comm]
theorem nX4_isEven_4 : ∀ w ∈ wsX40, w ∈ wsX4_isEven := by decide +kernel
abbrev rm_X4_isEven : Room := { frames := 0, cells := 0, slots := 0, locals := 0 }
set_option maxHeartbeats 4000000 in
set_option maxRecDepth 100000 in
/-- isEven -/
theorem ct_X4_isEven (l : Launch) (D : va_G) (cI cJ cD : ClassId) (m_ : Nat) (ab_ : Nat) (be_ : Nat) (rr_ : Nat) (th_ : Int32) (nn_ : Int32) (sh_ : Int32) (bs_ : Int32) (tr_ : Int32) (sp_ : Int32) (le_ : Int64) (ca_ : Int64) (cb_ : Int64) (oc_ : Int64) (st_ : Int64) (x_ : Nat) (N_ : Nat) (g_ : Nat → Int32) (sz : Nat) (hx_ : x_ ≤ 1) (hL : modL g_ x_ N_) : Met l yX4_isEven wsX4_isEven rm_X4_isEven (zP D (ty3 cI cJ cD) [.ref m_, .int (nI x_)] sz [(m_, .inr (4, [.int th_, .int nn_, .long le_, .int sh_, .ref ab_, .ref be_, .long ca_, .long cb_, .long oc_, .long st_, .int bs_, .int tr_, .int sp_, .ref rr_])), (rr_, .inl (cI, 152, .inl g_))] zT) (va_Qi (fun (r : Int32) (u : Unit) => r = nI (1 - N_ % 2)) (zB D (ty3 cI cJ cD) (fun (u : Unit) => [(m_, .inr (4, [.int th_, .int nn_, .long le_, .int sh_, .ref ab_, .ref be_, .long ca_, .long cb_, .long oc_, .long st_, .int bs_, .int tr_, .int sp_, .ref rr_])), (rr_, .inl (cI, 152, .inl g_))]) (va_A [(m_, .inr (4, [.int th_, .int nn_, .long le_, .int sh_, .ref ab_, .ref be_, .long ca_, .long cb_, .long oc_, .long st_, .int bs_, .int tr_, .int sp_, .ref rr_])), (rr_, .inl (cI, 152, .inl g_))] sz)) (va_A [(m_, .inr (4, [.int th_, .int nn_, .long le_, .int sh_, .ref ab_, .ref be_, .long ca_, .long cb_, .long oc_, .long st_, .int bs_, .int tr_, .int sp_, .ref rr_])), (rr_, .inl (cI, 152, .inl g_))] sz)) 0 0 (va_A [(m_, .inr (4, [.int th_, .int nn_, .long le_, .int sh_, .ref ab_, .ref be_, .long ca_, .long cb_, .long oc_, .long st_, .int bs_, .int tr_, .int sp_, .ref rr_])), (rr_, .inl (cI, 152, .inl g_))] sz) := by
  refine zMet (Qf := fun A => va_Qi (fun (r : Int32) (u : Unit) => r = nI (1 - N_ % 2)) (zB D (ty3 cI cJ cD) (fun (u : Unit) => [(m_, .inr (4, [.int th_, .int nn_, .long le_, .int sh_, .ref ab_, .ref be_, .long ca_, .long cb_, .long oc_, .long st_, .int bs_, .int tr_, .int sp_, .ref rr_])), (rr_, .inl (cI, 152, .inl g_))]) A) A) (cc := cX4_isEven) (maxL := 2) (ret := (some .boolean)) (by decide) rfl (Nat.le_of_ble_eq_true rfl) ?_
  intro p e s m args below meth c A ls Q H hargs hQ hHe hx hb hr hml hown hts hlocks hin hP hK hD hA hS hE hAe hl
  have hl : lv_has ls 2 [(0, .ref m_), (1, .int (nI x_))] := hl
  refine lv_aload_n hx hb dX4_isEven_0 rfl (lv_at hl 0 rfl) ?_
  refine va_get (D := D) (ci := 4) (v := .ref rr_) (C := RX4) (T := TX4) (N := 14) hx hb hts nX4_isEven_4 hown hK hP 0 rfl rfl 13 (by decide) (zh (w := .fieldLink RX4 41 "FretRootsModel" "\x72" "[I") hts 1 rfl) (fun _ h9 => h9) rfl dX4_isEven_1 ?_
  refine lv_bipush (v := nI 76) hx hb dX4_isEven_4 (by decide) ?_
  refine lv_iload_n hx hb dX4_isEven_6 rfl (lv_at hl 1 rfl) ?_
  refine lv_imul hx hb dX4_isEven_7 ?_
  refine zi_ (y := nI (76 * x_)) (pk_mul 76 x_) ?_
  refine z_iald (j := (76 * x_)) hx hb hK hP 1 0 rfl rfl (by omega) (by omega) dX4_isEven_8 ?_
  refine zi_ (y := nI (N_ % 32768)) (by have := hL 0 (by decide); simpa using this) ?_
  refine lv_iconst (v := nI 1) hx hb dX4_isEven_9 (by decide) ?_
  refine lv_iand hx hb dX4_isEven_10 ?_
  refine zi_ (y := nI (N_ % 2)) ((z_and1 _).trans (congrArg nI (by omega))) ?_
  refine lv_if_ne (tgt := 18) hx hb dX4_isEven_11 (by decide) (fun c_11 => ?_) (fun c_11 => ?_)
  · skip
    have c_11 := zji_ne (a := N_ % 2) (b := 0) (by omega) (by omega) c_11
    refine lv_iconst (v := nI 0) hx hb dX4_isEven_18 (by decide) ?_
    subst hQ
    exact ze_z hx hb hr hlocks () (by first | exact Or.inl rfl | exact Or.inr rfl | omega) (congrArg nI (by omega)) hP hK hD hS dX4_isEven_19
  · skip
    have c_11 := zji_eq (a := N_ % 2) (b := 0) (by omega) (by omega) c_11
    refine lv_iconst (v := nI 1) hx hb dX4_isEven_14 (by decide) ?_
    refine lv_goto (tgt := 19) hx hb dX4_isEven_15 (by decide) ?_
    subst hQ
    exact ze_z hx hb hr hlocks () (by first | exact Or.inl rfl | exact Or.inr rfl | omega) (congrArg nI (by omega)) hP hK hD hS dX4_isEven_19
theorem nX4_half_4 : ∀ w ∈ wsX40, w ∈ wsX4_half := by decide +kernel
abbrev rm_X4_half : Room := { frames := 0, cells := 0, slots := 0, locals := 0 }
set_option maxHeartbeats 4000000 in
set_option maxRecDepth 100000 in
/-- half -/
theorem ct_X4_half (l : Launch) (D : va_G) (cI cJ cD : ClassId) (m_ : Nat) (ab_ : Nat) (be_ : Nat) (rr_ : Nat) (th_ : Int32) (nn_ : Int32) (sh_ : Int32) (bs_ : Int32) (tr_ : Int32) (sp_ : Int32) (le_ : Int64) (ca_ : Int64) (cb_ : Int64) (oc_ : Int64) (st_ : Int64) (x_ : Nat) (N_ : Nat) (g_ : Nat → Int32) (sz : Nat) (hx_ : x_ ≤ 1) (hL : modL g_ x_ N_) (hN : N_ < 32768 ^ 76) : Met l yX4_half wsX4_half rm_X4_half (zP D (ty3 cI cJ cD) [.ref m_, .int (nI x_)] sz [(m_, .inr (4, [.int th_, .int nn_, .long le_, .int sh_, .ref ab_, .ref be_, .long ca_, .long cb_, .long oc_, .long st_, .int bs_, .int tr_, .int sp_, .ref rr_])), (rr_, .inl (cI, 152, .inl g_))] zT) (va_Qv (fun (u : (Nat → Int32)) => modL u x_ (N_ / 2) ∧ modF g_ u x_) (zB D (ty3 cI cJ cD) (fun (u : (Nat → Int32)) => [(m_, .inr (4, [.int th_, .int nn_, .long le_, .int sh_, .ref ab_, .ref be_, .long ca_, .long cb_, .long oc_, .long st_, .int bs_, .int tr_, .int sp_, .ref rr_])), (rr_, .inl (cI, 152, .inl u))]) (va_A [(m_, .inr (4, [.int th_, .int nn_, .long le_, .int sh_, .ref ab_, .ref be_, .long ca_, .long cb_, .long oc_, .long st_, .int bs_, .int tr_, .int sp_, .ref rr_])), (rr_, .inl (cI, 152, .inl g_))] sz)) (va_A [(m_, .inr (4, [.int th_, .int nn_, .long le_, .int sh_, .ref ab_, .ref be_, .long ca_, .long cb_, .long oc_, .long st_, .int bs_, .int tr_, .int sp_, .ref rr_])), (rr_, .inl (cI, 152, .inl g_))] sz)) 0 0 (va_A [(m_, .inr (4, [.int th_, .int nn_, .long le_, .int sh_, .ref ab_, .ref be_, .long ca_, .long cb_, .long oc_, .long st_, .int bs_, .int tr_, .int sp_, .ref rr_])), (rr_, .inl (cI, 152, .inl g_))] sz) := by
  refine zMet (Qf := fun A => va_Qv (fun (u : (Nat → Int32)) => modL u x_ (N_ / 2) ∧ modF g_ u x_) (zB D (ty3 cI cJ cD) (fun (u : (Nat → Int32)) => [(m_, .inr (4, [.int th_, .int nn_, .long le_, .int sh_, .ref ab_, .ref be_, .long ca_, .long cb_, .long oc_, .long st_, .int bs_, .int tr_, .int sp_, .ref rr_])), (rr_, .inl (cI, 152, .inl u))]) A) A) (cc := cX4_half) (maxL := 4) (ret := none) (by decide) rfl (Nat.le_of_ble_eq_true rfl) ?_
  intro p e s m args below meth c A ls Q H hargs hQ hHe hx hb hr hml hown hts hlocks hin hP hK hD hA hS hE hAe hl
  have hl : lv_has ls 4 [(0, .ref m_), (1, .int (nI x_))] := hl
  have lp_2 : ∀ (k9_ : Nat) (k : Nat) (g : Nat → Int32) (H : Heap) (locs : List Loc) (ls : Array Slot), 76 - k < k9_ → k ≤ 76 → modP g x_ k (N_ / 2) → modR g x_ k N_ → modF g_ g x_ →  va_P D cl5 [(m_, .inr (4, [.int th_, .int nn_, .long le_, .int sh_, .ref ab_, .ref be_, .long ca_, .long cb_, .long oc_, .long st_, .int bs_, .int tr_, .int sp_, .ref rr_])), (rr_, .inl (cI, 152, .inl g))] H → va_D A [(m_, .inr (4, [.int th_, .int nn_, .long le_, .int sh_, .ref ab_, .ref be_, .long ca_, .long cb_, .long oc_, .long st_, .int bs_, .int tr_, .int sp_, .ref rr_])), (rr_, .inl (cI, 152, .inl g))] → va_S A s.heap H locs → lv_has ls 4 [(0, .ref m_), (1, .int (nI x_)), (2, .int (nI k))] → W p l e rm_X4_half s m args below meth c H locs 0 0 Q (F0 m 2 ls []) := by
    intro k9_
    induction k9_ with
    | zero => intro k g H locs ls hm; exact absurd hm (Nat.not_lt_zero _)
    | succ k9_ ih =>
      intro k g H locs ls hm  h1 h2 h4 h3 hP hD hS hl
      refine lv_iload_n hx hb dX4_half_2 rfl (lv_at hl 2 rfl) ?_
      refine lv_bipush (v := nI 76) hx hb dX4_half_3 (by decide) ?_
      refine lv_icmp_ge (tgt := 71) hx hb dX4_half_5 (by decide) (fun c_5 => ?_) (fun c_5 => ?_)
      · skip
        have c_5 := zji_le (a := 76) (b := k) (by omega) (by omega) c_5
        have hk : k = 76 := by omega
        subst hk
        subst hQ
        exact ze_v hx hb hr hlocks g (⟨h2, h3⟩) hP hK hD hS dX4_half_71
      · skip
        have c_5 := zji_nle (a := 76) (b := k) (by omega) (by omega) c_5
        refine lv_iload_n hx hb dX4_half_8 rfl (lv_at hl 2 rfl) ?_
        refine lv_iconst (v := nI 1) hx hb dX4_half_9 (by decide) ?_
        refine lv_iadd hx hb dX4_half_10 ?_
        refine zi_ (y := nI (k + 1)) (nI_add k 1) ?_
        refine lv_bipush (v := nI 76) hx hb dX4_half_11 (by decide) ?_
        refine lv_icmp_ge (tgt := 34) hx hb dX4_half_13 (by decide) (fun c_13 => ?_) (fun c_13 => ?_)
        · skip
          have c_13 := zji_le (a := 76) (b := k + 1) (by omega) (by omega) c_13
          refine lv_iconst (v := nI 0) hx hb dX4_half_34 (by decide) ?_
          refine zi_ (y := nI (N_ / 32768 ^ (k + 1) % 2)) (by rw [show k + 1 = 76 by omega, Nat.div_eq_of_lt hN]) ?_
          refine lv_istore_n (lv' := [(3, .int (nI (N_ / 32768 ^ (k + 1) % 2))), (0, .ref m_), (1, .int (nI x_)), (2, .int (nI k))]) hx hb dX4_half_35 rfl hl (by decide) rfl (fun ls hl => ?_)
          refine lv_aload_n hx hb dX4_half_36 rfl (lv_at hl 1 rfl) ?_
          refine va_get (D := D) (ci := 4) (v := .ref rr_) (C := RX4) (T := TX4) (N := 14) hx hb hts nX4_half_4 hown hK hP 0 rfl rfl 13 (by decide) (zh (w := .fieldLink RX4 41 "FretRootsModel" "\x72" "[I") hts 1 rfl) (fun _ h9 => h9) rfl dX4_half_37 ?_
          refine lv_bipush (v := nI 76) hx hb dX4_half_40 (by decide) ?_
          refine lv_iload_n hx hb dX4_half_42 rfl (lv_at hl 2 rfl) ?_
          refine lv_imul hx hb dX4_half_43 ?_
          refine zi_ (y := nI (76 * x_)) (pk_mul 76 x_) ?_
          refine lv_iload_n hx hb dX4_half_44 rfl (lv_at hl 3 rfl) ?_
          refine lv_iadd hx hb dX4_half_45 ?_
          refine zi_ (y := nI (76 * x_ + k)) (nI_add (76 * x_) k) ?_
          refine lv_aload_n hx hb dX4_half_46 rfl (lv_at hl 1 rfl) ?_
          refine va_get (D := D) (ci := 4) (v := .ref rr_) (C := RX4) (T := TX4) (N := 14) hx hb hts nX4_half_4 hown hK hP 0 rfl rfl 13 (by decide) (zh (w := .fieldLink RX4 41 "FretRootsModel" "\x72" "[I") hts 1 rfl) (fun _ h9 => h9) rfl dX4_half_47 ?_
          refine lv_bipush (v := nI 76) hx hb dX4_half_50 (by decide) ?_
          refine lv_iload_n hx hb dX4_half_52 rfl (lv_at hl 2 rfl) ?_
          refine lv_imul hx hb dX4_half_53 ?_
          refine zi_ (y := nI (76 * x_)) (pk_mul 76 x_) ?_
          refine lv_iload_n hx hb dX4_half_54 rfl (lv_at hl 3 rfl) ?_
          refine lv_iadd hx hb dX4_half_55 ?_
          refine zi_ (y := nI (76 * x_ + k)) (nI_add (76 * x_) k) ?_
          refine z_iald (j := (76 * x_ + k)) hx hb hK hP 1 0 rfl rfl (by omega) (by omega) dX4_half_56 ?_
          refine zi_ (y := nI (N_ / 32768 ^ k % 32768)) (h4 k (Nat.le_refl _) c_5) ?_
          refine lv_iconst (v := nI 1) hx hb dX4_half_57 (by decide) ?_
          refine lv_ishr hx hb dX4_half_58 ?_
          refine zi_ (y := nI (N_ / 32768 ^ k % 32768 / 2)) (pk_shrN (by omega) _ 1 rfl) ?_
          refine lv_iload_n hx hb dX4_half_59 rfl (lv_at hl 0 rfl) ?_
          refine lv_bipush (v := nI 14) hx hb dX4_half_60 (by decide) ?_
          refine lv_ishl hx hb dX4_half_62 ?_
          refine zi_ (y := nI (N_ / 32768 ^ (k + 1) % 2 * 16384)) (pk_shlN _ 14 rfl (by omega)) ?_
          refine lv_ior hx hb dX4_half_63 ?_
          refine zi_ (y := nI (N_ / 2 / 32768 ^ k % 32768)) (half_digit N_ k) ?_
          refine z_iast (j := (76 * x_ + k)) hx hb hK hP hD hS 1 0 rfl rfl (by omega) (by omega) dX4_half_64 (fun H locs hP hD hS => ?_)
          obtain ⟨gA, egA⟩ : ∃ f9, f9 = upd g (76 * x_ + k) (nI (N_ / 2 / 32768 ^ k % 32768)) := ⟨_, rfl⟩
          have hP : va_P D cl5 [(m_, .inr (4, [.int th_, .int nn_, .long le_, .int sh_, .ref ab_, .ref be_, .long ca_, .long cb_, .long oc_, .long st_, .int bs_, .int tr_, .int sp_, .ref rr_])), (rr_, .inl (cI, 152, .inl gA))] H := by rw [egA]; exact hP
          have hD : va_D A [(m_, .inr (4, [.int th_, .int nn_, .long le_, .int sh_, .ref ab_, .ref be_, .long ca_, .long cb_, .long oc_, .long st_, .int bs_, .int tr_, .int sp_, .ref rr_])), (rr_, .inl (cI, 152, .inl gA))] := by rw [egA]; exact hD
          refine lv_iinc (v := nI (k + 1)) (lv' := [(2, .int (nI (k + 1))), (3, .int (nI (N_ / 32768 ^ (k + 1) % 2))), (0, .ref m_), (1, .int (nI x_))]) hx hb dX4_half_65 hl (k := 3) rfl (z_inc k 1) (by decide) rfl (fun ls hl => ?_)
          refine lv_goto (tgt := 2) hx hb dX4_half_68 (by decide) ?_
          exact ih (k + 1) gA _ _ _ (by omega) (by omega) (by rw [egA]; exact modP_snoc h2) (by rw [egA]; exact modR_snoc h4) (by rw [egA]; exact modF_upd h3 c_5) hP hD hS (lv_sub hl [2, 3, 0] rfl)
        · skip
          have c_13 := zji_nle (a := 76) (b := k + 1) (by omega) (by omega) c_13
          refine lv_aload_n hx hb dX4_half_16 rfl (lv_at hl 0 rfl) ?_
          refine va_get (D := D) (ci := 4) (v := .ref rr_) (C := RX4) (T := TX4) (N := 14) hx hb hts nX4_half_4 hown hK hP 0 rfl rfl 13 (by decide) (zh (w := .fieldLink RX4 41 "FretRootsModel" "\x72" "[I") hts 1 rfl) (fun _ h9 => h9) rfl dX4_half_17 ?_
          refine lv_bipush (v := nI 76) hx hb dX4_half_20 (by decide) ?_
          refine lv_iload_n hx hb dX4_half_22 rfl (lv_at hl 1 rfl) ?_
          refine lv_imul hx hb dX4_half_23 ?_
          refine zi_ (y := nI (76 * x_)) (pk_mul 76 x_) ?_
          refine lv_iload_n hx hb dX4_half_24 rfl (lv_at hl 2 rfl) ?_
          refine lv_iadd hx hb dX4_half_25 ?_
          refine zi_ (y := nI (76 * x_ + k)) (nI_add (76 * x_) k) ?_
          refine lv_iconst (v := nI 1) hx hb dX4_half_26 (by decide) ?_
          refine lv_iadd hx hb dX4_half_27 ?_
          refine zi_ (y := nI (76 * x_ + k + 1)) (nI_add (76 * x_ + k) 1) ?_
          refine z_iald (j := (76 * x_ + k + 1)) hx hb hK hP 1 0 rfl rfl (by omega) (by omega) dX4_half_28 ?_
          refine zi_ (y := nI (N_ / 32768 ^ (k + 1) % 32768)) (h4 (k + 1) (by omega) (by omega)) ?_
          refine lv_iconst (v := nI 1) hx hb dX4_half_29 (by decide) ?_
          refine lv_iand hx hb dX4_half_30 ?_
          refine zi_ (y := nI (N_ / 32768 ^ (k + 1) % 2)) ((z_and1 _).trans (congrArg nI (by omega))) ?_
          refine lv_goto (tgt := 35) hx hb dX4_half_31 (by decide) ?_
          refine lv_istore_n (lv' := [(3, .int (nI (N_ / 32768 ^ (k + 1) % 2))), (0, .ref m_), (1, .int (nI x_)), (2, .int (nI k))]) hx hb dX4_half_35 rfl hl (by decide) rfl (fun ls hl => ?_)
          refine lv_aload_n hx hb dX4_half_36 rfl (lv_at hl 1 rfl) ?_
          refine va_get (D := D) (ci := 4) (v := .ref rr_) (C := RX4) (T := TX4) (N := 14) hx hb hts nX4_half_4 hown hK hP 0 rfl rfl 13 (by decide) (zh (w := .fieldLink RX4 41 "FretRootsModel" "\x72" "[I") hts 1 rfl) (fun _ h9 => h9) rfl dX4_half_37 ?_
          refine lv_bipush (v := nI 76) hx hb dX4_half_40 (by decide) ?_
          refine lv_iload_n hx hb dX4_half_42 rfl (lv_at hl 2 rfl) ?_
          refine lv_imul hx hb dX4_half_43 ?_
          refine zi_ (y := nI (76 * x_)) (pk_mul 76 x_) ?_
          refine lv_iload_n hx hb dX4_half_44 rfl (lv_at hl 3 rfl) ?_
          refine lv_iadd hx hb dX4_half_45 ?_
          refine zi_ (y := nI (76 * x_ + k)) (nI_add (76 * x_) k) ?_
          refine lv_aload_n hx hb dX4_half_46 rfl (lv_at hl 1 rfl) ?_
          refine va_get (D := D) (ci := 4) (v := .ref rr_) (C := RX4) (T := TX4) (N := 14) hx hb hts nX4_half_4 hown hK hP 0 rfl rfl 13 (by decide) (zh (w := .fieldLink RX4 41 "FretRootsModel" "\x72" "[I") hts 1 rfl) (fun _ h9 => h9) rfl dX4_half_47 ?_
          refine lv_bipush (v := nI 76) hx hb dX4_half_50 (by decide) ?_
          refine lv_iload_n hx hb dX4_half_52 rfl (lv_at hl 2 rfl) ?_
          refine lv_imul hx hb dX4_half_53 ?_
          refine zi_ (y := nI (76 * x_)) (pk_mul 76 x_) ?_
          refine lv_iload_n hx hb dX4_half_54 rfl (lv_at hl 3 rfl) ?_
          refine lv_iadd hx hb dX4_half_55 ?_
          refine zi_ (y := nI (76 * x_ + k)) (nI_add (76 * x_) k) ?_
          refine z_iald (j := (76 * x_ + k)) hx hb hK hP 1 0 rfl rfl (by omega) (by omega) dX4_half_56 ?_
          refine zi_ (y := nI (N_ / 32768 ^ k % 32768)) (h4 k (Nat.le_refl _) c_5) ?_
          refine lv_iconst (v := nI 1) hx hb dX4_half_57 (by decide) ?_
          refine lv_ishr hx hb dX4_half_58 ?_
          refine zi_ (y := nI (N_ / 32768 ^ k % 32768 / 2)) (pk_shrN (by omega) _ 1 rfl) ?_
          refine lv_iload_n hx hb dX4_half_59 rfl (lv_at hl 0 rfl) ?_
          refine lv_bipush (v := nI 14) hx hb dX4_half_60 (by decide) ?_
          refine lv_ishl hx hb dX4_half_62 ?_
          refine zi_ (y := nI (N_ / 32768 ^ (k + 1) % 2 * 16384)) (pk_shlN _ 14 rfl (by omega)) ?_
          refine lv_ior hx hb dX4_half_63 ?_
          refine zi_ (y := nI (N_ / 2 / 32768 ^ k % 32768)) (half_digit N_ k) ?_
          refine z_iast (j := (76 * x_ + k)) hx hb hK hP hD hS 1 0 rfl rfl (by omega) (by omega) dX4_half_64 (fun H locs hP hD hS => ?_)
          obtain ⟨gA, egA⟩ : ∃ f9, f9 = upd g (76 * x_ + k) (nI (N_ / 2 / 32768 ^ k % 32768)) := ⟨_, rfl⟩
          have hP : va_P D cl5 [(m_, .inr (4, [.int th_, .int nn_, .long le_, .int sh_, .ref ab_, .ref be_, .long ca_, .long cb_, .long oc_, .long st_, .int bs_, .int tr_, .int sp_, .ref rr_])), (rr_, .inl (cI, 152, .inl gA))] H := by rw [egA]; exact hP
          have hD : va_D A [(m_, .inr (4, [.int th_, .int nn_, .long le_, .int sh_, .ref ab_, .ref be_, .long ca_, .long cb_, .long oc_, .long st_, .int bs_, .int tr_, .int sp_, .ref rr_])), (rr_, .inl (cI, 152, .inl gA))] := by rw [egA]; exact hD
          refine lv_iinc (v := nI (k + 1)) (lv' := [(2, .int (nI (k + 1))), (3, .int (nI (N_ / 32768 ^ (k + 1) % 2))), (0, .ref m_), (1, .int (nI x_))]) hx hb dX4_half_65 hl (k := 3) rfl (z_inc k 1) (by decide) rfl (fun ls hl => ?_)
          refine lv_goto (tgt := 2) hx hb dX4_half_68 (by decide) ?_
          exact ih (k + 1) gA _ _ _ (by omega) (by omega) (by rw [egA]; exact modP_snoc h2) (by rw [egA]; exact modR_snoc h4) (by rw [egA]; exact modF_upd h3 c_5) hP hD hS (lv_sub hl [2, 3, 0] rfl)
  refine lv_iconst (v := nI 0) hx hb dX4_half_0 (by decide) ?_
  refine lv_istore_n (lv' := [(2, .int (nI 0)), (0, .ref m_), (1, .int (nI x_))]) hx hb dX4_half_1 rfl hl (by decide) rfl (fun ls hl => ?_)
  exact lp_2 ((76 - 0) + 1) 0 g_ _ _ _ (Nat.lt_succ_self _) (Nat.zero_le _) (fun j h => absurd h (Nat.not_lt_zero _)) (modL_R hL) (modF_rf _ _) hP hD hS (lv_sub hl [1, 2, 0] rfl)
theorem nX4_told_4 : ∀ w ∈ wsX40, w ∈ wsX4_told := by decide +kernel
abbrev rm_X4_told : Room := { frames := 0, cells := 0, slots := 0, locals := 0 }
set_option maxHeartbeats 4000000 in
set_option maxRecDepth 100000 in
/-- told -/
theorem ct_X4_told (l : Launch) (D : va_G) (cI cJ cD : ClassId) (m_ : Nat) (ab_ : Nat) (be_ : Nat) (rr_ : Nat) (th_ : Int32) (nn_ : Int32) (sh_ : Int32) (bs_ : Int32) (tr_ : Int32) (sp_ : Int32) (le_ : Int64) (ca_ : Int64) (cb_ : Int64) (oc_ : Int64) (st_ : Int64) (x_ : Nat) (N_ : Nat) (g_ : Nat → Int32) (sz : Nat) (hx_ : x_ ≤ 1) (hL : modL g_ x_ N_) (hN : N_ < 32768 ^ 76) : Met l yX4_told wsX4_told rm_X4_told (zP D (ty3 cI cJ cD) [.ref m_, .int (nI x_)] sz [(m_, .inr (4, [.int th_, .int nn_, .long le_, .int sh_, .ref ab_, .ref be_, .long ca_, .long cb_, .long oc_, .long st_, .int bs_, .int tr_, .int sp_, .ref rr_])), (rr_, .inl (cI, 152, .inl g_))] zT) (va_Ql (fun (r : Int64) (u : Unit) => r = toldL N_) (zB D (ty3 cI cJ cD) (fun (u : Unit) => [(m_, .inr (4, [.int th_, .int nn_, .long le_, .int sh_, .ref ab_, .ref be_, .long ca_, .long cb_, .long oc_, .long st_, .int bs_, .int tr_, .int sp_, .ref rr_])), (rr_, .inl (cI, 152, .inl g_))]) (va_A [(m_, .inr (4, [.int th_, .int nn_, .long le_, .int sh_, .ref ab_, .ref be_, .long ca_, .long cb_, .long oc_, .long st_, .int bs_, .int tr_, .int sp_, .ref rr_])), (rr_, .inl (cI, 152, .inl g_))] sz)) (va_A [(m_, .inr (4, [.int th_, .int nn_, .long le_, .int sh_, .ref ab_, .ref be_, .long ca_, .long cb_, .long oc_, .long st_, .int bs_, .int tr_, .int sp_, .ref rr_])), (rr_, .inl (cI, 152, .inl g_))] sz)) 0 0 (va_A [(m_, .inr (4, [.int th_, .int nn_, .long le_, .int sh_, .ref ab_, .ref be_, .long ca_, .long cb_, .long oc_, .long st_, .int bs_, .int tr_, .int sp_, .ref rr_])), (rr_, .inl (cI, 152, .inl g_))] sz) := by
  refine zMet (Qf := fun A => va_Ql (fun (r : Int64) (u : Unit) => r = toldL N_) (zB D (ty3 cI cJ cD) (fun (u : Unit) => [(m_, .inr (4, [.int th_, .int nn_, .long le_, .int sh_, .ref ab_, .ref be_, .long ca_, .long cb_, .long oc_, .long st_, .int bs_, .int tr_, .int sp_, .ref rr_])), (rr_, .inl (cI, 152, .inl g_))]) A) A) (cc := cX4_told) (maxL := 5) (ret := (some .long)) (by decide) rfl (Nat.le_of_ble_eq_true rfl) ?_
  intro p e s m args below meth c A ls Q H hargs hQ hHe hx hb hr hml hown hts hlocks hin hP hK hD hA hS hE hAe hl
  have hl : lv_has ls 5 [(0, .ref m_), (1, .int (nI x_))] := hl
  have lp_6 : ∀ (k9_ : Nat) (j : Nat) (v : Nat) (H : Heap) (locs : List Loc) (ls : Array Slot), j < k9_ → j ≤ 76 → v = N_ / 32768 ^ j ∨ (1000000000000000 < N_ / 32768 ^ j ∧ 1000000000000000 < v) → v ≤ 1000000000032767 →  va_P D cl5 [(m_, .inr (4, [.int th_, .int nn_, .long le_, .int sh_, .ref ab_, .ref be_, .long ca_, .long cb_, .long oc_, .long st_, .int bs_, .int tr_, .int sp_, .ref rr_])), (rr_, .inl (cI, 152, .inl g_))] H → va_D A [(m_, .inr (4, [.int th_, .int nn_, .long le_, .int sh_, .ref ab_, .ref be_, .long ca_, .long cb_, .long oc_, .long st_, .int bs_, .int tr_, .int sp_, .ref rr_])), (rr_, .inl (cI, 152, .inl g_))] → va_S A s.heap H locs → lv_has ls 5 [(0, .ref m_), (1, .int (nI x_)), (2, .long (lN v)), (4, .int (nI j - nI 1))] → W p l e rm_X4_told s m args below meth c H locs 0 0 Q (F0 m 6 ls []) := by
    intro k9_
    induction k9_ with
    | zero => intro j v H locs ls hm; exact absurd hm (Nat.not_lt_zero _)
    | succ k9_ ih =>
      intro j v H locs ls hm  h1 h2 h3 hP hD hS hl
      refine lv_iload hx hb dX4_told_6 (lv_at hl 3 rfl) ?_
      refine lv_if_lt (tgt := 51) hx hb dX4_told_8 (by decide) (fun c_8 => ?_) (fun c_8 => ?_)
      · skip
        have hj : j = 0 := Nat.eq_zero_of_not_pos (fun q => absurd c_8 (by rw [pk_sub q]; exact nI_pos (by omega)))
        subst hj
        rw [Nat.pow_zero, Nat.div_one] at h2
        refine lv_lload_n hx hb dX4_told_51 rfl (lv_at hl 2 rfl) ?_
        refine lv_ldc2 (v := 1000000000000000) hx hb hown (zh (w := .constantLong RX4 109 (1000000000000000)) hts 5 rfl) dX4_told_52 ?_
        refine zl_ (y := lN 1000000000000000) rfl ?_
        refine zl_le (tgt := 65) hx hb dX4_told_55 dX4_told_56 (by decide) (fun c_56 => ?_) (fun c_56 => ?_)
        · skip
          have c_56 := zjl_le (a := v) (b := 1000000000000000) (by omega) (by omega) c_56
          refine lv_lload_n hx hb dX4_told_65 rfl (lv_at hl 2 rfl) ?_
          subst hQ
          exact ze_l hx hb hr hlocks () ((by rw [toldL, if_pos (by omega)]; exact congrArg lN (by omega))) hP hK hD hS dX4_told_66
        · skip
          have c_56 := zjl_nle (a := v) (b := 1000000000000000) (by omega) (by omega) c_56
          refine lv_ldc2 (v := 1000000000000001) hx hb hown (zh (w := .constantLong RX4 105 (1000000000000001)) hts 2 rfl) dX4_told_59 ?_
          refine zl_ (y := lN 1000000000000001) rfl ?_
          refine lv_goto (tgt := 66) hx hb dX4_told_62 (by decide) ?_
          subst hQ
          exact ze_l hx hb hr hlocks () ((if_neg (by omega)).symm) hP hK hD hS dX4_told_66
      · skip
        have hj : 1 ≤ j := Nat.pos_of_ne_zero (fun q => c_8 (by subst q; decide))
        have ex : nI j - nI 1 = nI (j - 1) := pk_sub hj
        have l1 : N_ / 32768 ^ (j - 1) % 32768 < 32768 := Nat.mod_lt _ (by decide)
        refine lv_lload_n hx hb dX4_told_11 rfl (lv_at hl 2 rfl) ?_
        refine lv_ldc2 (v := 30517578125) hx hb hown (zh (w := .constantLong RX4 103 (30517578125)) hts 1 rfl) dX4_told_12 ?_
        refine zl_ (y := lN 30517578125) rfl ?_
        refine zl_le (tgt := 25) hx hb dX4_told_15 dX4_told_16 (by decide) (fun c_16 => ?_) (fun c_16 => ?_)
        · skip
          have c_16 := zjl_le (a := v) (b := 30517578125) (by omega) (by omega) c_16
          refine lv_lload_n hx hb dX4_told_25 rfl (lv_at hl 2 rfl) ?_
          refine lv_ldc2 (v := 32768) hx hb hown (zh (w := .constantLong RX4 107 (32768)) hts 3 rfl) dX4_told_26 ?_
          refine zl_ (y := lN 32768) rfl ?_
          refine lv_lmul hx hb dX4_told_29 ?_
          refine zl_ (y := lN (v * 32768)) (lN_mul v 32768) ?_
          refine lv_aload_n hx hb dX4_told_30 rfl (lv_at hl 0 rfl) ?_
          refine va_get (D := D) (ci := 4) (v := .ref rr_) (C := RX4) (T := TX4) (N := 14) hx hb hts nX4_told_4 hown hK hP 0 rfl rfl 13 (by decide) (zh (w := .fieldLink RX4 41 "FretRootsModel" "\x72" "[I") hts 4 rfl) (fun _ h9 => h9) rfl dX4_told_31 ?_
          refine lv_bipush (v := nI 76) hx hb dX4_told_34 (by decide) ?_
          refine lv_iload_n hx hb dX4_told_36 rfl (lv_at hl 1 rfl) ?_
          refine lv_imul hx hb dX4_told_37 ?_
          refine zi_ (y := nI (76 * x_)) (pk_mul 76 x_) ?_
          refine lv_iload hx hb dX4_told_38 (lv_at hl 3 rfl) ?_
          refine zi_ (y := nI (j - 1)) (ex) ?_
          refine lv_iadd hx hb dX4_told_40 ?_
          refine zi_ (y := nI (76 * x_ + (j - 1))) (nI_add (76 * x_) (j - 1)) ?_
          refine z_iald (j := (76 * x_ + (j - 1))) hx hb hK hP 1 0 rfl rfl (by omega) (by omega) dX4_told_41 ?_
          refine zi_ (y := nI (N_ / 32768 ^ (j - 1) % 32768)) (hL (j - 1) (by omega)) ?_
          refine lv_i2l (v := lN (N_ / 32768 ^ (j - 1) % 32768)) hx hb dX4_told_42 (nI_l (by omega)) ?_
          refine lv_ladd hx hb dX4_told_43 ?_
          refine zl_ (y := lN (v * 32768 + (N_ / 32768 ^ (j - 1) % 32768))) (lN_add (v * 32768) (N_ / 32768 ^ (j - 1) % 32768)) ?_
          refine lv_lstore_n (lv' := [(2, .long (lN (v * 32768 + (N_ / 32768 ^ (j - 1) % 32768)))), (0, .ref m_), (1, .int (nI x_)), (4, .int (nI j - nI 1))]) hx hb dX4_told_44 rfl hl (by decide) rfl (fun ls hl => ?_)
          refine lv_iinc (v := nI (j - 1) - nI 1) (lv' := [(4, .int (nI (j - 1) - nI 1)), (2, .long (lN (v * 32768 + (N_ / 32768 ^ (j - 1) % 32768)))), (0, .ref m_), (1, .int (nI x_))]) hx hb dX4_told_45 hl (k := 3) rfl (by rw [ex]; exact z_m1 _) (by decide) rfl (fun ls hl => ?_)
          refine lv_goto (tgt := 6) hx hb dX4_told_48 (by decide) ?_
          exact ih (j - 1) (v * 32768 + (N_ / 32768 ^ (j - 1) % 32768)) _ _ _ (by omega) (by omega) (by first | exact Or.inr ⟨told_big hj h2 c_16, by decide⟩ | exact Or.inl (told_step hj h2 c_16)) (by omega) hP hD hS (lv_sub hl [2, 3, 1, 0] rfl)
        · skip
          have c_16 := zjl_nle (a := v) (b := 30517578125) (by omega) (by omega) c_16
          refine lv_ldc2 (v := 1000000000000001) hx hb hown (zh (w := .constantLong RX4 105 (1000000000000001)) hts 2 rfl) dX4_told_19 ?_
          refine zl_ (y := lN 1000000000000001) rfl ?_
          refine lv_goto (tgt := 44) hx hb dX4_told_22 (by decide) ?_
          refine lv_lstore_n (lv' := [(2, .long (lN 1000000000000001)), (0, .ref m_), (1, .int (nI x_)), (4, .int (nI j - nI 1))]) hx hb dX4_told_44 rfl hl (by decide) rfl (fun ls hl => ?_)
          refine lv_iinc (v := nI (j - 1) - nI 1) (lv' := [(4, .int (nI (j - 1) - nI 1)), (2, .long (lN 1000000000000001)), (0, .ref m_), (1, .int (nI x_))]) hx hb dX4_told_45 hl (k := 3) rfl (by rw [ex]; exact z_m1 _) (by decide) rfl (fun ls hl => ?_)
          refine lv_goto (tgt := 6) hx hb dX4_told_48 (by decide) ?_
          exact ih (j - 1) 1000000000000001 _ _ _ (by omega) (by omega) (by first | exact Or.inr ⟨told_big hj h2 c_16, by decide⟩ | exact Or.inl (told_step hj h2 c_16)) (by omega) hP hD hS (lv_sub hl [2, 3, 1, 0] rfl)
  refine lv_lconst (v := lN 0) hx hb dX4_told_0 rfl ?_
  refine lv_lstore_n (lv' := [(2, .long (lN 0)), (0, .ref m_), (1, .int (nI x_))]) hx hb dX4_told_1 rfl hl (by decide) rfl (fun ls hl => ?_)
  refine lv_bipush (v := nI 75) hx hb dX4_told_2 (by decide) ?_
  refine zi_ (y := nI 76 - nI 1) (by decide) ?_
  refine lv_istore (lv' := [(4, .int (nI 76 - nI 1)), (2, .long (lN 0)), (0, .ref m_), (1, .int (nI x_))]) hx hb dX4_told_4 hl (by decide) rfl (fun ls hl => ?_)
  exact lp_6 (76 + 1) 76 0 _ _ _ (Nat.lt_succ_self _) (Nat.le_refl _) (Or.inl (Nat.div_eq_of_lt hN).symm) (Nat.zero_le _) hP hD hS (lv_sub hl [2, 3, 1, 0] rfl)
abbrev rm_X4_down : Room := { frames := 1, cells := 0, slots := 0, locals := 40 }
set_option maxHeartbeats 4000000 in
set_option maxRecDepth 100000 in
/-- down -/
theorem ct_X4_down (l : Launch) (D : va_G) (cI cJ cD : ClassId) (m_ : Nat) (ab_ : Nat) (be_ : Nat) (rr_ : Nat) (th_ : Int32) (nn_ : Int32) (sh_ : Int32) (bs_ : Int32) (tr_ : Int32) (sp_ : Int32) (le_ : Int64) (ca_ : Int64) (cb_ : Int64) (oc_ : Int64) (st_ : Int64) (N_ : Nat) (K_ : Nat) (g_ : Nat → Int32) (sz : Nat) (hA_ : modL g_ 0 N_) (hB_ : modL g_ 1 K_) (hN : N_ < 32768 ^ 76) : Met l yX4_down wsX4_down rm_X4_down (zP D (ty3 cI cJ cD) [.ref m_] sz [(m_, .inr (4, [.int th_, .int nn_, .long le_, .int sh_, .ref ab_, .ref be_, .long ca_, .long cb_, .long oc_, .long st_, .int bs_, .int tr_, .int sp_, .ref rr_])), (rr_, .inl (cI, 152, .inl g_))] zT) (va_Qv (fun (u : (Nat → Int32)) => modL u 0 (if N_ % 2 = 0 then N_ / 2 else N_) ∧ modL u 1 (if N_ % 2 = 0 then K_ else K_ * 2)) (zB D (ty3 cI cJ cD) (fun (u : (Nat → Int32)) => [(m_, .inr (4, [.int th_, .int nn_, .long le_, .int sh_, .ref ab_, .ref be_, .long ca_, .long cb_, .long oc_, .long st_, .int bs_, .int tr_, .int sp_, .ref rr_])), (rr_, .inl (cI, 152, .inl u))]) (va_A [(m_, .inr (4, [.int th_, .int nn_, .long le_, .int sh_, .ref ab_, .ref be_, .long ca_, .long cb_, .long oc_, .long st_, .int bs_, .int tr_, .int sp_, .ref rr_])), (rr_, .inl (cI, 152, .inl g_))] sz)) (va_A [(m_, .inr (4, [.int th_, .int nn_, .long le_, .int sh_, .ref ab_, .ref be_, .long ca_, .long cb_, .long oc_, .long st_, .int bs_, .int tr_, .int sp_, .ref rr_])), (rr_, .inl (cI, 152, .inl g_))] sz)) 0 0 (va_A [(m_, .inr (4, [.int th_, .int nn_, .long le_, .int sh_, .ref ab_, .ref be_, .long ca_, .long cb_, .long oc_, .long st_, .int bs_, .int tr_, .int sp_, .ref rr_])), (rr_, .inl (cI, 152, .inl g_))] sz) := by
  refine zMet (Qf := fun A => va_Qv (fun (u : (Nat → Int32)) => modL u 0 (if N_ % 2 = 0 then N_ / 2 else N_) ∧ modL u 1 (if N_ % 2 = 0 then K_ else K_ * 2)) (zB D (ty3 cI cJ cD) (fun (u : (Nat → Int32)) => [(m_, .inr (4, [.int th_, .int nn_, .long le_, .int sh_, .ref ab_, .ref be_, .long ca_, .long cb_, .long oc_, .long st_, .int bs_, .int tr_, .int sp_, .ref rr_])), (rr_, .inl (cI, 152, .inl u))]) A) A) (cc := cX4_down) (maxL := 1) (ret := none) (by decide) rfl (Nat.le_of_ble_eq_true rfl) ?_
  intro p e s m args below meth c A ls Q H hargs hQ hHe hx hb hr hml hown hts hlocks hin hP hK hD hA hS hE hAe hl
  have hl : lv_has ls 1 [(0, .ref m_)] := hl
  refine lv_aload_n hx hb dX4_down_0 rfl (lv_at hl 0 rfl) ?_
  refine lv_iconst (v := nI 0) hx hb dX4_down_1 (by decide) ?_
  refine zc_i (wc := [(m_, .inr (4, [.int th_, .int nn_, .long le_, .int sh_, .ref ab_, .ref be_, .long ca_, .long cb_, .long oc_, .long st_, .int bs_, .int tr_, .int sp_, .ref rr_])), (rr_, .inl (cI, 152, .inl g_))]) (wr := []) hP hD hS hA [0, 1] [] rfl rfl (by decide) (by decide) (va_runV (As := [.int (nI 0)]) (rest := []) ⟨hx, hb, hml, hown, hts⟩ (ct_X4_isEven l D cI cJ cD m_ ab_ be_ rr_ th_ nn_ sh_ bs_ tr_ sp_ le_ ca_ cb_ oc_ st_ 0 N_ g_ H.size (by decide) hA_) (cwV 1 hts gX4_down_X4_isEven rfl rfl rfl (by decide +kernel) ⟨Nat.le_of_ble_eq_true rfl, Nat.le_of_ble_eq_true rfl⟩) (zPreV (wc := [(m_, .inr (4, [.int th_, .int nn_, .long le_, .int sh_, .ref ab_, .ref be_, .long ca_, .long cb_, .long oc_, .long st_, .int bs_, .int tr_, .int sp_, .ref rr_])), (rr_, .inl (cI, 152, .inl g_))]) hK hP hD 4 0 rfl rfl zTb (fun _ _ _ => trivial)) rfl rfl hl.1 rfl (lv_room (Nat.le_of_ble_eq_true rfl)) dX4_down_2 ⟨Nat.le_of_ble_eq_true rfl, Nat.le_of_ble_eq_true rfl⟩) (fun r_1 u H locs hw hP hD hS => ?_)
  have hP : va_P D cl5 [(m_, .inr (4, [.int th_, .int nn_, .long le_, .int sh_, .ref ab_, .ref be_, .long ca_, .long cb_, .long oc_, .long st_, .int bs_, .int tr_, .int sp_, .ref rr_])), (rr_, .inl (cI, 152, .inl g_))] H := hP.sub [0, 1] rfl
  have hD : va_D A [(m_, .inr (4, [.int th_, .int nn_, .long le_, .int sh_, .ref ab_, .ref be_, .long ca_, .long cb_, .long oc_, .long st_, .int bs_, .int tr_, .int sp_, .ref rr_])), (rr_, .inl (cI, 152, .inl g_))] := hD.sub [0, 1] (by decide) rfl
  have hw : r_1 = nI (1 - N_ % 2) := hw
  subst hw
  refine lv_if_eq (tgt := 16) hx hb dX4_down_5 (by decide) (fun c_5 => ?_) (fun c_5 => ?_)
  · skip
    have c_5 := zji_eq (a := 1 - N_ % 2) (b := 0) (by omega) (by omega) c_5
    refine lv_aload_n hx hb dX4_down_16 rfl (lv_at hl 0 rfl) ?_
    refine lv_iconst (v := nI 1) hx hb dX4_down_17 (by decide) ?_
    refine lv_ldc2 (v := 2) hx hb hown (zh (w := .constantLong RX4 50 (2)) hts 1 rfl) dX4_down_18 ?_
    refine zl_ (y := lN 2) rfl ?_
    refine zc_v (wc := [(m_, .inr (4, [.int th_, .int nn_, .long le_, .int sh_, .ref ab_, .ref be_, .long ca_, .long cb_, .long oc_, .long st_, .int bs_, .int tr_, .int sp_, .ref rr_])), (rr_, .inl (cI, 152, .inl g_))]) (wr := []) hP hD hS hA [0, 1] [] rfl rfl (by decide) (by decide) (va_runV (As := [.int (nI 1), .long (lN 2)]) (rest := []) ⟨hx, hb, hml, hown, hts⟩ (ct_X4_times l D cI cJ cD m_ ab_ be_ rr_ th_ nn_ sh_ bs_ tr_ sp_ le_ ca_ cb_ oc_ st_ 1 K_ 2 g_ H.size (by decide) (by decide) hB_) (cwV 2 hts gX4_down_X4_times rfl rfl rfl (by decide +kernel) ⟨Nat.le_of_ble_eq_true rfl, Nat.le_of_ble_eq_true rfl⟩) (zPreV (wc := [(m_, .inr (4, [.int th_, .int nn_, .long le_, .int sh_, .ref ab_, .ref be_, .long ca_, .long cb_, .long oc_, .long st_, .int bs_, .int tr_, .int sp_, .ref rr_])), (rr_, .inl (cI, 152, .inl g_))]) hK hP hD 4 0 rfl rfl zTb (fun _ _ _ => trivial)) rfl rfl hl.1 rfl (lv_room (Nat.le_of_ble_eq_true rfl)) dX4_down_21 ⟨Nat.le_of_ble_eq_true rfl, Nat.le_of_ble_eq_true rfl⟩) (fun u H locs hw hP hD hS => ?_)
    obtain ⟨g2_3, rfl⟩ : ∃ z, z = u := ⟨_, rfl⟩
    have hP : va_P D cl5 [(m_, .inr (4, [.int th_, .int nn_, .long le_, .int sh_, .ref ab_, .ref be_, .long ca_, .long cb_, .long oc_, .long st_, .int bs_, .int tr_, .int sp_, .ref rr_])), (rr_, .inl (cI, 152, .inl g2_3))] H := hP.sub [0, 1] rfl
    have hD : va_D A [(m_, .inr (4, [.int th_, .int nn_, .long le_, .int sh_, .ref ab_, .ref be_, .long ca_, .long cb_, .long oc_, .long st_, .int bs_, .int tr_, .int sp_, .ref rr_])), (rr_, .inl (cI, 152, .inl g2_3))] := hD.sub [0, 1] (by decide) rfl
    have hw : modL g2_3 1 (K_ * 2) ∧ modF g_ g2_3 1 := hw
    obtain ⟨hL_21, hF_21⟩ := hw
    subst hQ
    exact ze_v hx hb hr hlocks g2_3 (⟨by split <;> first | exact hL_10 | exact modL_keep hF_21 (by decide) hA_ | (exfalso; omega), by split <;> first | exact hL_21 | exact modL_keep hF_10 (by decide) hB_ | (exfalso; omega)⟩) hP hK hD hS dX4_down_24
  · skip
    have c_5 := zji_ne (a := 1 - N_ % 2) (b := 0) (by omega) (by omega) c_5
    refine lv_aload_n hx hb dX4_down_8 rfl (lv_at hl 0 rfl) ?_
    refine lv_iconst (v := nI 0) hx hb dX4_down_9 (by decide) ?_
    refine zc_v (wc := [(m_, .inr (4, [.int th_, .int nn_, .long le_, .int sh_, .ref ab_, .ref be_, .long ca_, .long cb_, .long oc_, .long st_, .int bs_, .int tr_, .int sp_, .ref rr_])), (rr_, .inl (cI, 152, .inl g_))]) (wr := []) hP hD hS hA [0, 1] [] rfl rfl (by decide) (by decide) (va_runV (As := [.int (nI 0)]) (rest := []) ⟨hx, hb, hml, hown, hts⟩ (ct_X4_half l D cI cJ cD m_ ab_ be_ rr_ th_ nn_ sh_ bs_ tr_ sp_ le_ ca_ cb_ oc_ st_ 0 N_ g_ H.size (by decide) hA_ hN) (cwV 1 hts gX4_down_X4_half rfl rfl rfl (by decide +kernel) ⟨Nat.le_of_ble_eq_true rfl, Nat.le_of_ble_eq_true rfl⟩) (zPreV (wc := [(m_, .inr (4, [.int th_, .int nn_, .long le_, .int sh_, .ref ab_, .ref be_, .long ca_, .long cb_, .long oc_, .long st_, .int bs_, .int tr_, .int sp_, .ref rr_])), (rr_, .inl (cI, 152, .inl g_))]) hK hP hD 4 0 rfl rfl zTb (fun _ _ _ => trivial)) rfl rfl hl.1 rfl (lv_room (Nat.le_of_ble_eq_true rfl)) dX4_down_10 ⟨Nat.le_of_ble_eq_true rfl, Nat.le_of_ble_eq_true rfl⟩) (fun u H locs hw hP hD hS => ?_)
    obtain ⟨g2_5, rfl⟩ : ∃ z, z = u := ⟨_, rfl⟩
    have hP : va_P D cl5 [(m_, .inr (4, [.int th_, .int nn_, .long le_, .int sh_, .ref ab_, .ref be_, .long ca_, .long cb_, .long oc_, .long st_, .int bs_, .int tr_, .int sp_, .ref rr_])), (rr_, .inl (cI, 152, .inl g2_5))] H := hP.sub [0, 1] rfl
    have hD : va_D A [(m_, .inr (4, [.int th_, .int nn_, .long le_, .int sh_, .ref ab_, .ref be_, .long ca_, .long cb_, .long oc_, .long st_, .int bs_, .int tr_, .int sp_, .ref rr_])), (rr_, .inl (cI, 152, .inl g2_5))] := hD.sub [0, 1] (by decide) rfl
    have hw : modL g2_5 0 (N_ / 2) ∧ modF g_ g2_5 0 := hw
    obtain ⟨hL_10, hF_10⟩ := hw
    refine lv_goto (tgt := 24) hx hb dX4_down_13 (by decide) ?_
    subst hQ
    exact ze_v hx hb hr hlocks g2_5 (⟨by split <;> first | exact hL_10 | exact modL_keep hF_21 (by decide) hA_ | (exfalso; omega), by split <;> first | exact hL_21 | exact modL_keep hF_10 (by decide) hB_ | (exfalso; omega)⟩) hP hK hD hS dX4_down_24
theorem nX4_lower_4 : ∀ w ∈ wsX40, w ∈ wsX4_lower := by decide +kernel
abbrev rm_X4_lower : Room := { frames := 3, cells := 0, slots := 0, locals := 90 }
set_option maxHeartbeats 4000000 in
set_option maxRecDepth 100000 in
/-- lower -/
theorem ct_X4_lower (l : Launch) (D : va_G) (cI cJ cD : ClassId) (m_ : Nat) (ab_ : Nat) (be_ : Nat) (rr_ : Nat) (th_ : Int32) (bs_ : Int32) (tr_ : Int32) (sp_ : Int32) (le_ : Int64) (ca_ : Int64) (cb_ : Int64) (oc_ : Int64) (st_ : Int64) (n_ : Nat) (k_ : Nat) (w_ : Nat) (h_ : Nat) (g_ : Nat → Int32) (sz : Nat) (hn1 : 1 ≤ n_) (hn : n_ ≤ 24) (hk : k_ ≤ 48) (hw_ : w_ ≤ 1000000) (hh : h_ ≤ 16) : Met l yX4_lower wsX4_lower rm_X4_lower (zP D (ty3 cI cJ cD) [.ref m_, .int (nI k_), .long (lN w_)] sz [(m_, .inr (4, [.int th_, .int (nI n_), .long le_, .int (nI h_), .ref ab_, .ref be_, .long ca_, .long cb_, .long oc_, .long st_, .int bs_, .int tr_, .int sp_, .ref rr_])), (rr_, .inl (cI, 152, .inl g_))] zT) (va_Ql (fun (r : Int64) (u : Nat × (Nat → Int32)) => r = lN (u.1) ∧ rootI n_ k_ (w_ * 2 ^ h_) (u.1)) (zB D (ty3 cI cJ cD) (fun (u : Nat × (Nat → Int32)) => [(m_, .inr (4, [.int th_, .int (nI n_), .long le_, .int (nI h_), .ref ab_, .ref be_, .long ca_, .long cb_, .long oc_, .long st_, .int bs_, .int tr_, .int sp_, .ref rr_])), (rr_, .inl (cI, 152, .inl (u.2)))]) (va_A [(m_, .inr (4, [.int th_, .int (nI n_), .long le_, .int (nI h_), .ref ab_, .ref be_, .long ca_, .long cb_, .long oc_, .long st_, .int bs_, .int tr_, .int sp_, .ref rr_])), (rr_, .inl (cI, 152, .inl g_))] sz)) (va_A [(m_, .inr (4, [.int th_, .int (nI n_), .long le_, .int (nI h_), .ref ab_, .ref be_, .long ca_, .long cb_, .long oc_, .long st_, .int bs_, .int tr_, .int sp_, .ref rr_])), (rr_, .inl (cI, 152, .inl g_))] sz)) 0 0 (va_A [(m_, .inr (4, [.int th_, .int (nI n_), .long le_, .int (nI h_), .ref ab_, .ref be_, .long ca_, .long cb_, .long oc_, .long st_, .int bs_, .int tr_, .int sp_, .ref rr_])), (rr_, .inl (cI, 152, .inl g_))] sz) := by
  refine zMet (Qf := fun A => va_Ql (fun (r : Int64) (u : Nat × (Nat → Int32)) => r = lN (u.1) ∧ rootI n_ k_ (w_ * 2 ^ h_) (u.1)) (zB D (ty3 cI cJ cD) (fun (u : Nat × (Nat → Int32)) => [(m_, .inr (4, [.int th_, .int (nI n_), .long le_, .int (nI h_), .ref ab_, .ref be_, .long ca_, .long cb_, .long oc_, .long st_, .int bs_, .int tr_, .int sp_, .ref rr_])), (rr_, .inl (cI, 152, .inl (u.2)))]) A) A) (cc := cX4_lower) (maxL := 12) (ret := (some .long)) (by decide) rfl (Nat.le_of_ble_eq_true rfl) ?_
  intro p e s m args below meth c A ls Q H hargs hQ hHe hx hb hr hml hown hts hlocks hin hP hK hD hA hS hE hAe hl
  have hl : lv_has ls 12 [(0, .ref m_), (1, .int (nI k_)), (2, .long (lN w_))] := hl
  have hall := own_le hw_ hh
  have lp_17 : ∀ (k9_ : Nat) (lo : Nat) (hi : Nat) (g : Nat → Int32) (H : Heap) (locs : List Loc) (ls : Array Slot), hi - lo < k9_ → lo < hi → hi ≤ w_ * 2 ^ h_ + 1 → lo ^ n_ * 2 ^ k_ ≤ (w_ * 2 ^ h_) ^ n_ → (w_ * 2 ^ h_) ^ n_ < hi ^ n_ * 2 ^ k_ →  va_P D cl5 [(m_, .inr (4, [.int th_, .int (nI n_), .long le_, .int (nI h_), .ref ab_, .ref be_, .long ca_, .long cb_, .long oc_, .long st_, .int bs_, .int tr_, .int sp_, .ref rr_])), (rr_, .inl (cI, 152, .inl g))] H → va_D A [(m_, .inr (4, [.int th_, .int (nI n_), .long le_, .int (nI h_), .ref ab_, .ref be_, .long ca_, .long cb_, .long oc_, .long st_, .int bs_, .int tr_, .int sp_, .ref rr_])), (rr_, .inl (cI, 152, .inl g))] → va_S A s.heap H locs → lv_has ls 12 [(0, .ref m_), (1, .int (nI k_)), (4, .long (lN (w_ * 2 ^ h_))), (6, .long (lN lo)), (8, .long (lN hi))] → W p l e rm_X4_lower s m args below meth c H locs 0 0 Q (F0 m 17 ls []) := by
    intro k9_
    induction k9_ with
    | zero => intro lo hi g H locs ls hm; exact absurd hm (Nat.not_lt_zero _)
    | succ k9_ ih =>
      intro lo hi g H locs ls hm  h1 h2 h3 h4 hP hD hS hl
      refine lv_lload hx hb dX4_lower_17 (lv_at hl 4 rfl) ?_
      refine lv_lload hx hb dX4_lower_19 (lv_at hl 3 rfl) ?_
      refine lv_lsub hx hb dX4_lower_21 ?_
      refine zl_ (y := lN (hi - lo)) (lN_sub (by omega)) ?_
      refine lv_lconst (v := lN 1) hx hb dX4_lower_22 rfl ?_
      refine zl_le (tgt := 64) hx hb dX4_lower_23 dX4_lower_24 (by decide) (fun c_24 => ?_) (fun c_24 => ?_)
      · skip
        have c_24 := zjl_le (a := hi - lo) (b := 1) (by omega) (by omega) c_24
        refine lv_lload hx hb dX4_lower_64 (lv_at hl 3 rfl) ?_
        subst hQ
        exact ze_l hx hb hr hlocks (lo, g) (⟨rfl, ⟨h3, by rw [show lo + 1 = hi by omega]; exact h4⟩⟩) hP hK hD hS dX4_lower_66
      · skip
        have c_24 := zjl_nle (a := hi - lo) (b := 1) (by omega) (by omega) c_24
        refine lv_lload hx hb dX4_lower_27 (lv_at hl 3 rfl) ?_
        refine lv_lload hx hb dX4_lower_29 (lv_at hl 4 rfl) ?_
        refine lv_ladd hx hb dX4_lower_31 ?_
        refine zl_ (y := lN (lo + hi)) (lN_add lo hi) ?_
        refine lv_ldc2 (v := 2) hx hb hown (zh (w := .constantLong RX4 50 (2)) hts 2 rfl) dX4_lower_32 ?_
        refine zl_ (y := lN 2) rfl ?_
        refine lv_ldiv hx hb dX4_lower_35 (zlne0 (by omega) (by omega)) ?_
        refine zl_ (y := lN ((lo + hi) / 2)) (pk_lDiv (by omega) (by omega) (by omega)) ?_
        refine lv_lstore (lv' := [(10, .long (lN ((lo + hi) / 2))), (0, .ref m_), (1, .int (nI k_)), (4, .long (lN (w_ * 2 ^ h_))), (6, .long (lN lo)), (8, .long (lN hi))]) hx hb dX4_lower_36 hl (by decide) rfl (fun ls hl => ?_)
        refine lv_aload_n hx hb dX4_lower_38 rfl (lv_at hl 1 rfl) ?_
        refine lv_lload hx hb dX4_lower_39 (lv_at hl 0 rfl) ?_
        refine lv_iload_n hx hb dX4_lower_41 rfl (lv_at hl 2 rfl) ?_
        refine lv_lload hx hb dX4_lower_42 (lv_at hl 3 rfl) ?_
        refine zc_i (wc := [(m_, .inr (4, [.int th_, .int (nI n_), .long le_, .int (nI h_), .ref ab_, .ref be_, .long ca_, .long cb_, .long oc_, .long st_, .int bs_, .int tr_, .int sp_, .ref rr_])), (rr_, .inl (cI, 152, .inl g))]) (wr := []) hP hD hS hA [0, 1] [] rfl rfl (by decide) (by decide) (va_runV (As := [.long (lN ((lo + hi) / 2)), .int (nI k_), .long (lN (w_ * 2 ^ h_))]) (rest := []) ⟨hx, hb, hml, hown, hts⟩ (ct_X4_side l D cI cJ cD m_ ab_ be_ rr_ th_ (nI h_) bs_ tr_ sp_ le_ ca_ cb_ oc_ st_ n_ ((lo + hi) / 2) k_ (w_ * 2 ^ h_) g H.size (by omega) (by omega) (by omega) (by omega)) (cwV 3 hts gX4_lower_X4_side rfl rfl rfl (by decide +kernel) ⟨Nat.le_of_ble_eq_true rfl, Nat.le_of_ble_eq_true rfl⟩) (zPreV (wc := [(m_, .inr (4, [.int th_, .int (nI n_), .long le_, .int (nI h_), .ref ab_, .ref be_, .long ca_, .long cb_, .long oc_, .long st_, .int bs_, .int tr_, .int sp_, .ref rr_])), (rr_, .inl (cI, 152, .inl g))]) hK hP hD 4 0 rfl rfl zTb (fun _ _ _ => trivial)) rfl rfl hl.1 rfl (lv_room (Nat.le_of_ble_eq_true rfl)) dX4_lower_44 ⟨Nat.le_of_ble_eq_true rfl, Nat.le_of_ble_eq_true rfl⟩) (fun r_1 u H locs hw hP hD hS => ?_)
        obtain ⟨g2_2, rfl⟩ : ∃ z, z = u := ⟨_, rfl⟩
        have hP : va_P D cl5 [(m_, .inr (4, [.int th_, .int (nI n_), .long le_, .int (nI h_), .ref ab_, .ref be_, .long ca_, .long cb_, .long oc_, .long st_, .int bs_, .int tr_, .int sp_, .ref rr_])), (rr_, .inl (cI, 152, .inl g2_2))] H := hP.sub [0, 1] rfl
        have hD : va_D A [(m_, .inr (4, [.int th_, .int (nI n_), .long le_, .int (nI h_), .ref ab_, .ref be_, .long ca_, .long cb_, .long oc_, .long st_, .int bs_, .int tr_, .int sp_, .ref rr_])), (rr_, .inl (cI, 152, .inl g2_2))] := hD.sub [0, 1] (by decide) rfl
        have hw : r_1 = cmpI (((lo + hi) / 2) ^ n_ * 2 ^ k_) ((w_ * 2 ^ h_) ^ n_) := hw
        subst hw
        refine lv_if_gt (tgt := 57) hx hb dX4_lower_47 (by decide) (fun c_47 => ?_) (fun c_47 => ?_)
        · skip
          have h47 := cmpI_pos c_47
          refine lv_lload hx hb dX4_lower_57 (lv_at hl 0 rfl) ?_
          refine lv_lstore (lv' := [(8, .long (lN ((lo + hi) / 2))), (10, .long (lN ((lo + hi) / 2))), (0, .ref m_), (1, .int (nI k_)), (4, .long (lN (w_ * 2 ^ h_))), (6, .long (lN lo))]) hx hb dX4_lower_59 hl (by decide) rfl (fun ls hl => ?_)
          refine lv_goto (tgt := 17) hx hb dX4_lower_61 (by decide) ?_
          exact ih lo ((lo + hi) / 2) g2_2 _ _ _ (by omega) (by omega) (by omega) (by first | exact h3 | exact h47) (by first | exact h4 | exact h47) hP hD hS (lv_sub hl [2, 3, 4, 5, 0] rfl)
        · skip
          have h47 := cmpI_npos c_47
          refine lv_lload hx hb dX4_lower_50 (lv_at hl 0 rfl) ?_
          refine lv_lstore (lv' := [(6, .long (lN ((lo + hi) / 2))), (10, .long (lN ((lo + hi) / 2))), (0, .ref m_), (1, .int (nI k_)), (4, .long (lN (w_ * 2 ^ h_))), (8, .long (lN hi))]) hx hb dX4_lower_52 hl (by decide) rfl (fun ls hl => ?_)
          refine lv_goto (tgt := 61) hx hb dX4_lower_54 (by decide) ?_
          refine lv_goto (tgt := 17) hx hb dX4_lower_61 (by decide) ?_
          exact ih ((lo + hi) / 2) hi g2_2 _ _ _ (by omega) (by omega) (by omega) (by first | exact h3 | exact h47) (by first | exact h4 | exact h47) hP hD hS (lv_sub hl [2, 3, 4, 0, 5] rfl)
  refine lv_lload_n hx hb dX4_lower_0 rfl (lv_at hl 2 rfl) ?_
  refine lv_aload_n hx hb dX4_lower_1 rfl (lv_at hl 0 rfl) ?_
  refine va_get (D := D) (ci := 4) (v := .int (nI h_)) (C := RX4) (T := TX4) (N := 14) hx hb hts nX4_lower_4 hown hK hP 0 rfl rfl 3 (by decide) (zh (w := .fieldLink RX4 15 "FretRootsModel" "shift" "I") hts 1 rfl) (fun _ h9 => h9) rfl dX4_lower_2 ?_
  refine lv_lshl (v := lN (w_ * 2 ^ h_)) hx hb dX4_lower_5 (z_shl w_ (by omega)) ?_
  refine lv_lstore (lv' := [(4, .long (lN (w_ * 2 ^ h_))), (0, .ref m_), (1, .int (nI k_)), (2, .long (lN w_))]) hx hb dX4_lower_6 hl (by decide) rfl (fun ls hl => ?_)
  refine lv_lconst (v := lN 0) hx hb dX4_lower_8 rfl ?_
  refine lv_lstore (lv' := [(6, .long (lN 0)), (4, .long (lN (w_ * 2 ^ h_))), (0, .ref m_), (1, .int (nI k_)), (2, .long (lN w_))]) hx hb dX4_lower_9 hl (by decide) rfl (fun ls hl => ?_)
  refine lv_lload hx hb dX4_lower_11 (lv_at hl 1 rfl) ?_
  refine lv_lconst (v := lN 1) hx hb dX4_lower_13 rfl ?_
  refine lv_ladd hx hb dX4_lower_14 ?_
  refine zl_ (y := lN (w_ * 2 ^ h_ + 1)) (lN_add (w_ * 2 ^ h_) 1) ?_
  refine lv_lstore (lv' := [(8, .long (lN (w_ * 2 ^ h_ + 1))), (6, .long (lN 0)), (4, .long (lN (w_ * 2 ^ h_))), (0, .ref m_), (1, .int (nI k_)), (2, .long (lN w_))]) hx hb dX4_lower_15 hl (by decide) rfl (fun ls hl => ?_)
  exact lp_17 (((w_ * 2 ^ h_ + 1) - 0) + 1) 0 (w_ * 2 ^ h_ + 1) g_ _ _ _ (Nat.lt_succ_self _) (by omega) (by omega) (root_0 hn1) (root_top hn1) hP hD hS (lv_sub hl [3, 4, 2, 1, 0] rfl)
abbrev rm_X4_divisor : Room := { frames := 0, cells := 0, slots := 0, locals := 0 }
set_option maxHeartbeats 4000000 in
set_option maxRecDepth 100000 in
/-- divisor -/
theorem ct_X4_divisor (l : Launch) (D : va_G) (cI cJ cD : ClassId) (a_ : Nat) (b_ : Nat) (sz : Nat) (ha : a_ < 2 ^ 63) (hb_ : b_ < 2 ^ 63) : Met l yX4_divisor wsX4_divisor rm_X4_divisor (zP D (ty3 cI cJ cD) [.long (lN a_), .long (lN b_)] sz [] zT) (va_Ql (fun (r : Int64) (u : Unit) => r = lN (Nat.gcd a_ b_)) (zB D (ty3 cI cJ cD) (fun (u : Unit) => []) (va_A [] sz)) (va_A [] sz)) 0 0 (va_A [] sz) := by
  refine zMet (Qf := fun A => va_Ql (fun (r : Int64) (u : Unit) => r = lN (Nat.gcd a_ b_)) (zB D (ty3 cI cJ cD) (fun (u : Unit) => []) A) A) (cc := cX4_divisor) (maxL := 10) (ret := (some .long)) (by decide) rfl (Nat.le_of_ble_eq_true rfl) ?_
  intro p e s m args below meth c A ls Q H hargs hQ hHe hx hb hr hml hown hts hlocks hin hP hK hD hA hS hE hAe hl
  have hl : lv_has ls 10 [(0, .long (lN a_)), (2, .long (lN b_))] := hl
  have lp_6 : ∀ (k9_ : Nat) (x : Nat) (y : Nat) (H : Heap) (locs : List Loc) (ls : Array Slot), y < k9_ → x < 2 ^ 63 → y < 2 ^ 63 → Nat.gcd x y = Nat.gcd a_ b_ →  va_P D cl5 [] H → va_D A [] → va_S A s.heap H locs → lv_has ls 10 [(4, .long (lN x)), (6, .long (lN y))] → W p l e rm_X4_divisor s m args below meth c H locs 0 0 Q (F0 m 6 ls []) := by
    intro k9_
    induction k9_ with
    | zero => intro x y H locs ls hm; exact absurd hm (Nat.not_lt_zero _)
    | succ k9_ ih =>
      intro x y H locs ls hm  h1 h2 h3 hP hD hS hl
      refine lv_lload hx hb dX4_divisor_6 (lv_at hl 1 rfl) ?_
      refine lv_lconst (v := lN 0) hx hb dX4_divisor_8 rfl ?_
      refine zl_eq (tgt := 31) hx hb dX4_divisor_9 dX4_divisor_10 (by decide) (fun c_10 => ?_) (fun c_10 => ?_)
      · skip
        have c_10 := zjl_eq (a := y) (b := 0) (by omega) (by omega) c_10
        refine lv_lload hx hb dX4_divisor_31 (lv_at hl 0 rfl) ?_
        subst hQ
        exact ze_l hx hb hr hlocks () (congrArg lN (by rw [← h3, c_10, Nat.gcd_zero_right])) hP hK hD hS dX4_divisor_33
      · skip
        have c_10 := zjl_ne (a := y) (b := 0) (by omega) (by omega) c_10
        have hlt : x % y < y := Nat.mod_lt _ (by omega)
        refine lv_lload hx hb dX4_divisor_13 (lv_at hl 0 rfl) ?_
        refine lv_lload hx hb dX4_divisor_15 (lv_at hl 1 rfl) ?_
        refine lv_lrem hx hb dX4_divisor_17 (zlne0 (by omega) (by omega)) ?_
        refine zl_ (y := lN (x % y)) (pk_lRem (by omega) (by omega) (by omega)) ?_
        refine lv_lstore (lv' := [(8, .long (lN (x % y))), (4, .long (lN x)), (6, .long (lN y))]) hx hb dX4_divisor_18 hl (by decide) rfl (fun ls hl => ?_)
        refine lv_lload hx hb dX4_divisor_20 (lv_at hl 2 rfl) ?_
        refine lv_lstore (lv' := [(4, .long (lN y)), (8, .long (lN (x % y))), (6, .long (lN y))]) hx hb dX4_divisor_22 hl (by decide) rfl (fun ls hl => ?_)
        refine lv_lload hx hb dX4_divisor_24 (lv_at hl 1 rfl) ?_
        refine lv_lstore (lv' := [(6, .long (lN (x % y))), (4, .long (lN y)), (8, .long (lN (x % y)))]) hx hb dX4_divisor_26 hl (by decide) rfl (fun ls hl => ?_)
        refine lv_goto (tgt := 6) hx hb dX4_divisor_28 (by decide) ?_
        exact ih y (x % y) _ _ _ (by omega) h2 (Nat.lt_trans hlt h2) ((gcd_step x y).trans h3) hP hD hS (lv_sub hl [1, 0] rfl)
  refine lv_lload_n hx hb dX4_divisor_0 rfl (lv_at hl 0 rfl) ?_
  refine lv_lstore (lv' := [(4, .long (lN a_)), (0, .long (lN a_)), (2, .long (lN b_))]) hx hb dX4_divisor_1 hl (by decide) rfl (fun ls hl => ?_)
  refine lv_lload_n hx hb dX4_divisor_3 rfl (lv_at hl 2 rfl) ?_
  refine lv_lstore (lv' := [(6, .long (lN b_)), (4, .long (lN a_)), (0, .long (lN a_)), (2, .long (lN b_))]) hx hb dX4_divisor_4 hl (by decide) rfl (fun ls hl => ?_)
  exact lp_6 (b_ + 1) a_ b_ _ _ _ (Nat.lt_succ_self _) ha hb_ rfl hP hD hS (lv_sub hl [1, 0] rfl)
end
section
def octI (k n : Nat) : Nat := if k < n then 0 else if k < 2 * n then 1 else 2
theorem octI_le (k n : Nat) : octI k n ≤ 2 := by unfold octI; split <;> (try split) <;> omega
theorem octI_0 {k n : Nat} (h : k < n) : octI k n = 0 := if_pos h
theorem octI_1 {k n : Nat} (h : n ≤ k) (h2 : k < 2 * n) : octI k n = 1 := by unfold octI; rw [if_neg (by omega), if_pos h2]
theorem octI_2 {k n : Nat} (h : n ≤ k) (h2 : 2 * n ≤ k) : octI k n = 2 := by unfold octI; rw [if_neg (by omega), if_neg (by omega)]
theorem octI_in {k n : Nat} (hn : 1 ≤ n) (hk : k ≤ 2 * n) : octI k n * n ≤ k ∧ k - octI k n * n < n := by
  rcases Nat.lt_or_ge k n with h | h
  · rw [octI_0 h]; omega
  · rcases Nat.lt_or_ge k (2 * n) with h2 | h2
    · rw [octI_1 h h2]; omega
    · rw [octI_2 h h2]; omega
theorem zl_lt_of {x : Int64} {a b : Nat} (ha : a < 2 ^ 63) (hb : b < 2 ^ 63) (h1 : ¬ x < lN a) (h2 : x < lN b) : ∃ k, x = lN k ∧ a ≤ k ∧ k < b := by
  have h0 : ¬ x < 0 := fun q => h1 (Int64.lt_of_lt_of_le q (by
    show lN 0 ≤ lN a
    exact (pk_lLE (by decide) ha).mpr (Nat.zero_le _)))
  obtain ⟨k, hk, rfl⟩ := pk_lOf h0
  exact ⟨k, rfl, zjl_nlt hk ha h1, zjl_lt hk hb h2⟩
/-- whatever is guessed, the probe lies between -/
theorem probe_in {lo hi : Nat} (x : Int64) (h : lo + 1 < hi) (hh : hi < 2 ^ 62) :
    ∃ q, (if (if x < lN (hi - 1) then x else lN (hi - 1)) < lN (lo + 1) then lN (lo + 1) else (if x < lN (hi - 1) then x else lN (hi - 1))) = lN q ∧ lo < q ∧ q < hi ∧ ∀ y, x = lN y → lo < y → y < hi → q = y := by
  by_cases h1 : x < lN (hi - 1)
  · rw [if_pos h1]
    by_cases h2 : x < lN (lo + 1)
    · rw [if_pos h2]
      exact ⟨lo + 1, rfl, by omega, by omega, fun y e h3 h4 => by
        rw [e] at h2
        have := zjl_lt (by omega) (by omega) h2
        omega⟩
    · rw [if_neg h2]
      obtain ⟨k, rfl, h3, h4⟩ := zl_lt_of (by omega) (by omega) h2 h1
      exact ⟨k, rfl, by omega, by omega, fun y e _ _ => zjl_eq (by omega) (by omega) e⟩
  · rw [if_neg h1, if_neg (fun q => absurd (zjl_lt (by omega) (by omega) q) (by omega))]
    exact ⟨hi - 1, rfl, by omega, by omega, fun y e h3 h4 => by
      rw [e] at h1
      have := zjl_nlt (by omega) (by omega) h1
      omega⟩
def leI (a b : Nat) : Nat := if a ≤ b then 1 else 0
theorem leI_le (a b : Nat) : leI a b ≤ 1 := by unfold leI; split <;> omega
theorem leI_1 {a b : Nat} (h : a ≤ b) : leI a b = 1 := if_pos h
theorem leI_0 {a b : Nat} (h : b < a) : leI a b = 0 := if_neg (by omega)
theorem leI_of {a b : Nat} (h : ¬ leI a b = 0) : a ≤ b := by
  rcases Nat.lt_or_ge b a with q | q
  · exact absurd (leI_0 q) h
  · exact q
theorem leI_nof {a b : Nat} (h : leI a b = 0) : b < a := by
  rcases Nat.lt_or_ge b a with q | q
  · exact q
  · rw [leI_1 q] at h; omega
/-- the greatest common divisor by division: 200 rounds are enough for numbers of 63 bits -/
theorem gcd_round {g l i : Nat} (hl : l ≠ 0) (h : i = 0 ∨ (l < g ∧ g * l * 2 ^ (i - 1) < 2 ^ 126)) (hg : g < 2 ^ 63) (hl2 : l < 2 ^ 63) : g % l < l ∧ l * (g % l) * 2 ^ (i + 1 - 1) < 2 ^ 126 := by
  have h1 : g % l < l := Nat.mod_lt _ (by omega)
  refine ⟨h1, ?_⟩
  rw [Nat.add_sub_cancel]
  rcases Nat.eq_zero_or_pos i with h0 | h0
  · subst h0
    rw [Nat.pow_zero, Nat.mul_one]
    have h2 : l * (g % l) ≤ l * 2 ^ 63 := Nat.mul_le_mul_left _ (by omega)
    have h3 : l * 2 ^ 63 < 2 ^ 63 * 2 ^ 63 := Nat.mul_lt_mul_of_pos_right hl2 (by decide)
    have h4 : (2 : Nat) ^ 63 * 2 ^ 63 = 2 ^ 126 := by decide
    omega
  · rcases h with h | ⟨h2, h3⟩
    · omega
    · have h4 : g = l * (g / l) + g % l := (Nat.div_add_mod g l).symm
      have h5 : 1 ≤ g / l := Nat.div_pos (by omega) (by omega)
      have h6 : l ≤ l * (g / l) := Nat.le_mul_of_pos_right _ h5
      have h7 : g % l * 2 ≤ g := by omega
      obtain ⟨k, rfl⟩ : ∃ k, i = k + 1 := ⟨i - 1, by omega⟩
      rw [Nat.add_sub_cancel] at h3
      have h8 : l * (g % l) * 2 ^ (k + 1) = l * (g % l * 2) * 2 ^ k := by rw [Nat.pow_succ]; grind
      have h9 : l * (g % l * 2) * 2 ^ k ≤ l * g * 2 ^ k := Nat.mul_le_mul_right _ (Nat.mul_le_mul_left _ h7)
      rw [Nat.mul_comm l g] at h9
      omega
theorem gcd_end {g l : Nat} (h : 200 = 0 ∨ (l < g ∧ g * l * 2 ^ (200 - 1) < 2 ^ 126)) : l = 0 := by
  rcases h with h | ⟨h1, h2⟩
  · omega
  · rcases Nat.eq_zero_or_pos l with h3 | h3
    · exact h3
    · have h4 : 1 ≤ g * l := Nat.mul_pos (by omega) h3
      have h5 : 1 * 2 ^ (200 - 1) ≤ g * l * 2 ^ (200 - 1) := Nat.mul_le_mul_right _ h4
      have h6 : (2 : Nat) ^ 126 < 1 * 2 ^ (200 - 1) := by decide
      omega
theorem zi_or {x : Int32} {b : Nat} (h : b ≤ 1) (e : x = nI b) : x = 0 ∨ x = 1 := by
  rcases Nat.le_one_iff_eq_zero_or_eq_one.mp h with q | q
  · left; rw [e, q]; rfl
  · right; rw [e, q]; rfl
end
section
abbrev rm_X4_isIn : Room := { frames := 0, cells := 0, slots := 0, locals := 0 }
set_option maxHeartbeats 4000000 in
set_option maxRecDepth 100000 in
/-- isIn -/
theorem ct_X4_isIn (l : Launch) (D : va_G) (cI cJ cD : ClassId) (v_ : Int64) (a_ : Int64) (b_ : Int64) (sz : Nat) : Met l yX4_isIn wsX4_isIn rm_X4_isIn (zP D (ty3 cI cJ cD) [.long v_, .long a_, .long b_] sz [] zT) (va_Qi (fun (r : Int32) (u : Unit) => r = nI (inI v_ a_ b_) ∧ inI v_ a_ b_ ≤ 1) (zB D (ty3 cI cJ cD) (fun (u : Unit) => []) (va_A [] sz)) (va_A [] sz)) 0 0 (va_A [] sz) := by
  refine zMet (Qf := fun A => va_Qi (fun (r : Int32) (u : Unit) => r = nI (inI v_ a_ b_) ∧ inI v_ a_ b_ ≤ 1) (zB D (ty3 cI cJ cD) (fun (u : Unit) => []) A) A) (cc := cX4_isIn) (maxL := 6) (ret := (some .boolean)) (by decide) rfl (Nat.le_of_ble_eq_true rfl) ?_
  intro p e s m args below meth c A ls Q H hargs hQ hHe hx hb hr hml hown hts hlocks hin hP hK hD hA hS hE hAe hl
  have hl : lv_has ls 6 [(0, .long v_), (2, .long a_), (4, .long b_)] := hl
  refine lv_lload_n hx hb dX4_isIn_0 rfl (lv_at hl 0 rfl) ?_
  refine lv_lload_n hx hb dX4_isIn_1 rfl (lv_at hl 1 rfl) ?_
  refine zl_lt (tgt := 17) hx hb dX4_isIn_2 dX4_isIn_3 (by decide) (fun c_3 => ?_) (fun c_3 => ?_)
  · skip
    refine lv_iconst (v := nI 0) hx hb dX4_isIn_17 (by decide) ?_
    subst hQ
    exact ze_z hx hb hr hlocks () (by first | exact Or.inl rfl | exact Or.inr rfl | omega) (⟨by first | exact congrArg nI (inI_1 (Int64.not_lt.mp c_3) (Int64.not_lt.mp c_10)).symm | exact congrArg nI (inI_b (Int64.not_le.mpr c_10)).symm | exact congrArg nI (inI_a (Int64.not_le.mpr c_3)).symm, inI_le _ _ _⟩) hP hK hD hS dX4_isIn_18
  · skip
    refine lv_lload_n hx hb dX4_isIn_6 rfl (lv_at hl 0 rfl) ?_
    refine lv_lload hx hb dX4_isIn_7 (lv_at hl 2 rfl) ?_
    refine zl_gt (tgt := 17) hx hb dX4_isIn_9 dX4_isIn_10 (by decide) (fun c_10 => ?_) (fun c_10 => ?_)
    · skip
      refine lv_iconst (v := nI 0) hx hb dX4_isIn_17 (by decide) ?_
      subst hQ
      exact ze_z hx hb hr hlocks () (by first | exact Or.inl rfl | exact Or.inr rfl | omega) (⟨by first | exact congrArg nI (inI_1 (Int64.not_lt.mp c_3) (Int64.not_lt.mp c_10)).symm | exact congrArg nI (inI_b (Int64.not_le.mpr c_10)).symm | exact congrArg nI (inI_a (Int64.not_le.mpr c_3)).symm, inI_le _ _ _⟩) hP hK hD hS dX4_isIn_18
    · skip
      refine lv_iconst (v := nI 1) hx hb dX4_isIn_13 (by decide) ?_
      refine lv_goto (tgt := 18) hx hb dX4_isIn_14 (by decide) ?_
      subst hQ
      exact ze_z hx hb hr hlocks () (by first | exact Or.inl rfl | exact Or.inr rfl | omega) (⟨by first | exact congrArg nI (inI_1 (Int64.not_lt.mp c_3) (Int64.not_lt.mp c_10)).symm | exact congrArg nI (inI_b (Int64.not_le.mpr c_10)).symm | exact congrArg nI (inI_a (Int64.not_le.mpr c_3)).symm, inI_le _ _ _⟩) hP hK hD hS dX4_isIn_18
abbrev rm_X4_isPart : Room := { frames := 1, cells := 0, slots := 0, locals := 25 }
set_option maxHeartbeats 4000000 in
set_option maxRecDepth 100000 in
/-- isPart -/
theorem ct_X4_isPart (l : Launch) (D : va_G) (cI cJ cD : ClassId) (v_ : Int32) (sz : Nat) : Met l yX4_isPart wsX4_isPart rm_X4_isPart (zP D (ty3 cI cJ cD) [.int v_] sz [] zT) (va_Qi (fun (r : Int32) (u : Unit) => r = nI (ptI v_) ∧ ptI v_ ≤ 1) (zB D (ty3 cI cJ cD) (fun (u : Unit) => []) (va_A [] sz)) (va_A [] sz)) 0 0 (va_A [] sz) := by
  refine zMet (Qf := fun A => va_Qi (fun (r : Int32) (u : Unit) => r = nI (ptI v_) ∧ ptI v_ ≤ 1) (zB D (ty3 cI cJ cD) (fun (u : Unit) => []) A) A) (cc := cX4_isPart) (maxL := 1) (ret := (some .boolean)) (by decide) rfl (Nat.le_of_ble_eq_true rfl) ?_
  intro p e s m args below meth c A ls Q H hargs hQ hHe hx hb hr hml hown hts hlocks hin hP hK hD hA hS hE hAe hl
  have hl : lv_has ls 1 [(0, .int v_)] := hl
  refine lv_iload_n hx hb dX4_isPart_0 rfl (lv_at hl 0 rfl) ?_
  refine lv_i2l (v := v_.toInt64) hx hb dX4_isPart_1 rfl ?_
  refine lv_lconst (v := lN 1) hx hb dX4_isPart_2 rfl ?_
  refine lv_ldc2 (v := 1000000) hx hb hown (zh (w := .constantLong RX4 65 (1000000)) hts 1 rfl) dX4_isPart_3 ?_
  refine zl_ (y := lN 1000000) rfl ?_
  refine zc_i (wc := []) (wr := []) hP hD hS hA [] [] rfl rfl (by decide) (by decide) (va_runS (As := [.long v_.toInt64, .long (lN 1), .long (lN 1000000)]) (rest := []) ⟨hx, hb, hml, hown, hts⟩ (ct_X4_isIn l D cI cJ cD v_.toInt64 (lN 1) (lN 1000000) H.size ) (va_cwS 3 hts gX4_isPart_X4_isIn rfl rfl rfl (by decide +kernel) ⟨Nat.le_of_ble_eq_true rfl, Nat.le_of_ble_eq_true rfl⟩) (zPreS (wc := []) hK hP hD zTb (fun _ _ _ => trivial)) rfl rfl hl.1 rfl (lv_room (Nat.le_of_ble_eq_true rfl)) dX4_isPart_6 ⟨Nat.le_of_ble_eq_true rfl, Nat.le_of_ble_eq_true rfl⟩) (fun r_1 u H locs hw hP hD hS => ?_)
  have hP : va_P D cl5 [] H := hP.sub [] rfl
  have hD : va_D A [] := hD.sub [] (by decide) rfl
  have hw : r_1 = nI (inI v_.toInt64 (lN 1) (lN 1000000)) ∧ inI v_.toInt64 (lN 1) (lN 1000000) ≤ 1 := hw
  obtain ⟨rfl, hb_6⟩ := hw
  subst hQ
  exact ze_z hx hb hr hlocks () (zi_or hb_6 rfl) (⟨rfl, hb_6⟩) hP hK hD hS dX4_isPart_9
theorem nX4_noPlace_4 : ∀ w ∈ wsX40, w ∈ wsX4_noPlace := by decide +kernel
abbrev rm_X4_noPlace : Room := { frames := 1, cells := 0, slots := 0, locals := 25 }
set_option maxHeartbeats 4000000 in
set_option maxRecDepth 100000 in
/-- noPlace -/
theorem ct_X4_noPlace (l : Launch) (D : va_G) (cI cJ cD : ClassId) (m_ : Nat) (ab_ : Nat) (be_ : Nat) (rr_ : Nat) (th_ : Int32) (sh_ : Int32) (bs_ : Int32) (tr_ : Int32) (sp_ : Int32) (le_ : Int64) (ca_ : Int64) (cb_ : Int64) (oc_ : Int64) (st_ : Int64) (n_ : Nat) (k_ : Int32) (sz : Nat) (hn : n_ ≤ 24) : Met l yX4_noPlace wsX4_noPlace rm_X4_noPlace (zP D (ty3 cI cJ cD) [.ref m_, .int k_] sz [(m_, .inr (4, [.int th_, .int (nI n_), .long le_, .int sh_, .ref ab_, .ref be_, .long ca_, .long cb_, .long oc_, .long st_, .int bs_, .int tr_, .int sp_, .ref rr_]))] zT) (va_Qi (fun (r : Int32) (u : Unit) => r = nI (npI k_ n_) ∧ npI k_ n_ ≤ 1) (zB D (ty3 cI cJ cD) (fun (u : Unit) => [(m_, .inr (4, [.int th_, .int (nI n_), .long le_, .int sh_, .ref ab_, .ref be_, .long ca_, .long cb_, .long oc_, .long st_, .int bs_, .int tr_, .int sp_, .ref rr_]))]) (va_A [(m_, .inr (4, [.int th_, .int (nI n_), .long le_, .int sh_, .ref ab_, .ref be_, .long ca_, .long cb_, .long oc_, .long st_, .int bs_, .int tr_, .int sp_, .ref rr_]))] sz)) (va_A [(m_, .inr (4, [.int th_, .int (nI n_), .long le_, .int sh_, .ref ab_, .ref be_, .long ca_, .long cb_, .long oc_, .long st_, .int bs_, .int tr_, .int sp_, .ref rr_]))] sz)) 0 0 (va_A [(m_, .inr (4, [.int th_, .int (nI n_), .long le_, .int sh_, .ref ab_, .ref be_, .long ca_, .long cb_, .long oc_, .long st_, .int bs_, .int tr_, .int sp_, .ref rr_]))] sz) := by
  refine zMet (Qf := fun A => va_Qi (fun (r : Int32) (u : Unit) => r = nI (npI k_ n_) ∧ npI k_ n_ ≤ 1) (zB D (ty3 cI cJ cD) (fun (u : Unit) => [(m_, .inr (4, [.int th_, .int (nI n_), .long le_, .int sh_, .ref ab_, .ref be_, .long ca_, .long cb_, .long oc_, .long st_, .int bs_, .int tr_, .int sp_, .ref rr_]))]) A) A) (cc := cX4_noPlace) (maxL := 2) (ret := (some .boolean)) (by decide) rfl (Nat.le_of_ble_eq_true rfl) ?_
  intro p e s m args below meth c A ls Q H hargs hQ hHe hx hb hr hml hown hts hlocks hin hP hK hD hA hS hE hAe hl
  have hl : lv_has ls 2 [(0, .ref m_), (1, .int k_)] := hl
  refine lv_iload_n hx hb dX4_noPlace_0 rfl (lv_at hl 1 rfl) ?_
  refine lv_i2l (v := k_.toInt64) hx hb dX4_noPlace_1 rfl ?_
  refine lv_lconst (v := lN 0) hx hb dX4_noPlace_2 rfl ?_
  refine lv_ldc2 (v := 2) hx hb hown (zh (w := .constantLong RX4 50 (2)) hts 1 rfl) dX4_noPlace_3 ?_
  refine zl_ (y := lN 2) rfl ?_
  refine lv_aload_n hx hb dX4_noPlace_6 rfl (lv_at hl 0 rfl) ?_
  refine va_get (D := D) (ci := 4) (v := .int (nI n_)) (C := RX4) (T := TX4) (N := 14) hx hb hts nX4_noPlace_4 hown hK hP 0 rfl rfl 1 (by decide) (zh (w := .fieldLink RX4 44 "FretRootsModel" "notes" "I") hts 2 rfl) (fun _ h9 => h9) rfl dX4_noPlace_7 ?_
  refine lv_i2l (v := lN n_) hx hb dX4_noPlace_10 (nI_l (by omega)) ?_
  refine lv_lmul hx hb dX4_noPlace_11 ?_
  refine zl_ (y := lN (2 * n_)) (lN_mul 2 n_) ?_
  refine zc_i (wc := []) (wr := [(m_, .inr (4, [.int th_, .int (nI n_), .long le_, .int sh_, .ref ab_, .ref be_, .long ca_, .long cb_, .long oc_, .long st_, .int bs_, .int tr_, .int sp_, .ref rr_]))]) hP hD hS hA [] [0] rfl rfl (by decide) (by decide) (va_runS (As := [.long k_.toInt64, .long (lN 0), .long (lN (2 * n_))]) (rest := []) ⟨hx, hb, hml, hown, hts⟩ (ct_X4_isIn l D cI cJ cD k_.toInt64 (lN 0) (lN (2 * n_)) H.size ) (va_cwS 3 hts gX4_noPlace_X4_isIn rfl rfl rfl (by decide +kernel) ⟨Nat.le_of_ble_eq_true rfl, Nat.le_of_ble_eq_true rfl⟩) (zPreS (wc := []) hK (hP.sub [] rfl) (hD.sub [] (by decide) rfl) zTb (fun _ _ _ => trivial)) rfl rfl hl.1 rfl (lv_room (Nat.le_of_ble_eq_true rfl)) dX4_noPlace_12 ⟨Nat.le_of_ble_eq_true rfl, Nat.le_of_ble_eq_true rfl⟩) (fun r_1 u H locs hw hP hD hS => ?_)
  have hP : va_P D cl5 [(m_, .inr (4, [.int th_, .int (nI n_), .long le_, .int sh_, .ref ab_, .ref be_, .long ca_, .long cb_, .long oc_, .long st_, .int bs_, .int tr_, .int sp_, .ref rr_]))] H := hP.sub [0] rfl
  have hD : va_D A [(m_, .inr (4, [.int th_, .int (nI n_), .long le_, .int sh_, .ref ab_, .ref be_, .long ca_, .long cb_, .long oc_, .long st_, .int bs_, .int tr_, .int sp_, .ref rr_]))] := hD.sub [0] (by decide) rfl
  have hw : r_1 = nI (inI k_.toInt64 (lN 0) (lN (2 * n_))) ∧ inI k_.toInt64 (lN 0) (lN (2 * n_)) ≤ 1 := hw
  obtain ⟨rfl, hb_12⟩ := hw
  refine lv_if_ne (tgt := 22) hx hb dX4_noPlace_15 (by decide) (fun c_15 => ?_) (fun c_15 => ?_)
  · skip
    have c_15 := zji_ne (a := inI k_.toInt64 (lN 0) (lN (2 * n_))) (b := 0) (by omega) (by omega) c_15
    refine lv_iconst (v := nI 0) hx hb dX4_noPlace_22 (by decide) ?_
    subst hQ
    exact ze_z hx hb hr hlocks () (by first | exact Or.inl rfl | exact Or.inr rfl | omega) (⟨congrArg nI (by unfold npI; omega), Nat.sub_le _ _⟩) hP hK hD hS dX4_noPlace_23
  · skip
    have c_15 := zji_eq (a := inI k_.toInt64 (lN 0) (lN (2 * n_))) (b := 0) (by omega) (by omega) c_15
    refine lv_iconst (v := nI 1) hx hb dX4_noPlace_18 (by decide) ?_
    refine lv_goto (tgt := 23) hx hb dX4_noPlace_19 (by decide) ?_
    subst hQ
    exact ze_z hx hb hr hlocks () (by first | exact Or.inl rfl | exact Or.inr rfl | omega) (⟨congrArg nI (by unfold npI; omega), Nat.sub_le _ _⟩) hP hK hD hS dX4_noPlace_23
abbrev rm_X3_quotient : Room := { frames := 0, cells := 0, slots := 0, locals := 0 }
set_option maxHeartbeats 4000000 in
set_option maxRecDepth 100000 in
/-- quotient -/
theorem ct_X3_quotient (l : Launch) (D : va_G) (cI cJ cD : ClassId) (a_ : Nat) (b_ : Nat) (sz : Nat) (ha : a_ < 2 ^ 63) (hb_ : b_ < 2 ^ 63) : Met l yX3_quotient wsX3_quotient rm_X3_quotient (zP D (ty3 cI cJ cD) [.long (lN a_), .long (lN b_)] sz [] zT) (va_Ql (fun (r : Int64) (u : Unit) => r = lN (a_ / b_)) (zB D (ty3 cI cJ cD) (fun (u : Unit) => []) (va_A [] sz)) (va_A [] sz)) 0 0 (va_A [] sz) := by
  refine zMet (Qf := fun A => va_Ql (fun (r : Int64) (u : Unit) => r = lN (a_ / b_)) (zB D (ty3 cI cJ cD) (fun (u : Unit) => []) A) A) (cc := cX3_quotient) (maxL := 4) (ret := (some .long)) (by decide) rfl (Nat.le_of_ble_eq_true rfl) ?_
  intro p e s m args below meth c A ls Q H hargs hQ hHe hx hb hr hml hown hts hlocks hin hP hK hD hA hS hE hAe hl
  have hl : lv_has ls 4 [(0, .long (lN a_)), (2, .long (lN b_))] := hl
  refine lv_lload_n hx hb dX3_quotient_0 rfl (lv_at hl 1 rfl) ?_
  refine lv_lconst (v := lN 0) hx hb dX3_quotient_1 rfl ?_
  refine zl_ne (tgt := 10) hx hb dX3_quotient_2 dX3_quotient_3 (by decide) (fun c_3 => ?_) (fun c_3 => ?_)
  · skip
    have c_3 := zjl_ne (a := b_) (b := 0) (by omega) (by omega) c_3
    refine lv_lload_n hx hb dX3_quotient_10 rfl (lv_at hl 0 rfl) ?_
    refine lv_lload_n hx hb dX3_quotient_11 rfl (lv_at hl 1 rfl) ?_
    refine lv_ldiv hx hb dX3_quotient_12 (zlne0 (by omega) (by omega)) ?_
    refine zl_ (y := lN (a_ / b_)) (pk_lDiv (by omega) (by omega) (by omega)) ?_
    subst hQ
    exact ze_l hx hb hr hlocks () (by first | rfl | exact congrArg lN (by rw [c_3, Nat.div_zero])) hP hK hD hS dX3_quotient_13
  · skip
    have c_3 := zjl_eq (a := b_) (b := 0) (by omega) (by omega) c_3
    refine lv_lconst (v := lN 0) hx hb dX3_quotient_6 rfl ?_
    refine lv_goto (tgt := 13) hx hb dX3_quotient_7 (by decide) ?_
    subst hQ
    exact ze_l hx hb hr hlocks () (by first | rfl | exact congrArg lN (by rw [c_3, Nat.div_zero])) hP hK hD hS dX3_quotient_13
abbrev rm_X3_commonDivisor : Room := { frames := 0, cells := 0, slots := 0, locals := 0 }
set_option maxHeartbeats 4000000 in
set_option maxRecDepth 100000 in
/-- commonDivisor -/
theorem ct_X3_commonDivisor (l : Launch) (D : va_G) (cI cJ cD : ClassId) (a_ : Nat) (b_ : Nat) (sz : Nat) (ha : a_ < 2 ^ 63) (hb_ : b_ < 2 ^ 63) : Met l yX3_commonDivisor wsX3_commonDivisor rm_X3_commonDivisor (zP D (ty3 cI cJ cD) [.long (lN a_), .long (lN b_)] sz [] zT) (va_Ql (fun (r : Int64) (u : Unit) => r = lN (Nat.gcd a_ b_)) (zB D (ty3 cI cJ cD) (fun (u : Unit) => []) (va_A [] sz)) (va_A [] sz)) 0 0 (va_A [] sz) := by
  refine zMet (Qf := fun A => va_Ql (fun (r : Int64) (u : Unit) => r = lN (Nat.gcd a_ b_)) (zB D (ty3 cI cJ cD) (fun (u : Unit) => []) A) A) (cc := cX3_commonDivisor) (maxL := 11) (ret := (some .long)) (by decide) rfl (Nat.le_of_ble_eq_true rfl) ?_
  intro p e s m args below meth c A ls Q H hargs hQ hHe hx hb hr hml hown hts hlocks hin hP hK hD hA hS hE hAe hl
  have hl : lv_has ls 11 [(0, .long (lN a_)), (2, .long (lN b_))] := hl
  have lp_9 : ∀ (k9_ : Nat) (i : Nat) (x : Nat) (y : Nat) (H : Heap) (locs : List Loc) (ls : Array Slot), 200 - i < k9_ → i ≤ 200 → x < 2 ^ 63 → y < 2 ^ 63 → Nat.gcd x y = Nat.gcd a_ b_ → i = 0 ∨ (y < x ∧ x * y * 2 ^ (i - 1) < 2 ^ 126) →  va_P D cl5 [] H → va_D A [] → va_S A s.heap H locs → lv_has ls 11 [(4, .long (lN x)), (6, .long (lN y)), (8, .int (nI i))] → W p l e rm_X3_commonDivisor s m args below meth c H locs 0 0 Q (F0 m 9 ls []) := by
    intro k9_
    induction k9_ with
    | zero => intro i x y H locs ls hm; exact absurd hm (Nat.not_lt_zero _)
    | succ k9_ ih =>
      intro i x y H locs ls hm  h0 h1 h2 h3 h4 hP hD hS hl
      refine lv_iload hx hb dX3_commonDivisor_9 (lv_at hl 2 rfl) ?_
      refine lv_sipush (v := nI 200) hx hb dX3_commonDivisor_11 (by decide) ?_
      refine lv_icmp_ge (tgt := 45) hx hb dX3_commonDivisor_14 (by decide) (fun c_14 => ?_) (fun c_14 => ?_)
      · skip
        have c_14 := zji_le (a := 200) (b := i) (by omega) (by omega) c_14
        have hi : i = 200 := by omega
        subst hi
        have hy0 := gcd_end h4
        refine lv_lload hx hb dX3_commonDivisor_45 (lv_at hl 0 rfl) ?_
        subst hQ
        exact ze_l hx hb hr hlocks () (congrArg lN (by rw [← h3, hy0, Nat.gcd_zero_right])) hP hK hD hS dX3_commonDivisor_47
      · skip
        have c_14 := zji_nle (a := 200) (b := i) (by omega) (by omega) c_14
        refine lv_lload hx hb dX3_commonDivisor_17 (lv_at hl 1 rfl) ?_
        refine lv_lconst (v := lN 0) hx hb dX3_commonDivisor_19 rfl ?_
        refine zl_eq (tgt := 45) hx hb dX3_commonDivisor_20 dX3_commonDivisor_21 (by decide) (fun c_21 => ?_) (fun c_21 => ?_)
        · skip
          have c_21 := zjl_eq (a := y) (b := 0) (by omega) (by omega) c_21
          have hy0 := c_21
          refine lv_lload hx hb dX3_commonDivisor_45 (lv_at hl 0 rfl) ?_
          subst hQ
          exact ze_l hx hb hr hlocks () (congrArg lN (by rw [← h3, hy0, Nat.gcd_zero_right])) hP hK hD hS dX3_commonDivisor_47
        · skip
          have c_21 := zjl_ne (a := y) (b := 0) (by omega) (by omega) c_21
          have hrd := gcd_round c_21 h4 h1 h2
          have hpos : 0 < y := by omega
          refine lv_lload hx hb dX3_commonDivisor_24 (lv_at hl 0 rfl) ?_
          refine lv_lload hx hb dX3_commonDivisor_26 (lv_at hl 1 rfl) ?_
          refine lv_lrem hx hb dX3_commonDivisor_28 (zlne0 (by omega) (by omega)) ?_
          refine zl_ (y := lN (x % y)) (pk_lRem (by omega) (by omega) (by omega)) ?_
          refine lv_lstore (lv' := [(9, .long (lN (x % y))), (4, .long (lN x)), (6, .long (lN y)), (8, .int (nI i))]) hx hb dX3_commonDivisor_29 hl (by decide) rfl (fun ls hl => ?_)
          refine lv_lload hx hb dX3_commonDivisor_31 (lv_at hl 2 rfl) ?_
          refine lv_lstore (lv' := [(4, .long (lN y)), (9, .long (lN (x % y))), (6, .long (lN y)), (8, .int (nI i))]) hx hb dX3_commonDivisor_33 hl (by decide) rfl (fun ls hl => ?_)
          refine lv_lload hx hb dX3_commonDivisor_35 (lv_at hl 1 rfl) ?_
          refine lv_lstore (lv' := [(6, .long (lN (x % y))), (4, .long (lN y)), (9, .long (lN (x % y))), (8, .int (nI i))]) hx hb dX3_commonDivisor_37 hl (by decide) rfl (fun ls hl => ?_)
          refine lv_iinc (v := nI (i + 1)) (lv' := [(8, .int (nI (i + 1))), (6, .long (lN (x % y))), (4, .long (lN y)), (9, .long (lN (x % y)))]) hx hb dX3_commonDivisor_39 hl (k := 3) rfl (z_inc i 1) (by decide) rfl (fun ls hl => ?_)
          refine lv_goto (tgt := 9) hx hb dX3_commonDivisor_42 (by decide) ?_
          exact ih (i + 1) y (x % y) _ _ _ (by omega) (by omega) h2 (Nat.lt_trans hrd.1 h2) ((gcd_step x y).trans h3) (Or.inr hrd) hP hD hS (lv_sub hl [2, 1, 0] rfl)
  refine lv_lload_n hx hb dX3_commonDivisor_0 rfl (lv_at hl 0 rfl) ?_
  refine lv_lstore (lv' := [(4, .long (lN a_)), (0, .long (lN a_)), (2, .long (lN b_))]) hx hb dX3_commonDivisor_1 hl (by decide) rfl (fun ls hl => ?_)
  refine lv_lload_n hx hb dX3_commonDivisor_3 rfl (lv_at hl 2 rfl) ?_
  refine lv_lstore (lv' := [(6, .long (lN b_)), (4, .long (lN a_)), (0, .long (lN a_)), (2, .long (lN b_))]) hx hb dX3_commonDivisor_4 hl (by decide) rfl (fun ls hl => ?_)
  refine lv_iconst (v := nI 0) hx hb dX3_commonDivisor_6 (by decide) ?_
  refine lv_istore (lv' := [(8, .int (nI 0)), (6, .long (lN b_)), (4, .long (lN a_)), (0, .long (lN a_)), (2, .long (lN b_))]) hx hb dX3_commonDivisor_7 hl (by decide) rfl (fun ls hl => ?_)
  exact lp_9 ((200 - 0) + 1) 0 a_ b_ _ _ _ (Nat.lt_succ_self _) (Nat.zero_le _) ha hb_ rfl (Or.inl rfl) hP hD hS (lv_sub hl [2, 1, 0] rfl)
abbrev rm_X3_nextProbe : Room := { frames := 1, cells := 0, slots := 0, locals := 17 }
set_option maxHeartbeats 4000000 in
set_option maxRecDepth 100000 in
/-- nextProbe -/
theorem ct_X3_nextProbe (l : Launch) (D : va_G) (cI cJ cD : ClassId) (i_ : Nat) (lo_ : Nat) (hi_ : Nat) (g_ : Int64) (sz : Nat) (hi1 : i_ < 64) (hlo : lo_ + 1 < hi_) (hhi : hi_ < 2 ^ 62) : Met l yX3_nextProbe wsX3_nextProbe rm_X3_nextProbe (zP D (ty3 cI cJ cD) [.int (nI i_), .long g_, .long (lN lo_), .long (lN hi_)] sz [] zT) (va_Ql (fun (r : Int64) (u : Nat) => r = lN u ∧ lo_ < u ∧ u < hi_ ∧ (2 ≤ i_ → u = lo_ + (hi_ - lo_) / 2)) (zB D (ty3 cI cJ cD) (fun (u : Nat) => []) (va_A [] sz)) (va_A [] sz)) 0 0 (va_A [] sz) := by
  refine zMet (Qf := fun A => va_Ql (fun (r : Int64) (u : Nat) => r = lN u ∧ lo_ < u ∧ u < hi_ ∧ (2 ≤ i_ → u = lo_ + (hi_ - lo_) / 2)) (zB D (ty3 cI cJ cD) (fun (u : Nat) => []) A) A) (cc := cX3_nextProbe) (maxL := 9) (ret := (some .long)) (by decide) rfl (Nat.le_of_ble_eq_true rfl) ?_
  intro p e s m args below meth c A ls Q H hargs hQ hHe hx hb hr hml hown hts hlocks hin hP hK hD hA hS hE hAe hl
  have hl : lv_has ls 9 [(0, .int (nI i_)), (1, .long g_), (3, .long (lN lo_)), (5, .long (lN hi_))] := hl
  have jn_44 : ∀ (x : Int64) (H : Heap) (locs : List Loc) (ls : Array Slot), (2 ≤ i_ → x = lN (lo_ + (hi_ - lo_) / 2)) →  va_P D cl5 [] H → va_D A [] → va_S A s.heap H locs → lv_has ls 9 [(3, .long (lN lo_)), (5, .long (lN hi_)), (7, .long x)] → W p l e rm_X3_nextProbe s m args below meth c H locs 0 0 Q (F0 m 44 ls []) := by
    intro x H locs ls  hx2 hP hD hS hl
    refine lv_lload_n hx hb dX3_nextProbe_44 rfl (lv_at hl 0 rfl) ?_
    refine lv_lconst (v := lN 1) hx hb dX3_nextProbe_45 rfl ?_
    refine lv_ladd hx hb dX3_nextProbe_46 ?_
    refine zl_ (y := lN (lo_ + 1)) (lN_add lo_ 1) ?_
    refine lv_lload hx hb dX3_nextProbe_47 (lv_at hl 1 rfl) ?_
    refine lv_lconst (v := lN 1) hx hb dX3_nextProbe_49 rfl ?_
    refine lv_lsub hx hb dX3_nextProbe_50 ?_
    refine zl_ (y := lN (hi_ - 1)) (lN_sub (by omega)) ?_
    refine lv_lload hx hb dX3_nextProbe_51 (lv_at hl 2 rfl) ?_
    refine va_mmin_long hx hb (hml.trans hl.1.symm) hown (zh (w := .methodLink RX3 233 Lib.MathLoose.min_long.x) hts 2 rfl) (zh (w := .static Lib.MathLoose.min_long.x) hts 3 rfl) (zh (w := .initialized "java/lang/Math") hts 4 rfl) (zh (w := .code Lib.MathLoose.min_long.x Lib.MathLoose.min_long.code 4 (some .long)) hts 5 rfl) (Nat.le_of_ble_eq_true rfl) (Nat.le_of_ble_eq_true rfl) (Nat.le_of_ble_eq_true rfl) (Nat.le_of_ble_eq_true rfl) dX3_nextProbe_53 ?_
    obtain ⟨q9, hq1, hq2, hq3, hq4⟩ := probe_in x hlo hhi
    refine va_mmax_long hx hb (hml.trans hl.1.symm) hown (zh (w := .methodLink RX3 235 Lib.MathLoose.max_long.x) hts 6 rfl) (zh (w := .static Lib.MathLoose.max_long.x) hts 7 rfl) (zh (w := .initialized "java/lang/Math") hts 4 rfl) (zh (w := .code Lib.MathLoose.max_long.x Lib.MathLoose.max_long.code 4 (some .long)) hts 8 rfl) (Nat.le_of_ble_eq_true rfl) (Nat.le_of_ble_eq_true rfl) (Nat.le_of_ble_eq_true rfl) (Nat.le_of_ble_eq_true rfl) dX3_nextProbe_56 ?_
    refine zl_ (y := lN q9) (hq1) ?_
    subst hQ
    exact ze_l hx hb hr hlocks q9 (⟨rfl, hq2, hq3, fun q => hq4 _ (hx2 q) (by omega) (by omega)⟩) hP hK hD hS dX3_nextProbe_59
  refine lv_lload_n hx hb dX3_nextProbe_0 rfl (lv_at hl 2 rfl) ?_
  refine lv_lload hx hb dX3_nextProbe_1 (lv_at hl 3 rfl) ?_
  refine lv_lload_n hx hb dX3_nextProbe_3 rfl (lv_at hl 2 rfl) ?_
  refine lv_lsub hx hb dX3_nextProbe_4 ?_
  refine zl_ (y := lN (hi_ - lo_)) (lN_sub (by omega)) ?_
  refine lv_ldc2 (v := 2) hx hb hown (zh (w := .constantLong RX3 231 (2)) hts 1 rfl) dX3_nextProbe_5 ?_
  refine zl_ (y := lN 2) rfl ?_
  refine lv_ldiv hx hb dX3_nextProbe_8 (zlne0 (by omega) (by omega)) ?_
  refine zl_ (y := lN ((hi_ - lo_) / 2)) (pk_lDiv (by omega) (by omega) (by omega)) ?_
  refine lv_ladd hx hb dX3_nextProbe_9 ?_
  refine zl_ (y := lN (lo_ + ((hi_ - lo_) / 2))) (lN_add lo_ ((hi_ - lo_) / 2)) ?_
  refine lv_lstore (lv' := [(7, .long (lN (lo_ + ((hi_ - lo_) / 2)))), (0, .int (nI i_)), (1, .long g_), (3, .long (lN lo_)), (5, .long (lN hi_))]) hx hb dX3_nextProbe_10 hl (by decide) rfl (fun ls hl => ?_)
  refine lv_iload_n hx hb dX3_nextProbe_12 rfl (lv_at hl 1 rfl) ?_
  refine lv_if_ne (tgt := 22) hx hb dX3_nextProbe_13 (by decide) (fun c_13 => ?_) (fun c_13 => ?_)
  · skip
    have c_13 := zji_ne (a := i_) (b := 0) (by omega) (by omega) c_13
    refine lv_iload_n hx hb dX3_nextProbe_22 rfl (lv_at hl 1 rfl) ?_
    refine lv_iconst (v := nI 1) hx hb dX3_nextProbe_23 (by decide) ?_
    refine lv_icmp_ne (tgt := 44) hx hb dX3_nextProbe_24 (by decide) (fun c_24 => ?_) (fun c_24 => ?_)
    · skip
      have c_24 := zji_ne (a := i_) (b := 1) (by omega) (by omega) c_24
      exact jn_44 (lN (lo_ + ((hi_ - lo_) / 2))) _ _ _ (by first | (intro _; rfl) | (intro q; omega)) hP hD hS (lv_sub hl [3, 4, 0] rfl)
    · skip
      have c_24 := zji_eq (a := i_) (b := 1) (by omega) (by omega) c_24
      refine lv_lload_n hx hb dX3_nextProbe_27 rfl (lv_at hl 3 rfl) ?_
      refine lv_lload_n hx hb dX3_nextProbe_28 rfl (lv_at hl 2 rfl) ?_
      refine zl_ne (tgt := 39) hx hb dX3_nextProbe_29 dX3_nextProbe_30 (by decide) (fun c_30 => ?_) (fun c_30 => ?_)
      · skip
        refine lv_lload_n hx hb dX3_nextProbe_39 rfl (lv_at hl 2 rfl) ?_
        refine lv_lconst (v := lN 1) hx hb dX3_nextProbe_40 rfl ?_
        refine lv_lsub hx hb dX3_nextProbe_41 ?_
        refine lv_lstore (lv' := [(7, .long (g_ - (lN 1))), (0, .int (nI i_)), (1, .long g_), (3, .long (lN lo_)), (5, .long (lN hi_))]) hx hb dX3_nextProbe_42 hl (by decide) rfl (fun ls hl => ?_)
        exact jn_44 (g_ - (lN 1)) _ _ _ (by first | (intro _; rfl) | (intro q; omega)) hP hD hS (lv_sub hl [3, 4, 0] rfl)
      · skip
        refine lv_lload_n hx hb dX3_nextProbe_33 rfl (lv_at hl 2 rfl) ?_
        refine lv_lconst (v := lN 1) hx hb dX3_nextProbe_34 rfl ?_
        refine lv_ladd hx hb dX3_nextProbe_35 ?_
        refine lv_goto (tgt := 42) hx hb dX3_nextProbe_36 (by decide) ?_
        refine lv_lstore (lv' := [(7, .long (g_ + (lN 1))), (0, .int (nI i_)), (1, .long g_), (3, .long (lN lo_)), (5, .long (lN hi_))]) hx hb dX3_nextProbe_42 hl (by decide) rfl (fun ls hl => ?_)
        exact jn_44 (g_ + (lN 1)) _ _ _ (by first | (intro _; rfl) | (intro q; omega)) hP hD hS (lv_sub hl [3, 4, 0] rfl)
  · skip
    have c_13 := zji_eq (a := i_) (b := 0) (by omega) (by omega) c_13
    refine lv_lload_n hx hb dX3_nextProbe_16 rfl (lv_at hl 2 rfl) ?_
    refine lv_lstore (lv' := [(7, .long g_), (0, .int (nI i_)), (1, .long g_), (3, .long (lN lo_)), (5, .long (lN hi_))]) hx hb dX3_nextProbe_17 hl (by decide) rfl (fun ls hl => ?_)
    refine lv_goto (tgt := 44) hx hb dX3_nextProbe_19 (by decide) ?_
    exact jn_44 g_ _ _ _ (by first | (intro _; rfl) | (intro q; omega)) hP hD hS (lv_sub hl [3, 4, 0] rfl)
end
