/-! ===== methods with an exception table that draw: their calls, their bodies =====
Where this comes from: zw_aft and zw_stand are the returning branch of kit/laws/EXCEPTIONS.to-paste's vx_backW, cut out as two lemmas over any state V; zBackWD is that law's beginning, with V := the caller's state under the callee's record of draws; zRunSWD and zMetWD are turned from vx_callSW, vx_runSW and vx_ofWH of the same text. -/
section ZWD
/-- what a call that came back left behind: the caller's own state V but for heap and tables, its frame one instruction on -/
theorem zw_aft {V t : State} {g : JFrame} {mk : MethodId} {a : Array Value} {v : Option Value} {L : List Loc} {k n len : Nat} {ig : Instr} {c : Code} {below : List Frame}
    (hV : At V g.method c below) (hdg : decode c.code g.pc = .ok (ig, len)) (hEnd : Ended t (.java g :: V.frames.tail) (.returned v)) (hF : FrameEnd (V.calling g mk a) (.returned v) t L k n) :
    V.WarmedH t.vm ∧ V.sameButNew ({ V with heap := t.heap, slotsUsed := t.slotsUsed } : State) L k n ∧
      t = (({ V with heap := t.heap, slotsUsed := t.slotsUsed } : State).setVm t.vm).setTop { g with pc := g.pc + len, stack := v.toList ++ g.stack } := by
  obtain ⟨-, hwarm, hrec, hbook⟩ := hF
  have hwarm' : V.WarmedH t.vm := hwarm
  obtain ⟨ct, it, lt, hct, hdt, hft⟩ := hEnd
  have hcode : some ct = some c := by
    rw [← hct, ← hV.code, State.code?_eq, State.code?_eq, hwarm'.alike.method?]
  cases hcode
  have hlen : lt = len := by
    have := hdt.symm.trans hdg
    cases this
    rfl
  subst hlen
  obtain ⟨g₀, r, hVf⟩ : ∃ g₀ r, V.frames = .java g₀ :: r := by
    obtain ⟨g₀, hg₀⟩ := Option.isSome_iff_exists.mp hV.top
    exact ⟨g₀, State.topJava?_eq_some.mp hg₀⟩
  refine ⟨hwarm', ⟨?_, hbook⟩, ?_⟩
  · obtain ⟨th, hth, -⟩ := State.frames_cons hVf
    exact congrArg (fun z : State => ({ z with heap := t.heap, slotsUsed := t.slotsUsed } : State)) (State.setFrames_self hth).symm
  · have hframes : (({ V with heap := t.heap, slotsUsed := t.slotsUsed } : State).setVm t.vm).frames = .java g₀ :: r := hVf
    rw [State.setTop_of_frames _ hframes]
    have hz0 := congrArg (fun z : State => z.setVm t.vm) hrec
    have hz : t = (({ (V.calling g mk a).setFrames t.frames with heap := t.heap, slotsUsed := t.slotsUsed } : State)).setVm t.vm := hz0
    refine hz.trans ?_
    rw [hft, State.calling_eq hV.top, State.setFrames_setFrames, hVf]
    rfl
/-- and there the caller's walk stands again -/
theorem zw_stand {p : Program} {l : Launch} {e : Env} {R : Room} {s V t : State} {m : MethodId} {sargs : Array Value} {below : List Frame} {meth : Method} {c : Code} {Ls L : List Loc} {c0 s0 k n : Nat}
    (X : Stand p l e R s m sargs below meth c V Ls c0 s0) (hwarm : V.WarmedH t.vm) (hnew : V.sameButNew ({ V with heap := t.heap, slotsUsed := t.slotsUsed } : State) L k n) :
    Stand p l e R s m sargs below meth c (({ V with heap := t.heap, slotsUsed := t.slotsUsed } : State).setVm t.vm) (Ls ++ L) (c0 + k) (s0 + n) :=
  { X with here := (X.here.setHeapUsed t.heap t.slotsUsed).setVm hwarm.alike, warmed := State.WarmedH.trans X.warmed hwarm, same := X.same.trans (hnew.setVm s.vm) }
variable {cs : List Choice} {l : Launch} {R : Room} {p : Program} {e : Env} {below : List Frame} {s : State} {sargs : Array Value} {y : MethodName} {len W9 : Nat}
/-- a caller may call it: it comes back, under some record of draws -/
theorem zBackWD {mc ms maxL : Nat} {ws : List Cond} {rm : Room} {Pc : Array Value → State → Prop} {Qc : Array Value → State → Outcome → State → Prop} {free : Addr → Prop} {bytes : ByteArray} {ret : Option FieldType} {hh : List (Nat × Nat × Nat × Nat)}
    (hM : MetD cs l y ws rm Pc Qc mc ms free) (hcells : rm.cells = mc) (hslots : rm.slots = ms) (hframes : rm.frames + 1 ≤ R.frames) (hlocals : W9 + (maxL + 11) + rm.locals ≤ R.locals) (hblind : FrameBlind Pc)
    (hcode : Cond.codeWith y bytes maxL ret hh ∈ ws) (hinit : ∀ a' U, s.WarmedH U.vm → (Cond.initialized y.cls).before a' U = true) (hws : ∀ w ∈ ws, ∀ a' U, s.WarmedH U.vm → w.before a' U = true) :
    BackD cs l R p e below s sargs y len W9 (PreOf R mc ms Pc) (PostOf Qc mc ms free) := by
  subst hcells; subst hslots
  rintro m meth c ⟨U, Ls, c0, s0⟩ g ig mk a X rfl hsize hdg hweigh hn ⟨hp1, hp2, hp3⟩
  have hwords : ∀ w ∈ ws, w.before a U = true := fun w hw => hws w hw _ _ X.warmed
  obtain ⟨mk', methY, cY, hn', hmY, hcY, -, hmax, -⟩ := Cond.codeWith_spec (hwords _ hcode)
  cases Option.some.inj (hn'.symm.trans hn)
  obtain ⟨kY, hkY, -⟩ := className_of_methodNamed hn
  have hin : kY.init = .initialized := Cond.initialized_spec (findClass_of_methodNamed hn) hkY (hinit a U X.warmed)
  obtain ⟨mid, hmid⟩ := X.here.above
  have hroomL : 2 * g.monitorRoom + (g.stack.map fun v => v.category).sum + (cY.maxLocals + 11) + rm.locals ≤ R.locals := by rw [hmax]; omega
  have happ : (headSpec ws rm).appliesLoose y e.platform (U.calling g mk a) = true :=
    Spec.appliesLoose_calling (g := g) X.here hdg hn hkY hin (X.room_calling (g := g) (R' := rm) hsize hmY hcY hframes hroomL hp1 hp2) (atoms_intro hwords)
  obtain ⟨o, t, hsteps, -, hEnd, d, hdr, hqc, L, hF, hL⟩ :=
    Steps.callFree hM p X.admits X.cas X.clock (acts := []) (mid := .java g :: mid) (by rw [State.frames_setTop' g X.here.top, hmid]; rfl) happ (hblind a U g mk hp3) trivial
  rw [State.frames_setTop' g X.here.top] at hEnd
  obtain ⟨v, rfl⟩ := hF.1
  have hdr' : s.drawn.sameBut d cs := by
    rw [← X.drawn_eq]
    have hsame : (U.calling g mk a).drawn = U.drawn := rfl
    rw [← hsame]
    exact hdr
  obtain ⟨hwarm, hnew, ht⟩ := zw_aft (V := U.setDrawn d) (mk := mk) (a := a) (X.here.setDrawn d) hdg hEnd hF
  refine ⟨v, ⟨(({ U.setDrawn d with heap := t.heap, slotsUsed := t.slotsUsed } : State).setVm t.vm), Ls ++ L, c0 + rm.cells, s0 + rm.slots⟩, d, hdr', zw_stand (X.drew d) hwarm hnew, ⟨g, mk, t, L, rfl, rfl, hqc, rfl, hL, rfl, rfl⟩, ?_⟩
  rw [ht] at hsteps
  exact hsteps
end ZWD
section ZWE
variable {cs : List Choice} {p : Program} {l : Launch} {e : Env} {R : Room} {s : State} {m : MethodId} {args : Array Value} {below : List Frame} {meth : Method} {c : Code} {H : Heap} {locs : List Loc} {cells slots : Nat}
/-- a static call of a method with a table that may draw -/
theorem zRunSWD {y : MethodName} {bytes cc : ByteArray} {maxL nL mc ms n index : Nat} {ret : Option FieldType} {hh : List (Nat × Nat × Nat × Nat)} {ws : List Cond} {rm : Room} {Pc : Array Value → State → Prop} {Qc : Array Value → State → Outcome → State → Prop} {free : Addr → Prop} {Ts : List Cond} {own : String} {As rest : List Value} {g : JFrame}
    (S : CallFix p m c cc nL s args Ts own) (hM : MetD cs l y ws rm Pc Qc mc ms free) (cw : vx_CSW R s args own index y bytes maxL ret hh ws rm mc ms n) (hp : PreS s H Pc As)
    (hg : g.method = m) (hn : As.length = n) (hsize : g.locals.size = nL) (hstack : g.stack = As.reverse ++ rest) (hW : 2 * g.monitorRoom + (rest.map fun v => v.category).sum ≤ 8) (hdg : decode cc g.pc = .ok (.invokestatic index, 3)) (hf : cells + mc ≤ R.cells ∧ slots + ms ≤ R.slots) :
    va_RunD cs p l e R s m args below meth c H locs cells slots mc ms g rest (Qc As.toArray) (free) := by
  obtain ⟨⟨hrc, hrs, hfr, hlo, hws, hcw⟩, hcode, hini, hy, hlen, hl, hstt⟩ := cw
  obtain ⟨hx, rfl, rfl, ho, -⟩ := S
  obtain ⟨mk, methM, cM, hnamed, hmethM, -, -, -, -, -, -, hsigM⟩ := Cond.codeWith_spec hcode
  obtain ⟨kP, hkP, -⟩ := className_of_methodNamed hnamed
  intro T hT X
  obtain ⟨vm₁, X₁, hstep₁⟩ := X.invokestatic hx ho hl hnamed hmethM (Cond.static_spec hnamed hmethM hstt) hkP (Cond.initialized_spec (findClass_of_methodNamed hnamed) hkP hini) hy
    (g := g) hg (argsL := As) (rest := rest) (hn.trans (hlen _ hsigM)) hstack hdg
  have hback := zBackWD (R := R) (p := p) (e := e) (below := below) (s := s) (sargs := args) (len := 3) (W9 := 8) hM hrc hrs hfr hlo hp.1 hcw
    (fun a' U hU => word_at hU (Or.inl (by first | rfl | simp [Cond.onTables, Cond.keeps, Cond.steady])) hini) hws
  obtain ⟨v, ⟨U', Ls, k, j⟩, d, hd, X', ⟨g', mk', t, L, e1, e2, hq, h1, hL, h2, h3⟩, hgo⟩ :=
    hback m meth c ⟨T.setVm vm₁, locs, cells, slots⟩ { g with stack := rest } (.invokestatic index) mk As.toArray X₁ hg hsize hdg hW (X₁.named hnamed) ⟨hf.1, hf.2, hp.2 (T.setVm vm₁) hT X₁.warmed⟩
  cases h1
  cases h2
  cases h3
  refine ⟨v, ((T.setVm vm₁).setDrawn d).calling g' mk' As.toArray, t, U', L, d, hd, hT, X', hL, e1, e2, hq, fun target h => hstep₁ _ fun acts => ?_⟩
  rw [doInvoke_state]
  exact hgo.trans h
end ZWE
section ZWF
variable {l : Launch}
/-- the body of a method with a table that may draw -/
theorem zMetWD {cs : List Choice} {y : MethodName} {ws ws' : List Cond} {rm : Room} {Pc : Array Value → State → Prop} {Qc : Array Value → State → Outcome → State → Prop} {mc ms : Nat} {free : Addr → Prop} {cc : ByteArray} {maxL : Nat} {ret : Option FieldType} {hh : List (Nat × Nat × Nat × Nat)}
    (hy : plainName y.cls = true) (hw : ws = Cond.codeWith y cc maxL ret hh :: ws')
    (walk : ∀ p e s m args below meth c s₁, BodyLoose p l y (headSpec ws rm) cc maxL ret e s m args below meth c s₁ → c.maxLocals = maxL → Pc args s → s.drawn.sameBut s.drawn cs →
      W p l e (headSpec ws rm).room (s.setDrawn s.drawn) m args below meth c s.heap [] 0 0 (MQD cs below Qc args s mc ms free) (entryFrame m args maxL)) :
    MetD cs l y ws rm Pc Qc mc ms free := by
  refine MetFree.of_bodyS (code := cc) (maxLocals := maxL) (ret := ret) hy ?_ ?_
  · intro args s m h hn
    obtain ⟨m9, meth, c, hn9, h1, h2, h3, h4, -, h5, h6, -⟩ := Cond.codeWith_spec (atoms_spec (ws := ws) h _ (by rw [hw]; exact List.mem_cons_self))
    cases hn.symm.trans hn9
    exact ⟨meth, c, h1, h2, h3, h4, h5, h6⟩
  · intro p e s m args below meth c s₁ B hml hP _
    have hheap : s₁.heap = s.heap := by rw [B.state]; rfl
    obtain ⟨t, hgo, d, hd, o, hrun, hend, hpost⟩ := walk p e s m args below meth c s₁ B hml hP (Drawn.sameBut.refl _ _) s₁ hheap (Stand.of_body B)
    exact ⟨t, o, hgo, hrun, hend, d, hd, hpost⟩
end ZWF
