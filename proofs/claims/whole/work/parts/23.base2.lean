/-! ===== methods that hand back a new row ===== -/
abbrev zBr (D : va_G) (tys : List (ClassId × FieldType)) {S : Type} (Wf : S → va_W) (ad : S → Nat) (A : Nat → Prop) : S → Nat → State → Prop :=
  fun u a t => a = ad u ∧ zB D tys Wf A u t
section ZR
variable {p : Program} {l : Launch} {e : Env} {R : Room} {s : State} {m : MethodId} {args : Array Value} {below : List Frame} {meth : Method} {c : Code} {H : Heap} {locs : List Loc} {cells slots : Nat} {Q : State → Prop}
variable {mc ms : Nat} {A A0 : Nat → Prop} {H0 : Heap} {a : Array Value} {pc : Nat} {ls : Array Slot} {st0 rest : List Value}
variable {D : va_G} {tys : List (ClassId × FieldType)} {ws wc wr : va_W} {cs : List Choice} {d0 : Drawn}
theorem zd_r (hd0 : s.drawn.sameBut d0 cs) {S : Type} {post : S → Prop} {Wf : S → va_W} {ad : S → Nat} (hP : va_P D cl5 ws H) (hD : va_D A0 ws) (hS : va_S A0 H0 H locs) (hA : ∀ q, H0.size ≤ q → A0 q) (isC isR : List Nat) (hC : isC.map (fun i => ws[i]?) = wc.map some) (hR : isR.map (fun i => ws[i]?) = wr.map some) (hn : va_nd isR = true) (hdis : ∀ i ∈ isR, i ∉ isC)
    (hr : va_RunD cs p l e R (s.setDrawn d0) m args below meth c H locs cells slots mc ms (F0 m pc ls st0) rest (va_Qr post (zBr D tys Wf ad (va_A wc H.size)) (va_A wc H.size) a) (va_A wc H.size))
    (kk : ∀ (u : S) (H1 : Heap) (locs1 : List Loc), post u → va_P D cl5 (wr ++ Wf u) H1 → va_D A0 (wr ++ Wf u) → va_S A0 H0 H1 locs1 → ∀ d' : Drawn, s.drawn.sameBut d' cs → W p l e R (s.setDrawn d') m args below meth c H1 locs1 (cells + mc) (slots + ms) Q (F0 m (pc + 3) ls (.ref (ad u) :: rest))) : W p l e R (s.setDrawn d0) m args below meth c H locs cells slots Q (F0 m pc ls st0) := by
  have hF := va_free (wc := wc) hD hS hA isC hC
  refine va_callrD hd0 hr hS (fun q _ h => hF q h) hF (fun u ra t H1 locs1 ht hvm hw hB hz1 hk1 hS1 d' hd' => ?_)
  obtain ⟨rfl, hP1, hK1, hD1⟩ := hB
  rw [ht] at hP1
  obtain ⟨hP2, hD2⟩ := va_join (wr := wr) hP hD isC isR hC hR hn hdis hk1 hF hP1 hD1
  exact kk u H1 locs1 hw hP2 hD2 hS1 d' hd'
theorem ze_r {S : Type} {post : S → Prop} {Wf : S → va_W} {ad : S → Nat} {cc : ByteArray} {ty : FieldType} {q : Nat} (hexec : p.tables.exec = Jvm.exec) (hb : c.code = cc) (hr : meth.sig.returnType = some (.array ty)) (hlocks : meth.locks = false) (u : S) (hq : q = ad u) (hp : post u) (hP : va_P D cl5 (Wf u) H) (hK : va_K D cl5 tys s) (hD : va_D A (Wf u)) (hS : va_S A s.heap H locs) (hdg : decode cc pc = .ok (.areturn, 1)) :
    W p l e R s m args below meth c H locs cells slots (MQ below (va_Qr post (zBr D tys Wf ad A) A) args s cells slots A) (F0 m pc ls [.ref q]) :=
  W.aret (v := .ref q) hexec hb hr (Or.inr ⟨_, rfl⟩) (Or.inr ⟨_, rfl⟩) (fun t ht hW => ⟨⟨u, q, rfl, hp, hq, by rw [ht]; exact hP, va_K.moved hW.alike hK, hD⟩, hS.F ht⟩) hS.2.2 hdg hlocks
end ZR
def nInit (U : State) : Prop := va_Nw (.methodLinkNest RX3 9 yX1_init RX3) U ∧ va_Nw (.methodLinkNest RX3 18 yX0_init RX3) U
theorem nInit_calling (U : State) (g : JFrame) (mk : MethodId) (a : Array Value) (h : nInit U) : nInit (U.calling g mk a) := ⟨va_Nw.same rfl rfl h.1, va_Nw.same rfl rfl h.2⟩
theorem nInit_warm {s U : State} (hW : s.WarmedH U.vm) (h : nInit s) : nInit U := ⟨va_Nw.warmM hW h.1, va_Nw.warmM hW h.2⟩
theorem fill_next {f : Nat → Int64} {i : Nat} {v : Int64} (h : ∀ j, j < i → f j = v) : ∀ j, j < i + 1 → vp_updL f i v j = v := by
  intro j hj
  by_cases e : j = i
  · subst e; exact pk_uLs
  · rw [pk_uLn e]; exact h j (by omega)
theorem fillI_next {f : Nat → Int32} {i : Nat} {v : Int32} (h : ∀ j, j < i → f j = v) : ∀ j, j < i + 1 → upd f i v j = v := by
  intro j hj
  by_cases e : j = i
  · subst e; exact pk_us
  · rw [pk_un e]; exact h j (by omega)
theorem jOK_1 {n : Nat} {f : Nat → Int32} (h : ∀ j, j < 2 * n + 1 → f j = nI 1) : jOK n f (fun _ => 1) := fun j hj => ⟨h j (by omega), Nat.le_refl 1, (show (1 : Nat) ≤ 1000000 by decide)⟩
theorem cache_0 {n a : Nat} {f : Nat → Int64} (h : ∀ j, j < n → f j = -1) : cacheOK f n a := fun j hj => Or.inl (h j hj)
theorem clamp_eq (k : Int32) : (if nI 1 < (if k < nI 24 then k else nI 24) then (if k < nI 24 then k else nI 24) else nI 1) = nI (clN k) := by
  have e1 : (1 : Int32) = nI 1 := rfl
  have e24 : (24 : Int32) = nI 24 := rfl
  by_cases h : k < 1
  · rw [cl_lo h]
    have h2 : k < nI 24 := Int32.lt_of_lt_of_le h (by decide)
    rw [if_pos h2, if_neg (fun q => absurd (Int32.lt_of_lt_of_le q (Int32.le_of_lt h)) (by decide))]
  · by_cases h2 : 24 < k
    · have hk : ¬ k < nI 24 := Int32.not_lt.mpr (Int32.le_of_lt h2)
      rw [cl_hi h h2, if_neg hk, if_pos (by decide)]
    · obtain ⟨e, h3, h4⟩ := cl_in h h2
      generalize clN k = m at *
      subst e
      by_cases h5 : m = 24
      · subst h5; decide
      · rw [if_pos (nI_lt (by omega) (by decide))]
        by_cases h6 : m = 1
        · subst h6; decide
        · rw [if_pos (nI_lt (by omega) (by omega))]
