/-! ===== the law's start: what the Statement gives ===== -/
theorem nL_law_3 : ∀ w ∈ wsX30, w ∈ wsL_law := fun _ h => List.mem_append_left _ (List.mem_append_left _ (List.mem_append_left _ (List.mem_append_left _ (List.mem_append_left _ (List.mem_append_left _ (List.mem_append_left _ (List.mem_append_right _ h)))))))
theorem nL_law_4 : ∀ w ∈ wsX40, w ∈ wsL_law := fun _ h => List.mem_append_left _ (List.mem_append_left _ (List.mem_append_left _ (List.mem_append_left _ (List.mem_append_left _ (List.mem_append_left _ (List.mem_append_right _ h))))))
set_option maxRecDepth 20000 in
theorem xWT_in : ∀ w ∈ xWT, w ∈ lw_tbl := by decide +kernel
theorem lw_str {b k : Nat} {tx : String} {s : State} (h1 : (Cond.stringRef RX3 k tx).before #[Value.ref b] s = true) (h2 : (Cond.exactly (Term.string RX3 k) "java/lang/String").before #[Value.ref b] s = true) : ∃ sa, vk_R RX3 k tx sa s := by
  obtain ⟨a, cQ, cell, kQ, ha, -⟩ := Cond.exactly_spec h2
  exact ⟨a, vk_R.of h1 ha⟩
set_option maxRecDepth 20000 in
theorem lw_key {A : Nat → Prop} {b : Nat} {s : State} (hAn : ∀ a : Nat, a < s.heap.size → ¬ A a) (hts : ∀ w ∈ lw_tbl, w.before #[Value.ref b] s = true) (hgv : (Jvm.Cond.and given_1 narrow_1).before #[Value.ref b] s = true) : nKey A s s.heap := by
  have hs := flat_of_before _ hgv
  obtain ⟨t, ht, hT⟩ := va_Tof (tm := .static RX3 "WHITE_KEYS" "[I") (ty := .int) (N := 12) (f := fun j => .int (whI j)) (by decide) (hs _ (by decide +kernel)) (va_eqt (z := 12) (hs _ (by decide +kernel))) (fun j hj => by
    rcases (show j = 0 ∨ j = 1 ∨ j = 2 ∨ j = 3 ∨ j = 4 ∨ j = 5 ∨ j = 6 ∨ j = 7 ∨ j = 8 ∨ j = 9 ∨ j = 10 ∨ j = 11 by omega) with rfl | rfl | rfl | rfl | rfl | rfl | rfl | rfl | rfl | rfl | rfl | rfl
    · rw [show whI 0 = 0 from by decide]; exact va_eqt (z := 0) (hs _ (by decide +kernel))
    · rw [show whI 1 = -1 from by decide]; exact va_eqt (z := -1) (hs _ (by decide +kernel))
    · rw [show whI 2 = 1 from by decide]; exact va_eqt (z := 1) (hs _ (by decide +kernel))
    · rw [show whI 3 = -1 from by decide]; exact va_eqt (z := -1) (hs _ (by decide +kernel))
    · rw [show whI 4 = 2 from by decide]; exact va_eqt (z := 2) (hs _ (by decide +kernel))
    · rw [show whI 5 = 3 from by decide]; exact va_eqt (z := 3) (hs _ (by decide +kernel))
    · rw [show whI 6 = -1 from by decide]; exact va_eqt (z := -1) (hs _ (by decide +kernel))
    · rw [show whI 7 = 4 from by decide]; exact va_eqt (z := 4) (hs _ (by decide +kernel))
    · rw [show whI 8 = -1 from by decide]; exact va_eqt (z := -1) (hs _ (by decide +kernel))
    · rw [show whI 9 = 5 from by decide]; exact va_eqt (z := 5) (hs _ (by decide +kernel))
    · rw [show whI 10 = -1 from by decide]; exact va_eqt (z := -1) (hs _ (by decide +kernel))
    · rw [show whI 11 = 6 from by decide]; exact va_eqt (z := 6) (hs _ (by decide +kernel))) hAn
  exact ⟨t, va_Zof (hts (.laysStatic RX3 "WHITE_KEYS" "[I") (by decide +kernel)) (hts (.initialized RX3) (by decide +kernel)) ht hAn, hT⟩
set_option maxRecDepth 20000 in
theorem lw_nlaw {A : Nat → Prop} {b : Nat} {s : State} (hAn : ∀ a : Nat, a < s.heap.size → ¬ A a) (hts : ∀ w ∈ lw_tbl, w.before #[Value.ref b] s = true) (hgv : (Jvm.Cond.and given_1 narrow_1).before #[Value.ref b] s = true) : nLaw A s := by
  have hs := flat_of_before _ hgv
  refine ⟨⟨fun w hw => ?_, ⟨lw_str (hts (.stringRef RX3 200 xtP) (by decide +kernel)) (hs _ (by decide +kernel)), lw_str (hts (.stringRef RX3 202 xtT) (by decide +kernel)) (hs _ (by decide +kernel)), lw_str (hts (.stringRef RX3 206 xtW) (by decide +kernel)) (hs _ (by decide +kernel)), lw_str (hts (.stringRef RX3 175 xtK) (by decide +kernel)) (hs _ (by decide +kernel))⟩,
    vx_Zqof (hts (.laysStatic Bundle.tN "UNASSIGNED_STACK" Bundle.steD) (by decide +kernel)) (hts (.initialized Bundle.tN) (by decide +kernel)) (hs _ (by decide +kernel)) hAn,
    vx_Zqof (hts (.laysStatic Bundle.tN "SUPPRESSED_SENTINEL" Bundle.listD) (by decide +kernel)) (hts (.initialized Bundle.tN) (by decide +kernel)) (hs _ (by decide +kernel)) hAn, lw_key hAn hts hgv⟩,
    ⟨va_Nw.of rfl (hts (.classLink RL 13 xIAE) (by decide +kernel)), va_Nw.of rfl (hts (.classLink RL 19 xAIO) (by decide +kernel))⟩, va_Nc.of (hs _ (by decide +kernel)),
    ⟨va_Nw.of rfl (hts (.methodLinkNest RX1 24 yX3_commonDivisor RX3) (by decide +kernel)), va_Nw.of rfl (hts (.methodLinkNest RX1 28 yX3_quotient RX3) (by decide +kernel))⟩,
    ⟨va_Nw.of rfl (hts (.methodLinkNest RX3 9 yX1_init RX3) (by decide +kernel)), va_Nw.of rfl (hts (.methodLinkNest RX3 18 yX0_init RX3) (by decide +kernel))⟩⟩
  have h9 := List.all_eq_true.mp xWT_ok w hw
  rw [Bool.and_eq_true] at h9
  exact va_Nw.of h9.1 (hts w (xWT_in w hw))
theorem lw_arr {ty : FieldType} {args : Array Value} {s : State} (h : (Cond.arrayClass ty).before args s = true) : ∃ cA, ArrOfT s cA ty ∧ s.vm.findClass ("[" ++ ty.toString) = some cA := by
  obtain ⟨cA, kA, comp, h1, h2, h3⟩ := Cond.arrayClass_spec h
  exact ⟨cA, fun n z => ⟨(fun k h => by cases h), kA, h2, comp, h3⟩, h1⟩
set_option maxRecDepth 20000 in
theorem lw_K {b : Nat} {s : State} (hts : ∀ w ∈ lw_tbl, w.before #[Value.ref b] s = true) : ∃ (D : va_G) (cI cJ cD : ClassId), va_K D cl5 (ty3 cI cJ cD) s := by
  obtain ⟨c0, i0, k0⟩ := u_known (C := RX0) (T := TX0) (N := 2) (n := 2) hts wsL_X00_in (hts (.instantiable RX0 2) (by decide +kernel))
  obtain ⟨c1, i1, k1⟩ := u_known (C := RX1) (T := TX1) (N := 4) (n := 4) hts wsL_X10_in (hts (.instantiable RX1 4) (by decide +kernel))
  obtain ⟨c2, i2, k2⟩ := u_known (C := RX2) (T := TX2) (N := 3) (n := 3) hts wsL_X20_in (hts (.instantiable RX2 3) (by decide +kernel))
  obtain ⟨c3, i3, k3⟩ := u_known (C := RX3) (T := TX3) (N := 12) (n := 12) hts wsL_X30_in (hts (.instantiable RX3 12) (by decide +kernel))
  obtain ⟨c4, i4, k4⟩ := u_known (C := RX4) (T := TX4) (N := 14) (n := 14) hts wsL_X40_in (hts (.instantiable RX4 14) (by decide +kernel))
  obtain ⟨cI, a1, a2⟩ := lw_arr (hts (.arrayClass .int) (by decide +kernel))
  obtain ⟨cJ, b1, b2⟩ := lw_arr (hts (.arrayClass .long) (by decide +kernel))
  obtain ⟨cD, d1, d2⟩ := lw_arr (hts (.arrayClass .double) (by decide +kernel))
  refine ⟨(fun k => if k = 0 then c0 else if k = 1 then c1 else if k = 2 then c2 else if k = 3 then c3 else c4, fun k => if k = 0 then i0 else if k = 1 then i1 else if k = 2 then i2 else if k = 3 then i3 else i4), cI, cJ, cD, ?_, ?_⟩
  · intro k q hq
    match k, hq with
    | 0, hq => cases hq; exact k0
    | 1, hq => cases hq; exact k1
    | 2, hq => cases hq; exact k2
    | 3, hq => cases hq; exact k3
    | 4, hq => cases hq; exact k4
    | k + 5, hq => simp [cl5] at hq
  · intro k q hq
    match k, hq with
    | 0, hq => cases hq; exact ⟨a1, a2⟩
    | 1, hq => cases hq; exact ⟨b1, b2⟩
    | 2, hq => cases hq; exact ⟨d1, d2⟩
    | k + 3, hq => simp at hq
