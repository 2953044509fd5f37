theorem xW_A {s : State} {args : Array Value} (h : ∀ w ∈ xWT, va_Nw w s) : (Cond.classLink RX3 173 xAIO).before args s = true ∧ (Cond.initialized xAIO).before args s = true ∧ ∀ w ∈ vx_atS RX3 177 xAIO xNA, w.before args s = true :=
  ⟨xWT_use h _ (List.mem_append_left _ List.mem_cons_self), xWT_use h _ (List.mem_append_left _ (List.mem_cons_of_mem _ List.mem_cons_self)), fun w hw => xWT_use h w (List.mem_append_left _ (List.mem_cons_of_mem _ (List.mem_cons_of_mem _ hw)))⟩
theorem xW_I {s : State} {args : Array Value} (h : ∀ w ∈ xWT, va_Nw w s) : (Cond.classLink RX3 204 xIAE).before args s = true ∧ (Cond.initialized xIAE).before args s = true ∧ ∀ w ∈ vx_atS RX3 208 xIAE xNI, w.before args s = true :=
  ⟨xWT_use h _ (List.mem_append_right _ List.mem_cons_self), xWT_use h _ (List.mem_append_right _ (List.mem_cons_of_mem _ List.mem_cons_self)), fun w hw => xWT_use h w (List.mem_append_right _ (List.mem_cons_of_mem _ (List.mem_cons_of_mem _ hw)))⟩
theorem np_in {k : Int32} {n : Nat} (hn : n ≤ 24) (h1 : ¬ k < 0) (h2 : k < nI (2 * n + 1)) : npI k n = 0 := by
  obtain ⟨j, hj, rfl⟩ := nI_of h1
  have h3 := zji_lt (a := j) (b := 2 * n + 1) (by omega) (by omega) h2
  exact np_nI hn (by omega)
theorem pr_in {p : Int32} {b : Nat} (hb1 : 1 ≤ b) (hb : b ≤ 100) (h1 : ¬ p < 0) (h2 : p < nI b) : prI p (b - 1) = 1 := by
  obtain ⟨j, hj, rfl⟩ := nI_of h1
  have h3 := zji_lt (a := j) (b := b) (by omega) (by omega) h2
  exact inI_nI (by omega) (by decide) (by omega) (Nat.zero_le _) (by omega)
theorem wi_ok {x a b : Nat} (h1 : a ≤ x) (h2 : x ≤ b) (hb : b < 2 ^ 62) : inI (lN x) (lN a) (lN b) = 1 := inI_1 ((pk_lLE (by omega) (by omega)).mpr h1) ((pk_lLE (by omega) (by omega)).mpr h2)
theorem nX3_needPlace_3 : ∀ w ∈ wsX30, w ∈ wsX3_needPlace := by decide +kernel
abbrev rm_X3_needPlace : Room := { frames := 0, cells := 0, slots := 0, locals := 0 }
set_option maxHeartbeats 4000000 in
set_option maxRecDepth 100000 in
/-- needPlace -/
theorem ct_X3_needPlace (l : Launch) (D : va_G) (cI cJ cD : ClassId) (o_ : Nat) (ro_ : Nat) (ja_ : Nat) (jb_ : Nat) (sr_ : Nat) (br_ : Nat) (tr_ : Nat) (ch_ : Nat) (lf_ : Nat) (ri_ : Nat) (sh_ : Int32) (sp_ : Int32) (n_ : Nat) (fa_ : Nat → Int32) (fb_ : Nat → Int32) (k_ : Nat) (sz : Nat) (hn : n_ ≤ 24) (hk : k_ ≤ 2 * n_) : Met l yX3_needPlace wsX3_needPlace rm_X3_needPlace (zP D (ty3 cI cJ cD) [.ref o_, .int (nI k_)] sz [(o_, .inr (3, [.int (nI n_), .ref ro_, .ref ja_, .ref jb_, .ref sr_, .ref br_, .ref tr_, .ref ch_, .ref lf_, .ref ri_, .int sh_, .int sp_])), (ja_, .inl (cI, 2 * n_ + 1, .inl fa_)), (jb_, .inl (cI, 2 * n_ + 1, .inl fb_))] zT) (va_Qv (fun (u : Unit) => True) (zB D (ty3 cI cJ cD) (fun (u : Unit) => [(o_, .inr (3, [.int (nI n_), .ref ro_, .ref ja_, .ref jb_, .ref sr_, .ref br_, .ref tr_, .ref ch_, .ref lf_, .ref ri_, .int sh_, .int sp_])), (ja_, .inl (cI, 2 * n_ + 1, .inl fa_)), (jb_, .inl (cI, 2 * n_ + 1, .inl fb_))]) (va_A [(o_, .inr (3, [.int (nI n_), .ref ro_, .ref ja_, .ref jb_, .ref sr_, .ref br_, .ref tr_, .ref ch_, .ref lf_, .ref ri_, .int sh_, .int sp_])), (ja_, .inl (cI, 2 * n_ + 1, .inl fa_)), (jb_, .inl (cI, 2 * n_ + 1, .inl fb_))] sz)) (va_A [(o_, .inr (3, [.int (nI n_), .ref ro_, .ref ja_, .ref jb_, .ref sr_, .ref br_, .ref tr_, .ref ch_, .ref lf_, .ref ri_, .int sh_, .int sp_])), (ja_, .inl (cI, 2 * n_ + 1, .inl fa_)), (jb_, .inl (cI, 2 * n_ + 1, .inl fb_))] sz)) 0 0 (va_A [(o_, .inr (3, [.int (nI n_), .ref ro_, .ref ja_, .ref jb_, .ref sr_, .ref br_, .ref tr_, .ref ch_, .ref lf_, .ref ri_, .int sh_, .int sp_])), (ja_, .inl (cI, 2 * n_ + 1, .inl fa_)), (jb_, .inl (cI, 2 * n_ + 1, .inl fb_))] sz) := by
  refine zMet (Qf := fun A => va_Qv (fun (u : Unit) => True) (zB D (ty3 cI cJ cD) (fun (u : Unit) => [(o_, .inr (3, [.int (nI n_), .ref ro_, .ref ja_, .ref jb_, .ref sr_, .ref br_, .ref tr_, .ref ch_, .ref lf_, .ref ri_, .int sh_, .int sp_])), (ja_, .inl (cI, 2 * n_ + 1, .inl fa_)), (jb_, .inl (cI, 2 * n_ + 1, .inl fb_))]) A) A) (cc := cX3_needPlace) (maxL := 2) (ret := none) (by decide) rfl (Nat.le_of_ble_eq_true rfl) ?_
  intro p e s m args below meth c A ls Q H hargs hQ hHe hx hb hr hml hown hts hlocks hin hP hK hD hA hS hE hAe hl
  have hl : lv_has ls 2 [(0, .ref o_), (1, .int (nI k_))] := hl
  refine lv_iload_n hx hb dX3_needPlace_0 rfl (lv_at hl 1 rfl) ?_
  refine lv_if_lt (tgt := 22) hx hb dX3_needPlace_1 (by decide) (fun c_1 => ?_) (fun c_1 => ?_)
  · skip
    have c_1 := zji_lt (a := k_) (b := 0) (by omega) (by omega) c_1
    omega
  · skip
    have c_1 := zji_nlt (a := k_) (b := 0) (by omega) (by omega) c_1
    refine lv_iload_n hx hb dX3_needPlace_4 rfl (lv_at hl 1 rfl) ?_
    refine lv_aload_n hx hb dX3_needPlace_5 rfl (lv_at hl 0 rfl) ?_
    refine va_get (D := D) (ci := 3) (v := .ref ja_) (C := RX3) (T := TX3) (N := 12) hx hb hts nX3_needPlace_3 hown hK hP 0 rfl rfl 2 (by decide) (zh (w := .fieldLink RX3 53 "FretRoots" "justAbove" "[I") hts 1 rfl) (fun _ h9 => h9) rfl dX3_needPlace_6 ?_
    refine va_alen hx hb hK hP 1 0 rfl (ty := .int) rfl (v := nI (2 * n_ + 1)) rfl dX3_needPlace_9 ?_
    refine lv_icmp_ge (tgt := 22) hx hb dX3_needPlace_10 (by decide) (fun c_10 => ?_) (fun c_10 => ?_)
    · skip
      have c_10 := zji_le (a := 2 * n_ + 1) (b := k_) (by omega) (by omega) c_10
      omega
    · skip
      have c_10 := zji_nle (a := 2 * n_ + 1) (b := k_) (by omega) (by omega) c_10
      refine lv_iload_n hx hb dX3_needPlace_13 rfl (lv_at hl 1 rfl) ?_
      refine lv_aload_n hx hb dX3_needPlace_14 rfl (lv_at hl 0 rfl) ?_
      refine va_get (D := D) (ci := 3) (v := .ref jb_) (C := RX3) (T := TX3) (N := 12) hx hb hts nX3_needPlace_3 hown hK hP 0 rfl rfl 3 (by decide) (zh (w := .fieldLink RX3 57 "FretRoots" "justBelow" "[I") hts 2 rfl) (fun _ h9 => h9) rfl dX3_needPlace_15 ?_
      refine va_alen hx hb hK hP 2 0 rfl (ty := .int) rfl (v := nI (2 * n_ + 1)) rfl dX3_needPlace_18 ?_
      refine lv_icmp_lt (tgt := 32) hx hb dX3_needPlace_19 (by decide) (fun c_19 => ?_) (fun c_19 => ?_)
      · skip
        have c_19 := zji_lt (a := k_) (b := 2 * n_ + 1) (by omega) (by omega) c_19
        subst hQ
        exact ze_v hx hb hr hlocks () (trivial) hP hK hD hS dX3_needPlace_32
      · skip
        have c_19 := zji_nlt (a := k_) (b := 2 * n_ + 1) (by omega) (by omega) c_19
        omega
abbrev rm_X3_needPlace_x : Room := { frames := 7, cells := 1, slots := 6, locals := 95 }
set_option maxHeartbeats 4000000 in
set_option maxRecDepth 100000 in
/-- needPlace, thrown -/
theorem ct_X3_needPlace_x (l : Launch) (D : va_G) (cI cJ cD : ClassId) (o_ : Nat) (ro_ : Nat) (ja_ : Nat) (jb_ : Nat) (sr_ : Nat) (br_ : Nat) (tr_ : Nat) (ch_ : Nat) (lf_ : Nat) (ri_ : Nat) (sh_ : Int32) (sp_ : Int32) (n_ : Nat) (fa_ : Nat → Int32) (fb_ : Nat → Int32) (k_ : Int32) (sz : Nat) (hl9 : l.stackTraces = false) (hn : n_ ≤ 24) (hbad : npI k_ n_ = 1) : vx_Met l yX3_needPlace wsX3_needPlace rm_X3_needPlace_x (zP D (ty3 cI cJ cD) [.ref o_, .int k_] sz [(o_, .inr (3, [.int (nI n_), .ref ro_, .ref ja_, .ref jb_, .ref sr_, .ref br_, .ref tr_, .ref ch_, .ref lf_, .ref ri_, .int sh_, .int sp_])), (ja_, .inl (cI, 2 * n_ + 1, .inl fa_)), (jb_, .inl (cI, 2 * n_ + 1, .inl fb_))] (nTh (va_A [(o_, .inr (3, [.int (nI n_), .ref ro_, .ref ja_, .ref jb_, .ref sr_, .ref br_, .ref tr_, .ref ch_, .ref lf_, .ref ri_, .int sh_, .int sp_])), (ja_, .inl (cI, 2 * n_ + 1, .inl fa_)), (jb_, .inl (cI, 2 * n_ + 1, .inl fb_))] sz))) zNo (zX D (ty3 cI cJ cD) xAIO [(o_, .inr (3, [.int (nI n_), .ref ro_, .ref ja_, .ref jb_, .ref sr_, .ref br_, .ref tr_, .ref ch_, .ref lf_, .ref ri_, .int sh_, .int sp_])), (ja_, .inl (cI, 2 * n_ + 1, .inl fa_)), (jb_, .inl (cI, 2 * n_ + 1, .inl fb_))] (va_A [(o_, .inr (3, [.int (nI n_), .ref ro_, .ref ja_, .ref jb_, .ref sr_, .ref br_, .ref tr_, .ref ch_, .ref lf_, .ref ri_, .int sh_, .int sp_])), (ja_, .inl (cI, 2 * n_ + 1, .inl fa_)), (jb_, .inl (cI, 2 * n_ + 1, .inl fb_))] sz)) 1 6 (va_A [(o_, .inr (3, [.int (nI n_), .ref ro_, .ref ja_, .ref jb_, .ref sr_, .ref br_, .ref tr_, .ref ch_, .ref lf_, .ref ri_, .int sh_, .int sp_])), (ja_, .inl (cI, 2 * n_ + 1, .inl fa_)), (jb_, .inl (cI, 2 * n_ + 1, .inl fb_))] sz) := by
  refine zMetX (En := xAIO) (cc := cX3_needPlace) (maxL := 2) (ret := none) (by decide) rfl (Nat.le_of_ble_eq_true rfl) ?_
  intro p e s m args below meth c A ls Q H hargs hQ hHe hx hb hr hml hown hts hlocks hin hP hK hD hA hS hE hAe htb hl
  have hl : lv_has ls 2 [(0, .ref o_), (1, .int k_)] := hl
  refine lv_iload_n hx hb dX3_needPlace_0 rfl (lv_at hl 1 rfl) ?_
  refine lv_if_lt (tgt := 22) hx hb dX3_needPlace_1 (by decide) (fun c_1 => ?_) (fun c_1 => ?_)
  · skip
    subst hQ
    exact zx_thr (names := xNA) (own := RX3) (text := xtP) (rest := []) hx hb hl9 hP hK hD hS hown (by decide) (by decide) (xW_A hE.1).1 (xW_A hE.1).2.1 hE.2.1.1 (xW_A hE.1).2.2 xWT_A hE.2.2.1 hE.2.2.2.1 (hl.1.trans hml.symm) dX3_needPlace_22 dX3_needPlace_25 dX3_needPlace_26 dX3_needPlace_28 dX3_needPlace_31 htb (by decide) (Nat.le_of_ble_eq_true rfl) (Nat.le_of_ble_eq_true rfl) (Nat.le_of_ble_eq_true rfl) hlocks (Nat.le_of_ble_eq_true rfl) (Nat.le_of_ble_eq_true rfl)
  · skip
    refine lv_iload_n hx hb dX3_needPlace_4 rfl (lv_at hl 1 rfl) ?_
    refine lv_aload_n hx hb dX3_needPlace_5 rfl (lv_at hl 0 rfl) ?_
    refine va_get (D := D) (ci := 3) (v := .ref ja_) (C := RX3) (T := TX3) (N := 12) hx hb hts nX3_needPlace_3 hown hK hP 0 rfl rfl 2 (by decide) (zh (w := .fieldLink RX3 53 "FretRoots" "justAbove" "[I") hts 1 rfl) (fun _ h9 => h9) rfl dX3_needPlace_6 ?_
    refine va_alen hx hb hK hP 1 0 rfl (ty := .int) rfl (v := nI (2 * n_ + 1)) rfl dX3_needPlace_9 ?_
    refine lv_icmp_ge (tgt := 22) hx hb dX3_needPlace_10 (by decide) (fun c_10 => ?_) (fun c_10 => ?_)
    · skip
      subst hQ
      exact zx_thr (names := xNA) (own := RX3) (text := xtP) (rest := []) hx hb hl9 hP hK hD hS hown (by decide) (by decide) (xW_A hE.1).1 (xW_A hE.1).2.1 hE.2.1.1 (xW_A hE.1).2.2 xWT_A hE.2.2.1 hE.2.2.2.1 (hl.1.trans hml.symm) dX3_needPlace_22 dX3_needPlace_25 dX3_needPlace_26 dX3_needPlace_28 dX3_needPlace_31 htb (by decide) (Nat.le_of_ble_eq_true rfl) (Nat.le_of_ble_eq_true rfl) (Nat.le_of_ble_eq_true rfl) hlocks (Nat.le_of_ble_eq_true rfl) (Nat.le_of_ble_eq_true rfl)
    · skip
      refine lv_iload_n hx hb dX3_needPlace_13 rfl (lv_at hl 1 rfl) ?_
      refine lv_aload_n hx hb dX3_needPlace_14 rfl (lv_at hl 0 rfl) ?_
      refine va_get (D := D) (ci := 3) (v := .ref jb_) (C := RX3) (T := TX3) (N := 12) hx hb hts nX3_needPlace_3 hown hK hP 0 rfl rfl 3 (by decide) (zh (w := .fieldLink RX3 57 "FretRoots" "justBelow" "[I") hts 2 rfl) (fun _ h9 => h9) rfl dX3_needPlace_15 ?_
      refine va_alen hx hb hK hP 2 0 rfl (ty := .int) rfl (v := nI (2 * n_ + 1)) rfl dX3_needPlace_18 ?_
      refine lv_icmp_lt (tgt := 32) hx hb dX3_needPlace_19 (by decide) (fun c_19 => ?_) (fun c_19 => ?_)
      · skip
        exact absurd hbad (by rw [np_in hn c_1 c_19]; decide)
      · skip
        subst hQ
        exact zx_thr (names := xNA) (own := RX3) (text := xtP) (rest := []) hx hb hl9 hP hK hD hS hown (by decide) (by decide) (xW_A hE.1).1 (xW_A hE.1).2.1 hE.2.1.1 (xW_A hE.1).2.2 xWT_A hE.2.2.1 hE.2.2.2.1 (hl.1.trans hml.symm) dX3_needPlace_22 dX3_needPlace_25 dX3_needPlace_26 dX3_needPlace_28 dX3_needPlace_31 htb (by decide) (Nat.le_of_ble_eq_true rfl) (Nat.le_of_ble_eq_true rfl) (Nat.le_of_ble_eq_true rfl) hlocks (Nat.le_of_ble_eq_true rfl) (Nat.le_of_ble_eq_true rfl)
abbrev rm_X3_needPart : Room := { frames := 0, cells := 0, slots := 0, locals := 0 }
set_option maxHeartbeats 4000000 in
set_option maxRecDepth 100000 in
/-- needPart -/
theorem ct_X3_needPart (l : Launch) (D : va_G) (cI cJ cD : ClassId) (p_ : Nat) (b_ : Nat) (sz : Nat) (hp : p_ < b_) (hb_ : b_ ≤ 100) : Met l yX3_needPart wsX3_needPart rm_X3_needPart (zP D (ty3 cI cJ cD) [.int (nI p_), .int (nI b_)] sz [] zT) (va_Qv (fun (u : Unit) => True) (zB D (ty3 cI cJ cD) (fun (u : Unit) => []) (va_A [] sz)) (va_A [] sz)) 0 0 (va_A [] sz) := by
  refine zMet (Qf := fun A => va_Qv (fun (u : Unit) => True) (zB D (ty3 cI cJ cD) (fun (u : Unit) => []) A) A) (cc := cX3_needPart) (maxL := 2) (ret := none) (by decide) rfl (Nat.le_of_ble_eq_true rfl) ?_
  intro p e s m args below meth c A ls Q H hargs hQ hHe hx hb hr hml hown hts hlocks hin hP hK hD hA hS hE hAe hl
  have hl : lv_has ls 2 [(0, .int (nI p_)), (1, .int (nI b_))] := hl
  refine lv_iload_n hx hb dX3_needPart_0 rfl (lv_at hl 0 rfl) ?_
  refine lv_if_lt (tgt := 9) hx hb dX3_needPart_1 (by decide) (fun c_1 => ?_) (fun c_1 => ?_)
  · skip
    have c_1 := zji_lt (a := p_) (b := 0) (by omega) (by omega) c_1
    omega
  · skip
    have c_1 := zji_nlt (a := p_) (b := 0) (by omega) (by omega) c_1
    refine lv_iload_n hx hb dX3_needPart_4 rfl (lv_at hl 0 rfl) ?_
    refine lv_iload_n hx hb dX3_needPart_5 rfl (lv_at hl 1 rfl) ?_
    refine lv_icmp_lt (tgt := 19) hx hb dX3_needPart_6 (by decide) (fun c_6 => ?_) (fun c_6 => ?_)
    · skip
      have c_6 := zji_lt (a := p_) (b := b_) (by omega) (by omega) c_6
      subst hQ
      exact ze_v hx hb hr hlocks () (trivial) hP hK hD hS dX3_needPart_19
    · skip
      have c_6 := zji_nlt (a := p_) (b := b_) (by omega) (by omega) c_6
      omega
abbrev rm_X3_needPart_x : Room := { frames := 7, cells := 1, slots := 6, locals := 95 }
set_option maxHeartbeats 4000000 in
set_option maxRecDepth 100000 in
/-- needPart, thrown -/
theorem ct_X3_needPart_x (l : Launch) (D : va_G) (cI cJ cD : ClassId) (p_ : Int32) (b_ : Nat) (sz : Nat) (hl9 : l.stackTraces = false) (hb1 : 1 ≤ b_) (hb_ : b_ ≤ 100) (hbad : prI p_ (b_ - 1) = 0) : vx_Met l yX3_needPart wsX3_needPart rm_X3_needPart_x (zP D (ty3 cI cJ cD) [.int p_, .int (nI b_)] sz [] (nTh (va_A [] sz))) zNo (zX D (ty3 cI cJ cD) xAIO [] (va_A [] sz)) 1 6 (va_A [] sz) := by
  refine zMetX (En := xAIO) (cc := cX3_needPart) (maxL := 2) (ret := none) (by decide) rfl (Nat.le_of_ble_eq_true rfl) ?_
  intro p e s m args below meth c A ls Q H hargs hQ hHe hx hb hr hml hown hts hlocks hin hP hK hD hA hS hE hAe htb hl
  have hl : lv_has ls 2 [(0, .int p_), (1, .int (nI b_))] := hl
  refine lv_iload_n hx hb dX3_needPart_0 rfl (lv_at hl 0 rfl) ?_
  refine lv_if_lt (tgt := 9) hx hb dX3_needPart_1 (by decide) (fun c_1 => ?_) (fun c_1 => ?_)
  · skip
    subst hQ
    exact zx_thr (names := xNA) (own := RX3) (text := xtT) (rest := []) hx hb hl9 hP hK hD hS hown (by decide) (by decide) (xW_A hE.1).1 (xW_A hE.1).2.1 hE.2.1.2.1 (xW_A hE.1).2.2 xWT_A hE.2.2.1 hE.2.2.2.1 (hl.1.trans hml.symm) dX3_needPart_9 dX3_needPart_12 dX3_needPart_13 dX3_needPart_15 dX3_needPart_18 htb (by decide) (Nat.le_of_ble_eq_true rfl) (Nat.le_of_ble_eq_true rfl) (Nat.le_of_ble_eq_true rfl) hlocks (Nat.le_of_ble_eq_true rfl) (Nat.le_of_ble_eq_true rfl)
  · skip
    refine lv_iload_n hx hb dX3_needPart_4 rfl (lv_at hl 0 rfl) ?_
    refine lv_iload_n hx hb dX3_needPart_5 rfl (lv_at hl 1 rfl) ?_
    refine lv_icmp_lt (tgt := 19) hx hb dX3_needPart_6 (by decide) (fun c_6 => ?_) (fun c_6 => ?_)
    · skip
      exact absurd hbad (by rw [pr_in hb1 hb_ c_1 c_6]; decide)
    · skip
      subst hQ
      exact zx_thr (names := xNA) (own := RX3) (text := xtT) (rest := []) hx hb hl9 hP hK hD hS hown (by decide) (by decide) (xW_A hE.1).1 (xW_A hE.1).2.1 hE.2.1.2.1 (xW_A hE.1).2.2 xWT_A hE.2.2.1 hE.2.2.2.1 (hl.1.trans hml.symm) dX3_needPart_9 dX3_needPart_12 dX3_needPart_13 dX3_needPart_15 dX3_needPart_18 htb (by decide) (Nat.le_of_ble_eq_true rfl) (Nat.le_of_ble_eq_true rfl) (Nat.le_of_ble_eq_true rfl) hlocks (Nat.le_of_ble_eq_true rfl) (Nat.le_of_ble_eq_true rfl)
abbrev rm_X3_needWithin : Room := { frames := 0, cells := 0, slots := 0, locals := 0 }
set_option maxHeartbeats 4000000 in
set_option maxRecDepth 100000 in
/-- needWithin -/
theorem ct_X3_needWithin (l : Launch) (D : va_G) (cI cJ cD : ClassId) (x_ : Int64) (a_ : Int64) (b_ : Int64) (sz : Nat) (hok : inI x_ a_ b_ = 1) : Met l yX3_needWithin wsX3_needWithin rm_X3_needWithin (zP D (ty3 cI cJ cD) [.long x_, .long a_, .long b_] sz [] zT) (va_Qv (fun (u : Unit) => True) (zB D (ty3 cI cJ cD) (fun (u : Unit) => []) (va_A [] sz)) (va_A [] sz)) 0 0 (va_A [] sz) := by
  refine zMet (Qf := fun A => va_Qv (fun (u : Unit) => True) (zB D (ty3 cI cJ cD) (fun (u : Unit) => []) A) A) (cc := cX3_needWithin) (maxL := 6) (ret := none) (by decide) rfl (Nat.le_of_ble_eq_true rfl) ?_
  intro p e s m args below meth c A ls Q H hargs hQ hHe hx hb hr hml hown hts hlocks hin hP hK hD hA hS hE hAe hl
  have hl : lv_has ls 6 [(0, .long x_), (2, .long a_), (4, .long b_)] := hl
  obtain ⟨hok1, hok2⟩ := inI_ok (show ¬ inI x_ a_ b_ = 0 by omega)
  refine lv_lload_n hx hb dX3_needWithin_0 rfl (lv_at hl 0 rfl) ?_
  refine lv_lload_n hx hb dX3_needWithin_1 rfl (lv_at hl 1 rfl) ?_
  refine zl_lt (tgt := 13) hx hb dX3_needWithin_2 dX3_needWithin_3 (by decide) (fun c_3 => ?_) (fun c_3 => ?_)
  · skip
    exact absurd c_3 (Int64.not_lt.mpr hok1)
  · skip
    refine lv_lload_n hx hb dX3_needWithin_6 rfl (lv_at hl 0 rfl) ?_
    refine lv_lload hx hb dX3_needWithin_7 (lv_at hl 2 rfl) ?_
    refine zl_le (tgt := 23) hx hb dX3_needWithin_9 dX3_needWithin_10 (by decide) (fun c_10 => ?_) (fun c_10 => ?_)
    · skip
      subst hQ
      exact ze_v hx hb hr hlocks () (trivial) hP hK hD hS dX3_needWithin_23
    · skip
      exact absurd hok2 c_10
abbrev rm_X3_needWithin_x : Room := { frames := 7, cells := 1, slots := 6, locals := 95 }
set_option maxHeartbeats 4000000 in
set_option maxRecDepth 100000 in
/-- needWithin, thrown -/
theorem ct_X3_needWithin_x (l : Launch) (D : va_G) (cI cJ cD : ClassId) (x_ : Int64) (a_ : Int64) (b_ : Int64) (sz : Nat) (hl9 : l.stackTraces = false) (hbad : inI x_ a_ b_ = 0) : vx_Met l yX3_needWithin wsX3_needWithin rm_X3_needWithin_x (zP D (ty3 cI cJ cD) [.long x_, .long a_, .long b_] sz [] (nTh (va_A [] sz))) zNo (zX D (ty3 cI cJ cD) xIAE [] (va_A [] sz)) 1 6 (va_A [] sz) := by
  refine zMetX (En := xIAE) (cc := cX3_needWithin) (maxL := 6) (ret := none) (by decide) rfl (Nat.le_of_ble_eq_true rfl) ?_
  intro p e s m args below meth c A ls Q H hargs hQ hHe hx hb hr hml hown hts hlocks hin hP hK hD hA hS hE hAe htb hl
  have hl : lv_has ls 6 [(0, .long x_), (2, .long a_), (4, .long b_)] := hl
  refine lv_lload_n hx hb dX3_needWithin_0 rfl (lv_at hl 0 rfl) ?_
  refine lv_lload_n hx hb dX3_needWithin_1 rfl (lv_at hl 1 rfl) ?_
  refine zl_lt (tgt := 13) hx hb dX3_needWithin_2 dX3_needWithin_3 (by decide) (fun c_3 => ?_) (fun c_3 => ?_)
  · skip
    subst hQ
    exact zx_thr (names := xNI) (own := RX3) (text := xtW) (rest := []) hx hb hl9 hP hK hD hS hown (by decide) (by decide) (xW_I hE.1).1 (xW_I hE.1).2.1 hE.2.1.2.2.1 (xW_I hE.1).2.2 xWT_I hE.2.2.1 hE.2.2.2.1 (hl.1.trans hml.symm) dX3_needWithin_13 dX3_needWithin_16 dX3_needWithin_17 dX3_needWithin_19 dX3_needWithin_22 htb (by decide) (Nat.le_of_ble_eq_true rfl) (Nat.le_of_ble_eq_true rfl) (Nat.le_of_ble_eq_true rfl) hlocks (Nat.le_of_ble_eq_true rfl) (Nat.le_of_ble_eq_true rfl)
  · skip
    refine lv_lload_n hx hb dX3_needWithin_6 rfl (lv_at hl 0 rfl) ?_
    refine lv_lload hx hb dX3_needWithin_7 (lv_at hl 2 rfl) ?_
    refine zl_le (tgt := 23) hx hb dX3_needWithin_9 dX3_needWithin_10 (by decide) (fun c_10 => ?_) (fun c_10 => ?_)
    · skip
      exact absurd hbad (by rw [inI_1 (Int64.not_lt.mp c_3) c_10]; decide)
    · skip
      subst hQ
      exact zx_thr (names := xNI) (own := RX3) (text := xtW) (rest := []) hx hb hl9 hP hK hD hS hown (by decide) (by decide) (xW_I hE.1).1 (xW_I hE.1).2.1 hE.2.1.2.2.1 (xW_I hE.1).2.2 xWT_I hE.2.2.1 hE.2.2.2.1 (hl.1.trans hml.symm) dX3_needWithin_13 dX3_needWithin_16 dX3_needWithin_17 dX3_needWithin_19 dX3_needWithin_22 htb (by decide) (Nat.le_of_ble_eq_true rfl) (Nat.le_of_ble_eq_true rfl) (Nat.le_of_ble_eq_true rfl) hlocks (Nat.le_of_ble_eq_true rfl) (Nat.le_of_ble_eq_true rfl)
abbrev rm_X3_needReal : Room := { frames := 0, cells := 0, slots := 0, locals := 0 }
set_option maxHeartbeats 4000000 in
set_option maxRecDepth 100000 in
/-- needReal -/
theorem ct_X3_needReal (l : Launch) (D : va_G) (cI cJ cD : ClassId) (x_ : UInt64) (a_ : UInt64) (b_ : UInt64) (sz : Nat) (hok : rlI x_ a_ b_ = 1) : Met l yX3_needReal wsX3_needReal rm_X3_needReal (zP D (ty3 cI cJ cD) [.double x_, .double a_, .double b_] sz [] zT) (va_Qv (fun (u : Unit) => True) (zB D (ty3 cI cJ cD) (fun (u : Unit) => []) (va_A [] sz)) (va_A [] sz)) 0 0 (va_A [] sz) := by
  refine zMet (Qf := fun A => va_Qv (fun (u : Unit) => True) (zB D (ty3 cI cJ cD) (fun (u : Unit) => []) A) A) (cc := cX3_needReal) (maxL := 6) (ret := none) (by decide) rfl (Nat.le_of_ble_eq_true rfl) ?_
  intro p e s m args below meth c A ls Q H hargs hQ hHe hx hb hr hml hown hts hlocks hin hP hK hD hA hS hE hAe hl
  have hl : lv_has ls 6 [(0, .double x_), (2, .double a_), (4, .double b_)] := hl
  refine lv_dload_n hx hb dX3_needReal_0 rfl (lv_at hl 0 rfl) ?_
  refine lv_dload_n hx hb dX3_needReal_1 rfl (lv_at hl 1 rfl) ?_
  refine lv_dcmp hx hb dX3_needReal_2 ?_
  refine lv_if_lt (tgt := 13) hx hb dX3_needReal_3 (by decide) (fun c_3 => ?_) (fun c_3 => ?_)
  · skip
    exact absurd hok (by rw [rl_a c_3]; decide)
  · skip
    refine lv_dload_n hx hb dX3_needReal_6 rfl (lv_at hl 0 rfl) ?_
    refine lv_dload hx hb dX3_needReal_7 (lv_at hl 2 rfl) ?_
    refine lv_dcmp hx hb dX3_needReal_9 ?_
    refine lv_if_le (tgt := 23) hx hb dX3_needReal_10 (by decide) (fun c_10 => ?_) (fun c_10 => ?_)
    · skip
      subst hQ
      exact ze_v hx hb hr hlocks () (trivial) hP hK hD hS dX3_needReal_23
    · skip
      exact absurd hok (by rw [rl_b (Int32.not_le.mp c_10)]; decide)
abbrev rm_X3_needReal_x : Room := { frames := 7, cells := 1, slots := 6, locals := 95 }
set_option maxHeartbeats 4000000 in
set_option maxRecDepth 100000 in
/-- needReal, thrown -/
theorem ct_X3_needReal_x (l : Launch) (D : va_G) (cI cJ cD : ClassId) (x_ : UInt64) (a_ : UInt64) (b_ : UInt64) (sz : Nat) (hl9 : l.stackTraces = false) (hbad : rlI x_ a_ b_ = 0) : vx_Met l yX3_needReal wsX3_needReal rm_X3_needReal_x (zP D (ty3 cI cJ cD) [.double x_, .double a_, .double b_] sz [] (nTh (va_A [] sz))) zNo (zX D (ty3 cI cJ cD) xIAE [] (va_A [] sz)) 1 6 (va_A [] sz) := by
  refine zMetX (En := xIAE) (cc := cX3_needReal) (maxL := 6) (ret := none) (by decide) rfl (Nat.le_of_ble_eq_true rfl) ?_
  intro p e s m args below meth c A ls Q H hargs hQ hHe hx hb hr hml hown hts hlocks hin hP hK hD hA hS hE hAe htb hl
  have hl : lv_has ls 6 [(0, .double x_), (2, .double a_), (4, .double b_)] := hl
  refine lv_dload_n hx hb dX3_needReal_0 rfl (lv_at hl 0 rfl) ?_
  refine lv_dload_n hx hb dX3_needReal_1 rfl (lv_at hl 1 rfl) ?_
  refine lv_dcmp hx hb dX3_needReal_2 ?_
  refine lv_if_lt (tgt := 13) hx hb dX3_needReal_3 (by decide) (fun c_3 => ?_) (fun c_3 => ?_)
  · skip
    subst hQ
    exact zx_thr (names := xNI) (own := RX3) (text := xtW) (rest := []) hx hb hl9 hP hK hD hS hown (by decide) (by decide) (xW_I hE.1).1 (xW_I hE.1).2.1 hE.2.1.2.2.1 (xW_I hE.1).2.2 xWT_I hE.2.2.1 hE.2.2.2.1 (hl.1.trans hml.symm) dX3_needReal_13 dX3_needReal_16 dX3_needReal_17 dX3_needReal_19 dX3_needReal_22 htb (by decide) (Nat.le_of_ble_eq_true rfl) (Nat.le_of_ble_eq_true rfl) (Nat.le_of_ble_eq_true rfl) hlocks (Nat.le_of_ble_eq_true rfl) (Nat.le_of_ble_eq_true rfl)
  · skip
    refine lv_dload_n hx hb dX3_needReal_6 rfl (lv_at hl 0 rfl) ?_
    refine lv_dload hx hb dX3_needReal_7 (lv_at hl 2 rfl) ?_
    refine lv_dcmp hx hb dX3_needReal_9 ?_
    refine lv_if_le (tgt := 23) hx hb dX3_needReal_10 (by decide) (fun c_10 => ?_) (fun c_10 => ?_)
    · skip
      exact absurd hbad (by rw [rl_1 c_3 (Int32.not_lt.mpr c_10)]; decide)
    · skip
      subst hQ
      exact zx_thr (names := xNI) (own := RX3) (text := xtW) (rest := []) hx hb hl9 hP hK hD hS hown (by decide) (by decide) (xW_I hE.1).1 (xW_I hE.1).2.1 hE.2.1.2.2.1 (xW_I hE.1).2.2 xWT_I hE.2.2.1 hE.2.2.2.1 (hl.1.trans hml.symm) dX3_needReal_13 dX3_needReal_16 dX3_needReal_17 dX3_needReal_19 dX3_needReal_22 htb (by decide) (Nat.le_of_ble_eq_true rfl) (Nat.le_of_ble_eq_true rfl) (Nat.le_of_ble_eq_true rfl) hlocks (Nat.le_of_ble_eq_true rfl) (Nat.le_of_ble_eq_true rfl)
