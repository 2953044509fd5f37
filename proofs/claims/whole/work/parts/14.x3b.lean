theorem nX3_isNotAboveLeft_3 : ∀ w ∈ wsX30, w ∈ wsX3_isNotAboveLeft := by decide +kernel
abbrev rm_X3_isNotAboveLeft : Room := { frames := 3, cells := 0, slots := 0, locals := 76 }
set_option maxHeartbeats 4000000 in
set_option maxRecDepth 100000 in
/-- isNotAboveLeft -/
theorem ct_X3_isNotAboveLeft (l : Launch) (D : va_G) (cI cJ cD : ClassId) (o_ : Nat) (ro_ : Nat) (ja_ : Nat) (jb_ : Nat) (sr_ : Nat) (br_ : Nat) (tr_ : Nat) (ch_ : Nat) (lf_ : Nat) (ri_ : Nat) (sh_ : Int32) (sp_ : Int32) (n_ : Nat) (ld_ : Nat) (rd_ : Nat) (e_ : Nat) (k_ : Nat) (A_ : Nat) (ul_ : Nat) (w_ : Int32) (fl_ : Nat → Int64) (fr_ : Nat → Int64) (sz : Nat) (hn : n_ ≤ 24) (hk : k_ ≤ 24) (he1 : 1 ≤ e_) (he : e_ < 2 ^ 36) (hu : ul_ ≤ 40) (hL : bigL fl_ ul_ A_) (hN : bigN ul_ A_) : Met l yX3_isNotAboveLeft wsX3_isNotAboveLeft rm_X3_isNotAboveLeft (zP D (ty3 cI cJ cD) [.ref o_, .long (lN e_), .int (nI k_)] sz [(o_, .inr (3, [.int (nI n_), .ref ro_, .ref ja_, .ref jb_, .ref sr_, .ref br_, .ref tr_, .ref ch_, .ref lf_, .ref ri_, .int sh_, .int sp_])), (lf_, .inr (0, [.ref ld_, .int (nI ul_)])), (ld_, .inl (cJ, 40, .inr (.inl fl_))), (ri_, .inr (0, [.ref rd_, .int w_])), (rd_, .inl (cJ, 40, .inr (.inl fr_)))] zT) (va_Qi (fun (r : Int32) (u : (Nat → Int64) × Nat) => r = nI (leI (e_ ^ n_ * 2 ^ k_) A_) ∧ leI (e_ ^ n_ * 2 ^ k_) A_ ≤ 1) (zB D (ty3 cI cJ cD) (fun (u : (Nat → Int64) × Nat) => [(o_, .inr (3, [.int (nI n_), .ref ro_, .ref ja_, .ref jb_, .ref sr_, .ref br_, .ref tr_, .ref ch_, .ref lf_, .ref ri_, .int sh_, .int sp_])), (lf_, .inr (0, [.ref ld_, .int (nI ul_)])), (ld_, .inl (cJ, 40, .inr (.inl fl_))), (ri_, .inr (0, [.ref rd_, .int (nI (u.2))])), (rd_, .inl (cJ, 40, .inr (.inl (u.1))))]) (va_A [(o_, .inr (3, [.int (nI n_), .ref ro_, .ref ja_, .ref jb_, .ref sr_, .ref br_, .ref tr_, .ref ch_, .ref lf_, .ref ri_, .int sh_, .int sp_])), (lf_, .inr (0, [.ref ld_, .int (nI ul_)])), (ld_, .inl (cJ, 40, .inr (.inl fl_))), (ri_, .inr (0, [.ref rd_, .int w_])), (rd_, .inl (cJ, 40, .inr (.inl fr_)))] sz)) (va_A [(o_, .inr (3, [.int (nI n_), .ref ro_, .ref ja_, .ref jb_, .ref sr_, .ref br_, .ref tr_, .ref ch_, .ref lf_, .ref ri_, .int sh_, .int sp_])), (lf_, .inr (0, [.ref ld_, .int (nI ul_)])), (ld_, .inl (cJ, 40, .inr (.inl fl_))), (ri_, .inr (0, [.ref rd_, .int w_])), (rd_, .inl (cJ, 40, .inr (.inl fr_)))] sz)) 0 0 (va_A [(o_, .inr (3, [.int (nI n_), .ref ro_, .ref ja_, .ref jb_, .ref sr_, .ref br_, .ref tr_, .ref ch_, .ref lf_, .ref ri_, .int sh_, .int sp_])), (lf_, .inr (0, [.ref ld_, .int (nI ul_)])), (ld_, .inl (cJ, 40, .inr (.inl fl_))), (ri_, .inr (0, [.ref rd_, .int w_])), (rd_, .inl (cJ, 40, .inr (.inl fr_)))] sz) := by
  refine zMet (Qf := fun A => va_Qi (fun (r : Int32) (u : (Nat → Int64) × Nat) => r = nI (leI (e_ ^ n_ * 2 ^ k_) A_) ∧ leI (e_ ^ n_ * 2 ^ k_) A_ ≤ 1) (zB D (ty3 cI cJ cD) (fun (u : (Nat → Int64) × Nat) => [(o_, .inr (3, [.int (nI n_), .ref ro_, .ref ja_, .ref jb_, .ref sr_, .ref br_, .ref tr_, .ref ch_, .ref lf_, .ref ri_, .int sh_, .int sp_])), (lf_, .inr (0, [.ref ld_, .int (nI ul_)])), (ld_, .inl (cJ, 40, .inr (.inl fl_))), (ri_, .inr (0, [.ref rd_, .int (nI (u.2))])), (rd_, .inl (cJ, 40, .inr (.inl (u.1))))]) A) A) (cc := cX3_isNotAboveLeft) (maxL := 4) (ret := (some .boolean)) (by decide) rfl (Nat.le_of_ble_eq_true rfl) ?_
  intro p e s m args below meth c A ls Q H hargs hQ hHe hx hb hr hml hown hts hlocks hin hP hK hD hA hS hE hAe hl
  have hl : lv_has ls 4 [(0, .ref o_), (1, .long (lN e_)), (3, .int (nI k_))] := hl
  refine lv_aload_n hx hb dX3_isNotAboveLeft_0 rfl (lv_at hl 0 rfl) ?_
  refine va_get (D := D) (ci := 3) (v := .ref ri_) (C := RX3) (T := TX3) (N := 12) hx hb hts nX3_isNotAboveLeft_3 hown hK hP 0 rfl rfl 9 (by decide) (zh (w := .fieldLink RX3 23 "FretRoots" "right" "LFretRoots$BigNumber;") hts 1 rfl) (fun _ h9 => h9) rfl dX3_isNotAboveLeft_1 ?_
  refine lv_lload_n hx hb dX3_isNotAboveLeft_4 rfl (lv_at hl 1 rfl) ?_
  refine lv_aload_n hx hb dX3_isNotAboveLeft_5 rfl (lv_at hl 0 rfl) ?_
  refine va_get (D := D) (ci := 3) (v := .int (nI n_)) (C := RX3) (T := TX3) (N := 12) hx hb hts nX3_isNotAboveLeft_3 hown hK hP 0 rfl rfl 0 (by decide) (zh (w := .fieldLink RX3 42 "FretRoots" "notes" "I") hts 2 rfl) (fun _ h9 => h9) rfl dX3_isNotAboveLeft_6 ?_
  refine zc_v (wc := [(ri_, .inr (0, [.ref rd_, .int w_])), (rd_, .inl (cJ, 40, .inr (.inl fr_)))]) (wr := [(o_, .inr (3, [.int (nI n_), .ref ro_, .ref ja_, .ref jb_, .ref sr_, .ref br_, .ref tr_, .ref ch_, .ref lf_, .ref ri_, .int sh_, .int sp_])), (lf_, .inr (0, [.ref ld_, .int (nI ul_)])), (ld_, .inl (cJ, 40, .inr (.inl fl_)))]) hP hD hS hA [3, 4] [0, 1, 2] rfl rfl (by decide) (by decide) (va_runV (As := [.long (lN e_), .int (nI n_)]) (rest := []) ⟨hx, hb, hml, hown, hts⟩ (ct_X0_setPower l D cI cJ cD ri_ rd_ e_ n_ w_ fr_ H.size he1 he (by omega) (f_bound0 he (by omega))) (cwV 2 hts gX3_isNotAboveLeft_X0_setPower rfl rfl rfl (by decide +kernel) ⟨Nat.le_of_ble_eq_true rfl, Nat.le_of_ble_eq_true rfl⟩) (zPreV (wc := [(ri_, .inr (0, [.ref rd_, .int w_])), (rd_, .inl (cJ, 40, .inr (.inl fr_)))]) hK (hP.sub [3, 4] rfl) (hD.sub [3, 4] (by decide) rfl) 0 0 rfl rfl zTb (fun _ _ _ => trivial)) rfl rfl hl.1 rfl (lv_room (Nat.le_of_ble_eq_true rfl)) dX3_isNotAboveLeft_9 ⟨Nat.le_of_ble_eq_true rfl, Nat.le_of_ble_eq_true rfl⟩) (fun u H locs hw hP hD hS => ?_)
  obtain ⟨f2_2, u2_3⟩ := u
  have hP : va_P D cl5 [(o_, .inr (3, [.int (nI n_), .ref ro_, .ref ja_, .ref jb_, .ref sr_, .ref br_, .ref tr_, .ref ch_, .ref lf_, .ref ri_, .int sh_, .int sp_])), (lf_, .inr (0, [.ref ld_, .int (nI ul_)])), (ld_, .inl (cJ, 40, .inr (.inl fl_))), (ri_, .inr (0, [.ref rd_, .int (nI u2_3)])), (rd_, .inl (cJ, 40, .inr (.inl f2_2)))] H := hP.sub [0, 1, 2, 3, 4] rfl
  have hD : va_D A [(o_, .inr (3, [.int (nI n_), .ref ro_, .ref ja_, .ref jb_, .ref sr_, .ref br_, .ref tr_, .ref ch_, .ref lf_, .ref ri_, .int sh_, .int sp_])), (lf_, .inr (0, [.ref ld_, .int (nI ul_)])), (ld_, .inl (cJ, 40, .inr (.inl fl_))), (ri_, .inr (0, [.ref rd_, .int (nI u2_3)])), (rd_, .inl (cJ, 40, .inr (.inl f2_2)))] := hD.sub [0, 1, 2, 3, 4] (by decide) rfl
  have hw : bigL f2_2 u2_3 (e_ ^ n_) ∧ bigN u2_3 (e_ ^ n_) ∧ u2_3 ≤ 40 := hw
  obtain ⟨hL_9, hN_9, hu_9⟩ := hw
  refine lv_aload_n hx hb dX3_isNotAboveLeft_12 rfl (lv_at hl 0 rfl) ?_
  refine va_get (D := D) (ci := 3) (v := .ref ri_) (C := RX3) (T := TX3) (N := 12) hx hb hts nX3_isNotAboveLeft_3 hown hK hP 0 rfl rfl 9 (by decide) (zh (w := .fieldLink RX3 23 "FretRoots" "right" "LFretRoots$BigNumber;") hts 1 rfl) (fun _ h9 => h9) rfl dX3_isNotAboveLeft_13 ?_
  refine lv_iload_n hx hb dX3_isNotAboveLeft_16 rfl (lv_at hl 2 rfl) ?_
  refine zc_v (wc := [(ri_, .inr (0, [.ref rd_, .int (nI u2_3)])), (rd_, .inl (cJ, 40, .inr (.inl f2_2)))]) (wr := [(o_, .inr (3, [.int (nI n_), .ref ro_, .ref ja_, .ref jb_, .ref sr_, .ref br_, .ref tr_, .ref ch_, .ref lf_, .ref ri_, .int sh_, .int sp_])), (lf_, .inr (0, [.ref ld_, .int (nI ul_)])), (ld_, .inl (cJ, 40, .inr (.inl fl_)))]) hP hD hS hA [3, 4] [0, 1, 2] rfl rfl (by decide) (by decide) (va_runV (As := [.int (nI k_)]) (rest := []) ⟨hx, hb, hml, hown, hts⟩ (ct_X0_doubleTimes l D cI cJ cD ri_ rd_ u2_3 (e_ ^ n_) k_ f2_2 H.size hu_9 hL_9 hN_9 (by omega) (f_bound he (by omega))) (cwV 1 hts gX3_isNotAboveLeft_X0_doubleTimes rfl rfl rfl (by decide +kernel) ⟨Nat.le_of_ble_eq_true rfl, Nat.le_of_ble_eq_true rfl⟩) (zPreV (wc := [(ri_, .inr (0, [.ref rd_, .int (nI u2_3)])), (rd_, .inl (cJ, 40, .inr (.inl f2_2)))]) hK (hP.sub [3, 4] rfl) (hD.sub [3, 4] (by decide) rfl) 0 0 rfl rfl zTb (fun _ _ _ => trivial)) rfl rfl hl.1 rfl (lv_room (Nat.le_of_ble_eq_true rfl)) dX3_isNotAboveLeft_17 ⟨Nat.le_of_ble_eq_true rfl, Nat.le_of_ble_eq_true rfl⟩) (fun u H locs hw hP hD hS => ?_)
  obtain ⟨f2_5, u2_6⟩ := u
  have hP : va_P D cl5 [(o_, .inr (3, [.int (nI n_), .ref ro_, .ref ja_, .ref jb_, .ref sr_, .ref br_, .ref tr_, .ref ch_, .ref lf_, .ref ri_, .int sh_, .int sp_])), (lf_, .inr (0, [.ref ld_, .int (nI ul_)])), (ld_, .inl (cJ, 40, .inr (.inl fl_))), (ri_, .inr (0, [.ref rd_, .int (nI u2_6)])), (rd_, .inl (cJ, 40, .inr (.inl f2_5)))] H := hP.sub [0, 1, 2, 3, 4] rfl
  have hD : va_D A [(o_, .inr (3, [.int (nI n_), .ref ro_, .ref ja_, .ref jb_, .ref sr_, .ref br_, .ref tr_, .ref ch_, .ref lf_, .ref ri_, .int sh_, .int sp_])), (lf_, .inr (0, [.ref ld_, .int (nI ul_)])), (ld_, .inl (cJ, 40, .inr (.inl fl_))), (ri_, .inr (0, [.ref rd_, .int (nI u2_6)])), (rd_, .inl (cJ, 40, .inr (.inl f2_5)))] := hD.sub [0, 1, 2, 3, 4] (by decide) rfl
  have hw : bigL f2_5 u2_6 ((e_ ^ n_) * 2 ^ k_) ∧ bigN u2_6 ((e_ ^ n_) * 2 ^ k_) ∧ u2_6 ≤ 40 := hw
  obtain ⟨hL_17, hN_17, hu_17⟩ := hw
  refine lv_aload_n hx hb dX3_isNotAboveLeft_20 rfl (lv_at hl 0 rfl) ?_
  refine va_get (D := D) (ci := 3) (v := .ref ri_) (C := RX3) (T := TX3) (N := 12) hx hb hts nX3_isNotAboveLeft_3 hown hK hP 0 rfl rfl 9 (by decide) (zh (w := .fieldLink RX3 23 "FretRoots" "right" "LFretRoots$BigNumber;") hts 1 rfl) (fun _ h9 => h9) rfl dX3_isNotAboveLeft_21 ?_
  refine lv_aload_n hx hb dX3_isNotAboveLeft_24 rfl (lv_at hl 0 rfl) ?_
  refine va_get (D := D) (ci := 3) (v := .ref lf_) (C := RX3) (T := TX3) (N := 12) hx hb hts nX3_isNotAboveLeft_3 hown hK hP 0 rfl rfl 8 (by decide) (zh (w := .fieldLink RX3 19 "FretRoots" "left" "LFretRoots$BigNumber;") hts 3 rfl) (fun _ h9 => h9) rfl dX3_isNotAboveLeft_25 ?_
  refine zc_i (wc := [(ri_, .inr (0, [.ref rd_, .int (nI u2_6)])), (rd_, .inl (cJ, 40, .inr (.inl f2_5))), (lf_, .inr (0, [.ref ld_, .int (nI ul_)])), (ld_, .inl (cJ, 40, .inr (.inl fl_)))]) (wr := [(o_, .inr (3, [.int (nI n_), .ref ro_, .ref ja_, .ref jb_, .ref sr_, .ref br_, .ref tr_, .ref ch_, .ref lf_, .ref ri_, .int sh_, .int sp_]))]) hP hD hS hA [3, 4, 1, 2] [0] rfl rfl (by decide) (by decide) (va_runV (As := [.ref lf_]) (rest := []) ⟨hx, hb, hml, hown, hts⟩ (ct_X0_compareWith l D cI cJ cD ri_ rd_ lf_ ld_ u2_6 ul_ (e_ ^ n_ * 2 ^ k_) A_ f2_5 fl_ H.size hu_17 hu hL_17 hN_17 hL hN) (cwV 1 hts gX3_isNotAboveLeft_X0_compareWith rfl rfl rfl (by decide +kernel) ⟨Nat.le_of_ble_eq_true rfl, Nat.le_of_ble_eq_true rfl⟩) (zPreV (wc := [(ri_, .inr (0, [.ref rd_, .int (nI u2_6)])), (rd_, .inl (cJ, 40, .inr (.inl f2_5))), (lf_, .inr (0, [.ref ld_, .int (nI ul_)])), (ld_, .inl (cJ, 40, .inr (.inl fl_)))]) hK (hP.sub [3, 4, 1, 2] rfl) (hD.sub [3, 4, 1, 2] (by decide) rfl) 0 0 rfl rfl zTb (fun _ _ _ => trivial)) rfl rfl hl.1 rfl (lv_room (Nat.le_of_ble_eq_true rfl)) dX3_isNotAboveLeft_28 ⟨Nat.le_of_ble_eq_true rfl, Nat.le_of_ble_eq_true rfl⟩) (fun r_7 u H locs hw hP hD hS => ?_)
  have hP : va_P D cl5 [(o_, .inr (3, [.int (nI n_), .ref ro_, .ref ja_, .ref jb_, .ref sr_, .ref br_, .ref tr_, .ref ch_, .ref lf_, .ref ri_, .int sh_, .int sp_])), (lf_, .inr (0, [.ref ld_, .int (nI ul_)])), (ld_, .inl (cJ, 40, .inr (.inl fl_))), (ri_, .inr (0, [.ref rd_, .int (nI u2_6)])), (rd_, .inl (cJ, 40, .inr (.inl f2_5)))] H := hP.sub [0, 3, 4, 1, 2] rfl
  have hD : va_D A [(o_, .inr (3, [.int (nI n_), .ref ro_, .ref ja_, .ref jb_, .ref sr_, .ref br_, .ref tr_, .ref ch_, .ref lf_, .ref ri_, .int sh_, .int sp_])), (lf_, .inr (0, [.ref ld_, .int (nI ul_)])), (ld_, .inl (cJ, 40, .inr (.inl fl_))), (ri_, .inr (0, [.ref rd_, .int (nI u2_6)])), (rd_, .inl (cJ, 40, .inr (.inl f2_5)))] := hD.sub [0, 3, 4, 1, 2] (by decide) rfl
  have hw : r_7 = cmpI (e_ ^ n_ * 2 ^ k_) A_ := hw
  subst hw
  refine lv_if_gt (tgt := 38) hx hb dX3_isNotAboveLeft_31 (by decide) (fun c_31 => ?_) (fun c_31 => ?_)
  · skip
    refine lv_iconst (v := nI 0) hx hb dX3_isNotAboveLeft_38 (by decide) ?_
    subst hQ
    exact ze_z hx hb hr hlocks (f2_5, u2_6) (by first | exact Or.inl rfl | exact Or.inr rfl | omega) (⟨by first | exact congrArg nI (leI_1 (cmpI_npos c_31)).symm | exact congrArg nI (leI_0 (cmpI_pos c_31)).symm, leI_le _ _⟩) hP hK hD hS dX3_isNotAboveLeft_39
  · skip
    refine lv_iconst (v := nI 1) hx hb dX3_isNotAboveLeft_34 (by decide) ?_
    refine lv_goto (tgt := 39) hx hb dX3_isNotAboveLeft_35 (by decide) ?_
    subst hQ
    exact ze_z hx hb hr hlocks (f2_5, u2_6) (by first | exact Or.inl rfl | exact Or.inr rfl | omega) (⟨by first | exact congrArg nI (leI_1 (cmpI_npos c_31)).symm | exact congrArg nI (leI_0 (cmpI_pos c_31)).symm, leI_le _ _⟩) hP hK hD hS dX3_isNotAboveLeft_39
theorem nX3_greatestEnd_3 : ∀ w ∈ wsX30, w ∈ wsX3_greatestEnd := by decide +kernel
abbrev rm_X3_greatestEnd : Room := { frames := 4, cells := 0, slots := 0, locals := 99 }
set_option maxHeartbeats 4000000 in
set_option maxRecDepth 100000 in
/-- greatestEnd -/
theorem ct_X3_greatestEnd (l : Launch) (D : va_G) (cI cJ cD : ClassId) (o_ : Nat) (ro_ : Nat) (ja_ : Nat) (jb_ : Nat) (sr_ : Nat) (br_ : Nat) (tr_ : Nat) (ch_ : Nat) (lf_ : Nat) (ri_ : Nat) (sh_ : Int32) (sp_ : Int32) (n_ : Nat) (ld_ : Nat) (rd_ : Nat) (wl_ : Int32) (wr_ : Int32) (fl_ : Nat → Int64) (fr_ : Nat → Int64) (r_ : Nat → UInt64) (k_ : Nat) (a_ : Nat) (sz : Nat) (hn1 : 1 ≤ n_) (hn : n_ ≤ 24) (hk : k_ < n_) (ha1 : 1 ≤ a_) (ha : a_ ≤ 65536000000) : MetD lw_cs l yX3_greatestEnd wsX3_greatestEnd rm_X3_greatestEnd (zP D (ty3 cI cJ cD) [.ref o_, .long (lN a_), .int (nI k_)] sz [(o_, .inr (3, [.int (nI n_), .ref ro_, .ref ja_, .ref jb_, .ref sr_, .ref br_, .ref tr_, .ref ch_, .ref lf_, .ref ri_, .int sh_, .int sp_])), (ro_, .inl (cD, n_, .inr (.inr (.inr (.inl r_))))), (lf_, .inr (0, [.ref ld_, .int wl_])), (ld_, .inl (cJ, 40, .inr (.inl fl_))), (ri_, .inr (0, [.ref rd_, .int wr_])), (rd_, .inl (cJ, 40, .inr (.inl fr_)))] zT) (va_Ql (fun (r : Int64) (u : Nat × Int32 × (Nat → Int64) × Int32 × (Nat → Int64)) => r = lN (u.1) ∧ rootI n_ k_ a_ (u.1)) (zB D (ty3 cI cJ cD) (fun (u : Nat × Int32 × (Nat → Int64) × Int32 × (Nat → Int64)) => [(o_, .inr (3, [.int (nI n_), .ref ro_, .ref ja_, .ref jb_, .ref sr_, .ref br_, .ref tr_, .ref ch_, .ref lf_, .ref ri_, .int sh_, .int sp_])), (ro_, .inl (cD, n_, .inr (.inr (.inr (.inl r_))))), (lf_, .inr (0, [.ref ld_, .int (u.2.1)])), (ld_, .inl (cJ, 40, .inr (.inl (u.2.2.1)))), (ri_, .inr (0, [.ref rd_, .int (u.2.2.2.1)])), (rd_, .inl (cJ, 40, .inr (.inl (u.2.2.2.2))))]) (va_A [(o_, .inr (3, [.int (nI n_), .ref ro_, .ref ja_, .ref jb_, .ref sr_, .ref br_, .ref tr_, .ref ch_, .ref lf_, .ref ri_, .int sh_, .int sp_])), (ro_, .inl (cD, n_, .inr (.inr (.inr (.inl r_))))), (lf_, .inr (0, [.ref ld_, .int wl_])), (ld_, .inl (cJ, 40, .inr (.inl fl_))), (ri_, .inr (0, [.ref rd_, .int wr_])), (rd_, .inl (cJ, 40, .inr (.inl fr_)))] sz)) (va_A [(o_, .inr (3, [.int (nI n_), .ref ro_, .ref ja_, .ref jb_, .ref sr_, .ref br_, .ref tr_, .ref ch_, .ref lf_, .ref ri_, .int sh_, .int sp_])), (ro_, .inl (cD, n_, .inr (.inr (.inr (.inl r_))))), (lf_, .inr (0, [.ref ld_, .int wl_])), (ld_, .inl (cJ, 40, .inr (.inl fl_))), (ri_, .inr (0, [.ref rd_, .int wr_])), (rd_, .inl (cJ, 40, .inr (.inl fr_)))] sz)) 0 0 (va_A [(o_, .inr (3, [.int (nI n_), .ref ro_, .ref ja_, .ref jb_, .ref sr_, .ref br_, .ref tr_, .ref ch_, .ref lf_, .ref ri_, .int sh_, .int sp_])), (ro_, .inl (cD, n_, .inr (.inr (.inr (.inl r_))))), (lf_, .inr (0, [.ref ld_, .int wl_])), (ld_, .inl (cJ, 40, .inr (.inl fl_))), (ri_, .inr (0, [.ref rd_, .int wr_])), (rd_, .inl (cJ, 40, .inr (.inl fr_)))] sz) := by
  refine zMetD (Qf := fun A => va_Ql (fun (r : Int64) (u : Nat × Int32 × (Nat → Int64) × Int32 × (Nat → Int64)) => r = lN (u.1) ∧ rootI n_ k_ a_ (u.1)) (zB D (ty3 cI cJ cD) (fun (u : Nat × Int32 × (Nat → Int64) × Int32 × (Nat → Int64)) => [(o_, .inr (3, [.int (nI n_), .ref ro_, .ref ja_, .ref jb_, .ref sr_, .ref br_, .ref tr_, .ref ch_, .ref lf_, .ref ri_, .int sh_, .int sp_])), (ro_, .inl (cD, n_, .inr (.inr (.inr (.inl r_))))), (lf_, .inr (0, [.ref ld_, .int (u.2.1)])), (ld_, .inl (cJ, 40, .inr (.inl (u.2.2.1)))), (ri_, .inr (0, [.ref rd_, .int (u.2.2.2.1)])), (rd_, .inl (cJ, 40, .inr (.inl (u.2.2.2.2))))]) A) A) (cc := cX3_greatestEnd) (maxL := 13) (ret := (some .long)) (by decide) rfl (Nat.le_of_ble_eq_true rfl) ?_
  intro p e s m args below meth c A ls Q H d hargs hQ hHe hx hb hr hml hown hts hlocks hin hP hK hD hA hS hE hAe hl hd
  have hl : lv_has ls 13 [(0, .ref o_), (1, .long (lN a_)), (3, .int (nI k_))] := hl
  have hts0 := hts
  have hK0 := hK
  have hts := dr_words hts0 d
  have hK := zK_dr (d := d) hK0
  have lp_51 : ∀ (k9_ : Nat) (i : Nat) (lo : Nat) (hi : Nat) (x : Int64) (ul : Nat) (fl : Nat → Int64) (wr : Int32) (fr : Nat → Int64) (H : Heap) (locs : List Loc) (ls : Array Slot), 64 - i < k9_ → ∀ d : Drawn, s.drawn.sameBut d lw_cs → i ≤ 64 → lo < hi → hi ≤ a_ + 1 → lo ^ n_ * 2 ^ k_ ≤ a_ ^ n_ → a_ ^ n_ < hi ^ n_ * 2 ^ k_ → (hi - lo - 1) * 2 ^ (i - 2) ≤ 2 ^ 37 → bigL fl ul (a_ ^ n_) → bigN ul (a_ ^ n_) → ul ≤ 40 →  va_P D cl5 [(o_, .inr (3, [.int (nI n_), .ref ro_, .ref ja_, .ref jb_, .ref sr_, .ref br_, .ref tr_, .ref ch_, .ref lf_, .ref ri_, .int sh_, .int sp_])), (ro_, .inl (cD, n_, .inr (.inr (.inr (.inl r_))))), (lf_, .inr (0, [.ref ld_, .int (nI ul)])), (ld_, .inl (cJ, 40, .inr (.inl fl))), (ri_, .inr (0, [.ref rd_, .int wr])), (rd_, .inl (cJ, 40, .inr (.inl fr)))] H → va_D A [(o_, .inr (3, [.int (nI n_), .ref ro_, .ref ja_, .ref jb_, .ref sr_, .ref br_, .ref tr_, .ref ch_, .ref lf_, .ref ri_, .int sh_, .int sp_])), (ro_, .inl (cD, n_, .inr (.inr (.inr (.inl r_))))), (lf_, .inr (0, [.ref ld_, .int (nI ul)])), (ld_, .inl (cJ, 40, .inr (.inl fl))), (ri_, .inr (0, [.ref rd_, .int wr])), (rd_, .inl (cJ, 40, .inr (.inl fr)))] → va_S A s.heap H locs → lv_has ls 13 [(0, .ref o_), (3, .int (nI k_)), (4, .long x), (6, .long (lN lo)), (8, .long (lN hi)), (10, .int (nI i))] → W p l e rm_X3_greatestEnd (s.setDrawn d) m args below meth c H locs 0 0 Q (F0 m 51 ls []) := by
    intro k9_
    induction k9_ with
    | zero => intro i lo hi x ul fl wr fr H locs ls hm; exact absurd hm (Nat.not_lt_zero _)
    | succ k9_ ih =>
      intro i lo hi x ul fl wr fr H locs ls hm d hd h0 h1 h2 h3 h4 hm9 hl1 hl2 hl3 hP hD hS hl
      have hts := dr_words hts0 d
      have hK := zK_dr (d := d) hK0
      refine lv_iload hx hb dX3_greatestEnd_51 (lv_at hl 5 rfl) ?_
      refine lv_bipush (v := nI 64) hx hb dX3_greatestEnd_53 (by decide) ?_
      refine lv_icmp_ge (tgt := 108) hx hb dX3_greatestEnd_55 (by decide) (fun c_55 => ?_) (fun c_55 => ?_)
      · skip
        have c_55 := zji_le (a := 64) (b := i) (by omega) (by omega) c_55
        have hi64 : i = 64 := by omega
        subst hi64
        have hz := ge_end hm9
        refine lv_lload hx hb dX3_greatestEnd_108 (lv_at hl 3 rfl) ?_
        subst hQ
        refine W.endD hd ?_
        exact ze_l hx hb hr hlocks (lo, nI ul, fl, wr, fr) (⟨rfl, ⟨h3, by rw [show lo + 1 = hi by omega]; exact h4⟩⟩) hP hK hD hS dX3_greatestEnd_110
      · skip
        have c_55 := zji_nle (a := 64) (b := i) (by omega) (by omega) c_55
        refine lv_lload hx hb dX3_greatestEnd_58 (lv_at hl 4 rfl) ?_
        refine lv_lload hx hb dX3_greatestEnd_60 (lv_at hl 3 rfl) ?_
        refine lv_lsub hx hb dX3_greatestEnd_62 ?_
        refine zl_ (y := lN (hi - lo)) (lN_sub (by omega)) ?_
        refine lv_lconst (v := lN 1) hx hb dX3_greatestEnd_63 rfl ?_
        refine zl_le (tgt := 108) hx hb dX3_greatestEnd_64 dX3_greatestEnd_65 (by decide) (fun c_65 => ?_) (fun c_65 => ?_)
        · skip
          have c_65 := zjl_le (a := hi - lo) (b := 1) (by omega) (by omega) c_65
          have hz := c_65
          refine lv_lload hx hb dX3_greatestEnd_108 (lv_at hl 3 rfl) ?_
          subst hQ
          refine W.endD hd ?_
          exact ze_l hx hb hr hlocks (lo, nI ul, fl, wr, fr) (⟨rfl, ⟨h3, by rw [show lo + 1 = hi by omega]; exact h4⟩⟩) hP hK hD hS dX3_greatestEnd_110
        · skip
          have c_65 := zjl_nle (a := hi - lo) (b := 1) (by omega) (by omega) c_65
          refine lv_iload hx hb dX3_greatestEnd_68 (lv_at hl 5 rfl) ?_
          refine lv_lload hx hb dX3_greatestEnd_70 (lv_at hl 2 rfl) ?_
          refine lv_lload hx hb dX3_greatestEnd_72 (lv_at hl 3 rfl) ?_
          refine lv_lload hx hb dX3_greatestEnd_74 (lv_at hl 4 rfl) ?_
          refine zc_l (wc := []) (wr := [(o_, .inr (3, [.int (nI n_), .ref ro_, .ref ja_, .ref jb_, .ref sr_, .ref br_, .ref tr_, .ref ch_, .ref lf_, .ref ri_, .int sh_, .int sp_])), (ro_, .inl (cD, n_, .inr (.inr (.inr (.inl r_))))), (lf_, .inr (0, [.ref ld_, .int (nI ul)])), (ld_, .inl (cJ, 40, .inr (.inl fl))), (ri_, .inr (0, [.ref rd_, .int wr])), (rd_, .inl (cJ, 40, .inr (.inl fr)))]) hP hD hS hA [] [0, 1, 2, 3, 4, 5] rfl rfl (by decide) (by decide) (va_runS (As := [.int (nI i), .long x, .long (lN lo), .long (lN hi)]) (rest := []) ⟨hx, hb, hml, hown, hts⟩ (ct_X3_nextProbe l D cI cJ cD i lo hi x H.size (by omega) (by omega) (by omega)) (va_cwS 4 hts gX3_greatestEnd_X3_nextProbe rfl rfl rfl (by decide +kernel) ⟨Nat.le_of_ble_eq_true rfl, Nat.le_of_ble_eq_true rfl⟩) (zPreS (wc := []) hK (hP.sub [] rfl) (hD.sub [] (by decide) rfl) zTb (fun _ _ _ => trivial)) rfl rfl hl.1 rfl (lv_room (Nat.le_of_ble_eq_true rfl)) dX3_greatestEnd_76 ⟨Nat.le_of_ble_eq_true rfl, Nat.le_of_ble_eq_true rfl⟩) (fun r_1 u H locs hw hP hD hS => ?_)
          obtain ⟨q_2, rfl⟩ : ∃ z, z = u := ⟨_, rfl⟩
          have hP : va_P D cl5 [(o_, .inr (3, [.int (nI n_), .ref ro_, .ref ja_, .ref jb_, .ref sr_, .ref br_, .ref tr_, .ref ch_, .ref lf_, .ref ri_, .int sh_, .int sp_])), (ro_, .inl (cD, n_, .inr (.inr (.inr (.inl r_))))), (lf_, .inr (0, [.ref ld_, .int (nI ul)])), (ld_, .inl (cJ, 40, .inr (.inl fl))), (ri_, .inr (0, [.ref rd_, .int wr])), (rd_, .inl (cJ, 40, .inr (.inl fr)))] H := hP.sub [0, 1, 2, 3, 4, 5] rfl
          have hD : va_D A [(o_, .inr (3, [.int (nI n_), .ref ro_, .ref ja_, .ref jb_, .ref sr_, .ref br_, .ref tr_, .ref ch_, .ref lf_, .ref ri_, .int sh_, .int sp_])), (ro_, .inl (cD, n_, .inr (.inr (.inr (.inl r_))))), (lf_, .inr (0, [.ref ld_, .int (nI ul)])), (ld_, .inl (cJ, 40, .inr (.inl fl))), (ri_, .inr (0, [.ref rd_, .int wr])), (rd_, .inl (cJ, 40, .inr (.inl fr)))] := hD.sub [0, 1, 2, 3, 4, 5] (by decide) rfl
          have hw : r_1 = lN q_2 ∧ lo < q_2 ∧ q_2 < hi ∧ (2 ≤ i → q_2 = lo + (hi - lo) / 2) := hw
          obtain ⟨rfl, hl_76, hh_76, hm_76⟩ := hw
          refine lv_lstore (lv' := [(11, .long (lN q_2)), (0, .ref o_), (3, .int (nI k_)), (4, .long x), (6, .long (lN lo)), (8, .long (lN hi)), (10, .int (nI i))]) hx hb dX3_greatestEnd_79 hl (by decide) rfl (fun ls hl => ?_)
          refine lv_aload_n hx hb dX3_greatestEnd_81 rfl (lv_at hl 1 rfl) ?_
          refine lv_lload hx hb dX3_greatestEnd_82 (lv_at hl 0 rfl) ?_
          refine lv_iload_n hx hb dX3_greatestEnd_84 rfl (lv_at hl 2 rfl) ?_
          refine zc_i (wc := [(o_, .inr (3, [.int (nI n_), .ref ro_, .ref ja_, .ref jb_, .ref sr_, .ref br_, .ref tr_, .ref ch_, .ref lf_, .ref ri_, .int sh_, .int sp_])), (lf_, .inr (0, [.ref ld_, .int (nI ul)])), (ld_, .inl (cJ, 40, .inr (.inl fl))), (ri_, .inr (0, [.ref rd_, .int wr])), (rd_, .inl (cJ, 40, .inr (.inl fr)))]) (wr := [(ro_, .inl (cD, n_, .inr (.inr (.inr (.inl r_)))))]) hP hD hS hA [0, 2, 3, 4, 5] [1] rfl rfl (by decide) (by decide) (va_runV (As := [.long (lN q_2), .int (nI k_)]) (rest := []) ⟨hx, hb, hml, hown, hts⟩ (ct_X3_isNotAboveLeft l D cI cJ cD o_ ro_ ja_ jb_ sr_ br_ tr_ ch_ lf_ ri_ sh_ sp_ n_ ld_ rd_ q_2 k_ (a_ ^ n_) ul wr fl fr H.size hn (by omega) (by omega) (by omega) hl3 hl1 hl2) (cwV 2 hts gX3_greatestEnd_X3_isNotAboveLeft rfl rfl rfl (by decide +kernel) ⟨Nat.le_of_ble_eq_true rfl, Nat.le_of_ble_eq_true rfl⟩) (zPreV (wc := [(o_, .inr (3, [.int (nI n_), .ref ro_, .ref ja_, .ref jb_, .ref sr_, .ref br_, .ref tr_, .ref ch_, .ref lf_, .ref ri_, .int sh_, .int sp_])), (lf_, .inr (0, [.ref ld_, .int (nI ul)])), (ld_, .inl (cJ, 40, .inr (.inl fl))), (ri_, .inr (0, [.ref rd_, .int wr])), (rd_, .inl (cJ, 40, .inr (.inl fr)))]) hK (hP.sub [0, 2, 3, 4, 5] rfl) (hD.sub [0, 2, 3, 4, 5] (by decide) rfl) 3 0 rfl rfl zTb (fun _ _ _ => trivial)) rfl rfl hl.1 rfl (lv_room (Nat.le_of_ble_eq_true rfl)) dX3_greatestEnd_85 ⟨Nat.le_of_ble_eq_true rfl, Nat.le_of_ble_eq_true rfl⟩) (fun r_3 u H locs hw hP hD hS => ?_)
          obtain ⟨f2_4, u2_5⟩ := u
          have hP : va_P D cl5 [(o_, .inr (3, [.int (nI n_), .ref ro_, .ref ja_, .ref jb_, .ref sr_, .ref br_, .ref tr_, .ref ch_, .ref lf_, .ref ri_, .int sh_, .int sp_])), (ro_, .inl (cD, n_, .inr (.inr (.inr (.inl r_))))), (lf_, .inr (0, [.ref ld_, .int (nI ul)])), (ld_, .inl (cJ, 40, .inr (.inl fl))), (ri_, .inr (0, [.ref rd_, .int (nI u2_5)])), (rd_, .inl (cJ, 40, .inr (.inl f2_4)))] H := hP.sub [1, 0, 2, 3, 4, 5] rfl
          have hD : va_D A [(o_, .inr (3, [.int (nI n_), .ref ro_, .ref ja_, .ref jb_, .ref sr_, .ref br_, .ref tr_, .ref ch_, .ref lf_, .ref ri_, .int sh_, .int sp_])), (ro_, .inl (cD, n_, .inr (.inr (.inr (.inl r_))))), (lf_, .inr (0, [.ref ld_, .int (nI ul)])), (ld_, .inl (cJ, 40, .inr (.inl fl))), (ri_, .inr (0, [.ref rd_, .int (nI u2_5)])), (rd_, .inl (cJ, 40, .inr (.inl f2_4)))] := hD.sub [1, 0, 2, 3, 4, 5] (by decide) rfl
          have hw : r_3 = nI (leI (q_2 ^ n_ * 2 ^ k_) (a_ ^ n_)) ∧ leI (q_2 ^ n_ * 2 ^ k_) (a_ ^ n_) ≤ 1 := hw
          obtain ⟨rfl, hb_85⟩ := hw
          have hgs := ge_step hm9 hl_76 hh_76 hm_76
          refine lv_if_eq (tgt := 98) hx hb dX3_greatestEnd_88 (by decide) (fun c_88 => ?_) (fun c_88 => ?_)
          · skip
            have c_88 := zji_eq (a := leI (q_2 ^ n_ * 2 ^ k_) (a_ ^ n_)) (b := 0) (by omega) (by omega) c_88
            refine lv_lload hx hb dX3_greatestEnd_98 (lv_at hl 0 rfl) ?_
            refine lv_lstore (lv' := [(8, .long (lN q_2)), (11, .long (lN q_2)), (0, .ref o_), (3, .int (nI k_)), (4, .long x), (6, .long (lN lo)), (10, .int (nI i))]) hx hb dX3_greatestEnd_100 hl (by decide) rfl (fun ls hl => ?_)
            refine lv_iinc (v := nI (i + 1)) (lv' := [(10, .int (nI (i + 1))), (8, .long (lN q_2)), (11, .long (lN q_2)), (0, .ref o_), (3, .int (nI k_)), (4, .long x), (6, .long (lN lo))]) hx hb dX3_greatestEnd_102 hl (k := 6) rfl (z_inc i 1) (by decide) rfl (fun ls hl => ?_)
            refine lv_goto (tgt := 51) hx hb dX3_greatestEnd_105 (by decide) ?_
            exact ih (i + 1) lo q_2 x ul fl (nI u2_5) f2_4 _ _ _ (by omega) _ hd (by omega) (by omega) (by omega) (by first | exact h3 | exact leI_of c_88) (by first | exact h4 | exact leI_nof c_88) (by first | exact hgs.1 | exact hgs.2) hl1 hl2 hl3 hP hD hS (lv_sub hl [3, 4, 5, 6, 1, 0] rfl)
          · skip
            have c_88 := zji_ne (a := leI (q_2 ^ n_ * 2 ^ k_) (a_ ^ n_)) (b := 0) (by omega) (by omega) c_88
            refine lv_lload hx hb dX3_greatestEnd_91 (lv_at hl 0 rfl) ?_
            refine lv_lstore (lv' := [(6, .long (lN q_2)), (11, .long (lN q_2)), (0, .ref o_), (3, .int (nI k_)), (4, .long x), (8, .long (lN hi)), (10, .int (nI i))]) hx hb dX3_greatestEnd_93 hl (by decide) rfl (fun ls hl => ?_)
            refine lv_goto (tgt := 102) hx hb dX3_greatestEnd_95 (by decide) ?_
            refine lv_iinc (v := nI (i + 1)) (lv' := [(10, .int (nI (i + 1))), (6, .long (lN q_2)), (11, .long (lN q_2)), (0, .ref o_), (3, .int (nI k_)), (4, .long x), (8, .long (lN hi))]) hx hb dX3_greatestEnd_102 hl (k := 6) rfl (z_inc i 1) (by decide) rfl (fun ls hl => ?_)
            refine lv_goto (tgt := 51) hx hb dX3_greatestEnd_105 (by decide) ?_
            exact ih (i + 1) q_2 hi x ul fl (nI u2_5) f2_4 _ _ _ (by omega) _ hd (by omega) (by omega) (by omega) (by first | exact h3 | exact leI_of c_88) (by first | exact h4 | exact leI_nof c_88) (by first | exact hgs.1 | exact hgs.2) hl1 hl2 hl3 hP hD hS (lv_sub hl [3, 4, 5, 1, 6, 0] rfl)
  refine lv_iload_n hx hb dX3_greatestEnd_0 rfl (lv_at hl 2 rfl) ?_
  refine lv_iconst (v := nI 1) hx hb dX3_greatestEnd_1 (by decide) ?_
  refine lv_icmp_lt (tgt := 14) hx hb dX3_greatestEnd_2 (by decide) (fun c_2 => ?_) (fun c_2 => ?_)
  · skip
    have c_2 := zji_lt (a := k_) (b := 1) (by omega) (by omega) c_2
    refine lv_lload_n hx hb dX3_greatestEnd_14 rfl (lv_at hl 1 rfl) ?_
    subst hQ
    refine W.endD hd ?_
    exact ze_l hx hb hr hlocks (a_, wl_, fl_, wr_, fr_) (⟨rfl, by rw [show k_ = 0 by omega]; exact root_self hn1⟩) hP hK hD hS dX3_greatestEnd_15
  · skip
    have c_2 := zji_nlt (a := k_) (b := 1) (by omega) (by omega) c_2
    refine lv_iload_n hx hb dX3_greatestEnd_5 rfl (lv_at hl 2 rfl) ?_
    refine lv_aload_n hx hb dX3_greatestEnd_6 rfl (lv_at hl 0 rfl) ?_
    refine va_get (D := D) (ci := 3) (v := .ref ro_) (C := RX3) (T := TX3) (N := 12) hx hb hts nX3_greatestEnd_3 hown hK hP 0 rfl rfl 1 (by decide) (zh (w := .fieldLink RX3 49 "FretRoots" "roots" "[D") hts 1 rfl) (fun _ h9 => h9) rfl dX3_greatestEnd_7 ?_
    refine va_alen hx hb hK hP 1 2 rfl (ty := .double) rfl (v := nI n_) rfl dX3_greatestEnd_10 ?_
    refine lv_icmp_lt (tgt := 16) hx hb dX3_greatestEnd_11 (by decide) (fun c_11 => ?_) (fun c_11 => ?_)
    · skip
      have c_11 := zji_lt (a := k_) (b := n_) (by omega) (by omega) c_11
      refine lv_lload_n hx hb dX3_greatestEnd_16 rfl (lv_at hl 1 rfl) ?_
      refine lv_l2d hx hb dX3_greatestEnd_17 ?_
      refine lv_aload_n hx hb dX3_greatestEnd_18 rfl (lv_at hl 0 rfl) ?_
      refine va_get (D := D) (ci := 3) (v := .ref ro_) (C := RX3) (T := TX3) (N := 12) hx hb hts nX3_greatestEnd_3 hown hK hP 0 rfl rfl 1 (by decide) (zh (w := .fieldLink RX3 49 "FretRoots" "roots" "[D") hts 1 rfl) (fun _ h9 => h9) rfl dX3_greatestEnd_19 ?_
      refine lv_iload_n hx hb dX3_greatestEnd_22 rfl (lv_at hl 2 rfl) ?_
      refine z_dald (j := k_) hx hb hK hP 1 2 rfl rfl (by omega) (by omega) dX3_greatestEnd_23 ?_
      refine lv_ddiv_any hd lw_bits hx hb dX3_greatestEnd_24 (fun x_6 d al_6 hd => ?_)
      have hts := dr_words hts0 d
      have hK := zK_dr (d := d) hK0
      refine lv_d2l hx hb dX3_greatestEnd_25 ?_
      refine lv_lstore (lv' := [(4, .long (FP.d2l x_6)), (0, .ref o_), (1, .long (lN a_)), (3, .int (nI k_))]) hx hb dX3_greatestEnd_26 hl (by decide) rfl (fun ls hl => ?_)
      refine lv_aload_n hx hb dX3_greatestEnd_28 rfl (lv_at hl 1 rfl) ?_
      refine va_get (D := D) (ci := 3) (v := .ref lf_) (C := RX3) (T := TX3) (N := 12) hx hb hts nX3_greatestEnd_3 hown hK hP 0 rfl rfl 8 (by decide) (zh (w := .fieldLink RX3 19 "FretRoots" "left" "LFretRoots$BigNumber;") hts 2 rfl) (fun _ h9 => h9) rfl dX3_greatestEnd_29 ?_
      refine lv_lload_n hx hb dX3_greatestEnd_32 rfl (lv_at hl 2 rfl) ?_
      refine lv_aload_n hx hb dX3_greatestEnd_33 rfl (lv_at hl 1 rfl) ?_
      refine va_get (D := D) (ci := 3) (v := .int (nI n_)) (C := RX3) (T := TX3) (N := 12) hx hb hts nX3_greatestEnd_3 hown hK hP 0 rfl rfl 0 (by decide) (zh (w := .fieldLink RX3 42 "FretRoots" "notes" "I") hts 3 rfl) (fun _ h9 => h9) rfl dX3_greatestEnd_34 ?_
      refine zc_v (wc := [(lf_, .inr (0, [.ref ld_, .int wl_])), (ld_, .inl (cJ, 40, .inr (.inl fl_)))]) (wr := [(o_, .inr (3, [.int (nI n_), .ref ro_, .ref ja_, .ref jb_, .ref sr_, .ref br_, .ref tr_, .ref ch_, .ref lf_, .ref ri_, .int sh_, .int sp_])), (ro_, .inl (cD, n_, .inr (.inr (.inr (.inl r_))))), (ri_, .inr (0, [.ref rd_, .int wr_])), (rd_, .inl (cJ, 40, .inr (.inl fr_)))]) hP hD hS hA [2, 3] [0, 1, 4, 5] rfl rfl (by decide) (by decide) (va_runV (As := [.long (lN a_), .int (nI n_)]) (rest := []) ⟨hx, hb, hml, hown, hts⟩ (ct_X0_setPower l D cI cJ cD lf_ ld_ a_ n_ wl_ fl_ H.size ha1 (by omega) (by omega) (f_bound0 (B := 36) (by omega) (by omega))) (cwV 2 hts gX3_greatestEnd_X0_setPower rfl rfl rfl (by decide +kernel) ⟨Nat.le_of_ble_eq_true rfl, Nat.le_of_ble_eq_true rfl⟩) (zPreV (wc := [(lf_, .inr (0, [.ref ld_, .int wl_])), (ld_, .inl (cJ, 40, .inr (.inl fl_)))]) hK (hP.sub [2, 3] rfl) (hD.sub [2, 3] (by decide) rfl) 0 0 rfl rfl zTb (fun _ _ _ => trivial)) rfl rfl hl.1 rfl (lv_room (Nat.le_of_ble_eq_true rfl)) dX3_greatestEnd_37 ⟨Nat.le_of_ble_eq_true rfl, Nat.le_of_ble_eq_true rfl⟩) (fun u H locs hw hP hD hS => ?_)
      obtain ⟨f2_8, u2_9⟩ := u
      have hP : va_P D cl5 [(o_, .inr (3, [.int (nI n_), .ref ro_, .ref ja_, .ref jb_, .ref sr_, .ref br_, .ref tr_, .ref ch_, .ref lf_, .ref ri_, .int sh_, .int sp_])), (ro_, .inl (cD, n_, .inr (.inr (.inr (.inl r_))))), (lf_, .inr (0, [.ref ld_, .int (nI u2_9)])), (ld_, .inl (cJ, 40, .inr (.inl f2_8))), (ri_, .inr (0, [.ref rd_, .int wr_])), (rd_, .inl (cJ, 40, .inr (.inl fr_)))] H := hP.sub [0, 1, 4, 5, 2, 3] rfl
      have hD : va_D A [(o_, .inr (3, [.int (nI n_), .ref ro_, .ref ja_, .ref jb_, .ref sr_, .ref br_, .ref tr_, .ref ch_, .ref lf_, .ref ri_, .int sh_, .int sp_])), (ro_, .inl (cD, n_, .inr (.inr (.inr (.inl r_))))), (lf_, .inr (0, [.ref ld_, .int (nI u2_9)])), (ld_, .inl (cJ, 40, .inr (.inl f2_8))), (ri_, .inr (0, [.ref rd_, .int wr_])), (rd_, .inl (cJ, 40, .inr (.inl fr_)))] := hD.sub [0, 1, 4, 5, 2, 3] (by decide) rfl
      have hw : bigL f2_8 u2_9 (a_ ^ n_) ∧ bigN u2_9 (a_ ^ n_) ∧ u2_9 ≤ 40 := hw
      obtain ⟨hL_37, hN_37, hu_37⟩ := hw
      refine lv_lconst (v := lN 0) hx hb dX3_greatestEnd_40 rfl ?_
      refine lv_lstore (lv' := [(6, .long (lN 0)), (4, .long (FP.d2l x_6)), (0, .ref o_), (1, .long (lN a_)), (3, .int (nI k_))]) hx hb dX3_greatestEnd_41 hl (by decide) rfl (fun ls hl => ?_)
      refine lv_lload_n hx hb dX3_greatestEnd_43 rfl (lv_at hl 3 rfl) ?_
      refine lv_lconst (v := lN 1) hx hb dX3_greatestEnd_44 rfl ?_
      refine lv_ladd hx hb dX3_greatestEnd_45 ?_
      refine zl_ (y := lN (a_ + 1)) (lN_add a_ 1) ?_
      refine lv_lstore (lv' := [(8, .long (lN (a_ + 1))), (6, .long (lN 0)), (4, .long (FP.d2l x_6)), (0, .ref o_), (1, .long (lN a_)), (3, .int (nI k_))]) hx hb dX3_greatestEnd_46 hl (by decide) rfl (fun ls hl => ?_)
      refine lv_iconst (v := nI 0) hx hb dX3_greatestEnd_48 (by decide) ?_
      refine lv_istore (lv' := [(10, .int (nI 0)), (8, .long (lN (a_ + 1))), (6, .long (lN 0)), (4, .long (FP.d2l x_6)), (0, .ref o_), (1, .long (lN a_)), (3, .int (nI k_))]) hx hb dX3_greatestEnd_49 hl (by decide) rfl (fun ls hl => ?_)
      exact lp_51 ((64 - 0) + 1) 0 0 (a_ + 1) (FP.d2l x_6) u2_9 f2_8 wr_ fr_ _ _ _ (Nat.lt_succ_self _) _ hd (Nat.zero_le _) (by omega) (by omega) (root_0 hn1) (root_top hn1) (by omega) hL_37 hN_37 hu_37 hP hD hS (lv_sub hl [4, 6, 3, 2, 1, 0] rfl)
    · skip
      have c_11 := zji_nlt (a := k_) (b := n_) (by omega) (by omega) c_11
      omega
theorem nX3_octaveOf_3 : ∀ w ∈ wsX30, w ∈ wsX3_octaveOf := by decide +kernel
abbrev rm_X3_octaveOf : Room := { frames := 0, cells := 0, slots := 0, locals := 0 }
set_option maxHeartbeats 4000000 in
set_option maxRecDepth 100000 in
/-- octaveOf -/
theorem ct_X3_octaveOf (l : Launch) (D : va_G) (cI cJ cD : ClassId) (o_ : Nat) (ro_ : Nat) (ja_ : Nat) (jb_ : Nat) (sr_ : Nat) (br_ : Nat) (tr_ : Nat) (ch_ : Nat) (lf_ : Nat) (ri_ : Nat) (sh_ : Int32) (sp_ : Int32) (n_ : Nat) (k_ : Nat) (sz : Nat) (hn : n_ ≤ 24) (hk : k_ ≤ 48) : Met l yX3_octaveOf wsX3_octaveOf rm_X3_octaveOf (zP D (ty3 cI cJ cD) [.ref o_, .int (nI k_)] sz [(o_, .inr (3, [.int (nI n_), .ref ro_, .ref ja_, .ref jb_, .ref sr_, .ref br_, .ref tr_, .ref ch_, .ref lf_, .ref ri_, .int sh_, .int sp_]))] zT) (va_Qi (fun (r : Int32) (u : Unit) => r = nI (octI k_ n_) ∧ octI k_ n_ ≤ 2) (zB D (ty3 cI cJ cD) (fun (u : Unit) => [(o_, .inr (3, [.int (nI n_), .ref ro_, .ref ja_, .ref jb_, .ref sr_, .ref br_, .ref tr_, .ref ch_, .ref lf_, .ref ri_, .int sh_, .int sp_]))]) (va_A [(o_, .inr (3, [.int (nI n_), .ref ro_, .ref ja_, .ref jb_, .ref sr_, .ref br_, .ref tr_, .ref ch_, .ref lf_, .ref ri_, .int sh_, .int sp_]))] sz)) (va_A [(o_, .inr (3, [.int (nI n_), .ref ro_, .ref ja_, .ref jb_, .ref sr_, .ref br_, .ref tr_, .ref ch_, .ref lf_, .ref ri_, .int sh_, .int sp_]))] sz)) 0 0 (va_A [(o_, .inr (3, [.int (nI n_), .ref ro_, .ref ja_, .ref jb_, .ref sr_, .ref br_, .ref tr_, .ref ch_, .ref lf_, .ref ri_, .int sh_, .int sp_]))] sz) := by
  refine zMet (Qf := fun A => va_Qi (fun (r : Int32) (u : Unit) => r = nI (octI k_ n_) ∧ octI k_ n_ ≤ 2) (zB D (ty3 cI cJ cD) (fun (u : Unit) => [(o_, .inr (3, [.int (nI n_), .ref ro_, .ref ja_, .ref jb_, .ref sr_, .ref br_, .ref tr_, .ref ch_, .ref lf_, .ref ri_, .int sh_, .int sp_]))]) A) A) (cc := cX3_octaveOf) (maxL := 2) (ret := (some .int)) (by decide) rfl (Nat.le_of_ble_eq_true rfl) ?_
  intro p e s m args below meth c A ls Q H hargs hQ hHe hx hb hr hml hown hts hlocks hin hP hK hD hA hS hE hAe hl
  have hl : lv_has ls 2 [(0, .ref o_), (1, .int (nI k_))] := hl
  refine lv_iload_n hx hb dX3_octaveOf_0 rfl (lv_at hl 1 rfl) ?_
  refine lv_aload_n hx hb dX3_octaveOf_1 rfl (lv_at hl 0 rfl) ?_
  refine va_get (D := D) (ci := 3) (v := .int (nI n_)) (C := RX3) (T := TX3) (N := 12) hx hb hts nX3_octaveOf_3 hown hK hP 0 rfl rfl 0 (by decide) (zh (w := .fieldLink RX3 42 "FretRoots" "notes" "I") hts 1 rfl) (fun _ h9 => h9) rfl dX3_octaveOf_2 ?_
  refine lv_icmp_ge (tgt := 10) hx hb dX3_octaveOf_5 (by decide) (fun c_5 => ?_) (fun c_5 => ?_)
  · skip
    have c_5 := zji_le (a := n_) (b := k_) (by omega) (by omega) c_5
    refine lv_iload_n hx hb dX3_octaveOf_10 rfl (lv_at hl 1 rfl) ?_
    refine lv_iconst (v := nI 2) hx hb dX3_octaveOf_11 (by decide) ?_
    refine lv_aload_n hx hb dX3_octaveOf_12 rfl (lv_at hl 0 rfl) ?_
    refine va_get (D := D) (ci := 3) (v := .int (nI n_)) (C := RX3) (T := TX3) (N := 12) hx hb hts nX3_octaveOf_3 hown hK hP 0 rfl rfl 0 (by decide) (zh (w := .fieldLink RX3 42 "FretRoots" "notes" "I") hts 1 rfl) (fun _ h9 => h9) rfl dX3_octaveOf_13 ?_
    refine lv_imul hx hb dX3_octaveOf_16 ?_
    refine zi_ (y := nI (2 * n_)) (pk_mul 2 n_) ?_
    refine lv_icmp_ge (tgt := 24) hx hb dX3_octaveOf_17 (by decide) (fun c_17 => ?_) (fun c_17 => ?_)
    · skip
      have c_17 := zji_le (a := 2 * n_) (b := k_) (by omega) (by omega) c_17
      refine lv_iconst (v := nI 2) hx hb dX3_octaveOf_24 (by decide) ?_
      subst hQ
      exact ze_i hx hb hr hlocks () (⟨by first | exact congrArg nI (octI_0 c_5).symm | exact congrArg nI (octI_1 c_5 c_17).symm | exact congrArg nI (octI_2 c_5 c_17).symm, octI_le _ _⟩) hP hK hD hS dX3_octaveOf_25
    · skip
      have c_17 := zji_nle (a := 2 * n_) (b := k_) (by omega) (by omega) c_17
      refine lv_iconst (v := nI 1) hx hb dX3_octaveOf_20 (by decide) ?_
      refine lv_goto (tgt := 25) hx hb dX3_octaveOf_21 (by decide) ?_
      subst hQ
      exact ze_i hx hb hr hlocks () (⟨by first | exact congrArg nI (octI_0 c_5).symm | exact congrArg nI (octI_1 c_5 c_17).symm | exact congrArg nI (octI_2 c_5 c_17).symm, octI_le _ _⟩) hP hK hD hS dX3_octaveOf_25
  · skip
    have c_5 := zji_nle (a := n_) (b := k_) (by omega) (by omega) c_5
    refine lv_iconst (v := nI 0) hx hb dX3_octaveOf_8 (by decide) ?_
    subst hQ
    exact ze_i hx hb hr hlocks () (⟨by first | exact congrArg nI (octI_0 c_5).symm | exact congrArg nI (octI_1 c_5 c_17).symm | exact congrArg nI (octI_2 c_5 c_17).symm, octI_le _ _⟩) hP hK hD hS dX3_octaveOf_9
theorem nX3_lowerEnd_2 : ∀ w ∈ wsX20, w ∈ wsX3_lowerEnd := by decide +kernel
theorem nX3_lowerEnd_3 : ∀ w ∈ wsX30, w ∈ wsX3_lowerEnd := by decide +kernel
abbrev rm_X3_lowerEnd : Room := { frames := 5, cells := 0, slots := 0, locals := 131 }
set_option maxHeartbeats 4000000 in
set_option maxRecDepth 100000 in
/-- lowerEnd -/
theorem ct_X3_lowerEnd (l : Launch) (D : va_G) (cI cJ cD : ClassId) (o_ : Nat) (ro_ : Nat) (ja_ : Nat) (jb_ : Nat) (sr_ : Nat) (br_ : Nat) (tr_ : Nat) (ch_ : Nat) (lf_ : Nat) (ri_ : Nat) (sh_ : Int32) (sp_ : Int32) (n_ : Nat) (ld_ : Nat) (rd_ : Nat) (wl_ : Int32) (wr_ : Int32) (fl_ : Nat → Int64) (fr_ : Nat → Int64) (r_ : Nat → UInt64) (rw_ : Nat) (re_ : Nat) (k_ : Nat) (a_ : Nat) (ln_ : Int64) (e_ : Nat → Int64) (sz : Nat) (hn1 : 1 ≤ n_) (hn : n_ ≤ 24) (hk : k_ ≤ 2 * n_) (ha1 : 1 ≤ a_) (ha : a_ ≤ 65536000000) (hc : cacheOK e_ n_ a_) : MetD lw_cs l yX3_lowerEnd wsX3_lowerEnd rm_X3_lowerEnd (zP D (ty3 cI cJ cD) [.ref o_, .ref rw_, .int (nI k_)] sz [(o_, .inr (3, [.int (nI n_), .ref ro_, .ref ja_, .ref jb_, .ref sr_, .ref br_, .ref tr_, .ref ch_, .ref lf_, .ref ri_, .int sh_, .int sp_])), (ro_, .inl (cD, n_, .inr (.inr (.inr (.inl r_))))), (lf_, .inr (0, [.ref ld_, .int wl_])), (ld_, .inl (cJ, 40, .inr (.inl fl_))), (ri_, .inr (0, [.ref rd_, .int wr_])), (rd_, .inl (cJ, 40, .inr (.inl fr_))), (rw_, .inr (2, [.ref re_, .long ln_, .long (lN a_)])), (re_, .inl (cJ, n_, .inr (.inl e_)))] zT) (va_Ql (fun (r : Int64) (u : Nat × Int32 × (Nat → Int64) × Int32 × (Nat → Int64) × (Nat → Int64)) => r = lN (u.1) ∧ rootI n_ k_ a_ (u.1) ∧ cacheOK (u.2.2.2.2.2) n_ a_) (zB D (ty3 cI cJ cD) (fun (u : Nat × Int32 × (Nat → Int64) × Int32 × (Nat → Int64) × (Nat → Int64)) => [(o_, .inr (3, [.int (nI n_), .ref ro_, .ref ja_, .ref jb_, .ref sr_, .ref br_, .ref tr_, .ref ch_, .ref lf_, .ref ri_, .int sh_, .int sp_])), (ro_, .inl (cD, n_, .inr (.inr (.inr (.inl r_))))), (lf_, .inr (0, [.ref ld_, .int (u.2.1)])), (ld_, .inl (cJ, 40, .inr (.inl (u.2.2.1)))), (ri_, .inr (0, [.ref rd_, .int (u.2.2.2.1)])), (rd_, .inl (cJ, 40, .inr (.inl (u.2.2.2.2.1)))), (rw_, .inr (2, [.ref re_, .long ln_, .long (lN a_)])), (re_, .inl (cJ, n_, .inr (.inl (u.2.2.2.2.2))))]) (va_A [(o_, .inr (3, [.int (nI n_), .ref ro_, .ref ja_, .ref jb_, .ref sr_, .ref br_, .ref tr_, .ref ch_, .ref lf_, .ref ri_, .int sh_, .int sp_])), (ro_, .inl (cD, n_, .inr (.inr (.inr (.inl r_))))), (lf_, .inr (0, [.ref ld_, .int wl_])), (ld_, .inl (cJ, 40, .inr (.inl fl_))), (ri_, .inr (0, [.ref rd_, .int wr_])), (rd_, .inl (cJ, 40, .inr (.inl fr_))), (rw_, .inr (2, [.ref re_, .long ln_, .long (lN a_)])), (re_, .inl (cJ, n_, .inr (.inl e_)))] sz)) (va_A [(o_, .inr (3, [.int (nI n_), .ref ro_, .ref ja_, .ref jb_, .ref sr_, .ref br_, .ref tr_, .ref ch_, .ref lf_, .ref ri_, .int sh_, .int sp_])), (ro_, .inl (cD, n_, .inr (.inr (.inr (.inl r_))))), (lf_, .inr (0, [.ref ld_, .int wl_])), (ld_, .inl (cJ, 40, .inr (.inl fl_))), (ri_, .inr (0, [.ref rd_, .int wr_])), (rd_, .inl (cJ, 40, .inr (.inl fr_))), (rw_, .inr (2, [.ref re_, .long ln_, .long (lN a_)])), (re_, .inl (cJ, n_, .inr (.inl e_)))] sz)) 0 0 (va_A [(o_, .inr (3, [.int (nI n_), .ref ro_, .ref ja_, .ref jb_, .ref sr_, .ref br_, .ref tr_, .ref ch_, .ref lf_, .ref ri_, .int sh_, .int sp_])), (ro_, .inl (cD, n_, .inr (.inr (.inr (.inl r_))))), (lf_, .inr (0, [.ref ld_, .int wl_])), (ld_, .inl (cJ, 40, .inr (.inl fl_))), (ri_, .inr (0, [.ref rd_, .int wr_])), (rd_, .inl (cJ, 40, .inr (.inl fr_))), (rw_, .inr (2, [.ref re_, .long ln_, .long (lN a_)])), (re_, .inl (cJ, n_, .inr (.inl e_)))] sz) := by
  refine zMetD (Qf := fun A => va_Ql (fun (r : Int64) (u : Nat × Int32 × (Nat → Int64) × Int32 × (Nat → Int64) × (Nat → Int64)) => r = lN (u.1) ∧ rootI n_ k_ a_ (u.1) ∧ cacheOK (u.2.2.2.2.2) n_ a_) (zB D (ty3 cI cJ cD) (fun (u : Nat × Int32 × (Nat → Int64) × Int32 × (Nat → Int64) × (Nat → Int64)) => [(o_, .inr (3, [.int (nI n_), .ref ro_, .ref ja_, .ref jb_, .ref sr_, .ref br_, .ref tr_, .ref ch_, .ref lf_, .ref ri_, .int sh_, .int sp_])), (ro_, .inl (cD, n_, .inr (.inr (.inr (.inl r_))))), (lf_, .inr (0, [.ref ld_, .int (u.2.1)])), (ld_, .inl (cJ, 40, .inr (.inl (u.2.2.1)))), (ri_, .inr (0, [.ref rd_, .int (u.2.2.2.1)])), (rd_, .inl (cJ, 40, .inr (.inl (u.2.2.2.2.1)))), (rw_, .inr (2, [.ref re_, .long ln_, .long (lN a_)])), (re_, .inl (cJ, n_, .inr (.inl (u.2.2.2.2.2))))]) A) A) (cc := cX3_lowerEnd) (maxL := 5) (ret := (some .long)) (by decide) rfl (Nat.le_of_ble_eq_true rfl) ?_
  intro p e s m args below meth c A ls Q H d hargs hQ hHe hx hb hr hml hown hts hlocks hin hP hK hD hA hS hE hAe hl hd
  have hl : lv_has ls 5 [(0, .ref o_), (1, .ref rw_), (2, .int (nI k_))] := hl
  have hts0 := hts
  have hK0 := hK
  have hts := dr_words hts0 d
  have hK := zK_dr (d := d) hK0
  have ho := octI_in hn1 hk
  have ho2 := octI_le k_ n_
  refine lv_aload_n hx hb dX3_lowerEnd_0 rfl (lv_at hl 0 rfl) ?_
  refine lv_iload_n hx hb dX3_lowerEnd_1 rfl (lv_at hl 2 rfl) ?_
  refine zc_i (wc := [(o_, .inr (3, [.int (nI n_), .ref ro_, .ref ja_, .ref jb_, .ref sr_, .ref br_, .ref tr_, .ref ch_, .ref lf_, .ref ri_, .int sh_, .int sp_]))]) (wr := [(ro_, .inl (cD, n_, .inr (.inr (.inr (.inl r_))))), (lf_, .inr (0, [.ref ld_, .int wl_])), (ld_, .inl (cJ, 40, .inr (.inl fl_))), (ri_, .inr (0, [.ref rd_, .int wr_])), (rd_, .inl (cJ, 40, .inr (.inl fr_))), (rw_, .inr (2, [.ref re_, .long ln_, .long (lN a_)])), (re_, .inl (cJ, n_, .inr (.inl e_)))]) hP hD hS hA [0] [1, 2, 3, 4, 5, 6, 7] rfl rfl (by decide) (by decide) (va_runV (As := [.int (nI k_)]) (rest := []) ⟨hx, hb, hml, hown, hts⟩ (ct_X3_octaveOf l D cI cJ cD o_ ro_ ja_ jb_ sr_ br_ tr_ ch_ lf_ ri_ sh_ sp_ n_ k_ H.size (by omega) (by omega)) (cwV 1 hts gX3_lowerEnd_X3_octaveOf rfl rfl rfl (by decide +kernel) ⟨Nat.le_of_ble_eq_true rfl, Nat.le_of_ble_eq_true rfl⟩) (zPreV (wc := [(o_, .inr (3, [.int (nI n_), .ref ro_, .ref ja_, .ref jb_, .ref sr_, .ref br_, .ref tr_, .ref ch_, .ref lf_, .ref ri_, .int sh_, .int sp_]))]) hK (hP.sub [0] rfl) (hD.sub [0] (by decide) rfl) 3 0 rfl rfl zTb (fun _ _ _ => trivial)) rfl rfl hl.1 rfl (lv_room (Nat.le_of_ble_eq_true rfl)) dX3_lowerEnd_2 ⟨Nat.le_of_ble_eq_true rfl, Nat.le_of_ble_eq_true rfl⟩) (fun r_1 u H locs hw hP hD hS => ?_)
  have hP : va_P D cl5 [(o_, .inr (3, [.int (nI n_), .ref ro_, .ref ja_, .ref jb_, .ref sr_, .ref br_, .ref tr_, .ref ch_, .ref lf_, .ref ri_, .int sh_, .int sp_])), (ro_, .inl (cD, n_, .inr (.inr (.inr (.inl r_))))), (lf_, .inr (0, [.ref ld_, .int wl_])), (ld_, .inl (cJ, 40, .inr (.inl fl_))), (ri_, .inr (0, [.ref rd_, .int wr_])), (rd_, .inl (cJ, 40, .inr (.inl fr_))), (rw_, .inr (2, [.ref re_, .long ln_, .long (lN a_)])), (re_, .inl (cJ, n_, .inr (.inl e_)))] H := hP.sub [7, 0, 1, 2, 3, 4, 5, 6] rfl
  have hD : va_D A [(o_, .inr (3, [.int (nI n_), .ref ro_, .ref ja_, .ref jb_, .ref sr_, .ref br_, .ref tr_, .ref ch_, .ref lf_, .ref ri_, .int sh_, .int sp_])), (ro_, .inl (cD, n_, .inr (.inr (.inr (.inl r_))))), (lf_, .inr (0, [.ref ld_, .int wl_])), (ld_, .inl (cJ, 40, .inr (.inl fl_))), (ri_, .inr (0, [.ref rd_, .int wr_])), (rd_, .inl (cJ, 40, .inr (.inl fr_))), (rw_, .inr (2, [.ref re_, .long ln_, .long (lN a_)])), (re_, .inl (cJ, n_, .inr (.inl e_)))] := hD.sub [7, 0, 1, 2, 3, 4, 5, 6] (by decide) rfl
  have hw : r_1 = nI (octI k_ n_) ∧ octI k_ n_ ≤ 2 := hw
  obtain ⟨rfl, hb_2⟩ := hw
  refine lv_istore_n (lv' := [(3, .int (nI (octI k_ n_))), (0, .ref o_), (1, .ref rw_), (2, .int (nI k_))]) hx hb dX3_lowerEnd_5 rfl hl (by decide) rfl (fun ls hl => ?_)
  refine lv_iload_n hx hb dX3_lowerEnd_6 rfl (lv_at hl 3 rfl) ?_
  refine lv_iload_n hx hb dX3_lowerEnd_7 rfl (lv_at hl 0 rfl) ?_
  refine lv_aload_n hx hb dX3_lowerEnd_8 rfl (lv_at hl 1 rfl) ?_
  refine va_get (D := D) (ci := 3) (v := .int (nI n_)) (C := RX3) (T := TX3) (N := 12) hx hb hts nX3_lowerEnd_3 hown hK hP 0 rfl rfl 0 (by decide) (zh (w := .fieldLink RX3 42 "FretRoots" "notes" "I") hts 1 rfl) (fun _ h9 => h9) rfl dX3_lowerEnd_9 ?_
  refine lv_imul hx hb dX3_lowerEnd_12 ?_
  refine zi_ (y := nI ((octI k_ n_) * n_)) (pk_mul (octI k_ n_) n_) ?_
  obtain ⟨j, hj⟩ : ∃ j, j = k_ - octI k_ n_ * n_ := ⟨_, rfl⟩
  refine lv_isub hx hb dX3_lowerEnd_13 ?_
  refine zi_ (y := nI (k_ - ((octI k_ n_) * n_))) (pk_sub (by omega)) ?_
  refine zi_ (y := nI j) (by rw [hj]) ?_
  refine lv_istore (lv' := [(4, .int (nI j)), (3, .int (nI (octI k_ n_))), (0, .ref o_), (1, .ref rw_), (2, .int (nI k_))]) hx hb dX3_lowerEnd_14 hl (by decide) rfl (fun ls hl => ?_)
  refine lv_iload hx hb dX3_lowerEnd_16 (lv_at hl 0 rfl) ?_
  refine lv_if_lt (tgt := 31) hx hb dX3_lowerEnd_18 (by decide) (fun c_18 => ?_) (fun c_18 => ?_)
  · skip
    have c_18 := zji_lt (a := j) (b := 0) (by omega) (by omega) c_18
    omega
  · skip
    have c_18 := zji_nlt (a := j) (b := 0) (by omega) (by omega) c_18
    refine lv_iload hx hb dX3_lowerEnd_21 (lv_at hl 0 rfl) ?_
    refine lv_aload_n hx hb dX3_lowerEnd_23 rfl (lv_at hl 3 rfl) ?_
    refine va_get (D := D) (ci := 2) (v := .ref re_) (C := RX2) (T := TX2) (N := 3) hx hb hts nX3_lowerEnd_2 hown hK hP 6 rfl rfl 0 (by decide) (zh (w := .fieldLink RX3 213 "FretRoots$FretRow" "ends" "[J") hts 2 rfl) (fun _ h9 => h9) rfl dX3_lowerEnd_24 ?_
    refine va_alen hx hb hK hP 7 1 rfl (ty := .long) rfl (v := nI n_) rfl dX3_lowerEnd_27 ?_
    refine lv_icmp_lt (tgt := 33) hx hb dX3_lowerEnd_28 (by decide) (fun c_28 => ?_) (fun c_28 => ?_)
    · skip
      have c_28 := zji_lt (a := j) (b := n_) (by omega) (by omega) c_28
      refine lv_aload_n hx hb dX3_lowerEnd_33 rfl (lv_at hl 3 rfl) ?_
      refine va_get (D := D) (ci := 2) (v := .ref re_) (C := RX2) (T := TX2) (N := 3) hx hb hts nX3_lowerEnd_2 hown hK hP 6 rfl rfl 0 (by decide) (zh (w := .fieldLink RX3 213 "FretRoots$FretRow" "ends" "[J") hts 2 rfl) (fun _ h9 => h9) rfl dX3_lowerEnd_34 ?_
      refine lv_iload hx hb dX3_lowerEnd_37 (lv_at hl 0 rfl) ?_
      refine z_lald (j := j) hx hb hK hP 7 1 rfl rfl (by omega) (by omega) dX3_lowerEnd_39 ?_
      refine lv_ldc2 (v := -1) hx hb hown (zh (w := .constantLong RX3 217 (-1)) hts 3 rfl) dX3_lowerEnd_40 ?_
      refine zl_ne (tgt := 64) hx hb dX3_lowerEnd_43 dX3_lowerEnd_44 (by decide) (fun c_44 => ?_) (fun c_44 => ?_)
      · skip
        obtain ⟨wq, hq1, hq2⟩ := (hc j (by omega)).resolve_left c_44
        refine lv_aload_n hx hb dX3_lowerEnd_64 rfl (lv_at hl 3 rfl) ?_
        refine va_get (D := D) (ci := 2) (v := .ref re_) (C := RX2) (T := TX2) (N := 3) hx hb hts nX3_lowerEnd_2 hown hK hP 6 rfl rfl 0 (by decide) (zh (w := .fieldLink RX3 213 "FretRoots$FretRow" "ends" "[J") hts 2 rfl) (fun _ h9 => h9) rfl dX3_lowerEnd_65 ?_
        refine lv_iload hx hb dX3_lowerEnd_68 (lv_at hl 0 rfl) ?_
        refine z_lald (j := j) hx hb hK hP 7 1 rfl rfl (by omega) (by omega) dX3_lowerEnd_70 ?_
        refine zl_ (y := lN wq) (by first | exact hq1 | (rw [efA]; exact pk_uLs)) ?_
        refine lv_iload_n hx hb dX3_lowerEnd_71 rfl (lv_at hl 1 rfl) ?_
        have hwr : rootI n_ j a_ wq := by first | exact hq2 | exact hR_60
        have hwb := root_le hn1 hwr
        refine lv_lshr (v := lN (wq / 2 ^ (octI k_ n_))) hx hb dX3_lowerEnd_72 (z_shr (by omega) (by omega)) ?_
        have hro := root_oct (octI k_ n_) hwr
        rw [show j + octI k_ n_ * n_ = k_ by omega] at hro
        subst hQ
        refine W.endD hd ?_
        exact ze_l hx hb hr hlocks (wq / 2 ^ octI k_ n_, wl_, fl_, wr_, fr_, e_) (⟨rfl, hro, by first | exact hc | (rw [efA]; exact cache_upd hc hwr)⟩) hP hK hD hS dX3_lowerEnd_73
      · skip
        refine lv_aload_n hx hb dX3_lowerEnd_47 rfl (lv_at hl 3 rfl) ?_
        refine va_get (D := D) (ci := 2) (v := .ref re_) (C := RX2) (T := TX2) (N := 3) hx hb hts nX3_lowerEnd_2 hown hK hP 6 rfl rfl 0 (by decide) (zh (w := .fieldLink RX3 213 "FretRoots$FretRow" "ends" "[J") hts 2 rfl) (fun _ h9 => h9) rfl dX3_lowerEnd_48 ?_
        refine lv_iload hx hb dX3_lowerEnd_51 (lv_at hl 0 rfl) ?_
        refine lv_aload_n hx hb dX3_lowerEnd_53 rfl (lv_at hl 2 rfl) ?_
        refine lv_aload_n hx hb dX3_lowerEnd_54 rfl (lv_at hl 3 rfl) ?_
        refine va_get (D := D) (ci := 2) (v := .long (lN a_)) (C := RX2) (T := TX2) (N := 3) hx hb hts nX3_lowerEnd_2 hown hK hP 6 rfl rfl 2 (by decide) (zh (w := .fieldLink RX3 119 "FretRoots$FretRow" "whole" "J") hts 4 rfl) (fun _ h9 => h9) rfl dX3_lowerEnd_55 ?_
        refine lv_iload hx hb dX3_lowerEnd_58 (lv_at hl 0 rfl) ?_
        refine zd_l hd (wc := [(o_, .inr (3, [.int (nI n_), .ref ro_, .ref ja_, .ref jb_, .ref sr_, .ref br_, .ref tr_, .ref ch_, .ref lf_, .ref ri_, .int sh_, .int sp_])), (ro_, .inl (cD, n_, .inr (.inr (.inr (.inl r_))))), (lf_, .inr (0, [.ref ld_, .int wl_])), (ld_, .inl (cJ, 40, .inr (.inl fl_))), (ri_, .inr (0, [.ref rd_, .int wr_])), (rd_, .inl (cJ, 40, .inr (.inl fr_)))]) (wr := [(rw_, .inr (2, [.ref re_, .long ln_, .long (lN a_)])), (re_, .inl (cJ, n_, .inr (.inl e_)))]) hP hD hS hA [0, 1, 2, 3, 4, 5] [6, 7] rfl rfl (by decide) (by decide) (va_runV_D (As := [.long (lN a_), .int (nI j)]) (rest := [.int (nI j), .ref re_]) ⟨hx, hb, hml, hown, hts⟩ (ct_X3_greatestEnd l D cI cJ cD o_ ro_ ja_ jb_ sr_ br_ tr_ ch_ lf_ ri_ sh_ sp_ n_ ld_ rd_ wl_ wr_ fl_ fr_ r_ j a_ H.size (by omega) (by omega) (by omega) (by omega) (by omega)) (cwV 2 hts gX3_lowerEnd_X3_greatestEnd rfl rfl rfl (by decide +kernel) ⟨Nat.le_of_ble_eq_true rfl, Nat.le_of_ble_eq_true rfl⟩) (zPreV (wc := [(o_, .inr (3, [.int (nI n_), .ref ro_, .ref ja_, .ref jb_, .ref sr_, .ref br_, .ref tr_, .ref ch_, .ref lf_, .ref ri_, .int sh_, .int sp_])), (ro_, .inl (cD, n_, .inr (.inr (.inr (.inl r_))))), (lf_, .inr (0, [.ref ld_, .int wl_])), (ld_, .inl (cJ, 40, .inr (.inl fl_))), (ri_, .inr (0, [.ref rd_, .int wr_])), (rd_, .inl (cJ, 40, .inr (.inl fr_)))]) hK (hP.sub [0, 1, 2, 3, 4, 5] rfl) (hD.sub [0, 1, 2, 3, 4, 5] (by decide) rfl) 3 0 rfl rfl zTb (fun _ _ _ => trivial)) rfl rfl hl.1 rfl (lv_room (Nat.le_of_ble_eq_true rfl)) dX3_lowerEnd_60 ⟨Nat.le_of_ble_eq_true rfl, Nat.le_of_ble_eq_true rfl⟩) (fun r_2 u H locs hw hP hD hS d hd => ?_)
        have hts := dr_words hts0 d
        have hK := zK_dr (d := d) hK0
        obtain ⟨wq, wl2_3, fl2_4, wr2_5, fr2_6⟩ := u
        have hP : va_P D cl5 [(o_, .inr (3, [.int (nI n_), .ref ro_, .ref ja_, .ref jb_, .ref sr_, .ref br_, .ref tr_, .ref ch_, .ref lf_, .ref ri_, .int sh_, .int sp_])), (ro_, .inl (cD, n_, .inr (.inr (.inr (.inl r_))))), (lf_, .inr (0, [.ref ld_, .int wl2_3])), (ld_, .inl (cJ, 40, .inr (.inl fl2_4))), (ri_, .inr (0, [.ref rd_, .int wr2_5])), (rd_, .inl (cJ, 40, .inr (.inl fr2_6))), (rw_, .inr (2, [.ref re_, .long ln_, .long (lN a_)])), (re_, .inl (cJ, n_, .inr (.inl e_)))] H := hP.sub [2, 3, 4, 5, 6, 7, 0, 1] rfl
        have hD : va_D A [(o_, .inr (3, [.int (nI n_), .ref ro_, .ref ja_, .ref jb_, .ref sr_, .ref br_, .ref tr_, .ref ch_, .ref lf_, .ref ri_, .int sh_, .int sp_])), (ro_, .inl (cD, n_, .inr (.inr (.inr (.inl r_))))), (lf_, .inr (0, [.ref ld_, .int wl2_3])), (ld_, .inl (cJ, 40, .inr (.inl fl2_4))), (ri_, .inr (0, [.ref rd_, .int wr2_5])), (rd_, .inl (cJ, 40, .inr (.inl fr2_6))), (rw_, .inr (2, [.ref re_, .long ln_, .long (lN a_)])), (re_, .inl (cJ, n_, .inr (.inl e_)))] := hD.sub [2, 3, 4, 5, 6, 7, 0, 1] (by decide) rfl
        have hw : r_2 = lN wq ∧ rootI n_ j a_ wq := hw
        obtain ⟨rfl, hR_60⟩ := hw
        refine z_last (j := j) hx hb hK hP hD hS 7 1 rfl rfl (by omega) (by omega) dX3_lowerEnd_63 (fun H locs hP hD hS => ?_)
        obtain ⟨fA, efA⟩ : ∃ f9, f9 = vp_updL e_ j (lN wq) := ⟨_, rfl⟩
        have hP : va_P D cl5 [(o_, .inr (3, [.int (nI n_), .ref ro_, .ref ja_, .ref jb_, .ref sr_, .ref br_, .ref tr_, .ref ch_, .ref lf_, .ref ri_, .int sh_, .int sp_])), (ro_, .inl (cD, n_, .inr (.inr (.inr (.inl r_))))), (lf_, .inr (0, [.ref ld_, .int wl2_3])), (ld_, .inl (cJ, 40, .inr (.inl fl2_4))), (ri_, .inr (0, [.ref rd_, .int wr2_5])), (rd_, .inl (cJ, 40, .inr (.inl fr2_6))), (rw_, .inr (2, [.ref re_, .long ln_, .long (lN a_)])), (re_, .inl (cJ, n_, .inr (.inl fA)))] H := by rw [efA]; exact hP
        have hD : va_D A [(o_, .inr (3, [.int (nI n_), .ref ro_, .ref ja_, .ref jb_, .ref sr_, .ref br_, .ref tr_, .ref ch_, .ref lf_, .ref ri_, .int sh_, .int sp_])), (ro_, .inl (cD, n_, .inr (.inr (.inr (.inl r_))))), (lf_, .inr (0, [.ref ld_, .int wl2_3])), (ld_, .inl (cJ, 40, .inr (.inl fl2_4))), (ri_, .inr (0, [.ref rd_, .int wr2_5])), (rd_, .inl (cJ, 40, .inr (.inl fr2_6))), (rw_, .inr (2, [.ref re_, .long ln_, .long (lN a_)])), (re_, .inl (cJ, n_, .inr (.inl fA)))] := by rw [efA]; exact hD
        refine lv_aload_n hx hb dX3_lowerEnd_64 rfl (lv_at hl 3 rfl) ?_
        refine va_get (D := D) (ci := 2) (v := .ref re_) (C := RX2) (T := TX2) (N := 3) hx hb hts nX3_lowerEnd_2 hown hK hP 6 rfl rfl 0 (by decide) (zh (w := .fieldLink RX3 213 "FretRoots$FretRow" "ends" "[J") hts 2 rfl) (fun _ h9 => h9) rfl dX3_lowerEnd_65 ?_
        refine lv_iload hx hb dX3_lowerEnd_68 (lv_at hl 0 rfl) ?_
        refine z_lald (j := j) hx hb hK hP 7 1 rfl rfl (by omega) (by omega) dX3_lowerEnd_70 ?_
        refine zl_ (y := lN wq) (by first | exact hq1 | (rw [efA]; exact pk_uLs)) ?_
        refine lv_iload_n hx hb dX3_lowerEnd_71 rfl (lv_at hl 1 rfl) ?_
        have hwr : rootI n_ j a_ wq := by first | exact hq2 | exact hR_60
        have hwb := root_le hn1 hwr
        refine lv_lshr (v := lN (wq / 2 ^ (octI k_ n_))) hx hb dX3_lowerEnd_72 (z_shr (by omega) (by omega)) ?_
        have hro := root_oct (octI k_ n_) hwr
        rw [show j + octI k_ n_ * n_ = k_ by omega] at hro
        subst hQ
        refine W.endD hd ?_
        exact ze_l hx hb hr hlocks (wq / 2 ^ octI k_ n_, wl2_3, fl2_4, wr2_5, fr2_6, fA) (⟨rfl, hro, by first | exact hc | (rw [efA]; exact cache_upd hc hwr)⟩) hP hK hD hS dX3_lowerEnd_73
    · skip
      have c_28 := zji_nlt (a := j) (b := n_) (by omega) (by omega) c_28
      omega
theorem nX3_endsMeet_2 : ∀ w ∈ wsX20, w ∈ wsX3_endsMeet := by decide +kernel
theorem nX3_endsMeet_3 : ∀ w ∈ wsX30, w ∈ wsX3_endsMeet := by decide +kernel
abbrev rm_X3_endsMeet : Room := { frames := 1, cells := 0, slots := 0, locals := 21 }
set_option maxHeartbeats 4000000 in
set_option maxRecDepth 100000 in
/-- endsMeet -/
theorem ct_X3_endsMeet (l : Launch) (D : va_G) (cI cJ cD : ClassId) (o_ : Nat) (ro_ : Nat) (ja_ : Nat) (jb_ : Nat) (sr_ : Nat) (br_ : Nat) (tr_ : Nat) (ch_ : Nat) (lf_ : Nat) (ri_ : Nat) (sh_ : Int32) (sp_ : Int32) (n_ : Nat) (k_ : Nat) (w_ : Nat) (a_ : Nat) (se_ : Nat) (ln_ : Int64) (sz : Nat) (hn : n_ ≤ 24) (hk : k_ ≤ 48) (hw_ : w_ ≤ a_) (ha : a_ ≤ 65536000000) : Met l yX3_endsMeet wsX3_endsMeet rm_X3_endsMeet (zP D (ty3 cI cJ cD) [.ref o_, .int (nI k_), .long (lN w_)] sz [(o_, .inr (3, [.int (nI n_), .ref ro_, .ref ja_, .ref jb_, .ref sr_, .ref br_, .ref tr_, .ref ch_, .ref lf_, .ref ri_, .int sh_, .int sp_])), (sr_, .inr (2, [.ref se_, .long ln_, .long (lN a_)]))] zT) (va_Qi (fun (r : Int32) (u : Unit) => r = nI (emI k_ n_ w_ a_) ∧ emI k_ n_ w_ a_ ≤ 1) (zB D (ty3 cI cJ cD) (fun (u : Unit) => [(o_, .inr (3, [.int (nI n_), .ref ro_, .ref ja_, .ref jb_, .ref sr_, .ref br_, .ref tr_, .ref ch_, .ref lf_, .ref ri_, .int sh_, .int sp_])), (sr_, .inr (2, [.ref se_, .long ln_, .long (lN a_)]))]) (va_A [(o_, .inr (3, [.int (nI n_), .ref ro_, .ref ja_, .ref jb_, .ref sr_, .ref br_, .ref tr_, .ref ch_, .ref lf_, .ref ri_, .int sh_, .int sp_])), (sr_, .inr (2, [.ref se_, .long ln_, .long (lN a_)]))] sz)) (va_A [(o_, .inr (3, [.int (nI n_), .ref ro_, .ref ja_, .ref jb_, .ref sr_, .ref br_, .ref tr_, .ref ch_, .ref lf_, .ref ri_, .int sh_, .int sp_])), (sr_, .inr (2, [.ref se_, .long ln_, .long (lN a_)]))] sz)) 0 0 (va_A [(o_, .inr (3, [.int (nI n_), .ref ro_, .ref ja_, .ref jb_, .ref sr_, .ref br_, .ref tr_, .ref ch_, .ref lf_, .ref ri_, .int sh_, .int sp_])), (sr_, .inr (2, [.ref se_, .long ln_, .long (lN a_)]))] sz) := by
  refine zMet (Qf := fun A => va_Qi (fun (r : Int32) (u : Unit) => r = nI (emI k_ n_ w_ a_) ∧ emI k_ n_ w_ a_ ≤ 1) (zB D (ty3 cI cJ cD) (fun (u : Unit) => [(o_, .inr (3, [.int (nI n_), .ref ro_, .ref ja_, .ref jb_, .ref sr_, .ref br_, .ref tr_, .ref ch_, .ref lf_, .ref ri_, .int sh_, .int sp_])), (sr_, .inr (2, [.ref se_, .long ln_, .long (lN a_)]))]) A) A) (cc := cX3_endsMeet) (maxL := 5) (ret := (some .boolean)) (by decide) rfl (Nat.le_of_ble_eq_true rfl) ?_
  intro p e s m args below meth c A ls Q H hargs hQ hHe hx hb hr hml hown hts hlocks hin hP hK hD hA hS hE hAe hl
  have hl : lv_has ls 5 [(0, .ref o_), (1, .int (nI k_)), (2, .long (lN w_))] := hl
  have ho2 := octI_le k_ n_
  have hw4 := em_4 (k := k_) (n := n_) hw_
  refine lv_aload_n hx hb dX3_endsMeet_0 rfl (lv_at hl 0 rfl) ?_
  refine lv_iload_n hx hb dX3_endsMeet_1 rfl (lv_at hl 1 rfl) ?_
  refine zc_i (wc := [(o_, .inr (3, [.int (nI n_), .ref ro_, .ref ja_, .ref jb_, .ref sr_, .ref br_, .ref tr_, .ref ch_, .ref lf_, .ref ri_, .int sh_, .int sp_]))]) (wr := [(sr_, .inr (2, [.ref se_, .long ln_, .long (lN a_)]))]) hP hD hS hA [0] [1] rfl rfl (by decide) (by decide) (va_runV (As := [.int (nI k_)]) (rest := []) ⟨hx, hb, hml, hown, hts⟩ (ct_X3_octaveOf l D cI cJ cD o_ ro_ ja_ jb_ sr_ br_ tr_ ch_ lf_ ri_ sh_ sp_ n_ k_ H.size (by omega) (by omega)) (cwV 1 hts gX3_endsMeet_X3_octaveOf rfl rfl rfl (by decide +kernel) ⟨Nat.le_of_ble_eq_true rfl, Nat.le_of_ble_eq_true rfl⟩) (zPreV (wc := [(o_, .inr (3, [.int (nI n_), .ref ro_, .ref ja_, .ref jb_, .ref sr_, .ref br_, .ref tr_, .ref ch_, .ref lf_, .ref ri_, .int sh_, .int sp_]))]) hK (hP.sub [0] rfl) (hD.sub [0] (by decide) rfl) 3 0 rfl rfl zTb (fun _ _ _ => trivial)) rfl rfl hl.1 rfl (lv_room (Nat.le_of_ble_eq_true rfl)) dX3_endsMeet_2 ⟨Nat.le_of_ble_eq_true rfl, Nat.le_of_ble_eq_true rfl⟩) (fun r_1 u H locs hw hP hD hS => ?_)
  have hP : va_P D cl5 [(o_, .inr (3, [.int (nI n_), .ref ro_, .ref ja_, .ref jb_, .ref sr_, .ref br_, .ref tr_, .ref ch_, .ref lf_, .ref ri_, .int sh_, .int sp_])), (sr_, .inr (2, [.ref se_, .long ln_, .long (lN a_)]))] H := hP.sub [1, 0] rfl
  have hD : va_D A [(o_, .inr (3, [.int (nI n_), .ref ro_, .ref ja_, .ref jb_, .ref sr_, .ref br_, .ref tr_, .ref ch_, .ref lf_, .ref ri_, .int sh_, .int sp_])), (sr_, .inr (2, [.ref se_, .long ln_, .long (lN a_)]))] := hD.sub [1, 0] (by decide) rfl
  have hw : r_1 = nI (octI k_ n_) ∧ octI k_ n_ ≤ 2 := hw
  obtain ⟨rfl, hb_2⟩ := hw
  refine lv_istore (lv' := [(4, .int (nI (octI k_ n_))), (0, .ref o_), (1, .int (nI k_)), (2, .long (lN w_))]) hx hb dX3_endsMeet_5 hl (by decide) rfl (fun ls hl => ?_)
  refine lv_iload_n hx hb dX3_endsMeet_7 rfl (lv_at hl 2 rfl) ?_
  refine lv_iload hx hb dX3_endsMeet_8 (lv_at hl 0 rfl) ?_
  refine lv_aload_n hx hb dX3_endsMeet_10 rfl (lv_at hl 1 rfl) ?_
  refine va_get (D := D) (ci := 3) (v := .int (nI n_)) (C := RX3) (T := TX3) (N := 12) hx hb hts nX3_endsMeet_3 hown hK hP 0 rfl rfl 0 (by decide) (zh (w := .fieldLink RX3 42 "FretRoots" "notes" "I") hts 1 rfl) (fun _ h9 => h9) rfl dX3_endsMeet_11 ?_
  have hm1 : octI k_ n_ * n_ ≤ 2 * n_ := Nat.mul_le_mul_right _ ho2
  refine lv_imul hx hb dX3_endsMeet_14 ?_
  refine zi_ (y := nI ((octI k_ n_) * n_)) (pk_mul (octI k_ n_) n_) ?_
  refine lv_icmp_ne (tgt := 37) hx hb dX3_endsMeet_15 (by decide) (fun c_15 => ?_) (fun c_15 => ?_)
  · skip
    have c_15 := zji_ne (a := k_) (b := (octI k_ n_) * n_) (by omega) (by omega) c_15
    refine lv_iconst (v := nI 0) hx hb dX3_endsMeet_37 (by decide) ?_
    subst hQ
    exact ze_z hx hb hr hlocks () (by first | exact Or.inl rfl | exact Or.inr rfl | omega) (⟨by first | exact congrArg nI (if_pos ⟨c_15, c_30⟩).symm | exact congrArg nI (if_neg (fun q => c_15 q.1)).symm | exact congrArg nI (if_neg (fun q => c_30 q.2)).symm, emI_le _ _ _ _⟩) hP hK hD hS dX3_endsMeet_38
  · skip
    have c_15 := zji_eq (a := k_) (b := (octI k_ n_) * n_) (by omega) (by omega) c_15
    refine lv_lload_n hx hb dX3_endsMeet_18 rfl (lv_at hl 3 rfl) ?_
    refine lv_iload hx hb dX3_endsMeet_19 (lv_at hl 0 rfl) ?_
    refine lv_lshl (v := lN (w_ * 2 ^ (octI k_ n_))) hx hb dX3_endsMeet_21 (z_shl w_ (by omega)) ?_
    refine lv_aload_n hx hb dX3_endsMeet_22 rfl (lv_at hl 1 rfl) ?_
    refine va_get (D := D) (ci := 3) (v := .ref sr_) (C := RX3) (T := TX3) (N := 12) hx hb hts nX3_endsMeet_3 hown hK hP 0 rfl rfl 4 (by decide) (zh (w := .fieldLink RX3 71 "FretRoots" "scaleRow" "LFretRoots$FretRow;") hts 2 rfl) (fun _ h9 => h9) rfl dX3_endsMeet_23 ?_
    refine va_get (D := D) (ci := 2) (v := .long (lN a_)) (C := RX2) (T := TX2) (N := 3) hx hb hts nX3_endsMeet_2 hown hK hP 1 rfl rfl 2 (by decide) (zh (w := .fieldLink RX3 119 "FretRoots$FretRow" "whole" "J") hts 3 rfl) (fun _ h9 => h9) rfl dX3_endsMeet_26 ?_
    refine zl_ne (tgt := 37) hx hb dX3_endsMeet_29 dX3_endsMeet_30 (by decide) (fun c_30 => ?_) (fun c_30 => ?_)
    · skip
      have c_30 := zjl_ne (a := w_ * 2 ^ (octI k_ n_)) (b := a_) (by omega) (by omega) c_30
      refine lv_iconst (v := nI 0) hx hb dX3_endsMeet_37 (by decide) ?_
      subst hQ
      exact ze_z hx hb hr hlocks () (by first | exact Or.inl rfl | exact Or.inr rfl | omega) (⟨by first | exact congrArg nI (if_pos ⟨c_15, c_30⟩).symm | exact congrArg nI (if_neg (fun q => c_15 q.1)).symm | exact congrArg nI (if_neg (fun q => c_30 q.2)).symm, emI_le _ _ _ _⟩) hP hK hD hS dX3_endsMeet_38
    · skip
      have c_30 := zjl_eq (a := w_ * 2 ^ (octI k_ n_)) (b := a_) (by omega) (by omega) c_30
      refine lv_iconst (v := nI 1) hx hb dX3_endsMeet_33 (by decide) ?_
      refine lv_goto (tgt := 38) hx hb dX3_endsMeet_34 (by decide) ?_
      subst hQ
      exact ze_z hx hb hr hlocks () (by first | exact Or.inl rfl | exact Or.inr rfl | omega) (⟨by first | exact congrArg nI (if_pos ⟨c_15, c_30⟩).symm | exact congrArg nI (if_neg (fun q => c_15 q.1)).symm | exact congrArg nI (if_neg (fun q => c_30 q.2)).symm, emI_le _ _ _ _⟩) hP hK hD hS dX3_endsMeet_38
theorem nX3_lastNotAbove_3 : ∀ w ∈ wsX30, w ∈ wsX3_lastNotAbove := by decide +kernel
abbrev rm_X3_lastNotAbove : Room := { frames := 3, cells := 0, slots := 0, locals := 76 }
set_option maxHeartbeats 4000000 in
set_option maxRecDepth 100000 in
/-- lastNotAbove -/
theorem ct_X3_lastNotAbove (l : Launch) (D : va_G) (cI cJ cD : ClassId) (o_ : Nat) (ro_ : Nat) (ja_ : Nat) (jb_ : Nat) (sr_ : Nat) (br_ : Nat) (tr_ : Nat) (ch_ : Nat) (lf_ : Nat) (ri_ : Nat) (sh_ : Int32) (sp_ : Int32) (n_ : Nat) (ld_ : Nat) (rd_ : Nat) (wl_ : Int32) (wr_ : Int32) (fl_ : Nat → Int64) (fr_ : Nat → Int64) (x_ : Nat) (y_ : Nat) (sz : Nat) (hn : n_ ≤ 24) (hy1 : 1 ≤ y_) (hyx : y_ ≤ x_) (hx_ : x_ ≤ 1000000) : Met l yX3_lastNotAbove wsX3_lastNotAbove rm_X3_lastNotAbove (zP D (ty3 cI cJ cD) [.ref o_, .int (nI x_), .int (nI y_)] sz [(o_, .inr (3, [.int (nI n_), .ref ro_, .ref ja_, .ref jb_, .ref sr_, .ref br_, .ref tr_, .ref ch_, .ref lf_, .ref ri_, .int sh_, .int sp_])), (lf_, .inr (0, [.ref ld_, .int wl_])), (ld_, .inl (cJ, 40, .inr (.inl fl_))), (ri_, .inr (0, [.ref rd_, .int wr_])), (rd_, .inl (cJ, 40, .inr (.inl fr_)))] zT) (va_Qi (fun (r : Int32) (u : Nat × Int32 × (Nat → Int64) × Int32 × (Nat → Int64)) => r = nI (u.1) ∧ (u.1) ≤ 2 * n_ ∧ y_ ^ n_ * 2 ^ (u.1) ≤ x_ ^ n_ ∧ ((u.1) < 2 * n_ → x_ ^ n_ < y_ ^ n_ * 2 ^ ((u.1) + 1))) (zB D (ty3 cI cJ cD) (fun (u : Nat × Int32 × (Nat → Int64) × Int32 × (Nat → Int64)) => [(o_, .inr (3, [.int (nI n_), .ref ro_, .ref ja_, .ref jb_, .ref sr_, .ref br_, .ref tr_, .ref ch_, .ref lf_, .ref ri_, .int sh_, .int sp_])), (lf_, .inr (0, [.ref ld_, .int (u.2.1)])), (ld_, .inl (cJ, 40, .inr (.inl (u.2.2.1)))), (ri_, .inr (0, [.ref rd_, .int (u.2.2.2.1)])), (rd_, .inl (cJ, 40, .inr (.inl (u.2.2.2.2))))]) (va_A [(o_, .inr (3, [.int (nI n_), .ref ro_, .ref ja_, .ref jb_, .ref sr_, .ref br_, .ref tr_, .ref ch_, .ref lf_, .ref ri_, .int sh_, .int sp_])), (lf_, .inr (0, [.ref ld_, .int wl_])), (ld_, .inl (cJ, 40, .inr (.inl fl_))), (ri_, .inr (0, [.ref rd_, .int wr_])), (rd_, .inl (cJ, 40, .inr (.inl fr_)))] sz)) (va_A [(o_, .inr (3, [.int (nI n_), .ref ro_, .ref ja_, .ref jb_, .ref sr_, .ref br_, .ref tr_, .ref ch_, .ref lf_, .ref ri_, .int sh_, .int sp_])), (lf_, .inr (0, [.ref ld_, .int wl_])), (ld_, .inl (cJ, 40, .inr (.inl fl_))), (ri_, .inr (0, [.ref rd_, .int wr_])), (rd_, .inl (cJ, 40, .inr (.inl fr_)))] sz)) 0 0 (va_A [(o_, .inr (3, [.int (nI n_), .ref ro_, .ref ja_, .ref jb_, .ref sr_, .ref br_, .ref tr_, .ref ch_, .ref lf_, .ref ri_, .int sh_, .int sp_])), (lf_, .inr (0, [.ref ld_, .int wl_])), (ld_, .inl (cJ, 40, .inr (.inl fl_))), (ri_, .inr (0, [.ref rd_, .int wr_])), (rd_, .inl (cJ, 40, .inr (.inl fr_)))] sz) := by
  refine zMet (Qf := fun A => va_Qi (fun (r : Int32) (u : Nat × Int32 × (Nat → Int64) × Int32 × (Nat → Int64)) => r = nI (u.1) ∧ (u.1) ≤ 2 * n_ ∧ y_ ^ n_ * 2 ^ (u.1) ≤ x_ ^ n_ ∧ ((u.1) < 2 * n_ → x_ ^ n_ < y_ ^ n_ * 2 ^ ((u.1) + 1))) (zB D (ty3 cI cJ cD) (fun (u : Nat × Int32 × (Nat → Int64) × Int32 × (Nat → Int64)) => [(o_, .inr (3, [.int (nI n_), .ref ro_, .ref ja_, .ref jb_, .ref sr_, .ref br_, .ref tr_, .ref ch_, .ref lf_, .ref ri_, .int sh_, .int sp_])), (lf_, .inr (0, [.ref ld_, .int (u.2.1)])), (ld_, .inl (cJ, 40, .inr (.inl (u.2.2.1)))), (ri_, .inr (0, [.ref rd_, .int (u.2.2.2.1)])), (rd_, .inl (cJ, 40, .inr (.inl (u.2.2.2.2))))]) A) A) (cc := cX3_lastNotAbove) (maxL := 4) (ret := (some .int)) (by decide) rfl (Nat.le_of_ble_eq_true rfl) ?_
  intro p e s m args below meth c A ls Q H hargs hQ hHe hx hb hr hml hown hts hlocks hin hP hK hD hA hS hE hAe hl
  have hl : lv_has ls 4 [(0, .ref o_), (1, .int (nI x_)), (2, .int (nI y_))] := hl
  have lp_28 : ∀ (k9_ : Nat) (k : Nat) (ul : Nat) (fl : Nat → Int64) (ur : Nat) (fr : Nat → Int64) (H : Heap) (locs : List Loc) (ls : Array Slot), 2 * n_ - k < k9_ → k ≤ 2 * n_ → y_ ^ n_ * 2 ^ k ≤ x_ ^ n_ → bigL fl ul (x_ ^ n_) → bigN ul (x_ ^ n_) → ul ≤ 40 → bigL fr ur (y_ ^ n_ * 2 ^ k) → bigN ur (y_ ^ n_ * 2 ^ k) → ur ≤ 40 →  va_P D cl5 [(o_, .inr (3, [.int (nI n_), .ref ro_, .ref ja_, .ref jb_, .ref sr_, .ref br_, .ref tr_, .ref ch_, .ref lf_, .ref ri_, .int sh_, .int sp_])), (lf_, .inr (0, [.ref ld_, .int (nI ul)])), (ld_, .inl (cJ, 40, .inr (.inl fl))), (ri_, .inr (0, [.ref rd_, .int (nI ur)])), (rd_, .inl (cJ, 40, .inr (.inl fr)))] H → va_D A [(o_, .inr (3, [.int (nI n_), .ref ro_, .ref ja_, .ref jb_, .ref sr_, .ref br_, .ref tr_, .ref ch_, .ref lf_, .ref ri_, .int sh_, .int sp_])), (lf_, .inr (0, [.ref ld_, .int (nI ul)])), (ld_, .inl (cJ, 40, .inr (.inl fl))), (ri_, .inr (0, [.ref rd_, .int (nI ur)])), (rd_, .inl (cJ, 40, .inr (.inl fr)))] → va_S A s.heap H locs → lv_has ls 4 [(0, .ref o_), (3, .int (nI k))] → W p l e rm_X3_lastNotAbove s m args below meth c H locs 0 0 Q (F0 m 28 ls []) := by
    intro k9_
    induction k9_ with
    | zero => intro k ul fl ur fr H locs ls hm; exact absurd hm (Nat.not_lt_zero _)
    | succ k9_ ih =>
      intro k ul fl ur fr H locs ls hm  h1 h2 l1 l2 l3 r1 r2 r3 hP hD hS hl
      refine lv_iload_n hx hb dX3_lastNotAbove_28 rfl (lv_at hl 1 rfl) ?_
      refine lv_iconst (v := nI 2) hx hb dX3_lastNotAbove_29 (by decide) ?_
      refine lv_aload_n hx hb dX3_lastNotAbove_30 rfl (lv_at hl 0 rfl) ?_
      refine va_get (D := D) (ci := 3) (v := .int (nI n_)) (C := RX3) (T := TX3) (N := 12) hx hb hts nX3_lastNotAbove_3 hown hK hP 0 rfl rfl 0 (by decide) (zh (w := .fieldLink RX3 42 "FretRoots" "notes" "I") hts 2 rfl) (fun _ h9 => h9) rfl dX3_lastNotAbove_31 ?_
      refine lv_imul hx hb dX3_lastNotAbove_34 ?_
      refine zi_ (y := nI (2 * n_)) (pk_mul 2 n_) ?_
      refine lv_icmp_ge (tgt := 68) hx hb dX3_lastNotAbove_35 (by decide) (fun c_35 => ?_) (fun c_35 => ?_)
      · skip
        have c_35 := zji_le (a := 2 * n_) (b := k) (by omega) (by omega) c_35
        have hk2 : k = 2 * n_ := by omega
        subst hk2
        refine lv_iconst (v := nI 2) hx hb dX3_lastNotAbove_68 (by decide) ?_
        refine lv_aload_n hx hb dX3_lastNotAbove_69 rfl (lv_at hl 0 rfl) ?_
        refine va_get (D := D) (ci := 3) (v := .int (nI n_)) (C := RX3) (T := TX3) (N := 12) hx hb hts nX3_lastNotAbove_3 hown hK hP 0 rfl rfl 0 (by decide) (zh (w := .fieldLink RX3 42 "FretRoots" "notes" "I") hts 2 rfl) (fun _ h9 => h9) rfl dX3_lastNotAbove_70 ?_
        refine lv_imul hx hb dX3_lastNotAbove_73 ?_
        refine zi_ (y := nI (2 * n_)) (pk_mul 2 n_) ?_
        subst hQ
        exact ze_i hx hb hr hlocks (2 * n_, nI ul, fl, nI ur, fr) (⟨rfl, Nat.le_refl _, h2, fun q => absurd q (Nat.lt_irrefl _)⟩) hP hK hD hS dX3_lastNotAbove_74
      · skip
        have c_35 := zji_nle (a := 2 * n_) (b := k) (by omega) (by omega) c_35
        refine lv_aload_n hx hb dX3_lastNotAbove_38 rfl (lv_at hl 0 rfl) ?_
        refine va_get (D := D) (ci := 3) (v := .ref ri_) (C := RX3) (T := TX3) (N := 12) hx hb hts nX3_lastNotAbove_3 hown hK hP 0 rfl rfl 9 (by decide) (zh (w := .fieldLink RX3 23 "FretRoots" "right" "LFretRoots$BigNumber;") hts 3 rfl) (fun _ h9 => h9) rfl dX3_lastNotAbove_39 ?_
        refine lv_iconst (v := nI 1) hx hb dX3_lastNotAbove_42 (by decide) ?_
        have epow : y_ ^ n_ * 2 ^ k * 2 ^ 1 = y_ ^ n_ * 2 ^ (k + 1) := by rw [Nat.pow_one, Nat.pow_succ, Nat.mul_assoc]
        refine zc_v (wc := [(ri_, .inr (0, [.ref rd_, .int (nI ur)])), (rd_, .inl (cJ, 40, .inr (.inl fr)))]) (wr := [(o_, .inr (3, [.int (nI n_), .ref ro_, .ref ja_, .ref jb_, .ref sr_, .ref br_, .ref tr_, .ref ch_, .ref lf_, .ref ri_, .int sh_, .int sp_])), (lf_, .inr (0, [.ref ld_, .int (nI ul)])), (ld_, .inl (cJ, 40, .inr (.inl fl)))]) hP hD hS hA [3, 4] [0, 1, 2] rfl rfl (by decide) (by decide) (va_runV (As := [.int (nI 1)]) (rest := []) ⟨hx, hb, hml, hown, hts⟩ (ct_X0_doubleTimes l D cI cJ cD ri_ rd_ ur (y_ ^ n_ * 2 ^ k) 1 fr H.size r3 r1 r2 (by decide) (by rw [epow]; exact f_bound (B := 20) (by omega) (by omega))) (cwV 1 hts gX3_lastNotAbove_X0_doubleTimes rfl rfl rfl (by decide +kernel) ⟨Nat.le_of_ble_eq_true rfl, Nat.le_of_ble_eq_true rfl⟩) (zPreV (wc := [(ri_, .inr (0, [.ref rd_, .int (nI ur)])), (rd_, .inl (cJ, 40, .inr (.inl fr)))]) hK (hP.sub [3, 4] rfl) (hD.sub [3, 4] (by decide) rfl) 0 0 rfl rfl zTb (fun _ _ _ => trivial)) rfl rfl hl.1 rfl (lv_room (Nat.le_of_ble_eq_true rfl)) dX3_lastNotAbove_43 ⟨Nat.le_of_ble_eq_true rfl, Nat.le_of_ble_eq_true rfl⟩) (fun u H locs hw hP hD hS => ?_)
        obtain ⟨f2_2, u2_3⟩ := u
        have hP : va_P D cl5 [(o_, .inr (3, [.int (nI n_), .ref ro_, .ref ja_, .ref jb_, .ref sr_, .ref br_, .ref tr_, .ref ch_, .ref lf_, .ref ri_, .int sh_, .int sp_])), (lf_, .inr (0, [.ref ld_, .int (nI ul)])), (ld_, .inl (cJ, 40, .inr (.inl fl))), (ri_, .inr (0, [.ref rd_, .int (nI u2_3)])), (rd_, .inl (cJ, 40, .inr (.inl f2_2)))] H := hP.sub [0, 1, 2, 3, 4] rfl
        have hD : va_D A [(o_, .inr (3, [.int (nI n_), .ref ro_, .ref ja_, .ref jb_, .ref sr_, .ref br_, .ref tr_, .ref ch_, .ref lf_, .ref ri_, .int sh_, .int sp_])), (lf_, .inr (0, [.ref ld_, .int (nI ul)])), (ld_, .inl (cJ, 40, .inr (.inl fl))), (ri_, .inr (0, [.ref rd_, .int (nI u2_3)])), (rd_, .inl (cJ, 40, .inr (.inl f2_2)))] := hD.sub [0, 1, 2, 3, 4] (by decide) rfl
        have hw : bigL f2_2 u2_3 ((y_ ^ n_ * 2 ^ k) * 2 ^ 1) ∧ bigN u2_3 ((y_ ^ n_ * 2 ^ k) * 2 ^ 1) ∧ u2_3 ≤ 40 := hw
        obtain ⟨hL_43, hN_43, hu_43⟩ := hw
        refine lv_aload_n hx hb dX3_lastNotAbove_46 rfl (lv_at hl 0 rfl) ?_
        refine va_get (D := D) (ci := 3) (v := .ref ri_) (C := RX3) (T := TX3) (N := 12) hx hb hts nX3_lastNotAbove_3 hown hK hP 0 rfl rfl 9 (by decide) (zh (w := .fieldLink RX3 23 "FretRoots" "right" "LFretRoots$BigNumber;") hts 3 rfl) (fun _ h9 => h9) rfl dX3_lastNotAbove_47 ?_
        refine lv_aload_n hx hb dX3_lastNotAbove_50 rfl (lv_at hl 0 rfl) ?_
        refine va_get (D := D) (ci := 3) (v := .ref lf_) (C := RX3) (T := TX3) (N := 12) hx hb hts nX3_lastNotAbove_3 hown hK hP 0 rfl rfl 8 (by decide) (zh (w := .fieldLink RX3 19 "FretRoots" "left" "LFretRoots$BigNumber;") hts 1 rfl) (fun _ h9 => h9) rfl dX3_lastNotAbove_51 ?_
        refine zc_i (wc := [(ri_, .inr (0, [.ref rd_, .int (nI u2_3)])), (rd_, .inl (cJ, 40, .inr (.inl f2_2))), (lf_, .inr (0, [.ref ld_, .int (nI ul)])), (ld_, .inl (cJ, 40, .inr (.inl fl)))]) (wr := [(o_, .inr (3, [.int (nI n_), .ref ro_, .ref ja_, .ref jb_, .ref sr_, .ref br_, .ref tr_, .ref ch_, .ref lf_, .ref ri_, .int sh_, .int sp_]))]) hP hD hS hA [3, 4, 1, 2] [0] rfl rfl (by decide) (by decide) (va_runV (As := [.ref lf_]) (rest := []) ⟨hx, hb, hml, hown, hts⟩ (ct_X0_compareWith l D cI cJ cD ri_ rd_ lf_ ld_ u2_3 ul (y_ ^ n_ * 2 ^ k * 2 ^ 1) (x_ ^ n_) f2_2 fl H.size hu_43 l3 hL_43 hN_43 l1 l2) (cwV 1 hts gX3_lastNotAbove_X0_compareWith rfl rfl rfl (by decide +kernel) ⟨Nat.le_of_ble_eq_true rfl, Nat.le_of_ble_eq_true rfl⟩) (zPreV (wc := [(ri_, .inr (0, [.ref rd_, .int (nI u2_3)])), (rd_, .inl (cJ, 40, .inr (.inl f2_2))), (lf_, .inr (0, [.ref ld_, .int (nI ul)])), (ld_, .inl (cJ, 40, .inr (.inl fl)))]) hK (hP.sub [3, 4, 1, 2] rfl) (hD.sub [3, 4, 1, 2] (by decide) rfl) 0 0 rfl rfl zTb (fun _ _ _ => trivial)) rfl rfl hl.1 rfl (lv_room (Nat.le_of_ble_eq_true rfl)) dX3_lastNotAbove_54 ⟨Nat.le_of_ble_eq_true rfl, Nat.le_of_ble_eq_true rfl⟩) (fun r_4 u H locs hw hP hD hS => ?_)
        have hP : va_P D cl5 [(o_, .inr (3, [.int (nI n_), .ref ro_, .ref ja_, .ref jb_, .ref sr_, .ref br_, .ref tr_, .ref ch_, .ref lf_, .ref ri_, .int sh_, .int sp_])), (lf_, .inr (0, [.ref ld_, .int (nI ul)])), (ld_, .inl (cJ, 40, .inr (.inl fl))), (ri_, .inr (0, [.ref rd_, .int (nI u2_3)])), (rd_, .inl (cJ, 40, .inr (.inl f2_2)))] H := hP.sub [0, 3, 4, 1, 2] rfl
        have hD : va_D A [(o_, .inr (3, [.int (nI n_), .ref ro_, .ref ja_, .ref jb_, .ref sr_, .ref br_, .ref tr_, .ref ch_, .ref lf_, .ref ri_, .int sh_, .int sp_])), (lf_, .inr (0, [.ref ld_, .int (nI ul)])), (ld_, .inl (cJ, 40, .inr (.inl fl))), (ri_, .inr (0, [.ref rd_, .int (nI u2_3)])), (rd_, .inl (cJ, 40, .inr (.inl f2_2)))] := hD.sub [0, 3, 4, 1, 2] (by decide) rfl
        have hw : r_4 = cmpI (y_ ^ n_ * 2 ^ k * 2 ^ 1) (x_ ^ n_) := hw
        subst hw
        refine lv_if_le (tgt := 62) hx hb dX3_lastNotAbove_57 (by decide) (fun c_57 => ?_) (fun c_57 => ?_)
        · skip
          refine lv_iinc (v := nI (k + 1)) (lv' := [(3, .int (nI (k + 1))), (0, .ref o_)]) hx hb dX3_lastNotAbove_62 hl (k := 1) rfl (z_inc k 1) (by decide) rfl (fun ls hl => ?_)
          refine lv_goto (tgt := 28) hx hb dX3_lastNotAbove_65 (by decide) ?_
          exact ih (k + 1) ul fl u2_3 f2_2 _ _ _ (by omega) (by omega) (by rw [← epow]; exact cmpI_le0 c_57) l1 l2 l3 (by rw [← epow]; exact hL_43) (by rw [← epow]; exact hN_43) hu_43 hP hD hS (lv_sub hl [1, 0] rfl)
        · skip
          refine lv_iload_n hx hb dX3_lastNotAbove_60 rfl (lv_at hl 1 rfl) ?_
          subst hQ
          exact ze_i hx hb hr hlocks (k, nI ul, fl, nI u2_3, f2_2) (⟨rfl, h1, h2, fun _ => by rw [← epow]; exact cmpI_nle0 c_57⟩) hP hK hD hS dX3_lastNotAbove_61
  refine lv_aload_n hx hb dX3_lastNotAbove_0 rfl (lv_at hl 0 rfl) ?_
  refine va_get (D := D) (ci := 3) (v := .ref lf_) (C := RX3) (T := TX3) (N := 12) hx hb hts nX3_lastNotAbove_3 hown hK hP 0 rfl rfl 8 (by decide) (zh (w := .fieldLink RX3 19 "FretRoots" "left" "LFretRoots$BigNumber;") hts 1 rfl) (fun _ h9 => h9) rfl dX3_lastNotAbove_1 ?_
  refine lv_iload_n hx hb dX3_lastNotAbove_4 rfl (lv_at hl 1 rfl) ?_
  refine lv_i2l (v := lN x_) hx hb dX3_lastNotAbove_5 (nI_l (by omega)) ?_
  refine lv_aload_n hx hb dX3_lastNotAbove_6 rfl (lv_at hl 0 rfl) ?_
  refine va_get (D := D) (ci := 3) (v := .int (nI n_)) (C := RX3) (T := TX3) (N := 12) hx hb hts nX3_lastNotAbove_3 hown hK hP 0 rfl rfl 0 (by decide) (zh (w := .fieldLink RX3 42 "FretRoots" "notes" "I") hts 2 rfl) (fun _ h9 => h9) rfl dX3_lastNotAbove_7 ?_
  refine zc_v (wc := [(lf_, .inr (0, [.ref ld_, .int wl_])), (ld_, .inl (cJ, 40, .inr (.inl fl_)))]) (wr := [(o_, .inr (3, [.int (nI n_), .ref ro_, .ref ja_, .ref jb_, .ref sr_, .ref br_, .ref tr_, .ref ch_, .ref lf_, .ref ri_, .int sh_, .int sp_])), (ri_, .inr (0, [.ref rd_, .int wr_])), (rd_, .inl (cJ, 40, .inr (.inl fr_)))]) hP hD hS hA [1, 2] [0, 3, 4] rfl rfl (by decide) (by decide) (va_runV (As := [.long (lN x_), .int (nI n_)]) (rest := []) ⟨hx, hb, hml, hown, hts⟩ (ct_X0_setPower l D cI cJ cD lf_ ld_ x_ n_ wl_ fl_ H.size (by omega) (by omega) (by omega) (f_bound0 (B := 20) (by omega) (by omega))) (cwV 2 hts gX3_lastNotAbove_X0_setPower rfl rfl rfl (by decide +kernel) ⟨Nat.le_of_ble_eq_true rfl, Nat.le_of_ble_eq_true rfl⟩) (zPreV (wc := [(lf_, .inr (0, [.ref ld_, .int wl_])), (ld_, .inl (cJ, 40, .inr (.inl fl_)))]) hK (hP.sub [1, 2] rfl) (hD.sub [1, 2] (by decide) rfl) 0 0 rfl rfl zTb (fun _ _ _ => trivial)) rfl rfl hl.1 rfl (lv_room (Nat.le_of_ble_eq_true rfl)) dX3_lastNotAbove_10 ⟨Nat.le_of_ble_eq_true rfl, Nat.le_of_ble_eq_true rfl⟩) (fun u H locs hw hP hD hS => ?_)
  obtain ⟨f2_6, u2_7⟩ := u
  have hP : va_P D cl5 [(o_, .inr (3, [.int (nI n_), .ref ro_, .ref ja_, .ref jb_, .ref sr_, .ref br_, .ref tr_, .ref ch_, .ref lf_, .ref ri_, .int sh_, .int sp_])), (lf_, .inr (0, [.ref ld_, .int (nI u2_7)])), (ld_, .inl (cJ, 40, .inr (.inl f2_6))), (ri_, .inr (0, [.ref rd_, .int wr_])), (rd_, .inl (cJ, 40, .inr (.inl fr_)))] H := hP.sub [0, 3, 4, 1, 2] rfl
  have hD : va_D A [(o_, .inr (3, [.int (nI n_), .ref ro_, .ref ja_, .ref jb_, .ref sr_, .ref br_, .ref tr_, .ref ch_, .ref lf_, .ref ri_, .int sh_, .int sp_])), (lf_, .inr (0, [.ref ld_, .int (nI u2_7)])), (ld_, .inl (cJ, 40, .inr (.inl f2_6))), (ri_, .inr (0, [.ref rd_, .int wr_])), (rd_, .inl (cJ, 40, .inr (.inl fr_)))] := hD.sub [0, 3, 4, 1, 2] (by decide) rfl
  have hw : bigL f2_6 u2_7 (x_ ^ n_) ∧ bigN u2_7 (x_ ^ n_) ∧ u2_7 ≤ 40 := hw
  obtain ⟨hL_10, hN_10, hu_10⟩ := hw
  refine lv_aload_n hx hb dX3_lastNotAbove_13 rfl (lv_at hl 0 rfl) ?_
  refine va_get (D := D) (ci := 3) (v := .ref ri_) (C := RX3) (T := TX3) (N := 12) hx hb hts nX3_lastNotAbove_3 hown hK hP 0 rfl rfl 9 (by decide) (zh (w := .fieldLink RX3 23 "FretRoots" "right" "LFretRoots$BigNumber;") hts 3 rfl) (fun _ h9 => h9) rfl dX3_lastNotAbove_14 ?_
  refine lv_iload_n hx hb dX3_lastNotAbove_17 rfl (lv_at hl 2 rfl) ?_
  refine lv_i2l (v := lN y_) hx hb dX3_lastNotAbove_18 (nI_l (by omega)) ?_
  refine lv_aload_n hx hb dX3_lastNotAbove_19 rfl (lv_at hl 0 rfl) ?_
  refine va_get (D := D) (ci := 3) (v := .int (nI n_)) (C := RX3) (T := TX3) (N := 12) hx hb hts nX3_lastNotAbove_3 hown hK hP 0 rfl rfl 0 (by decide) (zh (w := .fieldLink RX3 42 "FretRoots" "notes" "I") hts 2 rfl) (fun _ h9 => h9) rfl dX3_lastNotAbove_20 ?_
  refine zc_v (wc := [(ri_, .inr (0, [.ref rd_, .int wr_])), (rd_, .inl (cJ, 40, .inr (.inl fr_)))]) (wr := [(o_, .inr (3, [.int (nI n_), .ref ro_, .ref ja_, .ref jb_, .ref sr_, .ref br_, .ref tr_, .ref ch_, .ref lf_, .ref ri_, .int sh_, .int sp_])), (lf_, .inr (0, [.ref ld_, .int (nI u2_7)])), (ld_, .inl (cJ, 40, .inr (.inl f2_6)))]) hP hD hS hA [3, 4] [0, 1, 2] rfl rfl (by decide) (by decide) (va_runV (As := [.long (lN y_), .int (nI n_)]) (rest := []) ⟨hx, hb, hml, hown, hts⟩ (ct_X0_setPower l D cI cJ cD ri_ rd_ y_ n_ wr_ fr_ H.size (by omega) (by omega) (by omega) (f_bound0 (B := 20) (by omega) (by omega))) (cwV 2 hts gX3_lastNotAbove_X0_setPower rfl rfl rfl (by decide +kernel) ⟨Nat.le_of_ble_eq_true rfl, Nat.le_of_ble_eq_true rfl⟩) (zPreV (wc := [(ri_, .inr (0, [.ref rd_, .int wr_])), (rd_, .inl (cJ, 40, .inr (.inl fr_)))]) hK (hP.sub [3, 4] rfl) (hD.sub [3, 4] (by decide) rfl) 0 0 rfl rfl zTb (fun _ _ _ => trivial)) rfl rfl hl.1 rfl (lv_room (Nat.le_of_ble_eq_true rfl)) dX3_lastNotAbove_23 ⟨Nat.le_of_ble_eq_true rfl, Nat.le_of_ble_eq_true rfl⟩) (fun u H locs hw hP hD hS => ?_)
  obtain ⟨f2_9, u2_10⟩ := u
  have hP : va_P D cl5 [(o_, .inr (3, [.int (nI n_), .ref ro_, .ref ja_, .ref jb_, .ref sr_, .ref br_, .ref tr_, .ref ch_, .ref lf_, .ref ri_, .int sh_, .int sp_])), (lf_, .inr (0, [.ref ld_, .int (nI u2_7)])), (ld_, .inl (cJ, 40, .inr (.inl f2_6))), (ri_, .inr (0, [.ref rd_, .int (nI u2_10)])), (rd_, .inl (cJ, 40, .inr (.inl f2_9)))] H := hP.sub [0, 1, 2, 3, 4] rfl
  have hD : va_D A [(o_, .inr (3, [.int (nI n_), .ref ro_, .ref ja_, .ref jb_, .ref sr_, .ref br_, .ref tr_, .ref ch_, .ref lf_, .ref ri_, .int sh_, .int sp_])), (lf_, .inr (0, [.ref ld_, .int (nI u2_7)])), (ld_, .inl (cJ, 40, .inr (.inl f2_6))), (ri_, .inr (0, [.ref rd_, .int (nI u2_10)])), (rd_, .inl (cJ, 40, .inr (.inl f2_9)))] := hD.sub [0, 1, 2, 3, 4] (by decide) rfl
  have hw : bigL f2_9 u2_10 (y_ ^ n_) ∧ bigN u2_10 (y_ ^ n_) ∧ u2_10 ≤ 40 := hw
  obtain ⟨hL_23, hN_23, hu_23⟩ := hw
  refine lv_iconst (v := nI 0) hx hb dX3_lastNotAbove_26 (by decide) ?_
  refine lv_istore_n (lv' := [(3, .int (nI 0)), (0, .ref o_), (1, .int (nI x_)), (2, .int (nI y_))]) hx hb dX3_lastNotAbove_27 rfl hl (by decide) rfl (fun ls hl => ?_)
  exact lp_28 ((2 * n_ - 0) + 1) 0 u2_7 f2_6 u2_10 f2_9 _ _ _ (Nat.lt_succ_self _) (Nat.zero_le _) (by rw [Nat.pow_zero, Nat.mul_one]; exact Nat.pow_le_pow_left hyx _) hL_10 hN_10 hu_10 (by rw [Nat.pow_zero, Nat.mul_one]; exact hL_23) (by rw [Nat.pow_zero, Nat.mul_one]; exact hN_23) hu_23 hP hD hS (lv_sub hl [1, 0] rfl)
theorem nX3_isPastMiddle_3 : ∀ w ∈ wsX30, w ∈ wsX3_isPastMiddle := by decide +kernel
abbrev rm_X3_isPastMiddle : Room := { frames := 3, cells := 0, slots := 0, locals := 76 }
set_option maxHeartbeats 4000000 in
set_option maxRecDepth 100000 in
/-- isPastMiddle -/
theorem ct_X3_isPastMiddle (l : Launch) (D : va_G) (cI cJ cD : ClassId) (o_ : Nat) (ro_ : Nat) (ja_ : Nat) (jb_ : Nat) (sr_ : Nat) (br_ : Nat) (tr_ : Nat) (ch_ : Nat) (lf_ : Nat) (ri_ : Nat) (sh_ : Int32) (sp_ : Int32) (n_ : Nat) (ld_ : Nat) (rd_ : Nat) (wl_ : Int32) (wr_ : Int32) (fl_ : Nat → Int64) (fr_ : Nat → Int64) (x_ : Nat) (y_ : Nat) (k_ : Nat) (sz : Nat) (hn : n_ ≤ 24) (hy1 : 1 ≤ y_) (hyx : y_ ≤ x_) (hx_ : x_ ≤ 1000000) (hk : k_ ≤ 48) (hb_ : y_ ^ n_ * 2 ^ k_ ≤ x_ ^ n_) : Met l yX3_isPastMiddle wsX3_isPastMiddle rm_X3_isPastMiddle (zP D (ty3 cI cJ cD) [.ref o_, .int (nI x_), .int (nI y_), .int (nI k_)] sz [(o_, .inr (3, [.int (nI n_), .ref ro_, .ref ja_, .ref jb_, .ref sr_, .ref br_, .ref tr_, .ref ch_, .ref lf_, .ref ri_, .int sh_, .int sp_])), (lf_, .inr (0, [.ref ld_, .int wl_])), (ld_, .inl (cJ, 40, .inr (.inl fl_))), (ri_, .inr (0, [.ref rd_, .int wr_])), (rd_, .inl (cJ, 40, .inr (.inl fr_)))] zT) (va_Qi (fun (r : Int32) (u : Int32 × (Nat → Int64) × Int32 × (Nat → Int64)) => r = nI (leI (y_ ^ (2 * n_) * 2 ^ (2 * k_ + 1) + 1) (x_ ^ (2 * n_))) ∧ leI (y_ ^ (2 * n_) * 2 ^ (2 * k_ + 1) + 1) (x_ ^ (2 * n_)) ≤ 1) (zB D (ty3 cI cJ cD) (fun (u : Int32 × (Nat → Int64) × Int32 × (Nat → Int64)) => [(o_, .inr (3, [.int (nI n_), .ref ro_, .ref ja_, .ref jb_, .ref sr_, .ref br_, .ref tr_, .ref ch_, .ref lf_, .ref ri_, .int sh_, .int sp_])), (lf_, .inr (0, [.ref ld_, .int (u.1)])), (ld_, .inl (cJ, 40, .inr (.inl (u.2.1)))), (ri_, .inr (0, [.ref rd_, .int (u.2.2.1)])), (rd_, .inl (cJ, 40, .inr (.inl (u.2.2.2))))]) (va_A [(o_, .inr (3, [.int (nI n_), .ref ro_, .ref ja_, .ref jb_, .ref sr_, .ref br_, .ref tr_, .ref ch_, .ref lf_, .ref ri_, .int sh_, .int sp_])), (lf_, .inr (0, [.ref ld_, .int wl_])), (ld_, .inl (cJ, 40, .inr (.inl fl_))), (ri_, .inr (0, [.ref rd_, .int wr_])), (rd_, .inl (cJ, 40, .inr (.inl fr_)))] sz)) (va_A [(o_, .inr (3, [.int (nI n_), .ref ro_, .ref ja_, .ref jb_, .ref sr_, .ref br_, .ref tr_, .ref ch_, .ref lf_, .ref ri_, .int sh_, .int sp_])), (lf_, .inr (0, [.ref ld_, .int wl_])), (ld_, .inl (cJ, 40, .inr (.inl fl_))), (ri_, .inr (0, [.ref rd_, .int wr_])), (rd_, .inl (cJ, 40, .inr (.inl fr_)))] sz)) 0 0 (va_A [(o_, .inr (3, [.int (nI n_), .ref ro_, .ref ja_, .ref jb_, .ref sr_, .ref br_, .ref tr_, .ref ch_, .ref lf_, .ref ri_, .int sh_, .int sp_])), (lf_, .inr (0, [.ref ld_, .int wl_])), (ld_, .inl (cJ, 40, .inr (.inl fl_))), (ri_, .inr (0, [.ref rd_, .int wr_])), (rd_, .inl (cJ, 40, .inr (.inl fr_)))] sz) := by
  refine zMet (Qf := fun A => va_Qi (fun (r : Int32) (u : Int32 × (Nat → Int64) × Int32 × (Nat → Int64)) => r = nI (leI (y_ ^ (2 * n_) * 2 ^ (2 * k_ + 1) + 1) (x_ ^ (2 * n_))) ∧ leI (y_ ^ (2 * n_) * 2 ^ (2 * k_ + 1) + 1) (x_ ^ (2 * n_)) ≤ 1) (zB D (ty3 cI cJ cD) (fun (u : Int32 × (Nat → Int64) × Int32 × (Nat → Int64)) => [(o_, .inr (3, [.int (nI n_), .ref ro_, .ref ja_, .ref jb_, .ref sr_, .ref br_, .ref tr_, .ref ch_, .ref lf_, .ref ri_, .int sh_, .int sp_])), (lf_, .inr (0, [.ref ld_, .int (u.1)])), (ld_, .inl (cJ, 40, .inr (.inl (u.2.1)))), (ri_, .inr (0, [.ref rd_, .int (u.2.2.1)])), (rd_, .inl (cJ, 40, .inr (.inl (u.2.2.2))))]) A) A) (cc := cX3_isPastMiddle) (maxL := 4) (ret := (some .boolean)) (by decide) rfl (Nat.le_of_ble_eq_true rfl) ?_
  intro p e s m args below meth c A ls Q H hargs hQ hHe hx hb hr hml hown hts hlocks hin hP hK hD hA hS hE hAe hl
  have hl : lv_has ls 4 [(0, .ref o_), (1, .int (nI x_)), (2, .int (nI y_)), (3, .int (nI k_))] := hl
  refine lv_aload_n hx hb dX3_isPastMiddle_0 rfl (lv_at hl 0 rfl) ?_
  refine va_get (D := D) (ci := 3) (v := .ref lf_) (C := RX3) (T := TX3) (N := 12) hx hb hts nX3_isPastMiddle_3 hown hK hP 0 rfl rfl 8 (by decide) (zh (w := .fieldLink RX3 19 "FretRoots" "left" "LFretRoots$BigNumber;") hts 1 rfl) (fun _ h9 => h9) rfl dX3_isPastMiddle_1 ?_
  refine lv_iload_n hx hb dX3_isPastMiddle_4 rfl (lv_at hl 1 rfl) ?_
  refine lv_i2l (v := lN x_) hx hb dX3_isPastMiddle_5 (nI_l (by omega)) ?_
  refine lv_iconst (v := nI 2) hx hb dX3_isPastMiddle_6 (by decide) ?_
  refine lv_aload_n hx hb dX3_isPastMiddle_7 rfl (lv_at hl 0 rfl) ?_
  refine va_get (D := D) (ci := 3) (v := .int (nI n_)) (C := RX3) (T := TX3) (N := 12) hx hb hts nX3_isPastMiddle_3 hown hK hP 0 rfl rfl 0 (by decide) (zh (w := .fieldLink RX3 42 "FretRoots" "notes" "I") hts 2 rfl) (fun _ h9 => h9) rfl dX3_isPastMiddle_8 ?_
  refine lv_imul hx hb dX3_isPastMiddle_11 ?_
  refine zi_ (y := nI (2 * n_)) (pk_mul 2 n_) ?_
  refine zc_v (wc := [(lf_, .inr (0, [.ref ld_, .int wl_])), (ld_, .inl (cJ, 40, .inr (.inl fl_)))]) (wr := [(o_, .inr (3, [.int (nI n_), .ref ro_, .ref ja_, .ref jb_, .ref sr_, .ref br_, .ref tr_, .ref ch_, .ref lf_, .ref ri_, .int sh_, .int sp_])), (ri_, .inr (0, [.ref rd_, .int wr_])), (rd_, .inl (cJ, 40, .inr (.inl fr_)))]) hP hD hS hA [1, 2] [0, 3, 4] rfl rfl (by decide) (by decide) (va_runV (As := [.long (lN x_), .int (nI (2 * n_))]) (rest := []) ⟨hx, hb, hml, hown, hts⟩ (ct_X0_setPower l D cI cJ cD lf_ ld_ x_ (2 * n_) wl_ fl_ H.size (by omega) (by omega) (by omega) (f_bound0 (B := 20) (by omega) (by omega))) (cwV 2 hts gX3_isPastMiddle_X0_setPower rfl rfl rfl (by decide +kernel) ⟨Nat.le_of_ble_eq_true rfl, Nat.le_of_ble_eq_true rfl⟩) (zPreV (wc := [(lf_, .inr (0, [.ref ld_, .int wl_])), (ld_, .inl (cJ, 40, .inr (.inl fl_)))]) hK (hP.sub [1, 2] rfl) (hD.sub [1, 2] (by decide) rfl) 0 0 rfl rfl zTb (fun _ _ _ => trivial)) rfl rfl hl.1 rfl (lv_room (Nat.le_of_ble_eq_true rfl)) dX3_isPastMiddle_12 ⟨Nat.le_of_ble_eq_true rfl, Nat.le_of_ble_eq_true rfl⟩) (fun u H locs hw hP hD hS => ?_)
  obtain ⟨f2_2, u2_3⟩ := u
  have hP : va_P D cl5 [(o_, .inr (3, [.int (nI n_), .ref ro_, .ref ja_, .ref jb_, .ref sr_, .ref br_, .ref tr_, .ref ch_, .ref lf_, .ref ri_, .int sh_, .int sp_])), (lf_, .inr (0, [.ref ld_, .int (nI u2_3)])), (ld_, .inl (cJ, 40, .inr (.inl f2_2))), (ri_, .inr (0, [.ref rd_, .int wr_])), (rd_, .inl (cJ, 40, .inr (.inl fr_)))] H := hP.sub [0, 3, 4, 1, 2] rfl
  have hD : va_D A [(o_, .inr (3, [.int (nI n_), .ref ro_, .ref ja_, .ref jb_, .ref sr_, .ref br_, .ref tr_, .ref ch_, .ref lf_, .ref ri_, .int sh_, .int sp_])), (lf_, .inr (0, [.ref ld_, .int (nI u2_3)])), (ld_, .inl (cJ, 40, .inr (.inl f2_2))), (ri_, .inr (0, [.ref rd_, .int wr_])), (rd_, .inl (cJ, 40, .inr (.inl fr_)))] := hD.sub [0, 3, 4, 1, 2] (by decide) rfl
  have hw : bigL f2_2 u2_3 (x_ ^ (2 * n_)) ∧ bigN u2_3 (x_ ^ (2 * n_)) ∧ u2_3 ≤ 40 := hw
  obtain ⟨hL_12, hN_12, hu_12⟩ := hw
  refine lv_aload_n hx hb dX3_isPastMiddle_15 rfl (lv_at hl 0 rfl) ?_
  refine va_get (D := D) (ci := 3) (v := .ref ri_) (C := RX3) (T := TX3) (N := 12) hx hb hts nX3_isPastMiddle_3 hown hK hP 0 rfl rfl 9 (by decide) (zh (w := .fieldLink RX3 23 "FretRoots" "right" "LFretRoots$BigNumber;") hts 3 rfl) (fun _ h9 => h9) rfl dX3_isPastMiddle_16 ?_
  refine lv_iload_n hx hb dX3_isPastMiddle_19 rfl (lv_at hl 2 rfl) ?_
  refine lv_i2l (v := lN y_) hx hb dX3_isPastMiddle_20 (nI_l (by omega)) ?_
  refine lv_iconst (v := nI 2) hx hb dX3_isPastMiddle_21 (by decide) ?_
  refine lv_aload_n hx hb dX3_isPastMiddle_22 rfl (lv_at hl 0 rfl) ?_
  refine va_get (D := D) (ci := 3) (v := .int (nI n_)) (C := RX3) (T := TX3) (N := 12) hx hb hts nX3_isPastMiddle_3 hown hK hP 0 rfl rfl 0 (by decide) (zh (w := .fieldLink RX3 42 "FretRoots" "notes" "I") hts 2 rfl) (fun _ h9 => h9) rfl dX3_isPastMiddle_23 ?_
  refine lv_imul hx hb dX3_isPastMiddle_26 ?_
  refine zi_ (y := nI (2 * n_)) (pk_mul 2 n_) ?_
  refine zc_v (wc := [(ri_, .inr (0, [.ref rd_, .int wr_])), (rd_, .inl (cJ, 40, .inr (.inl fr_)))]) (wr := [(o_, .inr (3, [.int (nI n_), .ref ro_, .ref ja_, .ref jb_, .ref sr_, .ref br_, .ref tr_, .ref ch_, .ref lf_, .ref ri_, .int sh_, .int sp_])), (lf_, .inr (0, [.ref ld_, .int (nI u2_3)])), (ld_, .inl (cJ, 40, .inr (.inl f2_2)))]) hP hD hS hA [3, 4] [0, 1, 2] rfl rfl (by decide) (by decide) (va_runV (As := [.long (lN y_), .int (nI (2 * n_))]) (rest := []) ⟨hx, hb, hml, hown, hts⟩ (ct_X0_setPower l D cI cJ cD ri_ rd_ y_ (2 * n_) wr_ fr_ H.size (by omega) (by omega) (by omega) (f_bound0 (B := 20) (by omega) (by omega))) (cwV 2 hts gX3_isPastMiddle_X0_setPower rfl rfl rfl (by decide +kernel) ⟨Nat.le_of_ble_eq_true rfl, Nat.le_of_ble_eq_true rfl⟩) (zPreV (wc := [(ri_, .inr (0, [.ref rd_, .int wr_])), (rd_, .inl (cJ, 40, .inr (.inl fr_)))]) hK (hP.sub [3, 4] rfl) (hD.sub [3, 4] (by decide) rfl) 0 0 rfl rfl zTb (fun _ _ _ => trivial)) rfl rfl hl.1 rfl (lv_room (Nat.le_of_ble_eq_true rfl)) dX3_isPastMiddle_27 ⟨Nat.le_of_ble_eq_true rfl, Nat.le_of_ble_eq_true rfl⟩) (fun u H locs hw hP hD hS => ?_)
  obtain ⟨f2_5, u2_6⟩ := u
  have hP : va_P D cl5 [(o_, .inr (3, [.int (nI n_), .ref ro_, .ref ja_, .ref jb_, .ref sr_, .ref br_, .ref tr_, .ref ch_, .ref lf_, .ref ri_, .int sh_, .int sp_])), (lf_, .inr (0, [.ref ld_, .int (nI u2_3)])), (ld_, .inl (cJ, 40, .inr (.inl f2_2))), (ri_, .inr (0, [.ref rd_, .int (nI u2_6)])), (rd_, .inl (cJ, 40, .inr (.inl f2_5)))] H := hP.sub [0, 1, 2, 3, 4] rfl
  have hD : va_D A [(o_, .inr (3, [.int (nI n_), .ref ro_, .ref ja_, .ref jb_, .ref sr_, .ref br_, .ref tr_, .ref ch_, .ref lf_, .ref ri_, .int sh_, .int sp_])), (lf_, .inr (0, [.ref ld_, .int (nI u2_3)])), (ld_, .inl (cJ, 40, .inr (.inl f2_2))), (ri_, .inr (0, [.ref rd_, .int (nI u2_6)])), (rd_, .inl (cJ, 40, .inr (.inl f2_5)))] := hD.sub [0, 1, 2, 3, 4] (by decide) rfl
  have hw : bigL f2_5 u2_6 (y_ ^ (2 * n_)) ∧ bigN u2_6 (y_ ^ (2 * n_)) ∧ u2_6 ≤ 40 := hw
  obtain ⟨hL_27, hN_27, hu_27⟩ := hw
  refine lv_aload_n hx hb dX3_isPastMiddle_30 rfl (lv_at hl 0 rfl) ?_
  refine va_get (D := D) (ci := 3) (v := .ref ri_) (C := RX3) (T := TX3) (N := 12) hx hb hts nX3_isPastMiddle_3 hown hK hP 0 rfl rfl 9 (by decide) (zh (w := .fieldLink RX3 23 "FretRoots" "right" "LFretRoots$BigNumber;") hts 3 rfl) (fun _ h9 => h9) rfl dX3_isPastMiddle_31 ?_
  refine lv_iconst (v := nI 2) hx hb dX3_isPastMiddle_34 (by decide) ?_
  refine lv_iload_n hx hb dX3_isPastMiddle_35 rfl (lv_at hl 3 rfl) ?_
  refine lv_imul hx hb dX3_isPastMiddle_36 ?_
  refine zi_ (y := nI (2 * k_)) (pk_mul 2 k_) ?_
  refine lv_iconst (v := nI 1) hx hb dX3_isPastMiddle_37 (by decide) ?_
  refine lv_iadd hx hb dX3_isPastMiddle_38 ?_
  refine zi_ (y := nI (2 * k_ + 1)) (nI_add (2 * k_) 1) ?_
  refine zc_v (wc := [(ri_, .inr (0, [.ref rd_, .int (nI u2_6)])), (rd_, .inl (cJ, 40, .inr (.inl f2_5)))]) (wr := [(o_, .inr (3, [.int (nI n_), .ref ro_, .ref ja_, .ref jb_, .ref sr_, .ref br_, .ref tr_, .ref ch_, .ref lf_, .ref ri_, .int sh_, .int sp_])), (lf_, .inr (0, [.ref ld_, .int (nI u2_3)])), (ld_, .inl (cJ, 40, .inr (.inl f2_2)))]) hP hD hS hA [3, 4] [0, 1, 2] rfl rfl (by decide) (by decide) (va_runV (As := [.int (nI (2 * k_ + 1))]) (rest := []) ⟨hx, hb, hml, hown, hts⟩ (ct_X0_doubleTimes l D cI cJ cD ri_ rd_ u2_6 (y_ ^ (2 * n_)) (2 * k_ + 1) f2_5 H.size hu_27 hL_27 hN_27 (by omega) (past_bound hb_ (by omega) hn)) (cwV 1 hts gX3_isPastMiddle_X0_doubleTimes rfl rfl rfl (by decide +kernel) ⟨Nat.le_of_ble_eq_true rfl, Nat.le_of_ble_eq_true rfl⟩) (zPreV (wc := [(ri_, .inr (0, [.ref rd_, .int (nI u2_6)])), (rd_, .inl (cJ, 40, .inr (.inl f2_5)))]) hK (hP.sub [3, 4] rfl) (hD.sub [3, 4] (by decide) rfl) 0 0 rfl rfl zTb (fun _ _ _ => trivial)) rfl rfl hl.1 rfl (lv_room (Nat.le_of_ble_eq_true rfl)) dX3_isPastMiddle_39 ⟨Nat.le_of_ble_eq_true rfl, Nat.le_of_ble_eq_true rfl⟩) (fun u H locs hw hP hD hS => ?_)
  obtain ⟨f2_8, u2_9⟩ := u
  have hP : va_P D cl5 [(o_, .inr (3, [.int (nI n_), .ref ro_, .ref ja_, .ref jb_, .ref sr_, .ref br_, .ref tr_, .ref ch_, .ref lf_, .ref ri_, .int sh_, .int sp_])), (lf_, .inr (0, [.ref ld_, .int (nI u2_3)])), (ld_, .inl (cJ, 40, .inr (.inl f2_2))), (ri_, .inr (0, [.ref rd_, .int (nI u2_9)])), (rd_, .inl (cJ, 40, .inr (.inl f2_8)))] H := hP.sub [0, 1, 2, 3, 4] rfl
  have hD : va_D A [(o_, .inr (3, [.int (nI n_), .ref ro_, .ref ja_, .ref jb_, .ref sr_, .ref br_, .ref tr_, .ref ch_, .ref lf_, .ref ri_, .int sh_, .int sp_])), (lf_, .inr (0, [.ref ld_, .int (nI u2_3)])), (ld_, .inl (cJ, 40, .inr (.inl f2_2))), (ri_, .inr (0, [.ref rd_, .int (nI u2_9)])), (rd_, .inl (cJ, 40, .inr (.inl f2_8)))] := hD.sub [0, 1, 2, 3, 4] (by decide) rfl
  have hw : bigL f2_8 u2_9 ((y_ ^ (2 * n_)) * 2 ^ (2 * k_ + 1)) ∧ bigN u2_9 ((y_ ^ (2 * n_)) * 2 ^ (2 * k_ + 1)) ∧ u2_9 ≤ 40 := hw
  obtain ⟨hL_39, hN_39, hu_39⟩ := hw
  refine lv_aload_n hx hb dX3_isPastMiddle_42 rfl (lv_at hl 0 rfl) ?_
  refine va_get (D := D) (ci := 3) (v := .ref lf_) (C := RX3) (T := TX3) (N := 12) hx hb hts nX3_isPastMiddle_3 hown hK hP 0 rfl rfl 8 (by decide) (zh (w := .fieldLink RX3 19 "FretRoots" "left" "LFretRoots$BigNumber;") hts 1 rfl) (fun _ h9 => h9) rfl dX3_isPastMiddle_43 ?_
  refine lv_aload_n hx hb dX3_isPastMiddle_46 rfl (lv_at hl 0 rfl) ?_
  refine va_get (D := D) (ci := 3) (v := .ref ri_) (C := RX3) (T := TX3) (N := 12) hx hb hts nX3_isPastMiddle_3 hown hK hP 0 rfl rfl 9 (by decide) (zh (w := .fieldLink RX3 23 "FretRoots" "right" "LFretRoots$BigNumber;") hts 3 rfl) (fun _ h9 => h9) rfl dX3_isPastMiddle_47 ?_
  refine zc_i (wc := [(lf_, .inr (0, [.ref ld_, .int (nI u2_3)])), (ld_, .inl (cJ, 40, .inr (.inl f2_2))), (ri_, .inr (0, [.ref rd_, .int (nI u2_9)])), (rd_, .inl (cJ, 40, .inr (.inl f2_8)))]) (wr := [(o_, .inr (3, [.int (nI n_), .ref ro_, .ref ja_, .ref jb_, .ref sr_, .ref br_, .ref tr_, .ref ch_, .ref lf_, .ref ri_, .int sh_, .int sp_]))]) hP hD hS hA [1, 2, 3, 4] [0] rfl rfl (by decide) (by decide) (va_runV (As := [.ref ri_]) (rest := []) ⟨hx, hb, hml, hown, hts⟩ (ct_X0_compareWith l D cI cJ cD lf_ ld_ ri_ rd_ u2_3 u2_9 (x_ ^ (2 * n_)) (y_ ^ (2 * n_) * 2 ^ (2 * k_ + 1)) f2_2 f2_8 H.size hu_12 hu_39 hL_12 hN_12 hL_39 hN_39) (cwV 1 hts gX3_isPastMiddle_X0_compareWith rfl rfl rfl (by decide +kernel) ⟨Nat.le_of_ble_eq_true rfl, Nat.le_of_ble_eq_true rfl⟩) (zPreV (wc := [(lf_, .inr (0, [.ref ld_, .int (nI u2_3)])), (ld_, .inl (cJ, 40, .inr (.inl f2_2))), (ri_, .inr (0, [.ref rd_, .int (nI u2_9)])), (rd_, .inl (cJ, 40, .inr (.inl f2_8)))]) hK (hP.sub [1, 2, 3, 4] rfl) (hD.sub [1, 2, 3, 4] (by decide) rfl) 0 0 rfl rfl zTb (fun _ _ _ => trivial)) rfl rfl hl.1 rfl (lv_room (Nat.le_of_ble_eq_true rfl)) dX3_isPastMiddle_50 ⟨Nat.le_of_ble_eq_true rfl, Nat.le_of_ble_eq_true rfl⟩) (fun r_10 u H locs hw hP hD hS => ?_)
  have hP : va_P D cl5 [(o_, .inr (3, [.int (nI n_), .ref ro_, .ref ja_, .ref jb_, .ref sr_, .ref br_, .ref tr_, .ref ch_, .ref lf_, .ref ri_, .int sh_, .int sp_])), (lf_, .inr (0, [.ref ld_, .int (nI u2_3)])), (ld_, .inl (cJ, 40, .inr (.inl f2_2))), (ri_, .inr (0, [.ref rd_, .int (nI u2_9)])), (rd_, .inl (cJ, 40, .inr (.inl f2_8)))] H := hP.sub [0, 1, 2, 3, 4] rfl
  have hD : va_D A [(o_, .inr (3, [.int (nI n_), .ref ro_, .ref ja_, .ref jb_, .ref sr_, .ref br_, .ref tr_, .ref ch_, .ref lf_, .ref ri_, .int sh_, .int sp_])), (lf_, .inr (0, [.ref ld_, .int (nI u2_3)])), (ld_, .inl (cJ, 40, .inr (.inl f2_2))), (ri_, .inr (0, [.ref rd_, .int (nI u2_9)])), (rd_, .inl (cJ, 40, .inr (.inl f2_8)))] := hD.sub [0, 1, 2, 3, 4] (by decide) rfl
  have hw : r_10 = cmpI (x_ ^ (2 * n_)) (y_ ^ (2 * n_) * 2 ^ (2 * k_ + 1)) := hw
  subst hw
  refine lv_if_le (tgt := 60) hx hb dX3_isPastMiddle_53 (by decide) (fun c_53 => ?_) (fun c_53 => ?_)
  · skip
    refine lv_iconst (v := nI 0) hx hb dX3_isPastMiddle_60 (by decide) ?_
    subst hQ
    exact ze_z hx hb hr hlocks (nI u2_3, f2_2, nI u2_9, f2_8) (by first | exact Or.inl rfl | exact Or.inr rfl | omega) (⟨by first | exact congrArg nI (leI_1 (Nat.succ_le_of_lt (cmpI_nle0 c_53))).symm | exact congrArg nI (leI_0 (Nat.lt_succ_of_le (cmpI_le0 c_53))).symm, leI_le _ _⟩) hP hK hD hS dX3_isPastMiddle_61
  · skip
    refine lv_iconst (v := nI 1) hx hb dX3_isPastMiddle_56 (by decide) ?_
    refine lv_goto (tgt := 61) hx hb dX3_isPastMiddle_57 (by decide) ?_
    subst hQ
    exact ze_z hx hb hr hlocks (nI u2_3, f2_2, nI u2_9, f2_8) (by first | exact Or.inl rfl | exact Or.inr rfl | omega) (⟨by first | exact congrArg nI (leI_1 (Nat.succ_le_of_lt (cmpI_nle0 c_53))).symm | exact congrArg nI (leI_0 (Nat.lt_succ_of_le (cmpI_le0 c_53))).symm, leI_le _ _⟩) hP hK hD hS dX3_isPastMiddle_61
