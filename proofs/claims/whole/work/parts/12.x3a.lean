abbrev rm_X4_isIn : Room := { frames := 0, cells := 0, slots := 0, locals := 0 }
set_option maxHeartbeats 4000000 in
set_option maxRecDepth 100000 in
/-- isIn -/
theorem ct_X4_isIn (l : Launch) (D : va_G) (cI cJ cD : ClassId) (v_ : Int64) (a_ : Int64) (b_ : Int64) (sz : Nat) : Met l yX4_isIn wsX4_isIn rm_X4_isIn (zP D (ty3 cI cJ cD) [.long v_, .long a_, .long b_] sz [] zT) (va_Qi (fun (r : Int32) (u : Unit) => r = nI (inI v_ a_ b_) ∧ inI v_ a_ b_ ≤ 1) (zB D (ty3 cI cJ cD) (fun (u : Unit) => []) (va_A [] sz)) (va_A [] sz)) 0 0 (va_A [] sz) := by
  refine zMet (Qf := fun A => va_Qi (fun (r : Int32) (u : Unit) => r = nI (inI v_ a_ b_) ∧ inI v_ a_ b_ ≤ 1) (zB D (ty3 cI cJ cD) (fun (u : Unit) => []) A) A) (cc := cX4_isIn) (maxL := 6) (ret := (some .boolean)) (by decide) rfl (Nat.le_of_ble_eq_true rfl) ?_
  intro p e s m args below meth c A ls Q H hargs hQ hHe hx hb hr hml hown hts hlocks hin hP hK hD hA hS hE hAe hl
  have hl : lv_has ls 6 [(0, .long v_), (2, .long a_), (4, .long b_)] := hl
  refine lv_lload_n hx hb dX4_isIn_0 rfl (lv_at hl 0 rfl) ?_
  refine lv_lload_n hx hb dX4_isIn_1 rfl (lv_at hl 1 rfl) ?_
  refine zl_lt (tgt := 17) hx hb dX4_isIn_2 dX4_isIn_3 (by decide) (fun c_3 => ?_) (fun c_3 => ?_)
  · skip
    refine lv_iconst (v := nI 0) hx hb dX4_isIn_17 (by decide) ?_
    subst hQ
    exact ze_z hx hb hr hlocks () (by first | exact Or.inl rfl | exact Or.inr rfl | omega) (⟨by first | exact congrArg nI (inI_1 (Int64.not_lt.mp c_3) (Int64.not_lt.mp c_10)).symm | exact congrArg nI (inI_b (Int64.not_le.mpr c_10)).symm | exact congrArg nI (inI_a (Int64.not_le.mpr c_3)).symm, inI_le _ _ _⟩) hP hK hD hS dX4_isIn_18
  · skip
    refine lv_lload_n hx hb dX4_isIn_6 rfl (lv_at hl 0 rfl) ?_
    refine lv_lload hx hb dX4_isIn_7 (lv_at hl 2 rfl) ?_
    refine zl_gt (tgt := 17) hx hb dX4_isIn_9 dX4_isIn_10 (by decide) (fun c_10 => ?_) (fun c_10 => ?_)
    · skip
      refine lv_iconst (v := nI 0) hx hb dX4_isIn_17 (by decide) ?_
      subst hQ
      exact ze_z hx hb hr hlocks () (by first | exact Or.inl rfl | exact Or.inr rfl | omega) (⟨by first | exact congrArg nI (inI_1 (Int64.not_lt.mp c_3) (Int64.not_lt.mp c_10)).symm | exact congrArg nI (inI_b (Int64.not_le.mpr c_10)).symm | exact congrArg nI (inI_a (Int64.not_le.mpr c_3)).symm, inI_le _ _ _⟩) hP hK hD hS dX4_isIn_18
    · skip
      refine lv_iconst (v := nI 1) hx hb dX4_isIn_13 (by decide) ?_
      refine lv_goto (tgt := 18) hx hb dX4_isIn_14 (by decide) ?_
      subst hQ
      exact ze_z hx hb hr hlocks () (by first | exact Or.inl rfl | exact Or.inr rfl | omega) (⟨by first | exact congrArg nI (inI_1 (Int64.not_lt.mp c_3) (Int64.not_lt.mp c_10)).symm | exact congrArg nI (inI_b (Int64.not_le.mpr c_10)).symm | exact congrArg nI (inI_a (Int64.not_le.mpr c_3)).symm, inI_le _ _ _⟩) hP hK hD hS dX4_isIn_18
abbrev rm_X4_isPart : Room := { frames := 1, cells := 0, slots := 0, locals := 25 }
set_option maxHeartbeats 4000000 in
set_option maxRecDepth 100000 in
/-- isPart -/
theorem ct_X4_isPart (l : Launch) (D : va_G) (cI cJ cD : ClassId) (v_ : Int32) (sz : Nat) : Met l yX4_isPart wsX4_isPart rm_X4_isPart (zP D (ty3 cI cJ cD) [.int v_] sz [] zT) (va_Qi (fun (r : Int32) (u : Unit) => r = nI (ptI v_) ∧ ptI v_ ≤ 1) (zB D (ty3 cI cJ cD) (fun (u : Unit) => []) (va_A [] sz)) (va_A [] sz)) 0 0 (va_A [] sz) := by
  refine zMet (Qf := fun A => va_Qi (fun (r : Int32) (u : Unit) => r = nI (ptI v_) ∧ ptI v_ ≤ 1) (zB D (ty3 cI cJ cD) (fun (u : Unit) => []) A) A) (cc := cX4_isPart) (maxL := 1) (ret := (some .boolean)) (by decide) rfl (Nat.le_of_ble_eq_true rfl) ?_
  intro p e s m args below meth c A ls Q H hargs hQ hHe hx hb hr hml hown hts hlocks hin hP hK hD hA hS hE hAe hl
  have hl : lv_has ls 1 [(0, .int v_)] := hl
  refine lv_iload_n hx hb dX4_isPart_0 rfl (lv_at hl 0 rfl) ?_
  refine lv_i2l (v := v_.toInt64) hx hb dX4_isPart_1 rfl ?_
  refine lv_lconst (v := lN 1) hx hb dX4_isPart_2 rfl ?_
  refine lv_ldc2 (v := 1000000) hx hb hown (zh (w := .constantLong RX4 65 (1000000)) hts 1 rfl) dX4_isPart_3 ?_
  refine zl_ (y := lN 1000000) rfl ?_
  refine zc_i (wc := []) (wr := []) hP hD hS hA [] [] rfl rfl (by decide) (by decide) (va_runS (As := [.long v_.toInt64, .long (lN 1), .long (lN 1000000)]) (rest := []) ⟨hx, hb, hml, hown, hts⟩ (ct_X4_isIn l D cI cJ cD v_.toInt64 (lN 1) (lN 1000000) H.size ) (va_cwS 3 hts gX4_isPart_X4_isIn rfl rfl rfl (by decide +kernel) ⟨Nat.le_of_ble_eq_true rfl, Nat.le_of_ble_eq_true rfl⟩) (zPreS (wc := []) hK hP hD zTb (fun _ _ _ => trivial)) rfl rfl hl.1 rfl (lv_room (Nat.le_of_ble_eq_true rfl)) dX4_isPart_6 ⟨Nat.le_of_ble_eq_true rfl, Nat.le_of_ble_eq_true rfl⟩) (fun r_1 u H locs hw hP hD hS => ?_)
  have hP : va_P D cl5 [] H := hP.sub [] rfl
  have hD : va_D A [] := hD.sub [] (by decide) rfl
  have hw : r_1 = nI (inI v_.toInt64 (lN 1) (lN 1000000)) ∧ inI v_.toInt64 (lN 1) (lN 1000000) ≤ 1 := hw
  obtain ⟨rfl, hb_6⟩ := hw
  subst hQ
  exact ze_z hx hb hr hlocks () (zi_or hb_6 rfl) (⟨rfl, hb_6⟩) hP hK hD hS dX4_isPart_9
theorem nX4_noPlace_4 : ∀ w ∈ wsX40, w ∈ wsX4_noPlace := by decide +kernel
abbrev rm_X4_noPlace : Room := { frames := 1, cells := 0, slots := 0, locals := 25 }
set_option maxHeartbeats 4000000 in
set_option maxRecDepth 100000 in
/-- noPlace -/
theorem ct_X4_noPlace (l : Launch) (D : va_G) (cI cJ cD : ClassId) (m_ : Nat) (ab_ : Nat) (be_ : Nat) (rr_ : Nat) (th_ : Int32) (sh_ : Int32) (bs_ : Int32) (tr_ : Int32) (sp_ : Int32) (le_ : Int64) (ca_ : Int64) (cb_ : Int64) (oc_ : Int64) (st_ : Int64) (n_ : Nat) (k_ : Int32) (sz : Nat) (hn : n_ ≤ 24) : Met l yX4_noPlace wsX4_noPlace rm_X4_noPlace (zP D (ty3 cI cJ cD) [.ref m_, .int k_] sz [(m_, .inr (4, [.int th_, .int (nI n_), .long le_, .int sh_, .ref ab_, .ref be_, .long ca_, .long cb_, .long oc_, .long st_, .int bs_, .int tr_, .int sp_, .ref rr_]))] zT) (va_Qi (fun (r : Int32) (u : Unit) => r = nI (npI k_ n_) ∧ npI k_ n_ ≤ 1) (zB D (ty3 cI cJ cD) (fun (u : Unit) => [(m_, .inr (4, [.int th_, .int (nI n_), .long le_, .int sh_, .ref ab_, .ref be_, .long ca_, .long cb_, .long oc_, .long st_, .int bs_, .int tr_, .int sp_, .ref rr_]))]) (va_A [(m_, .inr (4, [.int th_, .int (nI n_), .long le_, .int sh_, .ref ab_, .ref be_, .long ca_, .long cb_, .long oc_, .long st_, .int bs_, .int tr_, .int sp_, .ref rr_]))] sz)) (va_A [(m_, .inr (4, [.int th_, .int (nI n_), .long le_, .int sh_, .ref ab_, .ref be_, .long ca_, .long cb_, .long oc_, .long st_, .int bs_, .int tr_, .int sp_, .ref rr_]))] sz)) 0 0 (va_A [(m_, .inr (4, [.int th_, .int (nI n_), .long le_, .int sh_, .ref ab_, .ref be_, .long ca_, .long cb_, .long oc_, .long st_, .int bs_, .int tr_, .int sp_, .ref rr_]))] sz) := by
  refine zMet (Qf := fun A => va_Qi (fun (r : Int32) (u : Unit) => r = nI (npI k_ n_) ∧ npI k_ n_ ≤ 1) (zB D (ty3 cI cJ cD) (fun (u : Unit) => [(m_, .inr (4, [.int th_, .int (nI n_), .long le_, .int sh_, .ref ab_, .ref be_, .long ca_, .long cb_, .long oc_, .long st_, .int bs_, .int tr_, .int sp_, .ref rr_]))]) A) A) (cc := cX4_noPlace) (maxL := 2) (ret := (some .boolean)) (by decide) rfl (Nat.le_of_ble_eq_true rfl) ?_
  intro p e s m args below meth c A ls Q H hargs hQ hHe hx hb hr hml hown hts hlocks hin hP hK hD hA hS hE hAe hl
  have hl : lv_has ls 2 [(0, .ref m_), (1, .int k_)] := hl
  refine lv_iload_n hx hb dX4_noPlace_0 rfl (lv_at hl 1 rfl) ?_
  refine lv_i2l (v := k_.toInt64) hx hb dX4_noPlace_1 rfl ?_
  refine lv_lconst (v := lN 0) hx hb dX4_noPlace_2 rfl ?_
  refine lv_ldc2 (v := 2) hx hb hown (zh (w := .constantLong RX4 50 (2)) hts 1 rfl) dX4_noPlace_3 ?_
  refine zl_ (y := lN 2) rfl ?_
  refine lv_aload_n hx hb dX4_noPlace_6 rfl (lv_at hl 0 rfl) ?_
  refine va_get (D := D) (ci := 4) (v := .int (nI n_)) (C := RX4) (T := TX4) (N := 14) hx hb hts nX4_noPlace_4 hown hK hP 0 rfl rfl 1 (by decide) (zh (w := .fieldLink RX4 44 "FretRootsModel" "notes" "I") hts 2 rfl) (fun _ h9 => h9) rfl dX4_noPlace_7 ?_
  refine lv_i2l (v := lN n_) hx hb dX4_noPlace_10 (nI_l (by omega)) ?_
  refine lv_lmul hx hb dX4_noPlace_11 ?_
  refine zl_ (y := lN (2 * n_)) (lN_mul 2 n_) ?_
  refine zc_i (wc := []) (wr := [(m_, .inr (4, [.int th_, .int (nI n_), .long le_, .int sh_, .ref ab_, .ref be_, .long ca_, .long cb_, .long oc_, .long st_, .int bs_, .int tr_, .int sp_, .ref rr_]))]) hP hD hS hA [] [0] rfl rfl (by decide) (by decide) (va_runS (As := [.long k_.toInt64, .long (lN 0), .long (lN (2 * n_))]) (rest := []) ⟨hx, hb, hml, hown, hts⟩ (ct_X4_isIn l D cI cJ cD k_.toInt64 (lN 0) (lN (2 * n_)) H.size ) (va_cwS 3 hts gX4_noPlace_X4_isIn rfl rfl rfl (by decide +kernel) ⟨Nat.le_of_ble_eq_true rfl, Nat.le_of_ble_eq_true rfl⟩) (zPreS (wc := []) hK (hP.sub [] rfl) (hD.sub [] (by decide) rfl) zTb (fun _ _ _ => trivial)) rfl rfl hl.1 rfl (lv_room (Nat.le_of_ble_eq_true rfl)) dX4_noPlace_12 ⟨Nat.le_of_ble_eq_true rfl, Nat.le_of_ble_eq_true rfl⟩) (fun r_1 u H locs hw hP hD hS => ?_)
  have hP : va_P D cl5 [(m_, .inr (4, [.int th_, .int (nI n_), .long le_, .int sh_, .ref ab_, .ref be_, .long ca_, .long cb_, .long oc_, .long st_, .int bs_, .int tr_, .int sp_, .ref rr_]))] H := hP.sub [0] rfl
  have hD : va_D A [(m_, .inr (4, [.int th_, .int (nI n_), .long le_, .int sh_, .ref ab_, .ref be_, .long ca_, .long cb_, .long oc_, .long st_, .int bs_, .int tr_, .int sp_, .ref rr_]))] := hD.sub [0] (by decide) rfl
  have hw : r_1 = nI (inI k_.toInt64 (lN 0) (lN (2 * n_))) ∧ inI k_.toInt64 (lN 0) (lN (2 * n_)) ≤ 1 := hw
  obtain ⟨rfl, hb_12⟩ := hw
  refine lv_if_ne (tgt := 22) hx hb dX4_noPlace_15 (by decide) (fun c_15 => ?_) (fun c_15 => ?_)
  · skip
    have c_15 := zji_ne (a := inI k_.toInt64 (lN 0) (lN (2 * n_))) (b := 0) (by omega) (by omega) c_15
    refine lv_iconst (v := nI 0) hx hb dX4_noPlace_22 (by decide) ?_
    subst hQ
    exact ze_z hx hb hr hlocks () (by first | exact Or.inl rfl | exact Or.inr rfl | omega) (⟨congrArg nI (by unfold npI; omega), Nat.sub_le _ _⟩) hP hK hD hS dX4_noPlace_23
  · skip
    have c_15 := zji_eq (a := inI k_.toInt64 (lN 0) (lN (2 * n_))) (b := 0) (by omega) (by omega) c_15
    refine lv_iconst (v := nI 1) hx hb dX4_noPlace_18 (by decide) ?_
    refine lv_goto (tgt := 23) hx hb dX4_noPlace_19 (by decide) ?_
    subst hQ
    exact ze_z hx hb hr hlocks () (by first | exact Or.inl rfl | exact Or.inr rfl | omega) (⟨congrArg nI (by unfold npI; omega), Nat.sub_le _ _⟩) hP hK hD hS dX4_noPlace_23
abbrev rm_X3_quotient : Room := { frames := 0, cells := 0, slots := 0, locals := 0 }
set_option maxHeartbeats 4000000 in
set_option maxRecDepth 100000 in
/-- quotient -/
theorem ct_X3_quotient (l : Launch) (D : va_G) (cI cJ cD : ClassId) (a_ : Nat) (b_ : Nat) (sz : Nat) (ha : a_ < 2 ^ 63) (hb_ : b_ < 2 ^ 63) : Met l yX3_quotient wsX3_quotient rm_X3_quotient (zP D (ty3 cI cJ cD) [.long (lN a_), .long (lN b_)] sz [] zT) (va_Ql (fun (r : Int64) (u : Unit) => r = lN (a_ / b_)) (zB D (ty3 cI cJ cD) (fun (u : Unit) => []) (va_A [] sz)) (va_A [] sz)) 0 0 (va_A [] sz) := by
  refine zMet (Qf := fun A => va_Ql (fun (r : Int64) (u : Unit) => r = lN (a_ / b_)) (zB D (ty3 cI cJ cD) (fun (u : Unit) => []) A) A) (cc := cX3_quotient) (maxL := 4) (ret := (some .long)) (by decide) rfl (Nat.le_of_ble_eq_true rfl) ?_
  intro p e s m args below meth c A ls Q H hargs hQ hHe hx hb hr hml hown hts hlocks hin hP hK hD hA hS hE hAe hl
  have hl : lv_has ls 4 [(0, .long (lN a_)), (2, .long (lN b_))] := hl
  refine lv_lload_n hx hb dX3_quotient_0 rfl (lv_at hl 1 rfl) ?_
  refine lv_lconst (v := lN 0) hx hb dX3_quotient_1 rfl ?_
  refine zl_ne (tgt := 10) hx hb dX3_quotient_2 dX3_quotient_3 (by decide) (fun c_3 => ?_) (fun c_3 => ?_)
  · skip
    have c_3 := zjl_ne (a := b_) (b := 0) (by omega) (by omega) c_3
    refine lv_lload_n hx hb dX3_quotient_10 rfl (lv_at hl 0 rfl) ?_
    refine lv_lload_n hx hb dX3_quotient_11 rfl (lv_at hl 1 rfl) ?_
    refine lv_ldiv hx hb dX3_quotient_12 (zlne0 (by omega) (by omega)) ?_
    refine zl_ (y := lN (a_ / b_)) (pk_lDiv (by omega) (by omega) (by omega)) ?_
    subst hQ
    exact ze_l hx hb hr hlocks () (by first | rfl | exact congrArg lN (by rw [c_3, Nat.div_zero])) hP hK hD hS dX3_quotient_13
  · skip
    have c_3 := zjl_eq (a := b_) (b := 0) (by omega) (by omega) c_3
    refine lv_lconst (v := lN 0) hx hb dX3_quotient_6 rfl ?_
    refine lv_goto (tgt := 13) hx hb dX3_quotient_7 (by decide) ?_
    subst hQ
    exact ze_l hx hb hr hlocks () (by first | rfl | exact congrArg lN (by rw [c_3, Nat.div_zero])) hP hK hD hS dX3_quotient_13
abbrev rm_X3_commonDivisor : Room := { frames := 0, cells := 0, slots := 0, locals := 0 }
set_option maxHeartbeats 4000000 in
set_option maxRecDepth 100000 in
/-- commonDivisor -/
theorem ct_X3_commonDivisor (l : Launch) (D : va_G) (cI cJ cD : ClassId) (a_ : Nat) (b_ : Nat) (sz : Nat) (ha : a_ < 2 ^ 63) (hb_ : b_ < 2 ^ 63) : Met l yX3_commonDivisor wsX3_commonDivisor rm_X3_commonDivisor (zP D (ty3 cI cJ cD) [.long (lN a_), .long (lN b_)] sz [] zT) (va_Ql (fun (r : Int64) (u : Unit) => r = lN (Nat.gcd a_ b_)) (zB D (ty3 cI cJ cD) (fun (u : Unit) => []) (va_A [] sz)) (va_A [] sz)) 0 0 (va_A [] sz) := by
  refine zMet (Qf := fun A => va_Ql (fun (r : Int64) (u : Unit) => r = lN (Nat.gcd a_ b_)) (zB D (ty3 cI cJ cD) (fun (u : Unit) => []) A) A) (cc := cX3_commonDivisor) (maxL := 11) (ret := (some .long)) (by decide) rfl (Nat.le_of_ble_eq_true rfl) ?_
  intro p e s m args below meth c A ls Q H hargs hQ hHe hx hb hr hml hown hts hlocks hin hP hK hD hA hS hE hAe hl
  have hl : lv_has ls 11 [(0, .long (lN a_)), (2, .long (lN b_))] := hl
  have lp_9 : ∀ (k9_ : Nat) (i : Nat) (x : Nat) (y : Nat) (H : Heap) (locs : List Loc) (ls : Array Slot), 200 - i < k9_ → i ≤ 200 → x < 2 ^ 63 → y < 2 ^ 63 → Nat.gcd x y = Nat.gcd a_ b_ → i = 0 ∨ (y < x ∧ x * y * 2 ^ (i - 1) < 2 ^ 126) →  va_P D cl5 [] H → va_D A [] → va_S A s.heap H locs → lv_has ls 11 [(4, .long (lN x)), (6, .long (lN y)), (8, .int (nI i))] → W p l e rm_X3_commonDivisor s m args below meth c H locs 0 0 Q (F0 m 9 ls []) := by
    intro k9_
    induction k9_ with
    | zero => intro i x y H locs ls hm; exact absurd hm (Nat.not_lt_zero _)
    | succ k9_ ih =>
      intro i x y H locs ls hm  h0 h1 h2 h3 h4 hP hD hS hl
      refine lv_iload hx hb dX3_commonDivisor_9 (lv_at hl 2 rfl) ?_
      refine lv_sipush (v := nI 200) hx hb dX3_commonDivisor_11 (by decide) ?_
      refine lv_icmp_ge (tgt := 45) hx hb dX3_commonDivisor_14 (by decide) (fun c_14 => ?_) (fun c_14 => ?_)
      · skip
        have c_14 := zji_le (a := 200) (b := i) (by omega) (by omega) c_14
        have hi : i = 200 := by omega
        subst hi
        have hy0 := gcd_end h4
        refine lv_lload hx hb dX3_commonDivisor_45 (lv_at hl 0 rfl) ?_
        subst hQ
        exact ze_l hx hb hr hlocks () (congrArg lN (by rw [← h3, hy0, Nat.gcd_zero_right])) hP hK hD hS dX3_commonDivisor_47
      · skip
        have c_14 := zji_nle (a := 200) (b := i) (by omega) (by omega) c_14
        refine lv_lload hx hb dX3_commonDivisor_17 (lv_at hl 1 rfl) ?_
        refine lv_lconst (v := lN 0) hx hb dX3_commonDivisor_19 rfl ?_
        refine zl_eq (tgt := 45) hx hb dX3_commonDivisor_20 dX3_commonDivisor_21 (by decide) (fun c_21 => ?_) (fun c_21 => ?_)
        · skip
          have c_21 := zjl_eq (a := y) (b := 0) (by omega) (by omega) c_21
          have hy0 := c_21
          refine lv_lload hx hb dX3_commonDivisor_45 (lv_at hl 0 rfl) ?_
          subst hQ
          exact ze_l hx hb hr hlocks () (congrArg lN (by rw [← h3, hy0, Nat.gcd_zero_right])) hP hK hD hS dX3_commonDivisor_47
        · skip
          have c_21 := zjl_ne (a := y) (b := 0) (by omega) (by omega) c_21
          have hrd := gcd_round c_21 h4 h1 h2
          have hpos : 0 < y := by omega
          refine lv_lload hx hb dX3_commonDivisor_24 (lv_at hl 0 rfl) ?_
          refine lv_lload hx hb dX3_commonDivisor_26 (lv_at hl 1 rfl) ?_
          refine lv_lrem hx hb dX3_commonDivisor_28 (zlne0 (by omega) (by omega)) ?_
          refine zl_ (y := lN (x % y)) (pk_lRem (by omega) (by omega) (by omega)) ?_
          refine lv_lstore (lv' := [(9, .long (lN (x % y))), (4, .long (lN x)), (6, .long (lN y)), (8, .int (nI i))]) hx hb dX3_commonDivisor_29 hl (by decide) rfl (fun ls hl => ?_)
          refine lv_lload hx hb dX3_commonDivisor_31 (lv_at hl 2 rfl) ?_
          refine lv_lstore (lv' := [(4, .long (lN y)), (9, .long (lN (x % y))), (6, .long (lN y)), (8, .int (nI i))]) hx hb dX3_commonDivisor_33 hl (by decide) rfl (fun ls hl => ?_)
          refine lv_lload hx hb dX3_commonDivisor_35 (lv_at hl 1 rfl) ?_
          refine lv_lstore (lv' := [(6, .long (lN (x % y))), (4, .long (lN y)), (9, .long (lN (x % y))), (8, .int (nI i))]) hx hb dX3_commonDivisor_37 hl (by decide) rfl (fun ls hl => ?_)
          refine lv_iinc (v := nI (i + 1)) (lv' := [(8, .int (nI (i + 1))), (6, .long (lN (x % y))), (4, .long (lN y)), (9, .long (lN (x % y)))]) hx hb dX3_commonDivisor_39 hl (k := 3) rfl (z_inc i 1) (by decide) rfl (fun ls hl => ?_)
          refine lv_goto (tgt := 9) hx hb dX3_commonDivisor_42 (by decide) ?_
          exact ih (i + 1) y (x % y) _ _ _ (by omega) (by omega) h2 (Nat.lt_trans hrd.1 h2) ((gcd_step x y).trans h3) (Or.inr hrd) hP hD hS (lv_sub hl [2, 1, 0] rfl)
  refine lv_lload_n hx hb dX3_commonDivisor_0 rfl (lv_at hl 0 rfl) ?_
  refine lv_lstore (lv' := [(4, .long (lN a_)), (0, .long (lN a_)), (2, .long (lN b_))]) hx hb dX3_commonDivisor_1 hl (by decide) rfl (fun ls hl => ?_)
  refine lv_lload_n hx hb dX3_commonDivisor_3 rfl (lv_at hl 2 rfl) ?_
  refine lv_lstore (lv' := [(6, .long (lN b_)), (4, .long (lN a_)), (0, .long (lN a_)), (2, .long (lN b_))]) hx hb dX3_commonDivisor_4 hl (by decide) rfl (fun ls hl => ?_)
  refine lv_iconst (v := nI 0) hx hb dX3_commonDivisor_6 (by decide) ?_
  refine lv_istore (lv' := [(8, .int (nI 0)), (6, .long (lN b_)), (4, .long (lN a_)), (0, .long (lN a_)), (2, .long (lN b_))]) hx hb dX3_commonDivisor_7 hl (by decide) rfl (fun ls hl => ?_)
  exact lp_9 ((200 - 0) + 1) 0 a_ b_ _ _ _ (Nat.lt_succ_self _) (Nat.zero_le _) ha hb_ rfl (Or.inl rfl) hP hD hS (lv_sub hl [2, 1, 0] rfl)
abbrev rm_X3_nextProbe : Room := { frames := 1, cells := 0, slots := 0, locals := 17 }
set_option maxHeartbeats 4000000 in
set_option maxRecDepth 100000 in
/-- nextProbe -/
theorem ct_X3_nextProbe (l : Launch) (D : va_G) (cI cJ cD : ClassId) (i_ : Nat) (lo_ : Nat) (hi_ : Nat) (g_ : Int64) (sz : Nat) (hi1 : i_ < 64) (hlo : lo_ + 1 < hi_) (hhi : hi_ < 2 ^ 62) : Met l yX3_nextProbe wsX3_nextProbe rm_X3_nextProbe (zP D (ty3 cI cJ cD) [.int (nI i_), .long g_, .long (lN lo_), .long (lN hi_)] sz [] zT) (va_Ql (fun (r : Int64) (u : Nat) => r = lN u ∧ lo_ < u ∧ u < hi_ ∧ (2 ≤ i_ → u = lo_ + (hi_ - lo_) / 2)) (zB D (ty3 cI cJ cD) (fun (u : Nat) => []) (va_A [] sz)) (va_A [] sz)) 0 0 (va_A [] sz) := by
  refine zMet (Qf := fun A => va_Ql (fun (r : Int64) (u : Nat) => r = lN u ∧ lo_ < u ∧ u < hi_ ∧ (2 ≤ i_ → u = lo_ + (hi_ - lo_) / 2)) (zB D (ty3 cI cJ cD) (fun (u : Nat) => []) A) A) (cc := cX3_nextProbe) (maxL := 9) (ret := (some .long)) (by decide) rfl (Nat.le_of_ble_eq_true rfl) ?_
  intro p e s m args below meth c A ls Q H hargs hQ hHe hx hb hr hml hown hts hlocks hin hP hK hD hA hS hE hAe hl
  have hl : lv_has ls 9 [(0, .int (nI i_)), (1, .long g_), (3, .long (lN lo_)), (5, .long (lN hi_))] := hl
  have jn_44 : ∀ (x : Int64) (H : Heap) (locs : List Loc) (ls : Array Slot), (2 ≤ i_ → x = lN (lo_ + (hi_ - lo_) / 2)) →  va_P D cl5 [] H → va_D A [] → va_S A s.heap H locs → lv_has ls 9 [(3, .long (lN lo_)), (5, .long (lN hi_)), (7, .long x)] → W p l e rm_X3_nextProbe s m args below meth c H locs 0 0 Q (F0 m 44 ls []) := by
    intro x H locs ls  hx2 hP hD hS hl
    refine lv_lload_n hx hb dX3_nextProbe_44 rfl (lv_at hl 0 rfl) ?_
    refine lv_lconst (v := lN 1) hx hb dX3_nextProbe_45 rfl ?_
    refine lv_ladd hx hb dX3_nextProbe_46 ?_
    refine zl_ (y := lN (lo_ + 1)) (lN_add lo_ 1) ?_
    refine lv_lload hx hb dX3_nextProbe_47 (lv_at hl 1 rfl) ?_
    refine lv_lconst (v := lN 1) hx hb dX3_nextProbe_49 rfl ?_
    refine lv_lsub hx hb dX3_nextProbe_50 ?_
    refine zl_ (y := lN (hi_ - 1)) (lN_sub (by omega)) ?_
    refine lv_lload hx hb dX3_nextProbe_51 (lv_at hl 2 rfl) ?_
    refine va_mmin_long hx hb (hml.trans hl.1.symm) hown (zh (w := .methodLink RX3 233 Lib.MathLoose.min_long.x) hts 2 rfl) (zh (w := .static Lib.MathLoose.min_long.x) hts 3 rfl) (zh (w := .initialized "java/lang/Math") hts 4 rfl) (zh (w := .code Lib.MathLoose.min_long.x Lib.MathLoose.min_long.code 4 (some .long)) hts 5 rfl) (Nat.le_of_ble_eq_true rfl) (Nat.le_of_ble_eq_true rfl) (Nat.le_of_ble_eq_true rfl) (Nat.le_of_ble_eq_true rfl) dX3_nextProbe_53 ?_
    obtain ⟨q9, hq1, hq2, hq3, hq4⟩ := probe_in x hlo hhi
    refine va_mmax_long hx hb (hml.trans hl.1.symm) hown (zh (w := .methodLink RX3 235 Lib.MathLoose.max_long.x) hts 6 rfl) (zh (w := .static Lib.MathLoose.max_long.x) hts 7 rfl) (zh (w := .initialized "java/lang/Math") hts 4 rfl) (zh (w := .code Lib.MathLoose.max_long.x Lib.MathLoose.max_long.code 4 (some .long)) hts 8 rfl) (Nat.le_of_ble_eq_true rfl) (Nat.le_of_ble_eq_true rfl) (Nat.le_of_ble_eq_true rfl) (Nat.le_of_ble_eq_true rfl) dX3_nextProbe_56 ?_
    refine zl_ (y := lN q9) (hq1) ?_
    subst hQ
    exact ze_l hx hb hr hlocks q9 (⟨rfl, hq2, hq3, fun q => hq4 _ (hx2 q) (by omega) (by omega)⟩) hP hK hD hS dX3_nextProbe_59
  refine lv_lload_n hx hb dX3_nextProbe_0 rfl (lv_at hl 2 rfl) ?_
  refine lv_lload hx hb dX3_nextProbe_1 (lv_at hl 3 rfl) ?_
  refine lv_lload_n hx hb dX3_nextProbe_3 rfl (lv_at hl 2 rfl) ?_
  refine lv_lsub hx hb dX3_nextProbe_4 ?_
  refine zl_ (y := lN (hi_ - lo_)) (lN_sub (by omega)) ?_
  refine lv_ldc2 (v := 2) hx hb hown (zh (w := .constantLong RX3 231 (2)) hts 1 rfl) dX3_nextProbe_5 ?_
  refine zl_ (y := lN 2) rfl ?_
  refine lv_ldiv hx hb dX3_nextProbe_8 (zlne0 (by omega) (by omega)) ?_
  refine zl_ (y := lN ((hi_ - lo_) / 2)) (pk_lDiv (by omega) (by omega) (by omega)) ?_
  refine lv_ladd hx hb dX3_nextProbe_9 ?_
  refine zl_ (y := lN (lo_ + ((hi_ - lo_) / 2))) (lN_add lo_ ((hi_ - lo_) / 2)) ?_
  refine lv_lstore (lv' := [(7, .long (lN (lo_ + ((hi_ - lo_) / 2)))), (0, .int (nI i_)), (1, .long g_), (3, .long (lN lo_)), (5, .long (lN hi_))]) hx hb dX3_nextProbe_10 hl (by decide) rfl (fun ls hl => ?_)
  refine lv_iload_n hx hb dX3_nextProbe_12 rfl (lv_at hl 1 rfl) ?_
  refine lv_if_ne (tgt := 22) hx hb dX3_nextProbe_13 (by decide) (fun c_13 => ?_) (fun c_13 => ?_)
  · skip
    have c_13 := zji_ne (a := i_) (b := 0) (by omega) (by omega) c_13
    refine lv_iload_n hx hb dX3_nextProbe_22 rfl (lv_at hl 1 rfl) ?_
    refine lv_iconst (v := nI 1) hx hb dX3_nextProbe_23 (by decide) ?_
    refine lv_icmp_ne (tgt := 44) hx hb dX3_nextProbe_24 (by decide) (fun c_24 => ?_) (fun c_24 => ?_)
    · skip
      have c_24 := zji_ne (a := i_) (b := 1) (by omega) (by omega) c_24
      exact jn_44 (lN (lo_ + ((hi_ - lo_) / 2))) _ _ _ (by first | (intro _; rfl) | (intro q; omega)) hP hD hS (lv_sub hl [3, 4, 0] rfl)
    · skip
      have c_24 := zji_eq (a := i_) (b := 1) (by omega) (by omega) c_24
      refine lv_lload_n hx hb dX3_nextProbe_27 rfl (lv_at hl 3 rfl) ?_
      refine lv_lload_n hx hb dX3_nextProbe_28 rfl (lv_at hl 2 rfl) ?_
      refine zl_ne (tgt := 39) hx hb dX3_nextProbe_29 dX3_nextProbe_30 (by decide) (fun c_30 => ?_) (fun c_30 => ?_)
      · skip
        refine lv_lload_n hx hb dX3_nextProbe_39 rfl (lv_at hl 2 rfl) ?_
        refine lv_lconst (v := lN 1) hx hb dX3_nextProbe_40 rfl ?_
        refine lv_lsub hx hb dX3_nextProbe_41 ?_
        refine lv_lstore (lv' := [(7, .long (g_ - (lN 1))), (0, .int (nI i_)), (1, .long g_), (3, .long (lN lo_)), (5, .long (lN hi_))]) hx hb dX3_nextProbe_42 hl (by decide) rfl (fun ls hl => ?_)
        exact jn_44 (g_ - (lN 1)) _ _ _ (by first | (intro _; rfl) | (intro q; omega)) hP hD hS (lv_sub hl [3, 4, 0] rfl)
      · skip
        refine lv_lload_n hx hb dX3_nextProbe_33 rfl (lv_at hl 2 rfl) ?_
        refine lv_lconst (v := lN 1) hx hb dX3_nextProbe_34 rfl ?_
        refine lv_ladd hx hb dX3_nextProbe_35 ?_
        refine lv_goto (tgt := 42) hx hb dX3_nextProbe_36 (by decide) ?_
        refine lv_lstore (lv' := [(7, .long (g_ + (lN 1))), (0, .int (nI i_)), (1, .long g_), (3, .long (lN lo_)), (5, .long (lN hi_))]) hx hb dX3_nextProbe_42 hl (by decide) rfl (fun ls hl => ?_)
        exact jn_44 (g_ + (lN 1)) _ _ _ (by first | (intro _; rfl) | (intro q; omega)) hP hD hS (lv_sub hl [3, 4, 0] rfl)
  · skip
    have c_13 := zji_eq (a := i_) (b := 0) (by omega) (by omega) c_13
    refine lv_lload_n hx hb dX3_nextProbe_16 rfl (lv_at hl 2 rfl) ?_
    refine lv_lstore (lv' := [(7, .long g_), (0, .int (nI i_)), (1, .long g_), (3, .long (lN lo_)), (5, .long (lN hi_))]) hx hb dX3_nextProbe_17 hl (by decide) rfl (fun ls hl => ?_)
    refine lv_goto (tgt := 44) hx hb dX3_nextProbe_19 (by decide) ?_
    exact jn_44 g_ _ _ _ (by first | (intro _; rfl) | (intro q; omega)) hP hD hS (lv_sub hl [3, 4, 0] rfl)
