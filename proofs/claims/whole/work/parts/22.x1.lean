theorem pos_odd {x : Nat} (h : x % 2 = 1) : 1 ≤ x := by omega
theorem tz_one {n s t : Nat} (d1 : n % 2 ^ s = 0) (o1 : n / 2 ^ s % 2 = 1) (d2 : n % 2 ^ t = 0) (o2 : n / 2 ^ t % 2 = 1) : s = t := by
  have key : ∀ {s t : Nat}, n / 2 ^ s % 2 = 1 → n % 2 ^ t = 0 → t ≤ s := by
    intro s t h1 h2
    rcases Nat.lt_or_ge s t with q | q
    · exfalso
      have h3 : 2 ^ (s + 1) ∣ n := Nat.dvd_trans (Nat.pow_dvd_pow 2 q) (Nat.dvd_of_mod_eq_zero h2)
      obtain ⟨k, hk⟩ := h3
      rw [Nat.pow_succ, Nat.mul_assoc] at hk
      rw [hk, Nat.mul_div_cancel_left _ (Nat.pow_pos (by decide))] at h1
      omega
    · exact q
  exact Nat.le_antisymm (key o2 d1) (key o1 d2)
theorem tw_sum (a b c d : Nat) : nI (a + b) - nI c - nI d = nI (a + b) - nI (c + d) := by
  rw [← nI_add c d]
  generalize nI (a + b) = x
  generalize nI c = y
  generalize nI d = z
  grind
theorem nX1_restart_1 : ∀ w ∈ wsX10, w ∈ wsX1_restart := by decide +kernel
abbrev rm_X1_restart : Room := { frames := 0, cells := 0, slots := 0, locals := 0 }
set_option maxHeartbeats 4000000 in
set_option maxRecDepth 100000 in
/-- restart -/
theorem ct_X1_restart (l : Launch) (D : va_G) (cI cJ cD : ClassId) (ch_ : Nat) (ca_ : Int64) (cb_ : Int64) (oc_ : Int64) (st_ : Int64) (sz : Nat) : Met l yX1_restart wsX1_restart rm_X1_restart (zP D (ty3 cI cJ cD) [.ref ch_] sz [(ch_, .inr (1, [.long ca_, .long cb_, .long oc_, .long st_]))] zT) (va_Qv (fun (u : Unit) => True) (zB D (ty3 cI cJ cD) (fun (u : Unit) => [(ch_, .inr (1, [.long (lN 1), .long (lN 1), .long (lN 0), .long (lN 0)]))]) (va_A [(ch_, .inr (1, [.long ca_, .long cb_, .long oc_, .long st_]))] sz)) (va_A [(ch_, .inr (1, [.long ca_, .long cb_, .long oc_, .long st_]))] sz)) 0 0 (va_A [(ch_, .inr (1, [.long ca_, .long cb_, .long oc_, .long st_]))] sz) := by
  refine zMet (Qf := fun A => va_Qv (fun (u : Unit) => True) (zB D (ty3 cI cJ cD) (fun (u : Unit) => [(ch_, .inr (1, [.long (lN 1), .long (lN 1), .long (lN 0), .long (lN 0)]))]) A) A) (cc := cX1_restart) (maxL := 1) (ret := none) (by decide) rfl (Nat.le_of_ble_eq_true rfl) ?_
  intro p e s m args below meth c A ls Q H hargs hQ hHe hx hb hr hml hown hts hlocks hin hP hK hD hA hS hE hAe hl
  have hl : lv_has ls 1 [(0, .ref ch_)] := hl
  refine lv_aload_n hx hb dX1_restart_0 rfl (lv_at hl 0 rfl) ?_
  refine lv_lconst (v := lN 1) hx hb dX1_restart_1 rfl ?_
  refine va_put (D := D) (ci := 1) (v := .long (lN 1)) (ty := .long) (C := RX1) (T := TX1) (N := 4) hx hb hts nX1_restart_1 tyX1 tyX1_ok nmX1 hown hK hP hD hS 0 rfl rfl 0 (by decide) (zh (w := .fieldLink RX1 9 "FretRoots$Chain" "above" "J") hts 1 rfl) (fun _ h9 => h9) rfl (by decide +kernel) rfl rfl (Nat.le_of_ble_eq_true rfl) dX1_restart_2 (fun H locs hP hD hS => ?_)
  have hP : va_P D cl5 [(ch_, .inr (1, [.long (lN 1), .long cb_, .long oc_, .long st_]))] H := hP
  have hD : va_D A [(ch_, .inr (1, [.long (lN 1), .long cb_, .long oc_, .long st_]))] := hD
  refine lv_aload_n hx hb dX1_restart_5 rfl (lv_at hl 0 rfl) ?_
  refine lv_lconst (v := lN 1) hx hb dX1_restart_6 rfl ?_
  refine va_put (D := D) (ci := 1) (v := .long (lN 1)) (ty := .long) (C := RX1) (T := TX1) (N := 4) hx hb hts nX1_restart_1 tyX1 tyX1_ok nmX1 hown hK hP hD hS 0 rfl rfl 1 (by decide) (zh (w := .fieldLink RX1 15 "FretRoots$Chain" "below" "J") hts 2 rfl) (fun _ h9 => h9) rfl (by decide +kernel) rfl rfl (Nat.le_of_ble_eq_true rfl) dX1_restart_7 (fun H locs hP hD hS => ?_)
  have hP : va_P D cl5 [(ch_, .inr (1, [.long (lN 1), .long (lN 1), .long oc_, .long st_]))] H := hP
  have hD : va_D A [(ch_, .inr (1, [.long (lN 1), .long (lN 1), .long oc_, .long st_]))] := hD
  refine lv_aload_n hx hb dX1_restart_10 rfl (lv_at hl 0 rfl) ?_
  refine lv_lconst (v := lN 0) hx hb dX1_restart_11 rfl ?_
  refine va_put (D := D) (ci := 1) (v := .long (lN 0)) (ty := .long) (C := RX1) (T := TX1) (N := 4) hx hb hts nX1_restart_1 tyX1 tyX1_ok nmX1 hown hK hP hD hS 0 rfl rfl 2 (by decide) (zh (w := .fieldLink RX1 18 "FretRoots$Chain" "octaves" "J") hts 3 rfl) (fun _ h9 => h9) rfl (by decide +kernel) rfl rfl (Nat.le_of_ble_eq_true rfl) dX1_restart_12 (fun H locs hP hD hS => ?_)
  have hP : va_P D cl5 [(ch_, .inr (1, [.long (lN 1), .long (lN 1), .long (lN 0), .long st_]))] H := hP
  have hD : va_D A [(ch_, .inr (1, [.long (lN 1), .long (lN 1), .long (lN 0), .long st_]))] := hD
  refine lv_aload_n hx hb dX1_restart_15 rfl (lv_at hl 0 rfl) ?_
  refine lv_lconst (v := lN 0) hx hb dX1_restart_16 rfl ?_
  refine va_put (D := D) (ci := 1) (v := .long (lN 0)) (ty := .long) (C := RX1) (T := TX1) (N := 4) hx hb hts nX1_restart_1 tyX1 tyX1_ok nmX1 hown hK hP hD hS 0 rfl rfl 3 (by decide) (zh (w := .fieldLink RX1 21 "FretRoots$Chain" "steps" "J") hts 4 rfl) (fun _ h9 => h9) rfl (by decide +kernel) rfl rfl (Nat.le_of_ble_eq_true rfl) dX1_restart_17 (fun H locs hP hD hS => ?_)
  have hP : va_P D cl5 [(ch_, .inr (1, [.long (lN 1), .long (lN 1), .long (lN 0), .long (lN 0)]))] H := hP
  have hD : va_D A [(ch_, .inr (1, [.long (lN 1), .long (lN 1), .long (lN 0), .long (lN 0)]))] := hD
  subst hQ
  exact ze_v hx hb hr hlocks () (trivial) hP hK hD hS dX1_restart_20
abbrev rm_X1_twosIn : Room := { frames := 0, cells := 0, slots := 0, locals := 0 }
set_option maxHeartbeats 4000000 in
set_option maxRecDepth 100000 in
/-- twosIn -/
theorem ct_X1_twosIn (l : Launch) (D : va_G) (cI cJ cD : ClassId) (n_ : Nat) (sz : Nat) (hn1 : 1 ≤ n_) (hn : n_ < 2 ^ 63) : Met l yX1_twosIn wsX1_twosIn rm_X1_twosIn (zP D (ty3 cI cJ cD) [.long (lN n_)] sz [] zT) (va_Qi (fun (r : Int32) (u : Nat) => r = nI u ∧ n_ % 2 ^ u = 0 ∧ n_ / 2 ^ u % 2 = 1 ∧ u < 63) (zB D (ty3 cI cJ cD) (fun (u : Nat) => []) (va_A [] sz)) (va_A [] sz)) 0 0 (va_A [] sz) := by
  refine zMet (Qf := fun A => va_Qi (fun (r : Int32) (u : Nat) => r = nI u ∧ n_ % 2 ^ u = 0 ∧ n_ / 2 ^ u % 2 = 1 ∧ u < 63) (zB D (ty3 cI cJ cD) (fun (u : Nat) => []) A) A) (cc := cX1_twosIn) (maxL := 4) (ret := (some .int)) (by decide) rfl (Nat.le_of_ble_eq_true rfl) ?_
  intro p e s m args below meth c A ls Q H hargs hQ hHe hx hb hr hml hown hts hlocks hin hP hK hD hA hS hE hAe hl
  have hl : lv_has ls 4 [(0, .long (lN n_))] := hl
  have lp_4 : ∀ (k9_ : Nat) (i : Nat) (H : Heap) (locs : List Loc) (ls : Array Slot), 63 - i < k9_ → i ≤ 63 → n_ % 2 ^ i = 0 →  va_P D cl5 [] H → va_D A [] → va_S A s.heap H locs → lv_has ls 4 [(0, .long (lN n_)), (2, .int (nI i)), (3, .int (nI i))] → W p l e rm_X1_twosIn s m args below meth c H locs 0 0 Q (F0 m 4 ls []) := by
    intro k9_
    induction k9_ with
    | zero => intro i H locs ls hm; exact absurd hm (Nat.not_lt_zero _)
    | succ k9_ ih =>
      intro i H locs ls hm  h1 h2 hP hD hS hl
      refine lv_iload_n hx hb dX1_twosIn_4 rfl (lv_at hl 2 rfl) ?_
      refine lv_bipush (v := nI 63) hx hb dX1_twosIn_5 (by decide) ?_
      refine lv_icmp_ge (tgt := 29) hx hb dX1_twosIn_7 (by decide) (fun c_7 => ?_) (fun c_7 => ?_)
      · skip
        have c_7 := zji_le (a := 63) (b := i) (by omega) (by omega) c_7
        rw [show i = 63 by omega, Nat.mod_eq_of_lt hn] at h2; omega
      · skip
        have c_7 := zji_nle (a := 63) (b := i) (by omega) (by omega) c_7
        have hdl := Nat.div_le_self n_ (2 ^ i)
        refine lv_lload_n hx hb dX1_twosIn_10 rfl (lv_at hl 0 rfl) ?_
        refine lv_iload_n hx hb dX1_twosIn_11 rfl (lv_at hl 2 rfl) ?_
        refine lv_lshr (v := lN (n_ / 2 ^ i)) hx hb dX1_twosIn_12 (z_shr (by omega) (by omega)) ?_
        refine lv_lconst (v := lN 1) hx hb dX1_twosIn_13 rfl ?_
        refine lv_land hx hb dX1_twosIn_14 ?_
        refine zl_ (y := lN (n_ / 2 ^ i % 2)) (z_and1l (by omega)) ?_
        refine lv_lconst (v := lN 0) hx hb dX1_twosIn_15 rfl ?_
        refine zl_ne (tgt := 29) hx hb dX1_twosIn_16 dX1_twosIn_17 (by decide) (fun c_17 => ?_) (fun c_17 => ?_)
        · skip
          have c_17 := zjl_ne (a := n_ / 2 ^ i % 2) (b := 0) (by omega) (by omega) c_17
          refine lv_iload_n hx hb dX1_twosIn_29 rfl (lv_at hl 1 rfl) ?_
          subst hQ
          exact ze_i hx hb hr hlocks i (⟨rfl, h2, by omega, by omega⟩) hP hK hD hS dX1_twosIn_30
        · skip
          have c_17 := zjl_eq (a := n_ / 2 ^ i % 2) (b := 0) (by omega) (by omega) c_17
          refine lv_iinc (v := nI (i + 1)) (lv' := [(2, .int (nI (i + 1))), (0, .long (lN n_)), (3, .int (nI i))]) hx hb dX1_twosIn_20 hl (k := 1) rfl (z_inc i 1) (by decide) rfl (fun ls hl => ?_)
          refine lv_iinc (v := nI (i + 1)) (lv' := [(3, .int (nI (i + 1))), (2, .int (nI (i + 1))), (0, .long (lN n_))]) hx hb dX1_twosIn_23 hl (k := 2) rfl (z_inc i 1) (by decide) rfl (fun ls hl => ?_)
          refine lv_goto (tgt := 4) hx hb dX1_twosIn_26 (by decide) ?_
          exact ih (i + 1) _ _ _ (by omega) (by omega) (tw_next h2 c_17) hP hD hS (lv_sub hl [2, 1, 0] rfl)
  refine lv_iconst (v := nI 0) hx hb dX1_twosIn_0 (by decide) ?_
  refine lv_istore_n (lv' := [(2, .int (nI 0)), (0, .long (lN n_))]) hx hb dX1_twosIn_1 rfl hl (by decide) rfl (fun ls hl => ?_)
  refine lv_iconst (v := nI 0) hx hb dX1_twosIn_2 (by decide) ?_
  refine lv_istore_n (lv' := [(3, .int (nI 0)), (2, .int (nI 0)), (0, .long (lN n_))]) hx hb dX1_twosIn_3 rfl hl (by decide) rfl (fun ls hl => ?_)
  exact lp_4 ((63 - 0) + 1) 0 _ _ _ (Nat.lt_succ_self _) (Nat.zero_le _) (by rw [Nat.pow_zero, Nat.mod_one]) hP hD hS (lv_sub hl [2, 1, 0] rfl)
abbrev rm_X1_oddPart : Room := { frames := 1, cells := 0, slots := 0, locals := 23 }
set_option maxHeartbeats 4000000 in
set_option maxRecDepth 100000 in
/-- oddPart -/
theorem ct_X1_oddPart (l : Launch) (D : va_G) (cI cJ cD : ClassId) (n_ : Nat) (sz : Nat) (hn1 : 1 ≤ n_) (hn : n_ < 2 ^ 63) : Met l yX1_oddPart wsX1_oddPart rm_X1_oddPart (zP D (ty3 cI cJ cD) [.long (lN n_)] sz [] zT) (va_Ql (fun (r : Int64) (u : Nat) => r = lN (n_ / 2 ^ u) ∧ n_ % 2 ^ u = 0 ∧ n_ / 2 ^ u % 2 = 1 ∧ u < 63) (zB D (ty3 cI cJ cD) (fun (u : Nat) => []) (va_A [] sz)) (va_A [] sz)) 0 0 (va_A [] sz) := by
  refine zMet (Qf := fun A => va_Ql (fun (r : Int64) (u : Nat) => r = lN (n_ / 2 ^ u) ∧ n_ % 2 ^ u = 0 ∧ n_ / 2 ^ u % 2 = 1 ∧ u < 63) (zB D (ty3 cI cJ cD) (fun (u : Nat) => []) A) A) (cc := cX1_oddPart) (maxL := 2) (ret := (some .long)) (by decide) rfl (Nat.le_of_ble_eq_true rfl) ?_
  intro p e s m args below meth c A ls Q H hargs hQ hHe hx hb hr hml hown hts hlocks hin hP hK hD hA hS hE hAe hl
  have hl : lv_has ls 2 [(0, .long (lN n_))] := hl
  refine lv_lload_n hx hb dX1_oddPart_0 rfl (lv_at hl 0 rfl) ?_
  refine lv_lload_n hx hb dX1_oddPart_1 rfl (lv_at hl 0 rfl) ?_
  refine zc_i (wc := []) (wr := []) hP hD hS hA [] [] rfl rfl (by decide) (by decide) (va_runS (As := [.long (lN n_)]) (rest := [.long (lN n_)]) ⟨hx, hb, hml, hown, hts⟩ (ct_X1_twosIn l D cI cJ cD n_ H.size (by omega) (by omega)) (va_cwS 1 hts gX1_oddPart_X1_twosIn rfl rfl rfl (by decide +kernel) ⟨Nat.le_of_ble_eq_true rfl, Nat.le_of_ble_eq_true rfl⟩) (zPreS (wc := []) hK hP hD zTb (fun _ _ _ => trivial)) rfl rfl hl.1 rfl (lv_room (Nat.le_of_ble_eq_true rfl)) dX1_oddPart_2 ⟨Nat.le_of_ble_eq_true rfl, Nat.le_of_ble_eq_true rfl⟩) (fun r_1 u9_ H locs hw hP hD hS => ?_)
  obtain ⟨t9, rfl⟩ : ∃ z, z = u9_ := ⟨_, rfl⟩
  have hP : va_P D cl5 [] H := hP.sub [] rfl
  have hD : va_D A [] := hD.sub [] (by decide) rfl
  have hw : r_1 = nI t9 ∧ n_ % 2 ^ t9 = 0 ∧ n_ / 2 ^ t9 % 2 = 1 ∧ t9 < 63 := hw
  obtain ⟨rfl, hd_2, ho_2, hb_2⟩ := hw
  refine lv_lshr (v := lN (n_ / 2 ^ t9)) hx hb dX1_oddPart_5 (z_shr (by omega) (by omega)) ?_
  subst hQ
  exact ze_l hx hb hr hlocks t9 (⟨rfl, hd_2, ho_2, hb_2⟩) hP hK hD hS dX1_oddPart_6
abbrev rm_X1_productOrNone : Room := { frames := 1, cells := 0, slots := 0, locals := 23 }
set_option maxHeartbeats 4000000 in
set_option maxRecDepth 100000 in
/-- productOrNone -/
theorem ct_X1_productOrNone (l : Launch) (D : va_G) (cI cJ cD : ClassId) (a_ : Nat) (b_ : Nat) (sz : Nat) (ha1 : 1 ≤ a_) (ha : a_ < 2 ^ 63) (hb1 : 1 ≤ b_) (hb_ : b_ < 2 ^ 63) : Met l yX1_productOrNone wsX1_productOrNone rm_X1_productOrNone (zP D (ty3 cI cJ cD) [.long (lN a_), .long (lN b_)] sz [] (fun U => nChain U)) (va_Ql (fun (r : Int64) (u : Unit) => r = poN a_ b_) (zB D (ty3 cI cJ cD) (fun (u : Unit) => []) (va_A [] sz)) (va_A [] sz)) 0 0 (va_A [] sz) := by
  refine zMet (Qf := fun A => va_Ql (fun (r : Int64) (u : Unit) => r = poN a_ b_) (zB D (ty3 cI cJ cD) (fun (u : Unit) => []) A) A) (cc := cX1_productOrNone) (maxL := 4) (ret := (some .long)) (by decide) rfl (Nat.le_of_ble_eq_true rfl) ?_
  intro p e s m args below meth c A ls Q H hargs hQ hHe hx hb hr hml hown hts hlocks hin hP hK hD hA hS hE hAe hl
  have hl : lv_has ls 4 [(0, .long (lN a_)), (2, .long (lN b_))] := hl
  refine lv_lload_n hx hb dX1_productOrNone_0 rfl (lv_at hl 0 rfl) ?_
  refine lv_ldc2 (v := 1000000000000000) hx hb hown (zh (w := .constantLong RX1 50 (1000000000000000)) hts 1 rfl) dX1_productOrNone_1 ?_
  refine zl_ (y := lN 1000000000000000) rfl ?_
  refine lv_lload_n hx hb dX1_productOrNone_4 rfl (lv_at hl 1 rfl) ?_
  refine zc_l (wc := []) (wr := []) hP hD hS hA [] [] rfl rfl (by decide) (by decide) (va_runSN (As := [.long (lN 1000000000000000), .long (lN b_)]) (rest := [.long (lN a_)]) ⟨hx, hb, hml, hown, hts⟩ (ct_X3_quotient l D cI cJ cD 1000000000000000 b_ H.size (by decide) hb_) ⟨va_cnB 2 hts ggX1_productOrNone_X3_quotient rfl rfl rfl hE.2 (zh (w := .initialized RX3) hts 4 rfl) (by decide +kernel) ⟨Nat.le_of_ble_eq_true rfl, Nat.le_of_ble_eq_true rfl⟩, (zh (w := .static yX3_quotient) hts 3 rfl), trivial⟩ (zPreS (wc := []) hK hP hD zTb (fun _ _ _ => trivial)) rfl rfl hl.1 rfl (lv_room (Nat.le_of_ble_eq_true rfl)) dX1_productOrNone_5 ⟨Nat.le_of_ble_eq_true rfl, Nat.le_of_ble_eq_true rfl⟩) (fun r_1 u9_ H locs hw hP hD hS => ?_)
  have hP : va_P D cl5 [] H := hP.sub [] rfl
  have hD : va_D A [] := hD.sub [] (by decide) rfl
  have hw : r_1 = lN (1000000000000000 / b_) := hw
  subst hw
  refine zl_le (tgt := 18) hx hb dX1_productOrNone_8 dX1_productOrNone_9 (by decide) (fun c_9 => ?_) (fun c_9 => ?_)
  · skip
    have c_9 := zjl_le (a := a_) (b := 1000000000000000 / b_) ((by have := Nat.div_le_self 1000000000000000 b_; omega)) ((by have := Nat.div_le_self 1000000000000000 b_; omega)) c_9
    refine lv_lload_n hx hb dX1_productOrNone_18 rfl (lv_at hl 0 rfl) ?_
    refine lv_lload_n hx hb dX1_productOrNone_19 rfl (lv_at hl 1 rfl) ?_
    refine lv_lmul hx hb dX1_productOrNone_20 ?_
    refine zl_ (y := lN (a_ * b_)) (lN_mul a_ b_) ?_
    subst hQ
    exact ze_l hx hb hr hlocks () (by first | exact (po_1 hb1 c_9).symm | exact (po_2 hb1 c_9).symm) hP hK hD hS dX1_productOrNone_21
  · skip
    have c_9 := zjl_nle (a := a_) (b := 1000000000000000 / b_) ((by have := Nat.div_le_self 1000000000000000 b_; omega)) ((by have := Nat.div_le_self 1000000000000000 b_; omega)) c_9
    refine lv_ldc2 (v := -1) hx hb hown (zh (w := .constantLong RX1 42 (-1)) hts 2 rfl) dX1_productOrNone_12 ?_
    refine lv_goto (tgt := 21) hx hb dX1_productOrNone_15 (by decide) ?_
    subst hQ
    exact ze_l hx hb hr hlocks () (by first | exact (po_1 hb1 c_9).symm | exact (po_2 hb1 c_9).symm) hP hK hD hS dX1_productOrNone_21
theorem nX1_settle_1 : ∀ w ∈ wsX10, w ∈ wsX1_settle := by decide +kernel
abbrev rm_X1_settle : Room := { frames := 0, cells := 0, slots := 0, locals := 0 }
set_option maxHeartbeats 4000000 in
set_option maxRecDepth 100000 in
/-- settle -/
theorem ct_X1_settle (l : Launch) (D : va_G) (cI cJ cD : ClassId) (ch_ : Nat) (ca_ : Nat) (cb_ : Nat) (oa_ : Nat) (ob_ : Nat) (tp_ : Nat) (tq_ : Nat) (P_ : Nat) (Q_ : Nat) (oc_ : Int64) (st_ : Int64) (tw_ : Int32) (sz : Nat) (hod : odI oa_ ob_ P_ Q_ tp_ tq_) (hoa : oa_ ≤ 1000000000000000) (hob : ob_ ≤ 1000000000000000) (htp : tp_ < 1000) (htq : tq_ < 1000) (htw : tw_ = nI tp_ - nI tq_) : Met l yX1_settle wsX1_settle rm_X1_settle (zP D (ty3 cI cJ cD) [.ref ch_, .long (lN oa_), .long (lN ob_), .int tw_] sz [(ch_, .inr (1, [.long (lN ca_), .long (lN cb_), .long oc_, .long st_]))] zT) (va_Qi (fun (r : Int32) (u : Nat × Nat × Int64 × Int64) => (r = 0 ∨ r = 1) ∧ stE P_ Q_ ca_ cb_ oc_ st_ r (u.1) (u.2.1) (u.2.2.1) (u.2.2.2)) (zB D (ty3 cI cJ cD) (fun (u : Nat × Nat × Int64 × Int64) => [(ch_, .inr (1, [.long (lN (u.1)), .long (lN (u.2.1)), .long (u.2.2.1), .long (u.2.2.2)]))]) (va_A [(ch_, .inr (1, [.long (lN ca_), .long (lN cb_), .long oc_, .long st_]))] sz)) (va_A [(ch_, .inr (1, [.long (lN ca_), .long (lN cb_), .long oc_, .long st_]))] sz)) 0 0 (va_A [(ch_, .inr (1, [.long (lN ca_), .long (lN cb_), .long oc_, .long st_]))] sz) := by
  refine zMet (Qf := fun A => va_Qi (fun (r : Int32) (u : Nat × Nat × Int64 × Int64) => (r = 0 ∨ r = 1) ∧ stE P_ Q_ ca_ cb_ oc_ st_ r (u.1) (u.2.1) (u.2.2.1) (u.2.2.2)) (zB D (ty3 cI cJ cD) (fun (u : Nat × Nat × Int64 × Int64) => [(ch_, .inr (1, [.long (lN (u.1)), .long (lN (u.2.1)), .long (u.2.2.1), .long (u.2.2.2)]))]) A) A) (cc := cX1_settle) (maxL := 12) (ret := (some .boolean)) (by decide) rfl (Nat.le_of_ble_eq_true rfl) ?_
  intro p e s m args below meth c A ls Q H hargs hQ hHe hx hb hr hml hown hts hlocks hin hP hK hD hA hS hE hAe hl
  have hl : lv_has ls 12 [(0, .ref ch_), (1, .long (lN oa_)), (3, .long (lN ob_)), (5, .int tw_)] := hl
  have hoa1 := hod.2.1
  have hob1 := hod.2.2.1
  have lp_51 : ∀ (k9_ : Nat) (i : Nat) (j : Nat) (na : Nat) (nb : Nat) (H : Heap) (locs : List Loc) (ls : Array Slot), 64 - j < k9_ → i ≤ 64 → j ≤ 64 → nb = ob_ * 2 ^ i → na = oa_ * 2 ^ j → na < 2 * nb → nb ≤ 1000000000000000 → i = 0 ∨ nb ≤ na → i = 0 ∨ j = 0 →  va_P D cl5 [(ch_, .inr (1, [.long (lN ca_), .long (lN cb_), .long oc_, .long st_]))] H → va_D A [(ch_, .inr (1, [.long (lN ca_), .long (lN cb_), .long oc_, .long st_]))] → va_S A s.heap H locs → lv_has ls 12 [(0, .ref ch_), (5, .int tw_), (6, .long (lN na)), (8, .long (lN nb)), (10, .int (nI j - nI i)), (11, .int (nI j))] → W p l e rm_X1_settle s m args below meth c H locs 0 0 Q (F0 m 51 ls []) := by
    intro k9_
    induction k9_ with
    | zero => intro i j na nb H locs ls hm; exact absurd hm (Nat.not_lt_zero _)
    | succ k9_ ih =>
      intro i j na nb H locs ls hm  h1 h5 h2 h6 h7 h4 h8 h9 hP hD hS hl
      refine lv_iload hx hb dX1_settle_51 (lv_at hl 5 rfl) ?_
      refine lv_bipush (v := nI 64) hx hb dX1_settle_53 (by decide) ?_
      refine lv_icmp_ge (tgt := 83) hx hb dX1_settle_55 (by decide) (fun c_55 => ?_) (fun c_55 => ?_)
      · skip
        have c_55 := zji_le (a := 64) (b := j) (by omega) (by omega) c_55
        rw [show j = 64 by omega] at h6; have := Nat.mul_le_mul_right (2 ^ 64) (show 1 ≤ oa_ by omega); omega
      · skip
        have c_55 := zji_nle (a := 64) (b := j) (by omega) (by omega) c_55
        refine lv_lload hx hb dX1_settle_58 (lv_at hl 2 rfl) ?_
        refine lv_lload hx hb dX1_settle_60 (lv_at hl 3 rfl) ?_
        refine zl_ge (tgt := 83) hx hb dX1_settle_62 dX1_settle_63 (by decide) (fun c_63 => ?_) (fun c_63 => ?_)
        · skip
          have c_63 := zjl_le (a := nb) (b := na) (by omega) (by omega) c_63
          have hst : stR na nb P_ Q_ (tp_ + i) (tq_ + j) := ⟨by rw [h2, h6]; exact od_rel hod h9, c_63, h7⟩
          refine lv_lload hx hb dX1_settle_83 (lv_at hl 2 rfl) ?_
          refine lv_ldc2 (v := 1000000000000000) hx hb hown (zh (w := .constantLong RX1 50 (1000000000000000)) hts 2 rfl) dX1_settle_85 ?_
          refine zl_ (y := lN 1000000000000000) rfl ?_
          refine zl_gt (tgt := 101) hx hb dX1_settle_88 dX1_settle_89 (by decide) (fun c_89 => ?_) (fun c_89 => ?_)
          · skip
            have c_89 := zjl_lt (a := 1000000000000000) (b := na) (by omega) (by omega) c_89
            refine lv_iconst (v := nI 0) hx hb dX1_settle_101 (by decide) ?_
            subst hQ
            exact ze_z hx hb hr hlocks (ca_, cb_, oc_, st_) (by first | exact Or.inl rfl | exact Or.inr rfl | omega) (⟨Or.inl rfl, ⟨na, nb, _, _, hst, Or.inr ⟨fun q => by omega, rfl, rfl, rfl, rfl, rfl⟩⟩⟩) hP hK hD hS dX1_settle_102
          · skip
            have c_89 := zjl_nlt (a := 1000000000000000) (b := na) (by omega) (by omega) c_89
            refine lv_lload hx hb dX1_settle_92 (lv_at hl 3 rfl) ?_
            refine lv_ldc2 (v := 1000000000000000) hx hb hown (zh (w := .constantLong RX1 50 (1000000000000000)) hts 2 rfl) dX1_settle_94 ?_
            refine zl_ (y := lN 1000000000000000) rfl ?_
            refine zl_le (tgt := 103) hx hb dX1_settle_97 dX1_settle_98 (by decide) (fun c_98 => ?_) (fun c_98 => ?_)
            · skip
              have c_98 := zjl_le (a := nb) (b := 1000000000000000) (by omega) (by omega) c_98
              refine lv_aload_n hx hb dX1_settle_103 rfl (lv_at hl 0 rfl) ?_
              refine lv_lload hx hb dX1_settle_104 (lv_at hl 2 rfl) ?_
              refine va_put (D := D) (ci := 1) (v := .long (lN na)) (ty := .long) (C := RX1) (T := TX1) (N := 4) hx hb hts nX1_settle_1 tyX1 tyX1_ok nmX1 hown hK hP hD hS 0 rfl rfl 0 (by decide) (zh (w := .fieldLink RX1 9 "FretRoots$Chain" "above" "J") hts 3 rfl) (fun _ h9 => h9) rfl (by decide +kernel) rfl rfl (Nat.le_of_ble_eq_true rfl) dX1_settle_106 (fun H locs hP hD hS => ?_)
              have hP : va_P D cl5 [(ch_, .inr (1, [.long (lN na), .long (lN cb_), .long oc_, .long st_]))] H := hP
              have hD : va_D A [(ch_, .inr (1, [.long (lN na), .long (lN cb_), .long oc_, .long st_]))] := hD
              refine lv_aload_n hx hb dX1_settle_109 rfl (lv_at hl 0 rfl) ?_
              refine lv_lload hx hb dX1_settle_110 (lv_at hl 3 rfl) ?_
              refine va_put (D := D) (ci := 1) (v := .long (lN nb)) (ty := .long) (C := RX1) (T := TX1) (N := 4) hx hb hts nX1_settle_1 tyX1 tyX1_ok nmX1 hown hK hP hD hS 0 rfl rfl 1 (by decide) (zh (w := .fieldLink RX1 15 "FretRoots$Chain" "below" "J") hts 4 rfl) (fun _ h9 => h9) rfl (by decide +kernel) rfl rfl (Nat.le_of_ble_eq_true rfl) dX1_settle_112 (fun H locs hP hD hS => ?_)
              have hP : va_P D cl5 [(ch_, .inr (1, [.long (lN na), .long (lN nb), .long oc_, .long st_]))] H := hP
              have hD : va_D A [(ch_, .inr (1, [.long (lN na), .long (lN nb), .long oc_, .long st_]))] := hD
              refine lv_aload_n hx hb dX1_settle_115 rfl (lv_at hl 0 rfl) ?_
              refine lv_aload_n hx hb dX1_settle_116 rfl (lv_at hl 0 rfl) ?_
              refine va_get (D := D) (ci := 1) (v := .long oc_) (C := RX1) (T := TX1) (N := 4) hx hb hts nX1_settle_1 hown hK hP 0 rfl rfl 2 (by decide) (zh (w := .fieldLink RX1 18 "FretRoots$Chain" "octaves" "J") hts 5 rfl) (fun _ h9 => h9) rfl dX1_settle_117 ?_
              refine lv_iload hx hb dX1_settle_120 (lv_at hl 1 rfl) ?_
              refine lv_i2l (v := tw_.toInt64) hx hb dX1_settle_122 rfl ?_
              refine zl_ (y := lN tp_ - lN tq_) (by rw [htw]; exact z_sub64 (by omega) (by omega)) ?_
              refine lv_ladd hx hb dX1_settle_123 ?_
              refine lv_iload hx hb dX1_settle_124 (lv_at hl 4 rfl) ?_
              refine lv_i2l (v := (nI j - nI i).toInt64) hx hb dX1_settle_126 rfl ?_
              refine zl_ (y := lN j - lN i) (z_sub64 (by omega) (by omega)) ?_
              refine lv_lsub hx hb dX1_settle_127 ?_
              refine zl_ (y := oc_ + (lN (tp_ + i) - lN (tq_ + j))) (oc_sum _ _ _ _ _) ?_
              refine va_put (D := D) (ci := 1) (v := .long (oc_ + (lN (tp_ + i) - lN (tq_ + j)))) (ty := .long) (C := RX1) (T := TX1) (N := 4) hx hb hts nX1_settle_1 tyX1 tyX1_ok nmX1 hown hK hP hD hS 0 rfl rfl 2 (by decide) (zh (w := .fieldLink RX1 18 "FretRoots$Chain" "octaves" "J") hts 5 rfl) (fun _ h9 => h9) rfl (by decide +kernel) rfl rfl (Nat.le_of_ble_eq_true rfl) dX1_settle_128 (fun H locs hP hD hS => ?_)
              have hP : va_P D cl5 [(ch_, .inr (1, [.long (lN na), .long (lN nb), .long (oc_ + (lN (tp_ + i) - lN (tq_ + j))), .long st_]))] H := hP
              have hD : va_D A [(ch_, .inr (1, [.long (lN na), .long (lN nb), .long (oc_ + (lN (tp_ + i) - lN (tq_ + j))), .long st_]))] := hD
              refine lv_aload_n hx hb dX1_settle_131 rfl (lv_at hl 0 rfl) ?_
              refine lv_dup hx hb dX1_settle_132 rfl ?_
              refine va_get (D := D) (ci := 1) (v := .long st_) (C := RX1) (T := TX1) (N := 4) hx hb hts nX1_settle_1 hown hK hP 0 rfl rfl 3 (by decide) (zh (w := .fieldLink RX1 21 "FretRoots$Chain" "steps" "J") hts 6 rfl) (fun _ h9 => h9) rfl dX1_settle_133 ?_
              refine lv_lconst (v := lN 1) hx hb dX1_settle_136 rfl ?_
              refine lv_ladd hx hb dX1_settle_137 ?_
              refine va_put (D := D) (ci := 1) (v := .long (st_ + (lN 1))) (ty := .long) (C := RX1) (T := TX1) (N := 4) hx hb hts nX1_settle_1 tyX1 tyX1_ok nmX1 hown hK hP hD hS 0 rfl rfl 3 (by decide) (zh (w := .fieldLink RX1 21 "FretRoots$Chain" "steps" "J") hts 6 rfl) (fun _ h9 => h9) rfl (by decide +kernel) rfl rfl (Nat.le_of_ble_eq_true rfl) dX1_settle_138 (fun H locs hP hD hS => ?_)
              have hP : va_P D cl5 [(ch_, .inr (1, [.long (lN na), .long (lN nb), .long (oc_ + (lN (tp_ + i) - lN (tq_ + j))), .long (st_ + (lN 1))]))] H := hP
              have hD : va_D A [(ch_, .inr (1, [.long (lN na), .long (lN nb), .long (oc_ + (lN (tp_ + i) - lN (tq_ + j))), .long (st_ + (lN 1))]))] := hD
              refine lv_iconst (v := nI 1) hx hb dX1_settle_141 (by decide) ?_
              subst hQ
              exact ze_z hx hb hr hlocks (na, nb, oc_ + (lN (tp_ + i) - lN (tq_ + j)), st_ + (lN 1)) (by first | exact Or.inl rfl | exact Or.inr rfl | omega) (⟨Or.inr rfl, ⟨na, nb, _, _, hst, Or.inl ⟨by omega, by omega, rfl, rfl, rfl, rfl, rfl⟩⟩⟩) hP hK hD hS dX1_settle_142
            · skip
              have c_98 := zjl_nle (a := nb) (b := 1000000000000000) (by omega) (by omega) c_98
              refine lv_iconst (v := nI 0) hx hb dX1_settle_101 (by decide) ?_
              subst hQ
              exact ze_z hx hb hr hlocks (ca_, cb_, oc_, st_) (by first | exact Or.inl rfl | exact Or.inr rfl | omega) (⟨Or.inl rfl, ⟨na, nb, _, _, hst, Or.inr ⟨fun q => by omega, rfl, rfl, rfl, rfl, rfl⟩⟩⟩) hP hK hD hS dX1_settle_102
        · skip
          have c_63 := zjl_nle (a := nb) (b := na) (by omega) (by omega) c_63
          refine lv_ldc2 (v := 2) hx hb hown (zh (w := .constantLong RX1 48 (2)) hts 1 rfl) dX1_settle_66 ?_
          refine zl_ (y := lN 2) rfl ?_
          refine lv_lload hx hb dX1_settle_69 (lv_at hl 2 rfl) ?_
          refine lv_lmul hx hb dX1_settle_71 ?_
          refine zl_ (y := lN (2 * na)) (lN_mul 2 na) ?_
          refine lv_lstore (lv' := [(6, .long (lN (2 * na))), (0, .ref ch_), (5, .int tw_), (8, .long (lN nb)), (10, .int (nI j - nI i)), (11, .int (nI j))]) hx hb dX1_settle_72 hl (by decide) rfl (fun ls hl => ?_)
          refine lv_iinc (v := nI (j + 1) - nI i) (lv' := [(10, .int (nI (j + 1) - nI i)), (6, .long (lN (2 * na))), (0, .ref ch_), (5, .int tw_), (8, .long (lN nb)), (11, .int (nI j))]) hx hb dX1_settle_74 hl (k := 4) rfl (kp_inc i j) (by decide) rfl (fun ls hl => ?_)
          refine lv_iinc (v := nI (j + 1)) (lv' := [(11, .int (nI (j + 1))), (10, .int (nI (j + 1) - nI i)), (6, .long (lN (2 * na))), (0, .ref ch_), (5, .int tw_), (8, .long (lN nb))]) hx hb dX1_settle_77 hl (k := 5) rfl (z_inc j 1) (by decide) rfl (fun ls hl => ?_)
          refine lv_goto (tgt := 51) hx hb dX1_settle_80 (by decide) ?_
          exact ih i (j + 1) (2 * na) nb _ _ _ (by omega) h1 (by omega) h2 (by rw [h6, Nat.pow_succ]; grind) (by omega) h4 (by rcases h8 with q | q; exact Or.inl q; omega) (Or.inl (by rcases h8 with q | q; exact q; omega)) hP hD hS (lv_sub hl [3, 4, 2, 5, 1, 0] rfl)
  have lp_12 : ∀ (k9_ : Nat) (i : Nat) (nb : Nat) (H : Heap) (locs : List Loc) (ls : Array Slot), 64 - i < k9_ → i ≤ 64 → nb = ob_ * 2 ^ i → i = 0 ∨ nb ≤ oa_ → nb ≤ 1000000000000000 →  va_P D cl5 [(ch_, .inr (1, [.long (lN ca_), .long (lN cb_), .long oc_, .long st_]))] H → va_D A [(ch_, .inr (1, [.long (lN ca_), .long (lN cb_), .long oc_, .long st_]))] → va_S A s.heap H locs → lv_has ls 12 [(0, .ref ch_), (5, .int tw_), (6, .long (lN oa_)), (8, .long (lN nb)), (10, .int (nI 0 - nI i)), (11, .int (nI i))] → W p l e rm_X1_settle s m args below meth c H locs 0 0 Q (F0 m 12 ls []) := by
    intro k9_
    induction k9_ with
    | zero => intro i nb H locs ls hm; exact absurd hm (Nat.not_lt_zero _)
    | succ k9_ ih =>
      intro i nb H locs ls hm  h1 h2 h3 h4 hP hD hS hl
      refine lv_iload hx hb dX1_settle_12 (lv_at hl 5 rfl) ?_
      refine lv_bipush (v := nI 64) hx hb dX1_settle_14 (by decide) ?_
      refine lv_icmp_ge (tgt := 48) hx hb dX1_settle_16 (by decide) (fun c_16 => ?_) (fun c_16 => ?_)
      · skip
        have c_16 := zji_le (a := 64) (b := i) (by omega) (by omega) c_16
        rw [show i = 64 by omega] at h2; rcases h3 with q | q; omega; have := Nat.mul_le_mul_right (2 ^ 64) (show 1 ≤ ob_ by omega); omega
      · skip
        have c_16 := zji_nle (a := 64) (b := i) (by omega) (by omega) c_16
        refine lv_lload hx hb dX1_settle_19 (lv_at hl 2 rfl) ?_
        refine lv_ldc2 (v := 2) hx hb hown (zh (w := .constantLong RX1 48 (2)) hts 1 rfl) dX1_settle_21 ?_
        refine zl_ (y := lN 2) rfl ?_
        refine lv_lload hx hb dX1_settle_24 (lv_at hl 3 rfl) ?_
        refine lv_lmul hx hb dX1_settle_26 ?_
        refine zl_ (y := lN (2 * nb)) (lN_mul 2 nb) ?_
        refine zl_lt (tgt := 48) hx hb dX1_settle_27 dX1_settle_28 (by decide) (fun c_28 => ?_) (fun c_28 => ?_)
        · skip
          have c_28 := zjl_lt (a := oa_) (b := 2 * nb) (by omega) (by omega) c_28
          refine lv_iconst (v := nI 0) hx hb dX1_settle_48 (by decide) ?_
          refine lv_istore (lv' := [(11, .int (nI 0)), (0, .ref ch_), (5, .int tw_), (6, .long (lN oa_)), (8, .long (lN nb)), (10, .int (nI 0 - nI i))]) hx hb dX1_settle_49 hl (by decide) rfl (fun ls hl => ?_)
          exact lp_51 ((64 - 0) + 1) i 0 oa_ nb _ _ _ (Nat.lt_succ_self _) h1 (Nat.zero_le _) h2 (by rw [Nat.pow_zero, Nat.mul_one]) (by omega) h4 h3 (Or.inr rfl) hP hD hS (lv_sub hl [1, 2, 3, 4, 5, 0] rfl)
        · skip
          have c_28 := zjl_nlt (a := oa_) (b := 2 * nb) (by omega) (by omega) c_28
          refine lv_ldc2 (v := 2) hx hb hown (zh (w := .constantLong RX1 48 (2)) hts 1 rfl) dX1_settle_31 ?_
          refine zl_ (y := lN 2) rfl ?_
          refine lv_lload hx hb dX1_settle_34 (lv_at hl 3 rfl) ?_
          refine lv_lmul hx hb dX1_settle_36 ?_
          refine zl_ (y := lN (2 * nb)) (lN_mul 2 nb) ?_
          refine lv_lstore (lv' := [(8, .long (lN (2 * nb))), (0, .ref ch_), (5, .int tw_), (6, .long (lN oa_)), (10, .int (nI 0 - nI i)), (11, .int (nI i))]) hx hb dX1_settle_37 hl (by decide) rfl (fun ls hl => ?_)
          refine lv_iinc (v := nI 0 - nI (i + 1)) (lv' := [(10, .int (nI 0 - nI (i + 1))), (8, .long (lN (2 * nb))), (0, .ref ch_), (5, .int tw_), (6, .long (lN oa_)), (11, .int (nI i))]) hx hb dX1_settle_39 hl (k := 4) rfl (kp_dec i) (by decide) rfl (fun ls hl => ?_)
          refine lv_iinc (v := nI (i + 1)) (lv' := [(11, .int (nI (i + 1))), (10, .int (nI 0 - nI (i + 1))), (8, .long (lN (2 * nb))), (0, .ref ch_), (5, .int tw_), (6, .long (lN oa_))]) hx hb dX1_settle_42 hl (k := 5) rfl (z_inc i 1) (by decide) rfl (fun ls hl => ?_)
          refine lv_goto (tgt := 12) hx hb dX1_settle_45 (by decide) ?_
          exact ih (i + 1) (2 * nb) _ _ _ (by omega) (by omega) (by rw [h2, Nat.pow_succ]; grind) (Or.inr (by omega)) (by omega) hP hD hS (lv_sub hl [3, 4, 5, 2, 1, 0] rfl)
  refine lv_lload_n hx hb dX1_settle_0 rfl (lv_at hl 1 rfl) ?_
  refine lv_lstore (lv' := [(6, .long (lN oa_)), (0, .ref ch_), (1, .long (lN oa_)), (3, .long (lN ob_)), (5, .int tw_)]) hx hb dX1_settle_1 hl (by decide) rfl (fun ls hl => ?_)
  refine lv_lload_n hx hb dX1_settle_3 rfl (lv_at hl 3 rfl) ?_
  refine lv_lstore (lv' := [(8, .long (lN ob_)), (6, .long (lN oa_)), (0, .ref ch_), (1, .long (lN oa_)), (3, .long (lN ob_)), (5, .int tw_)]) hx hb dX1_settle_4 hl (by decide) rfl (fun ls hl => ?_)
  refine lv_iconst (v := nI 0) hx hb dX1_settle_6 (by decide) ?_
  refine zi_ (y := nI 0 - nI 0) (by decide) ?_
  refine lv_istore (lv' := [(10, .int (nI 0 - nI 0)), (8, .long (lN ob_)), (6, .long (lN oa_)), (0, .ref ch_), (1, .long (lN oa_)), (3, .long (lN ob_)), (5, .int tw_)]) hx hb dX1_settle_7 hl (by decide) rfl (fun ls hl => ?_)
  refine lv_iconst (v := nI 0) hx hb dX1_settle_9 (by decide) ?_
  refine lv_istore (lv' := [(11, .int (nI 0)), (10, .int (nI 0 - nI 0)), (8, .long (lN ob_)), (6, .long (lN oa_)), (0, .ref ch_), (1, .long (lN oa_)), (3, .long (lN ob_)), (5, .int tw_)]) hx hb dX1_settle_10 hl (by decide) rfl (fun ls hl => ?_)
  exact lp_12 ((64 - 0) + 1) 0 ob_ _ _ _ (Nat.lt_succ_self _) (by decide) (by rw [Nat.pow_zero, Nat.mul_one]) (Or.inl rfl) hob hP hD hS (lv_sub hl [4, 7, 3, 2, 1, 0] rfl)
theorem nX1_advance_1 : ∀ w ∈ wsX10, w ∈ wsX1_advance := by decide +kernel
abbrev rm_X1_advance : Room := { frames := 2, cells := 0, slots := 0, locals := 46 }
set_option maxHeartbeats 4000000 in
set_option maxRecDepth 100000 in
/-- advance -/
theorem ct_X1_advance (l : Launch) (D : va_G) (cI cJ cD : ClassId) (ch_ : Nat) (ca_ : Nat) (cb_ : Nat) (a_ : Nat) (b_ : Nat) (oc_ : Int64) (st_ : Int64) (sz : Nat) (hch : chOK ca_ cb_) (hab : Nat.Coprime a_ b_) (ha1 : 1 ≤ a_) (ha : a_ ≤ 1000000) (hb1 : 1 ≤ b_) (hb_ : b_ ≤ 1000000) : Met l yX1_advance wsX1_advance rm_X1_advance (zP D (ty3 cI cJ cD) [.ref ch_, .long (lN a_), .long (lN b_)] sz [(ch_, .inr (1, [.long (lN ca_), .long (lN cb_), .long oc_, .long st_]))] (fun U => nChain U)) (va_Qi (fun (r : Int32) (u : Nat × Nat × Int64 × Int64) => (r = 0 ∨ r = 1) ∧ stE (ca_ * a_) (cb_ * b_) ca_ cb_ oc_ st_ r (u.1) (u.2.1) (u.2.2.1) (u.2.2.2)) (zB D (ty3 cI cJ cD) (fun (u : Nat × Nat × Int64 × Int64) => [(ch_, .inr (1, [.long (lN (u.1)), .long (lN (u.2.1)), .long (u.2.2.1), .long (u.2.2.2)]))]) (va_A [(ch_, .inr (1, [.long (lN ca_), .long (lN cb_), .long oc_, .long st_]))] sz)) (va_A [(ch_, .inr (1, [.long (lN ca_), .long (lN cb_), .long oc_, .long st_]))] sz)) 0 0 (va_A [(ch_, .inr (1, [.long (lN ca_), .long (lN cb_), .long oc_, .long st_]))] sz) := by
  refine zMet (Qf := fun A => va_Qi (fun (r : Int32) (u : Nat × Nat × Int64 × Int64) => (r = 0 ∨ r = 1) ∧ stE (ca_ * a_) (cb_ * b_) ca_ cb_ oc_ st_ r (u.1) (u.2.1) (u.2.2.1) (u.2.2.2)) (zB D (ty3 cI cJ cD) (fun (u : Nat × Nat × Int64 × Int64) => [(ch_, .inr (1, [.long (lN (u.1)), .long (lN (u.2.1)), .long (u.2.2.1), .long (u.2.2.2)]))]) A) A) (cc := cX1_advance) (maxL := 22) (ret := (some .boolean)) (by decide) rfl (Nat.le_of_ble_eq_true rfl) ?_
  intro p e s m args below meth c A ls Q H hargs hQ hHe hx hb hr hml hown hts hlocks hin hP hK hD hA hS hE hAe hl
  have hl : lv_has ls 22 [(0, .ref ch_), (1, .long (lN a_)), (3, .long (lN b_))] := hl
  obtain ⟨ch1, ch2, ch3, ch4, ch5⟩ := hch
  have hsb := st_begin2 ch1 ch2 ch3 hab ha1 hb1
  have g3 := Nat.gcd_pos_of_pos_left b_ ch2
  have g4 := Nat.gcd_le_left b_ ch2
  have g5 := Nat.gcd_pos_of_pos_left cb_ ha1
  have g6 := Nat.gcd_le_left cb_ ha1
  obtain ⟨u, hu⟩ : ∃ u, u = ca_ / Nat.gcd ca_ b_ := ⟨_, rfl⟩
  obtain ⟨v, hv⟩ : ∃ v, v = a_ / Nat.gcd a_ cb_ := ⟨_, rfl⟩
  obtain ⟨w, hw9⟩ : ∃ w, w = cb_ / Nat.gcd a_ cb_ := ⟨_, rfl⟩
  obtain ⟨z, hz⟩ : ∃ z, z = b_ / Nat.gcd ca_ b_ := ⟨_, rfl⟩
  have u1 : 1 ≤ u := by rw [hu]; exact gcd_div_pos ch2
  have v1 : 1 ≤ v := by rw [hv]; exact gcd_div_pos ha1
  have w1 : 1 ≤ w := by rw [hw9]; exact gcd_div_pos' ch3
  have z1 : 1 ≤ z := by rw [hz]; exact gcd_div_pos' hb1
  have u2 : u ≤ ca_ := by rw [hu]; exact Nat.div_le_self _ _
  have v2 : v ≤ a_ := by rw [hv]; exact Nat.div_le_self _ _
  have w2 : w ≤ cb_ := by rw [hw9]; exact Nat.div_le_self _ _
  have z2 : z ≤ b_ := by rw [hz]; exact Nat.div_le_self _ _
  rw [← hu, ← hv, ← hw9, ← hz] at hsb
  refine lv_aload_n hx hb dX1_advance_0 rfl (lv_at hl 0 rfl) ?_
  refine va_get (D := D) (ci := 1) (v := .long (lN ca_)) (C := RX1) (T := TX1) (N := 4) hx hb hts nX1_advance_1 hown hK hP 0 rfl rfl 0 (by decide) (zh (w := .fieldLink RX1 9 "FretRoots$Chain" "above" "J") hts 1 rfl) (fun _ h9 => h9) rfl dX1_advance_1 ?_
  refine lv_lload_n hx hb dX1_advance_4 rfl (lv_at hl 2 rfl) ?_
  refine zc_l (wc := []) (wr := [(ch_, .inr (1, [.long (lN ca_), .long (lN cb_), .long oc_, .long st_]))]) hP hD hS hA [] [0] rfl rfl (by decide) (by decide) (va_runSN (As := [.long (lN ca_), .long (lN b_)]) (rest := []) ⟨hx, hb, hml, hown, hts⟩ (ct_X3_commonDivisor l D cI cJ cD ca_ b_ H.size (by omega) (by omega)) ⟨va_cnB 2 hts ggX1_advance_X3_commonDivisor rfl rfl rfl hE.1 (zh (w := .initialized RX3) hts 5 rfl) (by decide +kernel) ⟨Nat.le_of_ble_eq_true rfl, Nat.le_of_ble_eq_true rfl⟩, (zh (w := .static yX3_commonDivisor) hts 4 rfl), trivial⟩ (zPreS (wc := []) hK (hP.sub [] rfl) (hD.sub [] (by decide) rfl) zTb (fun _ _ _ => trivial)) rfl rfl hl.1 rfl (lv_room (Nat.le_of_ble_eq_true rfl)) dX1_advance_5 ⟨Nat.le_of_ble_eq_true rfl, Nat.le_of_ble_eq_true rfl⟩) (fun r_1 u9_ H locs hw hP hD hS => ?_)
  have hP : va_P D cl5 [(ch_, .inr (1, [.long (lN ca_), .long (lN cb_), .long oc_, .long st_]))] H := hP.sub [0] rfl
  have hD : va_D A [(ch_, .inr (1, [.long (lN ca_), .long (lN cb_), .long oc_, .long st_]))] := hD.sub [0] (by decide) rfl
  have hw : r_1 = lN (Nat.gcd ca_ b_) := hw
  subst hw
  refine lv_lstore (lv' := [(5, .long (lN (Nat.gcd ca_ b_))), (0, .ref ch_), (1, .long (lN a_)), (3, .long (lN b_))]) hx hb dX1_advance_8 hl (by decide) rfl (fun ls hl => ?_)
  refine lv_lload_n hx hb dX1_advance_10 rfl (lv_at hl 2 rfl) ?_
  refine lv_aload_n hx hb dX1_advance_11 rfl (lv_at hl 1 rfl) ?_
  refine va_get (D := D) (ci := 1) (v := .long (lN cb_)) (C := RX1) (T := TX1) (N := 4) hx hb hts nX1_advance_1 hown hK hP 0 rfl rfl 1 (by decide) (zh (w := .fieldLink RX1 15 "FretRoots$Chain" "below" "J") hts 2 rfl) (fun _ h9 => h9) rfl dX1_advance_12 ?_
  refine zc_l (wc := []) (wr := [(ch_, .inr (1, [.long (lN ca_), .long (lN cb_), .long oc_, .long st_]))]) hP hD hS hA [] [0] rfl rfl (by decide) (by decide) (va_runSN (As := [.long (lN a_), .long (lN cb_)]) (rest := []) ⟨hx, hb, hml, hown, hts⟩ (ct_X3_commonDivisor l D cI cJ cD a_ cb_ H.size (by omega) (by omega)) ⟨va_cnB 2 hts ggX1_advance_X3_commonDivisor rfl rfl rfl hE.1 (zh (w := .initialized RX3) hts 5 rfl) (by decide +kernel) ⟨Nat.le_of_ble_eq_true rfl, Nat.le_of_ble_eq_true rfl⟩, (zh (w := .static yX3_commonDivisor) hts 4 rfl), trivial⟩ (zPreS (wc := []) hK (hP.sub [] rfl) (hD.sub [] (by decide) rfl) zTb (fun _ _ _ => trivial)) rfl rfl hl.1 rfl (lv_room (Nat.le_of_ble_eq_true rfl)) dX1_advance_15 ⟨Nat.le_of_ble_eq_true rfl, Nat.le_of_ble_eq_true rfl⟩) (fun r_2 u9_ H locs hw hP hD hS => ?_)
  have hP : va_P D cl5 [(ch_, .inr (1, [.long (lN ca_), .long (lN cb_), .long oc_, .long st_]))] H := hP.sub [0] rfl
  have hD : va_D A [(ch_, .inr (1, [.long (lN ca_), .long (lN cb_), .long oc_, .long st_]))] := hD.sub [0] (by decide) rfl
  have hw : r_2 = lN (Nat.gcd a_ cb_) := hw
  subst hw
  refine lv_lstore (lv' := [(7, .long (lN (Nat.gcd a_ cb_))), (5, .long (lN (Nat.gcd ca_ b_))), (0, .ref ch_), (1, .long (lN a_)), (3, .long (lN b_))]) hx hb dX1_advance_18 hl (by decide) rfl (fun ls hl => ?_)
  refine lv_aload_n hx hb dX1_advance_20 rfl (lv_at hl 2 rfl) ?_
  refine va_get (D := D) (ci := 1) (v := .long (lN ca_)) (C := RX1) (T := TX1) (N := 4) hx hb hts nX1_advance_1 hown hK hP 0 rfl rfl 0 (by decide) (zh (w := .fieldLink RX1 9 "FretRoots$Chain" "above" "J") hts 1 rfl) (fun _ h9 => h9) rfl dX1_advance_21 ?_
  refine lv_lload hx hb dX1_advance_24 (lv_at hl 1 rfl) ?_
  refine zc_l (wc := []) (wr := [(ch_, .inr (1, [.long (lN ca_), .long (lN cb_), .long oc_, .long st_]))]) hP hD hS hA [] [0] rfl rfl (by decide) (by decide) (va_runSN (As := [.long (lN ca_), .long (lN (Nat.gcd ca_ b_))]) (rest := []) ⟨hx, hb, hml, hown, hts⟩ (ct_X3_quotient l D cI cJ cD ca_ (Nat.gcd ca_ b_) H.size (by omega) (by omega)) ⟨va_cnB 2 hts ggX1_advance_X3_quotient rfl rfl rfl hE.2 (zh (w := .initialized RX3) hts 5 rfl) (by decide +kernel) ⟨Nat.le_of_ble_eq_true rfl, Nat.le_of_ble_eq_true rfl⟩, (zh (w := .static yX3_quotient) hts 7 rfl), trivial⟩ (zPreS (wc := []) hK (hP.sub [] rfl) (hD.sub [] (by decide) rfl) zTb (fun _ _ _ => trivial)) rfl rfl hl.1 rfl (lv_room (Nat.le_of_ble_eq_true rfl)) dX1_advance_26 ⟨Nat.le_of_ble_eq_true rfl, Nat.le_of_ble_eq_true rfl⟩) (fun r_3 u9_ H locs hw hP hD hS => ?_)
  have hP : va_P D cl5 [(ch_, .inr (1, [.long (lN ca_), .long (lN cb_), .long oc_, .long st_]))] H := hP.sub [0] rfl
  have hD : va_D A [(ch_, .inr (1, [.long (lN ca_), .long (lN cb_), .long oc_, .long st_]))] := hD.sub [0] (by decide) rfl
  have hw : r_3 = lN (ca_ / (Nat.gcd ca_ b_)) := hw
  subst hw
  refine zl_ (y := lN u) (by rw [hu]) ?_
  refine lv_lstore (lv' := [(9, .long (lN u)), (7, .long (lN (Nat.gcd a_ cb_))), (5, .long (lN (Nat.gcd ca_ b_))), (0, .ref ch_), (1, .long (lN a_)), (3, .long (lN b_))]) hx hb dX1_advance_29 hl (by decide) rfl (fun ls hl => ?_)
  refine lv_lload_n hx hb dX1_advance_31 rfl (lv_at hl 4 rfl) ?_
  refine lv_lload hx hb dX1_advance_32 (lv_at hl 1 rfl) ?_
  refine zc_l (wc := []) (wr := [(ch_, .inr (1, [.long (lN ca_), .long (lN cb_), .long oc_, .long st_]))]) hP hD hS hA [] [0] rfl rfl (by decide) (by decide) (va_runSN (As := [.long (lN a_), .long (lN (Nat.gcd a_ cb_))]) (rest := []) ⟨hx, hb, hml, hown, hts⟩ (ct_X3_quotient l D cI cJ cD a_ (Nat.gcd a_ cb_) H.size (by omega) (by omega)) ⟨va_cnB 2 hts ggX1_advance_X3_quotient rfl rfl rfl hE.2 (zh (w := .initialized RX3) hts 5 rfl) (by decide +kernel) ⟨Nat.le_of_ble_eq_true rfl, Nat.le_of_ble_eq_true rfl⟩, (zh (w := .static yX3_quotient) hts 7 rfl), trivial⟩ (zPreS (wc := []) hK (hP.sub [] rfl) (hD.sub [] (by decide) rfl) zTb (fun _ _ _ => trivial)) rfl rfl hl.1 rfl (lv_room (Nat.le_of_ble_eq_true rfl)) dX1_advance_34 ⟨Nat.le_of_ble_eq_true rfl, Nat.le_of_ble_eq_true rfl⟩) (fun r_4 u9_ H locs hw hP hD hS => ?_)
  have hP : va_P D cl5 [(ch_, .inr (1, [.long (lN ca_), .long (lN cb_), .long oc_, .long st_]))] H := hP.sub [0] rfl
  have hD : va_D A [(ch_, .inr (1, [.long (lN ca_), .long (lN cb_), .long oc_, .long st_]))] := hD.sub [0] (by decide) rfl
  have hw : r_4 = lN (a_ / (Nat.gcd a_ cb_)) := hw
  subst hw
  refine zl_ (y := lN v) (by rw [hv]) ?_
  refine lv_lstore (lv' := [(11, .long (lN v)), (9, .long (lN u)), (7, .long (lN (Nat.gcd a_ cb_))), (5, .long (lN (Nat.gcd ca_ b_))), (0, .ref ch_), (1, .long (lN a_)), (3, .long (lN b_))]) hx hb dX1_advance_37 hl (by decide) rfl (fun ls hl => ?_)
  refine lv_aload_n hx hb dX1_advance_39 rfl (lv_at hl 4 rfl) ?_
  refine va_get (D := D) (ci := 1) (v := .long (lN cb_)) (C := RX1) (T := TX1) (N := 4) hx hb hts nX1_advance_1 hown hK hP 0 rfl rfl 1 (by decide) (zh (w := .fieldLink RX1 15 "FretRoots$Chain" "below" "J") hts 2 rfl) (fun _ h9 => h9) rfl dX1_advance_40 ?_
  refine lv_lload hx hb dX1_advance_43 (lv_at hl 2 rfl) ?_
  refine zc_l (wc := []) (wr := [(ch_, .inr (1, [.long (lN ca_), .long (lN cb_), .long oc_, .long st_]))]) hP hD hS hA [] [0] rfl rfl (by decide) (by decide) (va_runSN (As := [.long (lN cb_), .long (lN (Nat.gcd a_ cb_))]) (rest := []) ⟨hx, hb, hml, hown, hts⟩ (ct_X3_quotient l D cI cJ cD cb_ (Nat.gcd a_ cb_) H.size (by omega) (by omega)) ⟨va_cnB 2 hts ggX1_advance_X3_quotient rfl rfl rfl hE.2 (zh (w := .initialized RX3) hts 5 rfl) (by decide +kernel) ⟨Nat.le_of_ble_eq_true rfl, Nat.le_of_ble_eq_true rfl⟩, (zh (w := .static yX3_quotient) hts 7 rfl), trivial⟩ (zPreS (wc := []) hK (hP.sub [] rfl) (hD.sub [] (by decide) rfl) zTb (fun _ _ _ => trivial)) rfl rfl hl.1 rfl (lv_room (Nat.le_of_ble_eq_true rfl)) dX1_advance_45 ⟨Nat.le_of_ble_eq_true rfl, Nat.le_of_ble_eq_true rfl⟩) (fun r_5 u9_ H locs hw hP hD hS => ?_)
  have hP : va_P D cl5 [(ch_, .inr (1, [.long (lN ca_), .long (lN cb_), .long oc_, .long st_]))] H := hP.sub [0] rfl
  have hD : va_D A [(ch_, .inr (1, [.long (lN ca_), .long (lN cb_), .long oc_, .long st_]))] := hD.sub [0] (by decide) rfl
  have hw : r_5 = lN (cb_ / (Nat.gcd a_ cb_)) := hw
  subst hw
  refine zl_ (y := lN w) (by rw [hw9]) ?_
  refine lv_lstore (lv' := [(13, .long (lN w)), (11, .long (lN v)), (9, .long (lN u)), (7, .long (lN (Nat.gcd a_ cb_))), (5, .long (lN (Nat.gcd ca_ b_))), (0, .ref ch_), (1, .long (lN a_)), (3, .long (lN b_))]) hx hb dX1_advance_48 hl (by decide) rfl (fun ls hl => ?_)
  refine lv_lload_n hx hb dX1_advance_50 rfl (lv_at hl 7 rfl) ?_
  refine lv_lload hx hb dX1_advance_51 (lv_at hl 4 rfl) ?_
  refine zc_l (wc := []) (wr := [(ch_, .inr (1, [.long (lN ca_), .long (lN cb_), .long oc_, .long st_]))]) hP hD hS hA [] [0] rfl rfl (by decide) (by decide) (va_runSN (As := [.long (lN b_), .long (lN (Nat.gcd ca_ b_))]) (rest := []) ⟨hx, hb, hml, hown, hts⟩ (ct_X3_quotient l D cI cJ cD b_ (Nat.gcd ca_ b_) H.size (by omega) (by omega)) ⟨va_cnB 2 hts ggX1_advance_X3_quotient rfl rfl rfl hE.2 (zh (w := .initialized RX3) hts 5 rfl) (by decide +kernel) ⟨Nat.le_of_ble_eq_true rfl, Nat.le_of_ble_eq_true rfl⟩, (zh (w := .static yX3_quotient) hts 7 rfl), trivial⟩ (zPreS (wc := []) hK (hP.sub [] rfl) (hD.sub [] (by decide) rfl) zTb (fun _ _ _ => trivial)) rfl rfl hl.1 rfl (lv_room (Nat.le_of_ble_eq_true rfl)) dX1_advance_53 ⟨Nat.le_of_ble_eq_true rfl, Nat.le_of_ble_eq_true rfl⟩) (fun r_6 u9_ H locs hw hP hD hS => ?_)
  have hP : va_P D cl5 [(ch_, .inr (1, [.long (lN ca_), .long (lN cb_), .long oc_, .long st_]))] H := hP.sub [0] rfl
  have hD : va_D A [(ch_, .inr (1, [.long (lN ca_), .long (lN cb_), .long oc_, .long st_]))] := hD.sub [0] (by decide) rfl
  have hw : r_6 = lN (b_ / (Nat.gcd ca_ b_)) := hw
  subst hw
  refine zl_ (y := lN z) (by rw [hz]) ?_
  refine lv_lstore (lv' := [(15, .long (lN z)), (13, .long (lN w)), (11, .long (lN v)), (9, .long (lN u)), (7, .long (lN (Nat.gcd a_ cb_))), (5, .long (lN (Nat.gcd ca_ b_))), (0, .ref ch_), (1, .long (lN a_)), (3, .long (lN b_))]) hx hb dX1_advance_56 hl (by decide) rfl (fun ls hl => ?_)
  refine lv_lload hx hb dX1_advance_58 (lv_at hl 3 rfl) ?_
  refine zc_i (wc := []) (wr := [(ch_, .inr (1, [.long (lN ca_), .long (lN cb_), .long oc_, .long st_]))]) hP hD hS hA [] [0] rfl rfl (by decide) (by decide) (va_runS (As := [.long (lN u)]) (rest := []) ⟨hx, hb, hml, hown, hts⟩ (ct_X1_twosIn l D cI cJ cD u H.size (by omega) (by omega)) (va_cwS 1 hts gX1_advance_X1_twosIn rfl rfl rfl (by decide +kernel) ⟨Nat.le_of_ble_eq_true rfl, Nat.le_of_ble_eq_true rfl⟩) (zPreS (wc := []) hK (hP.sub [] rfl) (hD.sub [] (by decide) rfl) zTb (fun _ _ _ => trivial)) rfl rfl hl.1 rfl (lv_room (Nat.le_of_ble_eq_true rfl)) dX1_advance_60 ⟨Nat.le_of_ble_eq_true rfl, Nat.le_of_ble_eq_true rfl⟩) (fun r_7 u9_ H locs hw hP hD hS => ?_)
  obtain ⟨t1, rfl⟩ : ∃ z, z = u9_ := ⟨_, rfl⟩
  have hP : va_P D cl5 [(ch_, .inr (1, [.long (lN ca_), .long (lN cb_), .long oc_, .long st_]))] H := hP.sub [0] rfl
  have hD : va_D A [(ch_, .inr (1, [.long (lN ca_), .long (lN cb_), .long oc_, .long st_]))] := hD.sub [0] (by decide) rfl
  have hw : r_7 = nI t1 ∧ u % 2 ^ t1 = 0 ∧ u / 2 ^ t1 % 2 = 1 ∧ t1 < 63 := hw
  obtain ⟨rfl, hd_60, ho_60, hb_60⟩ := hw
  refine lv_lload hx hb dX1_advance_63 (lv_at hl 2 rfl) ?_
  refine zc_i (wc := []) (wr := [(ch_, .inr (1, [.long (lN ca_), .long (lN cb_), .long oc_, .long st_]))]) hP hD hS hA [] [0] rfl rfl (by decide) (by decide) (va_runS (As := [.long (lN v)]) (rest := [.int (nI t1)]) ⟨hx, hb, hml, hown, hts⟩ (ct_X1_twosIn l D cI cJ cD v H.size (by omega) (by omega)) (va_cwS 1 hts gX1_advance_X1_twosIn rfl rfl rfl (by decide +kernel) ⟨Nat.le_of_ble_eq_true rfl, Nat.le_of_ble_eq_true rfl⟩) (zPreS (wc := []) hK (hP.sub [] rfl) (hD.sub [] (by decide) rfl) zTb (fun _ _ _ => trivial)) rfl rfl hl.1 rfl (lv_room (Nat.le_of_ble_eq_true rfl)) dX1_advance_65 ⟨Nat.le_of_ble_eq_true rfl, Nat.le_of_ble_eq_true rfl⟩) (fun r_8 u9_ H locs hw hP hD hS => ?_)
  obtain ⟨t2, rfl⟩ : ∃ z, z = u9_ := ⟨_, rfl⟩
  have hP : va_P D cl5 [(ch_, .inr (1, [.long (lN ca_), .long (lN cb_), .long oc_, .long st_]))] H := hP.sub [0] rfl
  have hD : va_D A [(ch_, .inr (1, [.long (lN ca_), .long (lN cb_), .long oc_, .long st_]))] := hD.sub [0] (by decide) rfl
  have hw : r_8 = nI t2 ∧ v % 2 ^ t2 = 0 ∧ v / 2 ^ t2 % 2 = 1 ∧ t2 < 63 := hw
  obtain ⟨rfl, hd_65, ho_65, hb_65⟩ := hw
  refine lv_iadd hx hb dX1_advance_68 ?_
  refine zi_ (y := nI (t1 + t2)) (nI_add t1 t2) ?_
  refine lv_lload hx hb dX1_advance_69 (lv_at hl 1 rfl) ?_
  refine zc_i (wc := []) (wr := [(ch_, .inr (1, [.long (lN ca_), .long (lN cb_), .long oc_, .long st_]))]) hP hD hS hA [] [0] rfl rfl (by decide) (by decide) (va_runS (As := [.long (lN w)]) (rest := [.int (nI (t1 + t2))]) ⟨hx, hb, hml, hown, hts⟩ (ct_X1_twosIn l D cI cJ cD w H.size (by omega) (by omega)) (va_cwS 1 hts gX1_advance_X1_twosIn rfl rfl rfl (by decide +kernel) ⟨Nat.le_of_ble_eq_true rfl, Nat.le_of_ble_eq_true rfl⟩) (zPreS (wc := []) hK (hP.sub [] rfl) (hD.sub [] (by decide) rfl) zTb (fun _ _ _ => trivial)) rfl rfl hl.1 rfl (lv_room (Nat.le_of_ble_eq_true rfl)) dX1_advance_71 ⟨Nat.le_of_ble_eq_true rfl, Nat.le_of_ble_eq_true rfl⟩) (fun r_9 u9_ H locs hw hP hD hS => ?_)
  obtain ⟨t3, rfl⟩ : ∃ z, z = u9_ := ⟨_, rfl⟩
  have hP : va_P D cl5 [(ch_, .inr (1, [.long (lN ca_), .long (lN cb_), .long oc_, .long st_]))] H := hP.sub [0] rfl
  have hD : va_D A [(ch_, .inr (1, [.long (lN ca_), .long (lN cb_), .long oc_, .long st_]))] := hD.sub [0] (by decide) rfl
  have hw : r_9 = nI t3 ∧ w % 2 ^ t3 = 0 ∧ w / 2 ^ t3 % 2 = 1 ∧ t3 < 63 := hw
  obtain ⟨rfl, hd_71, ho_71, hb_71⟩ := hw
  refine lv_isub hx hb dX1_advance_74 ?_
  refine lv_lload hx hb dX1_advance_75 (lv_at hl 0 rfl) ?_
  refine zc_i (wc := []) (wr := [(ch_, .inr (1, [.long (lN ca_), .long (lN cb_), .long oc_, .long st_]))]) hP hD hS hA [] [0] rfl rfl (by decide) (by decide) (va_runS (As := [.long (lN z)]) (rest := [.int ((nI (t1 + t2)) - (nI t3))]) ⟨hx, hb, hml, hown, hts⟩ (ct_X1_twosIn l D cI cJ cD z H.size (by omega) (by omega)) (va_cwS 1 hts gX1_advance_X1_twosIn rfl rfl rfl (by decide +kernel) ⟨Nat.le_of_ble_eq_true rfl, Nat.le_of_ble_eq_true rfl⟩) (zPreS (wc := []) hK (hP.sub [] rfl) (hD.sub [] (by decide) rfl) zTb (fun _ _ _ => trivial)) rfl rfl hl.1 rfl (lv_room (Nat.le_of_ble_eq_true rfl)) dX1_advance_77 ⟨Nat.le_of_ble_eq_true rfl, Nat.le_of_ble_eq_true rfl⟩) (fun r_10 u9_ H locs hw hP hD hS => ?_)
  obtain ⟨t4, rfl⟩ : ∃ z, z = u9_ := ⟨_, rfl⟩
  have hP : va_P D cl5 [(ch_, .inr (1, [.long (lN ca_), .long (lN cb_), .long oc_, .long st_]))] H := hP.sub [0] rfl
  have hD : va_D A [(ch_, .inr (1, [.long (lN ca_), .long (lN cb_), .long oc_, .long st_]))] := hD.sub [0] (by decide) rfl
  have hw : r_10 = nI t4 ∧ z % 2 ^ t4 = 0 ∧ z / 2 ^ t4 % 2 = 1 ∧ t4 < 63 := hw
  obtain ⟨rfl, hd_77, ho_77, hb_77⟩ := hw
  refine lv_isub hx hb dX1_advance_80 ?_
  refine lv_istore (lv' := [(17, .int (((nI (t1 + t2)) - (nI t3)) - (nI t4))), (15, .long (lN z)), (13, .long (lN w)), (11, .long (lN v)), (9, .long (lN u)), (7, .long (lN (Nat.gcd a_ cb_))), (5, .long (lN (Nat.gcd ca_ b_))), (0, .ref ch_), (1, .long (lN a_)), (3, .long (lN b_))]) hx hb dX1_advance_81 hl (by decide) rfl (fun ls hl => ?_)
  refine lv_lload hx hb dX1_advance_83 (lv_at hl 4 rfl) ?_
  refine zc_l (wc := []) (wr := [(ch_, .inr (1, [.long (lN ca_), .long (lN cb_), .long oc_, .long st_]))]) hP hD hS hA [] [0] rfl rfl (by decide) (by decide) (va_runS (As := [.long (lN u)]) (rest := []) ⟨hx, hb, hml, hown, hts⟩ (ct_X1_oddPart l D cI cJ cD u H.size (by omega) (by omega)) (va_cwS 1 hts gX1_advance_X1_oddPart rfl rfl rfl (by decide +kernel) ⟨Nat.le_of_ble_eq_true rfl, Nat.le_of_ble_eq_true rfl⟩) (zPreS (wc := []) hK (hP.sub [] rfl) (hD.sub [] (by decide) rfl) zTb (fun _ _ _ => trivial)) rfl rfl hl.1 rfl (lv_room (Nat.le_of_ble_eq_true rfl)) dX1_advance_85 ⟨Nat.le_of_ble_eq_true rfl, Nat.le_of_ble_eq_true rfl⟩) (fun r_11 u9_ H locs hw hP hD hS => ?_)
  obtain ⟨s1, rfl⟩ : ∃ z, z = u9_ := ⟨_, rfl⟩
  have hP : va_P D cl5 [(ch_, .inr (1, [.long (lN ca_), .long (lN cb_), .long oc_, .long st_]))] H := hP.sub [0] rfl
  have hD : va_D A [(ch_, .inr (1, [.long (lN ca_), .long (lN cb_), .long oc_, .long st_]))] := hD.sub [0] (by decide) rfl
  have hw : r_11 = lN (u / 2 ^ s1) ∧ u % 2 ^ s1 = 0 ∧ u / 2 ^ s1 % 2 = 1 ∧ s1 < 63 := hw
  obtain ⟨rfl, hd_85, ho_85, hb_85⟩ := hw
  have du := Nat.div_le_self u (2 ^ s1)
  have du1 := pos_odd ho_85
  refine lv_lload hx hb dX1_advance_88 (lv_at hl 3 rfl) ?_
  refine zc_l (wc := []) (wr := [(ch_, .inr (1, [.long (lN ca_), .long (lN cb_), .long oc_, .long st_]))]) hP hD hS hA [] [0] rfl rfl (by decide) (by decide) (va_runS (As := [.long (lN v)]) (rest := [.long (lN (u / 2 ^ s1))]) ⟨hx, hb, hml, hown, hts⟩ (ct_X1_oddPart l D cI cJ cD v H.size (by omega) (by omega)) (va_cwS 1 hts gX1_advance_X1_oddPart rfl rfl rfl (by decide +kernel) ⟨Nat.le_of_ble_eq_true rfl, Nat.le_of_ble_eq_true rfl⟩) (zPreS (wc := []) hK (hP.sub [] rfl) (hD.sub [] (by decide) rfl) zTb (fun _ _ _ => trivial)) rfl rfl hl.1 rfl (lv_room (Nat.le_of_ble_eq_true rfl)) dX1_advance_90 ⟨Nat.le_of_ble_eq_true rfl, Nat.le_of_ble_eq_true rfl⟩) (fun r_12 u9_ H locs hw hP hD hS => ?_)
  obtain ⟨s2, rfl⟩ : ∃ z, z = u9_ := ⟨_, rfl⟩
  have hP : va_P D cl5 [(ch_, .inr (1, [.long (lN ca_), .long (lN cb_), .long oc_, .long st_]))] H := hP.sub [0] rfl
  have hD : va_D A [(ch_, .inr (1, [.long (lN ca_), .long (lN cb_), .long oc_, .long st_]))] := hD.sub [0] (by decide) rfl
  have hw : r_12 = lN (v / 2 ^ s2) ∧ v % 2 ^ s2 = 0 ∧ v / 2 ^ s2 % 2 = 1 ∧ s2 < 63 := hw
  obtain ⟨rfl, hd_90, ho_90, hb_90⟩ := hw
  have dv := Nat.div_le_self v (2 ^ s2)
  have dv1 := pos_odd ho_90
  refine zc_l (wc := []) (wr := [(ch_, .inr (1, [.long (lN ca_), .long (lN cb_), .long oc_, .long st_]))]) hP hD hS hA [] [0] rfl rfl (by decide) (by decide) (va_runS (As := [.long (lN (u / 2 ^ s1)), .long (lN (v / 2 ^ s2))]) (rest := []) ⟨hx, hb, hml, hown, hts⟩ (ct_X1_productOrNone l D cI cJ cD (u / 2 ^ s1) (v / 2 ^ s2) H.size (by omega) (by omega) (by omega) (by omega)) (va_cwS 2 hts gX1_advance_X1_productOrNone rfl rfl rfl (by decide +kernel) ⟨Nat.le_of_ble_eq_true rfl, Nat.le_of_ble_eq_true rfl⟩) (zPreS (wc := []) hK (hP.sub [] rfl) (hD.sub [] (by decide) rfl) nChain_calling (fun U _ hW => nChain_warm hW hE)) rfl rfl hl.1 rfl (lv_room (Nat.le_of_ble_eq_true rfl)) dX1_advance_93 ⟨Nat.le_of_ble_eq_true rfl, Nat.le_of_ble_eq_true rfl⟩) (fun r_13 u9_ H locs hw hP hD hS => ?_)
  have hP : va_P D cl5 [(ch_, .inr (1, [.long (lN ca_), .long (lN cb_), .long oc_, .long st_]))] H := hP.sub [0] rfl
  have hD : va_D A [(ch_, .inr (1, [.long (lN ca_), .long (lN cb_), .long oc_, .long st_]))] := hD.sub [0] (by decide) rfl
  have hw : r_13 = poN (u / 2 ^ s1) (v / 2 ^ s2) := hw
  subst hw
  refine lv_lstore (lv' := [(18, .long (poN (u / 2 ^ s1) (v / 2 ^ s2))), (17, .int (((nI (t1 + t2)) - (nI t3)) - (nI t4))), (15, .long (lN z)), (13, .long (lN w)), (11, .long (lN v)), (9, .long (lN u)), (7, .long (lN (Nat.gcd a_ cb_))), (5, .long (lN (Nat.gcd ca_ b_))), (0, .ref ch_), (1, .long (lN a_)), (3, .long (lN b_))]) hx hb dX1_advance_96 hl (by decide) rfl (fun ls hl => ?_)
  refine lv_lload hx hb dX1_advance_98 (lv_at hl 3 rfl) ?_
  refine zc_l (wc := []) (wr := [(ch_, .inr (1, [.long (lN ca_), .long (lN cb_), .long oc_, .long st_]))]) hP hD hS hA [] [0] rfl rfl (by decide) (by decide) (va_runS (As := [.long (lN w)]) (rest := []) ⟨hx, hb, hml, hown, hts⟩ (ct_X1_oddPart l D cI cJ cD w H.size (by omega) (by omega)) (va_cwS 1 hts gX1_advance_X1_oddPart rfl rfl rfl (by decide +kernel) ⟨Nat.le_of_ble_eq_true rfl, Nat.le_of_ble_eq_true rfl⟩) (zPreS (wc := []) hK (hP.sub [] rfl) (hD.sub [] (by decide) rfl) zTb (fun _ _ _ => trivial)) rfl rfl hl.1 rfl (lv_room (Nat.le_of_ble_eq_true rfl)) dX1_advance_100 ⟨Nat.le_of_ble_eq_true rfl, Nat.le_of_ble_eq_true rfl⟩) (fun r_14 u9_ H locs hw hP hD hS => ?_)
  obtain ⟨s3, rfl⟩ : ∃ z, z = u9_ := ⟨_, rfl⟩
  have hP : va_P D cl5 [(ch_, .inr (1, [.long (lN ca_), .long (lN cb_), .long oc_, .long st_]))] H := hP.sub [0] rfl
  have hD : va_D A [(ch_, .inr (1, [.long (lN ca_), .long (lN cb_), .long oc_, .long st_]))] := hD.sub [0] (by decide) rfl
  have hw : r_14 = lN (w / 2 ^ s3) ∧ w % 2 ^ s3 = 0 ∧ w / 2 ^ s3 % 2 = 1 ∧ s3 < 63 := hw
  obtain ⟨rfl, hd_100, ho_100, hb_100⟩ := hw
  have dw := Nat.div_le_self w (2 ^ s3)
  have dw1 := pos_odd ho_100
  refine lv_lload hx hb dX1_advance_103 (lv_at hl 2 rfl) ?_
  refine zc_l (wc := []) (wr := [(ch_, .inr (1, [.long (lN ca_), .long (lN cb_), .long oc_, .long st_]))]) hP hD hS hA [] [0] rfl rfl (by decide) (by decide) (va_runS (As := [.long (lN z)]) (rest := [.long (lN (w / 2 ^ s3))]) ⟨hx, hb, hml, hown, hts⟩ (ct_X1_oddPart l D cI cJ cD z H.size (by omega) (by omega)) (va_cwS 1 hts gX1_advance_X1_oddPart rfl rfl rfl (by decide +kernel) ⟨Nat.le_of_ble_eq_true rfl, Nat.le_of_ble_eq_true rfl⟩) (zPreS (wc := []) hK (hP.sub [] rfl) (hD.sub [] (by decide) rfl) zTb (fun _ _ _ => trivial)) rfl rfl hl.1 rfl (lv_room (Nat.le_of_ble_eq_true rfl)) dX1_advance_105 ⟨Nat.le_of_ble_eq_true rfl, Nat.le_of_ble_eq_true rfl⟩) (fun r_15 u9_ H locs hw hP hD hS => ?_)
  obtain ⟨s4, rfl⟩ : ∃ z, z = u9_ := ⟨_, rfl⟩
  have hP : va_P D cl5 [(ch_, .inr (1, [.long (lN ca_), .long (lN cb_), .long oc_, .long st_]))] H := hP.sub [0] rfl
  have hD : va_D A [(ch_, .inr (1, [.long (lN ca_), .long (lN cb_), .long oc_, .long st_]))] := hD.sub [0] (by decide) rfl
  have hw : r_15 = lN (z / 2 ^ s4) ∧ z % 2 ^ s4 = 0 ∧ z / 2 ^ s4 % 2 = 1 ∧ s4 < 63 := hw
  obtain ⟨rfl, hd_105, ho_105, hb_105⟩ := hw
  have dz := Nat.div_le_self z (2 ^ s4)
  have dz1 := pos_odd ho_105
  refine zc_l (wc := []) (wr := [(ch_, .inr (1, [.long (lN ca_), .long (lN cb_), .long oc_, .long st_]))]) hP hD hS hA [] [0] rfl rfl (by decide) (by decide) (va_runS (As := [.long (lN (w / 2 ^ s3)), .long (lN (z / 2 ^ s4))]) (rest := []) ⟨hx, hb, hml, hown, hts⟩ (ct_X1_productOrNone l D cI cJ cD (w / 2 ^ s3) (z / 2 ^ s4) H.size (by omega) (by omega) (by omega) (by omega)) (va_cwS 2 hts gX1_advance_X1_productOrNone rfl rfl rfl (by decide +kernel) ⟨Nat.le_of_ble_eq_true rfl, Nat.le_of_ble_eq_true rfl⟩) (zPreS (wc := []) hK (hP.sub [] rfl) (hD.sub [] (by decide) rfl) nChain_calling (fun U _ hW => nChain_warm hW hE)) rfl rfl hl.1 rfl (lv_room (Nat.le_of_ble_eq_true rfl)) dX1_advance_108 ⟨Nat.le_of_ble_eq_true rfl, Nat.le_of_ble_eq_true rfl⟩) (fun r_16 u9_ H locs hw hP hD hS => ?_)
  have hP : va_P D cl5 [(ch_, .inr (1, [.long (lN ca_), .long (lN cb_), .long oc_, .long st_]))] H := hP.sub [0] rfl
  have hD : va_D A [(ch_, .inr (1, [.long (lN ca_), .long (lN cb_), .long oc_, .long st_]))] := hD.sub [0] (by decide) rfl
  have hw : r_16 = poN (w / 2 ^ s3) (z / 2 ^ s4) := hw
  subst hw
  have hod := od_of hsb hd_85 ho_85 hd_90 ho_90 hd_100 ho_100 hd_105 ho_105
  have e1 := tz_one hd_60 ho_60 hd_85 ho_85
  have e2 := tz_one hd_65 ho_65 hd_90 ho_90
  have e3 := tz_one hd_71 ho_71 hd_100 ho_100
  have e4 := tz_one hd_77 ho_77 hd_105 ho_105
  refine lv_lstore (lv' := [(20, .long (poN (w / 2 ^ s3) (z / 2 ^ s4))), (18, .long (poN (u / 2 ^ s1) (v / 2 ^ s2))), (17, .int (((nI (t1 + t2)) - (nI t3)) - (nI t4))), (15, .long (lN z)), (13, .long (lN w)), (11, .long (lN v)), (9, .long (lN u)), (7, .long (lN (Nat.gcd a_ cb_))), (5, .long (lN (Nat.gcd ca_ b_))), (0, .ref ch_), (1, .long (lN a_)), (3, .long (lN b_))]) hx hb dX1_advance_111 hl (by decide) rfl (fun ls hl => ?_)
  refine lv_lload hx hb dX1_advance_113 (lv_at hl 1 rfl) ?_
  refine lv_ldc2 (v := -1) hx hb hown (zh (w := .constantLong RX1 42 (-1)) hts 3 rfl) dX1_advance_115 ?_
  refine zl_eq (tgt := 148) hx hb dX1_advance_118 dX1_advance_119 (by decide) (fun c_119 => ?_) (fun c_119 => ?_)
  · skip
    have hno := po_no c_119
    refine lv_iconst (v := nI 0) hx hb dX1_advance_148 (by decide) ?_
    subst hQ
    exact ze_z hx hb hr hlocks (ca_, cb_, oc_, st_) (by first | exact Or.inl rfl | exact Or.inr rfl | omega) (⟨Or.inl rfl, od_no hod (by first | exact fun q => hno q.1 | exact fun q => hno q.2)⟩) hP hK hD hS dX1_advance_149
  · skip
    obtain ⟨k1, k2⟩ := po_ok c_119
    refine lv_lload hx hb dX1_advance_122 (lv_at hl 0 rfl) ?_
    refine lv_ldc2 (v := -1) hx hb hown (zh (w := .constantLong RX1 42 (-1)) hts 3 rfl) dX1_advance_124 ?_
    refine zl_eq (tgt := 148) hx hb dX1_advance_127 dX1_advance_128 (by decide) (fun c_128 => ?_) (fun c_128 => ?_)
    · skip
      have hno := po_no c_128
      refine lv_iconst (v := nI 0) hx hb dX1_advance_148 (by decide) ?_
      subst hQ
      exact ze_z hx hb hr hlocks (ca_, cb_, oc_, st_) (by first | exact Or.inl rfl | exact Or.inr rfl | omega) (⟨Or.inl rfl, od_no hod (by first | exact fun q => hno q.1 | exact fun q => hno q.2)⟩) hP hK hD hS dX1_advance_149
    · skip
      obtain ⟨k3, k4⟩ := po_ok c_128
      refine lv_aload_n hx hb dX1_advance_131 rfl (lv_at hl 9 rfl) ?_
      refine lv_lload hx hb dX1_advance_132 (lv_at hl 1 rfl) ?_
      refine zl_ (y := lN (u / 2 ^ s1 * (v / 2 ^ s2))) (k2) ?_
      refine lv_lload hx hb dX1_advance_134 (lv_at hl 0 rfl) ?_
      refine zl_ (y := lN (w / 2 ^ s3 * (z / 2 ^ s4))) (k4) ?_
      refine lv_iload hx hb dX1_advance_136 (lv_at hl 2 rfl) ?_
      refine zc_i (wc := [(ch_, .inr (1, [.long (lN ca_), .long (lN cb_), .long oc_, .long st_]))]) (wr := []) hP hD hS hA [0] [] rfl rfl (by decide) (by decide) (va_runV (As := [.long (lN (u / 2 ^ s1 * (v / 2 ^ s2))), .long (lN (w / 2 ^ s3 * (z / 2 ^ s4))), .int (((nI (t1 + t2)) - (nI t3)) - (nI t4))]) (rest := []) ⟨hx, hb, hml, hown, hts⟩ (ct_X1_settle l D cI cJ cD ch_ ca_ cb_ (u / 2 ^ s1 * (v / 2 ^ s2)) (w / 2 ^ s3 * (z / 2 ^ s4)) (s1 + s2) (s3 + s4) (ca_ * a_) (cb_ * b_) oc_ st_ (((nI (t1 + t2)) - (nI t3)) - (nI t4)) H.size hod k1 k3 (by omega) (by omega) (by rw [e1, e2, e3, e4]; exact tw_sum _ _ _ _)) (cwV 3 hts gX1_advance_X1_settle rfl rfl rfl (by decide +kernel) ⟨Nat.le_of_ble_eq_true rfl, Nat.le_of_ble_eq_true rfl⟩) (zPreV (wc := [(ch_, .inr (1, [.long (lN ca_), .long (lN cb_), .long oc_, .long st_]))]) hK hP hD 1 0 rfl rfl zTb (fun _ _ _ => trivial)) rfl rfl hl.1 rfl (lv_room (Nat.le_of_ble_eq_true rfl)) dX1_advance_138 ⟨Nat.le_of_ble_eq_true rfl, Nat.le_of_ble_eq_true rfl⟩) (fun r_17 u9_ H locs hw hP hD hS => ?_)
      obtain ⟨ca2_18, cb2_19, oc2_20, st2_21⟩ := u9_
      have hP : va_P D cl5 [(ch_, .inr (1, [.long (lN ca2_18), .long (lN cb2_19), .long oc2_20, .long st2_21]))] H := hP.sub [0] rfl
      have hD : va_D A [(ch_, .inr (1, [.long (lN ca2_18), .long (lN cb2_19), .long oc2_20, .long st2_21]))] := hD.sub [0] (by decide) rfl
      have hw : (r_17 = 0 ∨ r_17 = 1) ∧ stE (ca_ * a_) (cb_ * b_) ca_ cb_ oc_ st_ r_17 ca2_18 cb2_19 oc2_20 st2_21 := hw
      obtain ⟨hz_138, hE_138⟩ := hw
      refine lv_if_eq (tgt := 148) hx hb dX1_advance_141 (by decide) (fun c_141 => ?_) (fun c_141 => ?_)
      · skip
        have hr9 := c_141
        refine lv_iconst (v := nI 0) hx hb dX1_advance_148 (by decide) ?_
        subst hQ
        exact ze_z hx hb hr hlocks (ca2_18, cb2_19, oc2_20, st2_21) (by first | exact Or.inl rfl | exact Or.inr rfl | omega) (⟨by first | exact Or.inl rfl | exact Or.inr rfl, by rw [hr9] at hE_138; exact hE_138⟩) hP hK hD hS dX1_advance_149
      · skip
        have hr9 := hz_138.resolve_left c_141
        refine lv_iconst (v := nI 1) hx hb dX1_advance_144 (by decide) ?_
        refine lv_goto (tgt := 149) hx hb dX1_advance_145 (by decide) ?_
        subst hQ
        exact ze_z hx hb hr hlocks (ca2_18, cb2_19, oc2_20, st2_21) (by first | exact Or.inl rfl | exact Or.inr rfl | omega) (⟨by first | exact Or.inl rfl | exact Or.inr rfl, by rw [hr9] at hE_138; exact hE_138⟩) hP hK hD hS dX1_advance_149
