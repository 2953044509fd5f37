abbrev rm_X3_key : Room := { frames := 1, cells := 0, slots := 0, locals := 25 }
set_option maxHeartbeats 4000000 in
set_option maxRecDepth 100000 in
/-- key -/
theorem ct_X3_key (l : Launch) (D : va_G) (cI cJ cD : ClassId) (o_ : Nat) (ro_ : Nat) (ja_ : Nat) (jb_ : Nat) (sr_ : Nat) (br_ : Nat) (tr_ : Nat) (ch_ : Nat) (lf_ : Nat) (ri_ : Nat) (nn_ : Int32) (sh_ : Int32) (sp_ : Int32) (k_ : Nat) (w_ : Nat) (p_ : Nat) (sz : Nat) (hk : k_ ≤ 11) (hw1 : 1 ≤ w_) (hw_ : w_ ≤ 1000000) (hp : p_ < 4) : Met l yX3_key wsX3_key rm_X3_key (zP D (ty3 cI cJ cD) [.ref o_, .int (nI k_), .long (lN w_), .int (nI p_)] sz [(o_, .inr (3, [.int nn_, .ref ro_, .ref ja_, .ref jb_, .ref sr_, .ref br_, .ref tr_, .ref ch_, .ref lf_, .ref ri_, .int sh_, .int sp_]))] (nTh (va_A [(o_, .inr (3, [.int nn_, .ref ro_, .ref ja_, .ref jb_, .ref sr_, .ref br_, .ref tr_, .ref ch_, .ref lf_, .ref ri_, .int sh_, .int sp_]))] sz))) (va_Ql (fun (r : Int64) (u : Unit) => r = lN (keyN k_ w_ p_)) (zB D (ty3 cI cJ cD) (fun (u : Unit) => [(o_, .inr (3, [.int nn_, .ref ro_, .ref ja_, .ref jb_, .ref sr_, .ref br_, .ref tr_, .ref ch_, .ref lf_, .ref ri_, .int sh_, .int sp_]))]) (va_A [(o_, .inr (3, [.int nn_, .ref ro_, .ref ja_, .ref jb_, .ref sr_, .ref br_, .ref tr_, .ref ch_, .ref lf_, .ref ri_, .int sh_, .int sp_]))] sz)) (va_A [(o_, .inr (3, [.int nn_, .ref ro_, .ref ja_, .ref jb_, .ref sr_, .ref br_, .ref tr_, .ref ch_, .ref lf_, .ref ri_, .int sh_, .int sp_]))] sz)) 0 0 (va_A [(o_, .inr (3, [.int nn_, .ref ro_, .ref ja_, .ref jb_, .ref sr_, .ref br_, .ref tr_, .ref ch_, .ref lf_, .ref ri_, .int sh_, .int sp_]))] sz) := by
  refine zMetA (Qf := fun A => va_Ql (fun (r : Int64) (u : Unit) => r = lN (keyN k_ w_ p_)) (zB D (ty3 cI cJ cD) (fun (u : Unit) => [(o_, .inr (3, [.int nn_, .ref ro_, .ref ja_, .ref jb_, .ref sr_, .ref br_, .ref tr_, .ref ch_, .ref lf_, .ref ri_, .int sh_, .int sp_]))]) A) A) (cc := cX3_key) (maxL := 7) (ret := (some .long)) (by decide) rfl (Nat.le_of_ble_eq_true rfl) ?_
  intro p e s m args below meth c A ls Q H hargs hQ hHe hx hb hr hml hown hts hlocks hin hP hK hD hA hS hE hAe hl
  have hl : lv_has ls 7 [(0, .ref o_), (1, .int (nI k_)), (2, .long (lN w_)), (4, .int (nI p_))] := hl
  obtain ⟨tk9, hZ9, hT9⟩ := hE.2.2.2.2
  have hwl := whN_le hk
  have hm1 : w_ * 12 * (whN k_ / 2 + p_) ≤ 12000000 * 100 := Nat.mul_le_mul (by omega) (by omega)
  have hm2 : w_ * (2 * k_ + 2 * p_) ≤ 1000000 * 100 := Nat.mul_le_mul hw_ (by omega)
  refine lv_iload hx hb dX3_key_0 (lv_at hl 3 rfl) ?_
  refine lv_iconst (v := nI 4) hx hb dX3_key_2 (by decide) ?_
  refine zc_v (wc := []) (wr := [(o_, .inr (3, [.int nn_, .ref ro_, .ref ja_, .ref jb_, .ref sr_, .ref br_, .ref tr_, .ref ch_, .ref lf_, .ref ri_, .int sh_, .int sp_]))]) hP hD hS hA [] [0] rfl rfl (by decide) (by decide) (va_runS (As := [.int (nI p_), .int (nI 4)]) (rest := []) ⟨hx, hb, hml, hown, hts⟩ (ct_X3_needPart l D cI cJ cD p_ 4 H.size (by omega) (by decide)) (va_cwS 2 hts gX3_key_X3_needPart rfl rfl rfl (by decide +kernel) ⟨Nat.le_of_ble_eq_true rfl, Nat.le_of_ble_eq_true rfl⟩) (zPreS (wc := []) hK (hP.sub [] rfl) (hD.sub [] (by decide) rfl) zTb (fun _ _ _ => trivial)) rfl rfl hl.1 rfl (lv_room (Nat.le_of_ble_eq_true rfl)) dX3_key_3 ⟨Nat.le_of_ble_eq_true rfl, Nat.le_of_ble_eq_true rfl⟩) (fun u9_ H locs hw hP hD hS => ?_)
  have hP : va_P D cl5 [(o_, .inr (3, [.int nn_, .ref ro_, .ref ja_, .ref jb_, .ref sr_, .ref br_, .ref tr_, .ref ch_, .ref lf_, .ref ri_, .int sh_, .int sp_]))] H := hP.sub [0] rfl
  have hD : va_D A [(o_, .inr (3, [.int nn_, .ref ro_, .ref ja_, .ref jb_, .ref sr_, .ref br_, .ref tr_, .ref ch_, .ref lf_, .ref ri_, .int sh_, .int sp_]))] := hD.sub [0] (by decide) rfl
  refine lv_iload_n hx hb dX3_key_6 rfl (lv_at hl 1 rfl) ?_
  refine lv_if_lt (tgt := 18) hx hb dX3_key_7 (by decide) (fun c_7 => ?_) (fun c_7 => ?_)
  · skip
    have c_7 := zji_lt (a := k_) (b := 0) (by omega) (by omega) c_7
    omega
  · skip
    have c_7 := zji_nlt (a := k_) (b := 0) (by omega) (by omega) c_7
    refine lv_iload_n hx hb dX3_key_10 rfl (lv_at hl 1 rfl) ?_
    refine va_gets (C := RX3) (n := "WHITE_KEYS") (d := "[I") (v := .ref tk9) hx hb hZ9 hS hown (zh (w := .fieldLink RX3 170 "FretRoots" "WHITE_KEYS" "[I") hts 1 rfl) (fun _ h9 => h9) dX3_key_11 ?_
    refine va_tlen hx hb hT9 hS (v := nI 12) rfl dX3_key_14 ?_
    refine lv_icmp_lt (tgt := 28) hx hb dX3_key_15 (by decide) (fun c_15 => ?_) (fun c_15 => ?_)
    · skip
      have c_15 := zji_lt (a := k_) (b := 12) (by omega) (by omega) c_15
      refine lv_lload_n hx hb dX3_key_28 rfl (lv_at hl 2 rfl) ?_
      refine lv_lconst (v := lN 1) hx hb dX3_key_29 rfl ?_
      refine lv_ldc2 (v := 1000000) hx hb hown (zh (w := .constantLong RX3 81 (1000000)) hts 5 rfl) dX3_key_30 ?_
      refine zl_ (y := lN 1000000) rfl ?_
      refine zc_v (wc := []) (wr := [(o_, .inr (3, [.int nn_, .ref ro_, .ref ja_, .ref jb_, .ref sr_, .ref br_, .ref tr_, .ref ch_, .ref lf_, .ref ri_, .int sh_, .int sp_]))]) hP hD hS hA [] [0] rfl rfl (by decide) (by decide) (va_runS (As := [.long (lN w_), .long (lN 1), .long (lN 1000000)]) (rest := []) ⟨hx, hb, hml, hown, hts⟩ (ct_X3_needWithin l D cI cJ cD (lN w_) (lN 1) (lN 1000000) H.size (wi_ok hw1 hw_ (by decide))) (va_cwS 3 hts gX3_key_X3_needWithin rfl rfl rfl (by decide +kernel) ⟨Nat.le_of_ble_eq_true rfl, Nat.le_of_ble_eq_true rfl⟩) (zPreS (wc := []) hK (hP.sub [] rfl) (hD.sub [] (by decide) rfl) zTb (fun _ _ _ => trivial)) rfl rfl hl.1 rfl (lv_room (Nat.le_of_ble_eq_true rfl)) dX3_key_33 ⟨Nat.le_of_ble_eq_true rfl, Nat.le_of_ble_eq_true rfl⟩) (fun u9_ H locs hw hP hD hS => ?_)
      have hP : va_P D cl5 [(o_, .inr (3, [.int nn_, .ref ro_, .ref ja_, .ref jb_, .ref sr_, .ref br_, .ref tr_, .ref ch_, .ref lf_, .ref ri_, .int sh_, .int sp_]))] H := hP.sub [0] rfl
      have hD : va_D A [(o_, .inr (3, [.int nn_, .ref ro_, .ref ja_, .ref jb_, .ref sr_, .ref br_, .ref tr_, .ref ch_, .ref lf_, .ref ri_, .int sh_, .int sp_]))] := hD.sub [0] (by decide) rfl
      refine va_gets (C := RX3) (n := "WHITE_KEYS") (d := "[I") (v := .ref tk9) hx hb hZ9 hS hown (zh (w := .fieldLink RX3 170 "FretRoots" "WHITE_KEYS" "[I") hts 1 rfl) (fun _ h9 => h9) dX3_key_36 ?_
      refine lv_iload_n hx hb dX3_key_39 rfl (lv_at hl 1 rfl) ?_
      refine va_ti hx hb hT9 hS (i := nI k_) (vp_in_nI (by omega) (by decide)) (v := .int (whI k_)) (by show Value.int (whI (nI k_).toNatClampNeg) = _; rw [nI_clamp (by omega)]) dX3_key_40 ?_
      refine lv_istore (lv' := [(5, .int (whI k_)), (0, .ref o_), (1, .int (nI k_)), (2, .long (lN w_)), (4, .int (nI p_))]) hx hb dX3_key_41 hl (by decide) rfl (fun ls hl => ?_)
      refine lv_iload hx hb dX3_key_43 (lv_at hl 0 rfl) ?_
      refine lv_iconst (v := -1) hx hb dX3_key_45 (by decide) ?_
      refine lv_icmp_ne (tgt := 53) hx hb dX3_key_46 (by decide) (fun c_46 => ?_) (fun c_46 => ?_)
      · skip
        refine lv_iconst (v := nI 0) hx hb dX3_key_53 (by decide) ?_
        refine lv_istore (lv' := [(6, .int (nI 0)), (5, .int (whI k_)), (0, .ref o_), (1, .int (nI k_)), (2, .long (lN w_)), (4, .int (nI p_))]) hx hb dX3_key_54 hl (by decide) rfl (fun ls hl => ?_)
        refine lv_iload hx hb dX3_key_56 (lv_at hl 5 rfl) ?_
        rcases (show p_ = 0 ∨ p_ = 1 ∨ p_ = 2 ∨ p_ = 3 by omega) with c_58 | c_58 | c_58 | c_58
        · skip
          refine zi_ (y := nI 0) (congrArg nI c_58) ?_
          refine lv_lookup (x := nI 0) (off := 52) (tgt := 110) hx hb dX3_key_58 (by decide) (by decide) (by decide) ?_
          refine lv_lload_n hx hb dX3_key_110 rfl (lv_at hl 4 rfl) ?_
          refine lv_iload hx hb dX3_key_111 (lv_at hl 0 rfl) ?_
          refine lv_if_eq (tgt := 125) hx hb dX3_key_113 (by decide) (fun c_113 => ?_) (fun c_113 => ?_)
          · skip
            have c_113 := zji_eq (a := 0) (b := 0) (by omega) (by omega) c_113
            refine lv_bipush (v := nI 12) hx hb dX3_key_125 (by decide) ?_
            refine lv_iload hx hb dX3_key_127 (lv_at hl 1 rfl) ?_
            refine zi_ (y := nI (whN k_ / 2)) ((whI_w c_46).2) ?_
            refine lv_iload hx hb dX3_key_129 (lv_at hl 5 rfl) ?_
            obtain ⟨hev, hwi⟩ := whI_w c_46
            refine lv_iadd hx hb dX3_key_131 ?_
            refine zi_ (y := nI (whN k_ / 2 + p_)) (nI_add (whN k_ / 2) p_) ?_
            refine lv_imul hx hb dX3_key_132 ?_
            refine zi_ (y := nI (12 * (whN k_ / 2 + p_))) (pk_mul 12 (whN k_ / 2 + p_)) ?_
            refine lv_i2l (v := lN (12 * (whN k_ / 2 + p_))) hx hb dX3_key_133 (nI_l (by omega)) ?_
            refine lv_lmul hx hb dX3_key_134 ?_
            refine zl_ (y := lN (w_ * (12 * (whN k_ / 2 + p_)))) (lN_mul w_ (12 * (whN k_ / 2 + p_))) ?_
            have hv : whN k_ % 2 = 0 := (whI_w c_46).1
            subst hQ
            exact ze_l hx hb hr hlocks () (by unfold keyN; rw [c_58, if_neg (by decide : ¬ (0 : Nat) = 2), if_neg (by decide : ¬ (0 : Nat) = 3), if_pos hv]; exact congrArg lN (Nat.mul_assoc _ _ _).symm) hP hK hD hS dX3_key_135
          · skip
            exact absurd c_113 (by decide)
        · skip
          refine zi_ (y := nI 1) (congrArg nI c_58) ?_
          refine lv_lookup (x := nI 1) (off := 52) (tgt := 110) hx hb dX3_key_58 (by decide) (by decide) (by decide) ?_
          refine lv_lload_n hx hb dX3_key_110 rfl (lv_at hl 4 rfl) ?_
          refine lv_iload hx hb dX3_key_111 (lv_at hl 0 rfl) ?_
          refine lv_if_eq (tgt := 125) hx hb dX3_key_113 (by decide) (fun c_113 => ?_) (fun c_113 => ?_)
          · skip
            have c_113 := zji_eq (a := 0) (b := 0) (by omega) (by omega) c_113
            refine lv_bipush (v := nI 12) hx hb dX3_key_125 (by decide) ?_
            refine lv_iload hx hb dX3_key_127 (lv_at hl 1 rfl) ?_
            refine zi_ (y := nI (whN k_ / 2)) ((whI_w c_46).2) ?_
            refine lv_iload hx hb dX3_key_129 (lv_at hl 5 rfl) ?_
            obtain ⟨hev, hwi⟩ := whI_w c_46
            refine lv_iadd hx hb dX3_key_131 ?_
            refine zi_ (y := nI (whN k_ / 2 + p_)) (nI_add (whN k_ / 2) p_) ?_
            refine lv_imul hx hb dX3_key_132 ?_
            refine zi_ (y := nI (12 * (whN k_ / 2 + p_))) (pk_mul 12 (whN k_ / 2 + p_)) ?_
            refine lv_i2l (v := lN (12 * (whN k_ / 2 + p_))) hx hb dX3_key_133 (nI_l (by omega)) ?_
            refine lv_lmul hx hb dX3_key_134 ?_
            refine zl_ (y := lN (w_ * (12 * (whN k_ / 2 + p_)))) (lN_mul w_ (12 * (whN k_ / 2 + p_))) ?_
            have hv : whN k_ % 2 = 0 := (whI_w c_46).1
            subst hQ
            exact ze_l hx hb hr hlocks () (by unfold keyN; rw [c_58, if_neg (by decide : ¬ (1 : Nat) = 2), if_neg (by decide : ¬ (1 : Nat) = 3), if_pos hv]; exact congrArg lN (Nat.mul_assoc _ _ _).symm) hP hK hD hS dX3_key_135
          · skip
            exact absurd c_113 (by decide)
        · skip
          refine zi_ (y := nI 2) (congrArg nI c_58) ?_
          refine lv_lookup (x := nI 2) (off := 26) (tgt := 84) hx hb dX3_key_58 (by decide) (by decide) (by decide) ?_
          refine lv_iload hx hb dX3_key_84 (lv_at hl 0 rfl) ?_
          refine lv_if_eq (tgt := 95) hx hb dX3_key_86 (by decide) (fun c_86 => ?_) (fun c_86 => ?_)
          · skip
            have c_86 := zji_eq (a := 0) (b := 0) (by omega) (by omega) c_86
            refine lv_ldc2 (v := 84) hx hb hown (zh (w := .constantLong RX3 182 (84)) hts 7 rfl) dX3_key_95 ?_
            refine zl_ (y := lN 84) rfl ?_
            have hv : whN k_ % 2 = 0 := (whI_w c_46).1
            subst hQ
            exact ze_l hx hb hr hlocks () (by unfold keyN; rw [c_58, if_pos (rfl : (2 : Nat) = 2), if_pos hv]) hP hK hD hS dX3_key_98
          · skip
            exact absurd c_86 (by decide)
        · skip
          refine zi_ (y := nI 3) (congrArg nI c_58) ?_
          refine lv_lookup (x := nI 3) (off := 41) (tgt := 99) hx hb dX3_key_58 (by decide) (by decide) (by decide) ?_
          refine lv_iload hx hb dX3_key_99 (lv_at hl 0 rfl) ?_
          refine lv_if_eq (tgt := 108) hx hb dX3_key_101 (by decide) (fun c_101 => ?_) (fun c_101 => ?_)
          · skip
            have c_101 := zji_eq (a := 0) (b := 0) (by omega) (by omega) c_101
            refine lv_lconst (v := lN 0) hx hb dX3_key_108 rfl ?_
            have hv : whN k_ % 2 = 0 := (whI_w c_46).1
            subst hQ
            exact ze_l hx hb hr hlocks () (by unfold keyN; rw [c_58, if_neg (by decide : ¬ (3 : Nat) = 2), if_pos (rfl : (3 : Nat) = 3), if_pos hv]) hP hK hD hS dX3_key_109
          · skip
            exact absurd c_101 (by decide)
      · skip
        refine lv_iconst (v := nI 1) hx hb dX3_key_49 (by decide) ?_
        refine lv_goto (tgt := 54) hx hb dX3_key_50 (by decide) ?_
        refine lv_istore (lv' := [(6, .int (nI 1)), (5, .int (whI k_)), (0, .ref o_), (1, .int (nI k_)), (2, .long (lN w_)), (4, .int (nI p_))]) hx hb dX3_key_54 hl (by decide) rfl (fun ls hl => ?_)
        refine lv_iload hx hb dX3_key_56 (lv_at hl 5 rfl) ?_
        rcases (show p_ = 0 ∨ p_ = 1 ∨ p_ = 2 ∨ p_ = 3 by omega) with c_58 | c_58 | c_58 | c_58
        · skip
          refine zi_ (y := nI 0) (congrArg nI c_58) ?_
          refine lv_lookup (x := nI 0) (off := 52) (tgt := 110) hx hb dX3_key_58 (by decide) (by decide) (by decide) ?_
          refine lv_lload_n hx hb dX3_key_110 rfl (lv_at hl 4 rfl) ?_
          refine lv_iload hx hb dX3_key_111 (lv_at hl 0 rfl) ?_
          refine lv_if_eq (tgt := 125) hx hb dX3_key_113 (by decide) (fun c_113 => ?_) (fun c_113 => ?_)
          · skip
            exact absurd c_113 (by decide)
          · skip
            have c_113 := zji_ne (a := 1) (b := 0) (by omega) (by omega) c_113
            refine lv_iconst (v := nI 2) hx hb dX3_key_116 (by decide) ?_
            refine lv_iload_n hx hb dX3_key_117 rfl (lv_at hl 3 rfl) ?_
            refine lv_iload hx hb dX3_key_118 (lv_at hl 5 rfl) ?_
            refine lv_iadd hx hb dX3_key_120 ?_
            refine zi_ (y := nI (k_ + p_)) (nI_add k_ p_) ?_
            refine lv_imul hx hb dX3_key_121 ?_
            refine zi_ (y := nI (2 * (k_ + p_))) (pk_mul 2 (k_ + p_)) ?_
            refine lv_goto (tgt := 133) hx hb dX3_key_122 (by decide) ?_
            refine lv_i2l (v := lN (2 * (k_ + p_))) hx hb dX3_key_133 (nI_l (by omega)) ?_
            refine lv_lmul hx hb dX3_key_134 ?_
            refine zl_ (y := lN (w_ * (2 * (k_ + p_)))) (lN_mul w_ (2 * (k_ + p_))) ?_
            have hv : ¬ whN k_ % 2 = 0 := by have := whI_d hk c_46; omega
            subst hQ
            exact ze_l hx hb hr hlocks () (by unfold keyN; rw [c_58, if_neg (by decide : ¬ (0 : Nat) = 2), if_neg (by decide : ¬ (0 : Nat) = 3), if_neg hv]; exact congrArg lN (congrArg (fun z => w_ * z) (show 2 * (k_ + 0) = 2 * k_ + 2 * 0 by omega))) hP hK hD hS dX3_key_135
        · skip
          refine zi_ (y := nI 1) (congrArg nI c_58) ?_
          refine lv_lookup (x := nI 1) (off := 52) (tgt := 110) hx hb dX3_key_58 (by decide) (by decide) (by decide) ?_
          refine lv_lload_n hx hb dX3_key_110 rfl (lv_at hl 4 rfl) ?_
          refine lv_iload hx hb dX3_key_111 (lv_at hl 0 rfl) ?_
          refine lv_if_eq (tgt := 125) hx hb dX3_key_113 (by decide) (fun c_113 => ?_) (fun c_113 => ?_)
          · skip
            exact absurd c_113 (by decide)
          · skip
            have c_113 := zji_ne (a := 1) (b := 0) (by omega) (by omega) c_113
            refine lv_iconst (v := nI 2) hx hb dX3_key_116 (by decide) ?_
            refine lv_iload_n hx hb dX3_key_117 rfl (lv_at hl 3 rfl) ?_
            refine lv_iload hx hb dX3_key_118 (lv_at hl 5 rfl) ?_
            refine lv_iadd hx hb dX3_key_120 ?_
            refine zi_ (y := nI (k_ + p_)) (nI_add k_ p_) ?_
            refine lv_imul hx hb dX3_key_121 ?_
            refine zi_ (y := nI (2 * (k_ + p_))) (pk_mul 2 (k_ + p_)) ?_
            refine lv_goto (tgt := 133) hx hb dX3_key_122 (by decide) ?_
            refine lv_i2l (v := lN (2 * (k_ + p_))) hx hb dX3_key_133 (nI_l (by omega)) ?_
            refine lv_lmul hx hb dX3_key_134 ?_
            refine zl_ (y := lN (w_ * (2 * (k_ + p_)))) (lN_mul w_ (2 * (k_ + p_))) ?_
            have hv : ¬ whN k_ % 2 = 0 := by have := whI_d hk c_46; omega
            subst hQ
            exact ze_l hx hb hr hlocks () (by unfold keyN; rw [c_58, if_neg (by decide : ¬ (1 : Nat) = 2), if_neg (by decide : ¬ (1 : Nat) = 3), if_neg hv]; exact congrArg lN (congrArg (fun z => w_ * z) (show 2 * (k_ + 1) = 2 * k_ + 2 * 1 by omega))) hP hK hD hS dX3_key_135
        · skip
          refine zi_ (y := nI 2) (congrArg nI c_58) ?_
          refine lv_lookup (x := nI 2) (off := 26) (tgt := 84) hx hb dX3_key_58 (by decide) (by decide) (by decide) ?_
          refine lv_iload hx hb dX3_key_84 (lv_at hl 0 rfl) ?_
          refine lv_if_eq (tgt := 95) hx hb dX3_key_86 (by decide) (fun c_86 => ?_) (fun c_86 => ?_)
          · skip
            exact absurd c_86 (by decide)
          · skip
            have c_86 := zji_ne (a := 1) (b := 0) (by omega) (by omega) c_86
            refine lv_ldc2 (v := 24) hx hb hown (zh (w := .constantLong RX3 180 (24)) hts 6 rfl) dX3_key_89 ?_
            refine zl_ (y := lN 24) rfl ?_
            refine lv_goto (tgt := 98) hx hb dX3_key_92 (by decide) ?_
            have hv : ¬ whN k_ % 2 = 0 := by have := whI_d hk c_46; omega
            subst hQ
            exact ze_l hx hb hr hlocks () (by unfold keyN; rw [c_58, if_pos (rfl : (2 : Nat) = 2), if_neg hv]) hP hK hD hS dX3_key_98
        · skip
          refine zi_ (y := nI 3) (congrArg nI c_58) ?_
          refine lv_lookup (x := nI 3) (off := 41) (tgt := 99) hx hb dX3_key_58 (by decide) (by decide) (by decide) ?_
          refine lv_iload hx hb dX3_key_99 (lv_at hl 0 rfl) ?_
          refine lv_if_eq (tgt := 108) hx hb dX3_key_101 (by decide) (fun c_101 => ?_) (fun c_101 => ?_)
          · skip
            exact absurd c_101 (by decide)
          · skip
            have c_101 := zji_ne (a := 1) (b := 0) (by omega) (by omega) c_101
            refine lv_lconst (v := lN 1) hx hb dX3_key_104 rfl ?_
            refine lv_goto (tgt := 109) hx hb dX3_key_105 (by decide) ?_
            have hv : ¬ whN k_ % 2 = 0 := by have := whI_d hk c_46; omega
            subst hQ
            exact ze_l hx hb hr hlocks () (by unfold keyN; rw [c_58, if_neg (by decide : ¬ (3 : Nat) = 2), if_pos (rfl : (3 : Nat) = 3), if_neg hv]) hP hK hD hS dX3_key_109
    · skip
      have c_15 := zji_nlt (a := k_) (b := 12) (by omega) (by omega) c_15
      omega
abbrev rm_X3_key_x1 : Room := { frames := 8, cells := 1, slots := 6, locals := 116 }
set_option maxHeartbeats 4000000 in
set_option maxRecDepth 100000 in
/-- key, thrown 1 -/
theorem ct_X3_key_x1 (l : Launch) (D : va_G) (cI cJ cD : ClassId) (o_ : Nat) (ro_ : Nat) (ja_ : Nat) (jb_ : Nat) (sr_ : Nat) (br_ : Nat) (tr_ : Nat) (ch_ : Nat) (lf_ : Nat) (ri_ : Nat) (nn_ : Int32) (sh_ : Int32) (sp_ : Int32) (k_ : Int32) (w_ : Int64) (p_ : Int32) (sz : Nat) (hl9 : l.stackTraces = false) (hbad : prI p_ 3 = 0) : vx_Met l yX3_key wsX3_key rm_X3_key_x1 (zP D (ty3 cI cJ cD) [.ref o_, .int k_, .long w_, .int p_] sz [(o_, .inr (3, [.int nn_, .ref ro_, .ref ja_, .ref jb_, .ref sr_, .ref br_, .ref tr_, .ref ch_, .ref lf_, .ref ri_, .int sh_, .int sp_]))] (nTh (va_A [(o_, .inr (3, [.int nn_, .ref ro_, .ref ja_, .ref jb_, .ref sr_, .ref br_, .ref tr_, .ref ch_, .ref lf_, .ref ri_, .int sh_, .int sp_]))] sz))) zNo (zX D (ty3 cI cJ cD) xAIO [(o_, .inr (3, [.int nn_, .ref ro_, .ref ja_, .ref jb_, .ref sr_, .ref br_, .ref tr_, .ref ch_, .ref lf_, .ref ri_, .int sh_, .int sp_]))] (va_A [(o_, .inr (3, [.int nn_, .ref ro_, .ref ja_, .ref jb_, .ref sr_, .ref br_, .ref tr_, .ref ch_, .ref lf_, .ref ri_, .int sh_, .int sp_]))] sz)) 1 6 (va_A [(o_, .inr (3, [.int nn_, .ref ro_, .ref ja_, .ref jb_, .ref sr_, .ref br_, .ref tr_, .ref ch_, .ref lf_, .ref ri_, .int sh_, .int sp_]))] sz) := by
  refine zMetX (En := xAIO) (cc := cX3_key) (maxL := 7) (ret := (some .long)) (by decide) rfl (Nat.le_of_ble_eq_true rfl) ?_
  intro p e s m args below meth c A ls Q H hargs hQ hHe hx hb hr hml hown hts hlocks hin hP hK hD hA hS hE hAe htb hl
  have hl : lv_has ls 7 [(0, .ref o_), (1, .int k_), (2, .long w_), (4, .int p_)] := hl
  refine lv_iload hx hb dX3_key_0 (lv_at hl 3 rfl) ?_
  refine lv_iconst (v := nI 4) hx hb dX3_key_2 (by decide) ?_
  subst hQ
  exact zx_out (wc := []) (wr := [(o_, .inr (3, [.int nn_, .ref ro_, .ref ja_, .ref jb_, .ref sr_, .ref br_, .ref tr_, .ref ch_, .ref lf_, .ref ri_, .int sh_, .int sp_]))]) hP hK hD hS hA [] [0] [0] rfl rfl (by decide) (by decide) rfl rfl (by decide) htb hlocks (Nat.le_of_ble_eq_true rfl) (Nat.le_of_ble_eq_true rfl) (vx_runS (As := [.int p_, .int (nI 4)]) (rest := []) ⟨hx, hb, hml, hown, hts⟩ (ct_X3_needPart_x l D cI cJ cD p_ 4 H.size hl9 (by decide) (by decide) hbad) (va_cwS 2 hts gX3_key_X3_needPart rfl rfl rfl (by decide +kernel) ⟨Nat.le_of_ble_eq_true rfl, Nat.le_of_ble_eq_true rfl⟩) (zPreS (wc := []) hK (hP.sub [] rfl) (hD.sub [] (by decide) rfl) nTh_calling (fun U hU hW => nTh_warm hE hS (va_free (wc := []) hD hS hA [] rfl) hU hW)) rfl rfl hl.1 rfl (lv_room (Nat.le_of_ble_eq_true rfl)) dX3_key_3 ⟨Nat.le_of_ble_eq_true rfl, Nat.le_of_ble_eq_true rfl⟩)
abbrev rm_X3_key_x2 : Room := { frames := 7, cells := 1, slots := 6, locals := 95 }
set_option maxHeartbeats 4000000 in
set_option maxRecDepth 100000 in
/-- key, thrown 2 -/
theorem ct_X3_key_x2 (l : Launch) (D : va_G) (cI cJ cD : ClassId) (o_ : Nat) (ro_ : Nat) (ja_ : Nat) (jb_ : Nat) (sr_ : Nat) (br_ : Nat) (tr_ : Nat) (ch_ : Nat) (lf_ : Nat) (ri_ : Nat) (nn_ : Int32) (sh_ : Int32) (sp_ : Int32) (k_ : Int32) (w_ : Int64) (p_ : Nat) (sz : Nat) (hl9 : l.stackTraces = false) (hp : p_ < 4) (hbad : prI k_ 11 = 0) : vx_Met l yX3_key wsX3_key rm_X3_key_x2 (zP D (ty3 cI cJ cD) [.ref o_, .int k_, .long w_, .int (nI p_)] sz [(o_, .inr (3, [.int nn_, .ref ro_, .ref ja_, .ref jb_, .ref sr_, .ref br_, .ref tr_, .ref ch_, .ref lf_, .ref ri_, .int sh_, .int sp_]))] (nTh (va_A [(o_, .inr (3, [.int nn_, .ref ro_, .ref ja_, .ref jb_, .ref sr_, .ref br_, .ref tr_, .ref ch_, .ref lf_, .ref ri_, .int sh_, .int sp_]))] sz))) zNo (zX D (ty3 cI cJ cD) xAIO [(o_, .inr (3, [.int nn_, .ref ro_, .ref ja_, .ref jb_, .ref sr_, .ref br_, .ref tr_, .ref ch_, .ref lf_, .ref ri_, .int sh_, .int sp_]))] (va_A [(o_, .inr (3, [.int nn_, .ref ro_, .ref ja_, .ref jb_, .ref sr_, .ref br_, .ref tr_, .ref ch_, .ref lf_, .ref ri_, .int sh_, .int sp_]))] sz)) 1 6 (va_A [(o_, .inr (3, [.int nn_, .ref ro_, .ref ja_, .ref jb_, .ref sr_, .ref br_, .ref tr_, .ref ch_, .ref lf_, .ref ri_, .int sh_, .int sp_]))] sz) := by
  refine zMetX (En := xAIO) (cc := cX3_key) (maxL := 7) (ret := (some .long)) (by decide) rfl (Nat.le_of_ble_eq_true rfl) ?_
  intro p e s m args below meth c A ls Q H hargs hQ hHe hx hb hr hml hown hts hlocks hin hP hK hD hA hS hE hAe htb hl
  have hl : lv_has ls 7 [(0, .ref o_), (1, .int k_), (2, .long w_), (4, .int (nI p_))] := hl
  obtain ⟨tk9, hZ9, hT9⟩ := hE.2.2.2.2
  refine lv_iload hx hb dX3_key_0 (lv_at hl 3 rfl) ?_
  refine lv_iconst (v := nI 4) hx hb dX3_key_2 (by decide) ?_
  refine zc_v (wc := []) (wr := [(o_, .inr (3, [.int nn_, .ref ro_, .ref ja_, .ref jb_, .ref sr_, .ref br_, .ref tr_, .ref ch_, .ref lf_, .ref ri_, .int sh_, .int sp_]))]) hP hD hS hA [] [0] rfl rfl (by decide) (by decide) (va_runS (As := [.int (nI p_), .int (nI 4)]) (rest := []) ⟨hx, hb, hml, hown, hts⟩ (ct_X3_needPart l D cI cJ cD p_ 4 H.size (by omega) (by decide)) (va_cwS 2 hts gX3_key_X3_needPart rfl rfl rfl (by decide +kernel) ⟨Nat.le_of_ble_eq_true rfl, Nat.le_of_ble_eq_true rfl⟩) (zPreS (wc := []) hK (hP.sub [] rfl) (hD.sub [] (by decide) rfl) zTb (fun _ _ _ => trivial)) rfl rfl hl.1 rfl (lv_room (Nat.le_of_ble_eq_true rfl)) dX3_key_3 ⟨Nat.le_of_ble_eq_true rfl, Nat.le_of_ble_eq_true rfl⟩) (fun u9_ H locs hw hP hD hS => ?_)
  have hP : va_P D cl5 [(o_, .inr (3, [.int nn_, .ref ro_, .ref ja_, .ref jb_, .ref sr_, .ref br_, .ref tr_, .ref ch_, .ref lf_, .ref ri_, .int sh_, .int sp_]))] H := hP.sub [0] rfl
  have hD : va_D A [(o_, .inr (3, [.int nn_, .ref ro_, .ref ja_, .ref jb_, .ref sr_, .ref br_, .ref tr_, .ref ch_, .ref lf_, .ref ri_, .int sh_, .int sp_]))] := hD.sub [0] (by decide) rfl
  refine lv_iload_n hx hb dX3_key_6 rfl (lv_at hl 1 rfl) ?_
  refine lv_if_lt (tgt := 18) hx hb dX3_key_7 (by decide) (fun c_7 => ?_) (fun c_7 => ?_)
  · skip
    subst hQ
    exact zx_thr (names := xNA) (own := RX3) (text := xtK) (rest := []) hx hb hl9 hP hK hD hS hown (by decide) (by decide) (xW_A hE.1).1 (xW_A hE.1).2.1 hE.2.1.2.2.2 (xW_A hE.1).2.2 xWT_A hE.2.2.1 hE.2.2.2.1 (hl.1.trans hml.symm) dX3_key_18 dX3_key_21 dX3_key_22 dX3_key_24 dX3_key_27 htb (by decide) (Nat.le_of_ble_eq_true rfl) (Nat.le_of_ble_eq_true rfl) (Nat.le_of_ble_eq_true rfl) hlocks (Nat.le_of_ble_eq_true rfl) (Nat.le_of_ble_eq_true rfl)
  · skip
    refine lv_iload_n hx hb dX3_key_10 rfl (lv_at hl 1 rfl) ?_
    refine va_gets (C := RX3) (n := "WHITE_KEYS") (d := "[I") (v := .ref tk9) hx hb hZ9 hS hown (zh (w := .fieldLink RX3 170 "FretRoots" "WHITE_KEYS" "[I") hts 1 rfl) (fun _ h9 => h9) dX3_key_11 ?_
    refine va_tlen hx hb hT9 hS (v := nI 12) rfl dX3_key_14 ?_
    refine lv_icmp_lt (tgt := 28) hx hb dX3_key_15 (by decide) (fun c_15 => ?_) (fun c_15 => ?_)
    · skip
      exact absurd hbad (by rw [pr_in (b := 12) (by decide) (by decide) c_7 c_15]; decide)
    · skip
      subst hQ
      exact zx_thr (names := xNA) (own := RX3) (text := xtK) (rest := []) hx hb hl9 hP hK hD hS hown (by decide) (by decide) (xW_A hE.1).1 (xW_A hE.1).2.1 hE.2.1.2.2.2 (xW_A hE.1).2.2 xWT_A hE.2.2.1 hE.2.2.2.1 (hl.1.trans hml.symm) dX3_key_18 dX3_key_21 dX3_key_22 dX3_key_24 dX3_key_27 htb (by decide) (Nat.le_of_ble_eq_true rfl) (Nat.le_of_ble_eq_true rfl) (Nat.le_of_ble_eq_true rfl) hlocks (Nat.le_of_ble_eq_true rfl) (Nat.le_of_ble_eq_true rfl)
abbrev rm_X3_key_x3 : Room := { frames := 8, cells := 1, slots := 6, locals := 120 }
set_option maxHeartbeats 4000000 in
set_option maxRecDepth 100000 in
/-- key, thrown 3 -/
theorem ct_X3_key_x3 (l : Launch) (D : va_G) (cI cJ cD : ClassId) (o_ : Nat) (ro_ : Nat) (ja_ : Nat) (jb_ : Nat) (sr_ : Nat) (br_ : Nat) (tr_ : Nat) (ch_ : Nat) (lf_ : Nat) (ri_ : Nat) (nn_ : Int32) (sh_ : Int32) (sp_ : Int32) (k_ : Nat) (w_ : Int64) (p_ : Nat) (sz : Nat) (hl9 : l.stackTraces = false) (hk : k_ ≤ 11) (hp : p_ < 4) (hbad : inL w_ = 0) : vx_Met l yX3_key wsX3_key rm_X3_key_x3 (zP D (ty3 cI cJ cD) [.ref o_, .int (nI k_), .long w_, .int (nI p_)] sz [(o_, .inr (3, [.int nn_, .ref ro_, .ref ja_, .ref jb_, .ref sr_, .ref br_, .ref tr_, .ref ch_, .ref lf_, .ref ri_, .int sh_, .int sp_]))] (nTh (va_A [(o_, .inr (3, [.int nn_, .ref ro_, .ref ja_, .ref jb_, .ref sr_, .ref br_, .ref tr_, .ref ch_, .ref lf_, .ref ri_, .int sh_, .int sp_]))] sz))) zNo (zX D (ty3 cI cJ cD) xIAE [(o_, .inr (3, [.int nn_, .ref ro_, .ref ja_, .ref jb_, .ref sr_, .ref br_, .ref tr_, .ref ch_, .ref lf_, .ref ri_, .int sh_, .int sp_]))] (va_A [(o_, .inr (3, [.int nn_, .ref ro_, .ref ja_, .ref jb_, .ref sr_, .ref br_, .ref tr_, .ref ch_, .ref lf_, .ref ri_, .int sh_, .int sp_]))] sz)) 1 6 (va_A [(o_, .inr (3, [.int nn_, .ref ro_, .ref ja_, .ref jb_, .ref sr_, .ref br_, .ref tr_, .ref ch_, .ref lf_, .ref ri_, .int sh_, .int sp_]))] sz) := by
  refine zMetX (En := xIAE) (cc := cX3_key) (maxL := 7) (ret := (some .long)) (by decide) rfl (Nat.le_of_ble_eq_true rfl) ?_
  intro p e s m args below meth c A ls Q H hargs hQ hHe hx hb hr hml hown hts hlocks hin hP hK hD hA hS hE hAe htb hl
  have hl : lv_has ls 7 [(0, .ref o_), (1, .int (nI k_)), (2, .long w_), (4, .int (nI p_))] := hl
  obtain ⟨tk9, hZ9, hT9⟩ := hE.2.2.2.2
  refine lv_iload hx hb dX3_key_0 (lv_at hl 3 rfl) ?_
  refine lv_iconst (v := nI 4) hx hb dX3_key_2 (by decide) ?_
  refine zc_v (wc := []) (wr := [(o_, .inr (3, [.int nn_, .ref ro_, .ref ja_, .ref jb_, .ref sr_, .ref br_, .ref tr_, .ref ch_, .ref lf_, .ref ri_, .int sh_, .int sp_]))]) hP hD hS hA [] [0] rfl rfl (by decide) (by decide) (va_runS (As := [.int (nI p_), .int (nI 4)]) (rest := []) ⟨hx, hb, hml, hown, hts⟩ (ct_X3_needPart l D cI cJ cD p_ 4 H.size (by omega) (by decide)) (va_cwS 2 hts gX3_key_X3_needPart rfl rfl rfl (by decide +kernel) ⟨Nat.le_of_ble_eq_true rfl, Nat.le_of_ble_eq_true rfl⟩) (zPreS (wc := []) hK (hP.sub [] rfl) (hD.sub [] (by decide) rfl) zTb (fun _ _ _ => trivial)) rfl rfl hl.1 rfl (lv_room (Nat.le_of_ble_eq_true rfl)) dX3_key_3 ⟨Nat.le_of_ble_eq_true rfl, Nat.le_of_ble_eq_true rfl⟩) (fun u9_ H locs hw hP hD hS => ?_)
  have hP : va_P D cl5 [(o_, .inr (3, [.int nn_, .ref ro_, .ref ja_, .ref jb_, .ref sr_, .ref br_, .ref tr_, .ref ch_, .ref lf_, .ref ri_, .int sh_, .int sp_]))] H := hP.sub [0] rfl
  have hD : va_D A [(o_, .inr (3, [.int nn_, .ref ro_, .ref ja_, .ref jb_, .ref sr_, .ref br_, .ref tr_, .ref ch_, .ref lf_, .ref ri_, .int sh_, .int sp_]))] := hD.sub [0] (by decide) rfl
  refine lv_iload_n hx hb dX3_key_6 rfl (lv_at hl 1 rfl) ?_
  refine lv_if_lt (tgt := 18) hx hb dX3_key_7 (by decide) (fun c_7 => ?_) (fun c_7 => ?_)
  · skip
    have c_7 := zji_lt (a := k_) (b := 0) (by omega) (by omega) c_7
    omega
  · skip
    have c_7 := zji_nlt (a := k_) (b := 0) (by omega) (by omega) c_7
    refine lv_iload_n hx hb dX3_key_10 rfl (lv_at hl 1 rfl) ?_
    refine va_gets (C := RX3) (n := "WHITE_KEYS") (d := "[I") (v := .ref tk9) hx hb hZ9 hS hown (zh (w := .fieldLink RX3 170 "FretRoots" "WHITE_KEYS" "[I") hts 1 rfl) (fun _ h9 => h9) dX3_key_11 ?_
    refine va_tlen hx hb hT9 hS (v := nI 12) rfl dX3_key_14 ?_
    refine lv_icmp_lt (tgt := 28) hx hb dX3_key_15 (by decide) (fun c_15 => ?_) (fun c_15 => ?_)
    · skip
      have c_15 := zji_lt (a := k_) (b := 12) (by omega) (by omega) c_15
      refine lv_lload_n hx hb dX3_key_28 rfl (lv_at hl 2 rfl) ?_
      refine lv_lconst (v := lN 1) hx hb dX3_key_29 rfl ?_
      refine lv_ldc2 (v := 1000000) hx hb hown (zh (w := .constantLong RX3 81 (1000000)) hts 5 rfl) dX3_key_30 ?_
      refine zl_ (y := lN 1000000) rfl ?_
      subst hQ
      exact zx_out (wc := []) (wr := [(o_, .inr (3, [.int nn_, .ref ro_, .ref ja_, .ref jb_, .ref sr_, .ref br_, .ref tr_, .ref ch_, .ref lf_, .ref ri_, .int sh_, .int sp_]))]) hP hK hD hS hA [] [0] [0] rfl rfl (by decide) (by decide) rfl rfl (by decide) htb hlocks (Nat.le_of_ble_eq_true rfl) (Nat.le_of_ble_eq_true rfl) (vx_runS (As := [.long w_, .long (lN 1), .long (lN 1000000)]) (rest := []) ⟨hx, hb, hml, hown, hts⟩ (ct_X3_needWithin_x l D cI cJ cD w_ (lN 1) (lN 1000000) H.size hl9 hbad) (va_cwS 3 hts gX3_key_X3_needWithin rfl rfl rfl (by decide +kernel) ⟨Nat.le_of_ble_eq_true rfl, Nat.le_of_ble_eq_true rfl⟩) (zPreS (wc := []) hK (hP.sub [] rfl) (hD.sub [] (by decide) rfl) nTh_calling (fun U hU hW => nTh_warm hE hS (va_free (wc := []) hD hS hA [] rfl) hU hW)) rfl rfl hl.1 rfl (lv_room (Nat.le_of_ble_eq_true rfl)) dX3_key_33 ⟨Nat.le_of_ble_eq_true rfl, Nat.le_of_ble_eq_true rfl⟩)
    · skip
      have c_15 := zji_nlt (a := k_) (b := 12) (by omega) (by omega) c_15
      omega
