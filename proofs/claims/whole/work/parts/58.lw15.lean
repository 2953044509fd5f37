/-! ===== the law, case 15 ===== -/
set_option maxHeartbeats 8000000 in
set_option maxRecDepth 100000 in
/-- the law's case 15: key -/
theorem lwc_15 {p : Program} {l : Launch} {e : Env} {s : State} {m : MethodId} {below : List Frame} {meth : Method} {c : Code} {D : va_G} {cI cJ cD : ClassId} {A : Nat → Prop} {b_ L_ : Nat} {xs_ : Nat → Int32} {o_ ro_ ja_ jb_ sr_ se_ br_ be_ tr_ te_ ch_ lf_ ld_ ri_ rd_ m_ ab_ bb_ rr_ ou_ od_ n_ : Nat} {r_ : Nat → UInt64} {Q : State → Prop} {i_ cc_ ss_ : Nat}
    (C : lwC p l s m meth c D cI cJ cD A b_ L_ xs_) (hn1 : 1 ≤ n_) (hn : n_ ≤ 24) (hi : i_ + 5 ≤ L_) (hcc : cc_ ≤ 600000) (hss : ss_ ≤ 7000000) (nx : lwH p l e s m below meth c D cI cJ cD A b_ o_ ro_ ja_ jb_ sr_ se_ br_ be_ tr_ te_ ch_ lf_ ld_ ri_ rd_ m_ ab_ bb_ rr_ ou_ od_ n_ r_ Q 1436 i_ (cc_ + 1) (ss_ + 6)) :
    lwH p l e s m below meth c D cI cJ cD A b_ o_ ro_ ja_ jb_ sr_ se_ br_ be_ tr_ te_ ch_ lf_ ld_ ri_ rd_ m_ ab_ bb_ rr_ ou_ od_ n_ r_ Q 1057 i_ cc_ ss_ := by
  obtain ⟨hx, hb, hr, hml, hown, hts, hX, hbl, hlocks, hK, hA, hbA, hE, hl9, hL⟩ := C
  intro h_ w_ bs_ tl_ sp_ ca_ cb_ oc_ st_ th_ wl_ wr_ es_ eb_ et_ fl_ fr_ fo_ fa_ fb_ ga_ gb_ gr_ xa_ xb_ fd_ H locs ls d hI hd hP hD hS hl
  obtain ⟨iw1, iw2, ih, ib1, ib2, it1, it2, is1, is2, ice, icb, ict, ija, ijb, iga, igb, ich⟩ := hI
  have hP : va_P D cl5 [(o_, .inr (3, [.int (nI n_), .ref ro_, .ref ja_, .ref jb_, .ref sr_, .ref br_, .ref tr_, .ref ch_, .ref lf_, .ref ri_, .int (nI h_), .int (nI sp_)])), (ro_, .inl (cD, n_, .inr (.inr (.inr (.inl r_))))), (ja_, .inl (cI, 2 * n_ + 1, .inl fa_)), (jb_, .inl (cI, 2 * n_ + 1, .inl fb_)), (sr_, .inr (2, [.ref se_, .long (lN w_), .long (lN (w_ * 2 ^ h_))])), (se_, .inl (cJ, n_, .inr (.inl es_))), (br_, .inr (2, [.ref be_, .long (lN bs_), .long (lN (bs_ * 2 ^ h_))])), (be_, .inl (cJ, n_, .inr (.inl eb_))), (tr_, .inr (2, [.ref te_, .long (lN tl_), .long (lN (tl_ * 2 ^ h_))])), (te_, .inl (cJ, n_, .inr (.inl et_))), (ch_, .inr (1, [.long (lN ca_), .long (lN cb_), .long oc_, .long st_])), (lf_, .inr (0, [.ref ld_, .int wl_])), (ld_, .inl (cJ, 40, .inr (.inl fl_))), (ri_, .inr (0, [.ref rd_, .int wr_])), (rd_, .inl (cJ, 40, .inr (.inl fr_))), (m_, .inr (4, [.int th_, .int (nI n_), .long (lN w_), .int (nI h_), .ref ab_, .ref bb_, .long (lN ca_), .long (lN cb_), .long oc_, .long st_, .int (nI bs_), .int (nI tl_), .int (nI sp_), .ref rr_])), (ab_, .inl (cI, 49, .inl ga_)), (bb_, .inl (cI, 49, .inl gb_)), (rr_, .inl (cI, 152, .inl gr_)), (ou_, .inl (cJ, 1, .inr (.inl fo_))), (od_, .inl (cD, 1, .inr (.inr (.inr (.inl fd_)))))] H := hP
  have hD : va_D A [(o_, .inr (3, [.int (nI n_), .ref ro_, .ref ja_, .ref jb_, .ref sr_, .ref br_, .ref tr_, .ref ch_, .ref lf_, .ref ri_, .int (nI h_), .int (nI sp_)])), (ro_, .inl (cD, n_, .inr (.inr (.inr (.inl r_))))), (ja_, .inl (cI, 2 * n_ + 1, .inl fa_)), (jb_, .inl (cI, 2 * n_ + 1, .inl fb_)), (sr_, .inr (2, [.ref se_, .long (lN w_), .long (lN (w_ * 2 ^ h_))])), (se_, .inl (cJ, n_, .inr (.inl es_))), (br_, .inr (2, [.ref be_, .long (lN bs_), .long (lN (bs_ * 2 ^ h_))])), (be_, .inl (cJ, n_, .inr (.inl eb_))), (tr_, .inr (2, [.ref te_, .long (lN tl_), .long (lN (tl_ * 2 ^ h_))])), (te_, .inl (cJ, n_, .inr (.inl et_))), (ch_, .inr (1, [.long (lN ca_), .long (lN cb_), .long oc_, .long st_])), (lf_, .inr (0, [.ref ld_, .int wl_])), (ld_, .inl (cJ, 40, .inr (.inl fl_))), (ri_, .inr (0, [.ref rd_, .int wr_])), (rd_, .inl (cJ, 40, .inr (.inl fr_))), (m_, .inr (4, [.int th_, .int (nI n_), .long (lN w_), .int (nI h_), .ref ab_, .ref bb_, .long (lN ca_), .long (lN cb_), .long oc_, .long st_, .int (nI bs_), .int (nI tl_), .int (nI sp_), .ref rr_])), (ab_, .inl (cI, 49, .inl ga_)), (bb_, .inl (cI, 49, .inl gb_)), (rr_, .inl (cI, 152, .inl gr_)), (ou_, .inl (cJ, 1, .inr (.inl fo_))), (od_, .inl (cD, 1, .inr (.inr (.inr (.inl fd_)))))] := hD
  have hts0 := hts
  have hK0 := hK
  have hX0 := hX
  have hts := dr_words hts0 d
  have hK := zK_dr (d := d) hK0
  have hown : (s.setDrawn d).vm.findClass RL = some m.cls := hown
  have hX : va_X b_ L_ xs_ (s.setDrawn d) s.heap := va_X.moved (u := s) (Vm.Alike.refl s.vm) hX0
  by_cases g0 : prI (xs_ (i_ + 4)) 3 = 0
  · skip
    have hcd : cdKey (xs_ (i_ + 1)) (mkL (xs_ (i_ + 2)) (xs_ (i_ + 3))) (xs_ (i_ + 4)) = 1 := by unfold cdKey; (repeat' split) <;> first | rfl | omega
    refine lv_aload_n hx hb dL_law_1057 rfl (lv_at hl 1 rfl) ?_
    refine lv_aload_n hx hb dL_law_1058 rfl (lv_at hl 0 rfl) ?_
    refine lv_iload hx hb dL_law_1059 (lv_at hl 5 rfl) ?_
    refine lv_iconst (v := nI 1) hx hb dL_law_1061 (by decide) ?_
    refine lv_iadd hx hb dL_law_1062 ?_
    refine zi_ (y := nI (i_ + 1)) (nI_add i_ 1) ?_
    refine va_sld hx hb hX hbl hbA hS (i := nI (i_ + 1)) (vp_in_nI (by omega) (by omega)) dL_law_1063 ?_
    refine zi_ (y := xs_ (i_ + 1)) (by rw [nI_clamp (by omega)]) ?_
    refine lv_aload_n hx hb dL_law_1064 rfl (lv_at hl 0 rfl) ?_
    refine lv_iload hx hb dL_law_1065 (lv_at hl 5 rfl) ?_
    refine lv_iconst (v := nI 2) hx hb dL_law_1067 (by decide) ?_
    refine lv_iadd hx hb dL_law_1068 ?_
    refine zi_ (y := nI (i_ + 2)) (nI_add i_ 2) ?_
    refine va_sld hx hb hX hbl hbA hS (i := nI (i_ + 2)) (vp_in_nI (by omega) (by omega)) dL_law_1069 ?_
    refine zi_ (y := xs_ (i_ + 2)) (by rw [nI_clamp (by omega)]) ?_
    refine lv_i2l (v := (xs_ (i_ + 2)).toInt64) hx hb dL_law_1070 rfl ?_
    refine lv_bipush (v := nI 32) hx hb dL_law_1071 (by decide) ?_
    refine lv_lshl (v := (xs_ (i_ + 2)).toInt64 <<< ((nI 32).toInt64 &&& 63)) hx hb dL_law_1073 (rfl) ?_
    refine lv_aload_n hx hb dL_law_1074 rfl (lv_at hl 0 rfl) ?_
    refine lv_iload hx hb dL_law_1075 (lv_at hl 5 rfl) ?_
    refine lv_iconst (v := nI 3) hx hb dL_law_1077 (by decide) ?_
    refine lv_iadd hx hb dL_law_1078 ?_
    refine zi_ (y := nI (i_ + 3)) (nI_add i_ 3) ?_
    refine va_sld hx hb hX hbl hbA hS (i := nI (i_ + 3)) (vp_in_nI (by omega) (by omega)) dL_law_1079 ?_
    refine zi_ (y := xs_ (i_ + 3)) (by rw [nI_clamp (by omega)]) ?_
    refine lv_i2l (v := (xs_ (i_ + 3)).toInt64) hx hb dL_law_1080 rfl ?_
    refine lv_ldc2 (v := 4294967295) hx hb hown (zh (w := .constantLong RL 86 (4294967295)) hts 8 rfl) dL_law_1081 ?_
    refine zl_ (y := lN 4294967295) rfl ?_
    refine lv_land hx hb dL_law_1084 ?_
    refine lv_lor hx hb dL_law_1085 ?_
    refine zl_ (y := mkL (xs_ (i_ + 2)) (xs_ (i_ + 3))) (rfl) ?_
    refine lv_aload_n hx hb dL_law_1086 rfl (lv_at hl 0 rfl) ?_
    refine lv_iload hx hb dL_law_1087 (lv_at hl 5 rfl) ?_
    refine lv_iconst (v := nI 4) hx hb dL_law_1089 (by decide) ?_
    refine lv_iadd hx hb dL_law_1090 ?_
    refine zi_ (y := nI (i_ + 4)) (nI_add i_ 4) ?_
    refine va_sld hx hb hX hbl hbA hS (i := nI (i_ + 4)) (vp_in_nI (by omega) (by omega)) dL_law_1091 ?_
    refine zi_ (y := xs_ (i_ + 4)) (by rw [nI_clamp (by omega)]) ?_
    refine lv_aload_n hx hb dL_law_1092 rfl (lv_at hl 3 rfl) ?_
    refine zc_i (wc := [(o_, .inr (3, [.int (nI n_), .ref ro_, .ref ja_, .ref jb_, .ref sr_, .ref br_, .ref tr_, .ref ch_, .ref lf_, .ref ri_, .int (nI h_), .int (nI sp_)]))]) (wr := [(ro_, .inl (cD, n_, .inr (.inr (.inr (.inl r_))))), (ja_, .inl (cI, 2 * n_ + 1, .inl fa_)), (jb_, .inl (cI, 2 * n_ + 1, .inl fb_)), (sr_, .inr (2, [.ref se_, .long (lN w_), .long (lN (w_ * 2 ^ h_))])), (se_, .inl (cJ, n_, .inr (.inl es_))), (br_, .inr (2, [.ref be_, .long (lN bs_), .long (lN (bs_ * 2 ^ h_))])), (be_, .inl (cJ, n_, .inr (.inl eb_))), (tr_, .inr (2, [.ref te_, .long (lN tl_), .long (lN (tl_ * 2 ^ h_))])), (te_, .inl (cJ, n_, .inr (.inl et_))), (ch_, .inr (1, [.long (lN ca_), .long (lN cb_), .long oc_, .long st_])), (lf_, .inr (0, [.ref ld_, .int wl_])), (ld_, .inl (cJ, 40, .inr (.inl fl_))), (ri_, .inr (0, [.ref rd_, .int wr_])), (rd_, .inl (cJ, 40, .inr (.inl fr_))), (m_, .inr (4, [.int th_, .int (nI n_), .long (lN w_), .int (nI h_), .ref ab_, .ref bb_, .long (lN ca_), .long (lN cb_), .long oc_, .long st_, .int (nI bs_), .int (nI tl_), .int (nI sp_), .ref rr_])), (ab_, .inl (cI, 49, .inl ga_)), (bb_, .inl (cI, 49, .inl gb_)), (rr_, .inl (cI, 152, .inl gr_)), (ou_, .inl (cJ, 1, .inr (.inl fo_))), (od_, .inl (cD, 1, .inr (.inr (.inr (.inl fd_)))))]) hP hD hS hA [0] [1, 2, 3, 4, 5, 6, 7, 8, 9, 10, 11, 12, 13, 14, 15, 16, 17, 18, 19, 20] rfl rfl (by decide) (by decide) (vx_runSW (As := [.ref o_, .int (xs_ (i_ + 1)), .long (mkL (xs_ (i_ + 2)) (xs_ (i_ + 3))), .int (xs_ (i_ + 4)), .ref ou_]) (rest := []) ⟨hx, hb, hml, hown, hts⟩ (ct_L_key_x1 l D cI cJ cD o_ ro_ ja_ jb_ sr_ br_ tr_ ch_ lf_ ri_ (nI n_) (nI h_) (nI sp_) (xs_ (i_ + 1)) (mkL (xs_ (i_ + 2)) (xs_ (i_ + 3))) (xs_ (i_ + 4)) ou_ H.size hl9 g0) (vx_cwSW 5 hts gL_law_L_key rfl rfl rfl (by decide +kernel) ⟨Nat.le_of_ble_eq_true rfl, Nat.le_of_ble_eq_true rfl⟩) (zPreS (wc := [(o_, .inr (3, [.int (nI n_), .ref ro_, .ref ja_, .ref jb_, .ref sr_, .ref br_, .ref tr_, .ref ch_, .ref lf_, .ref ri_, .int (nI h_), .int (nI sp_)]))]) hK (hP.sub [0] rfl) (hD.sub [0] (by decide) rfl) nLaw_calling (fun U hU hW => nLaw_warm hE hS (va_free (wc := [(o_, .inr (3, [.int (nI n_), .ref ro_, .ref ja_, .ref jb_, .ref sr_, .ref br_, .ref tr_, .ref ch_, .ref lf_, .ref ri_, .int (nI h_), .int (nI sp_)]))]) hD hS hA [0] rfl) hU hW)) rfl rfl hl.1 rfl (lv_room (Nat.le_of_ble_eq_true rfl)) dL_law_1093 ⟨by show _ ≤ 644291; omega, by show _ ≤ 7163197; omega⟩) (fun r_1 u9_ H locs hw hP hD hS => ?_)
    have hP : va_P D cl5 [(o_, .inr (3, [.int (nI n_), .ref ro_, .ref ja_, .ref jb_, .ref sr_, .ref br_, .ref tr_, .ref ch_, .ref lf_, .ref ri_, .int (nI h_), .int (nI sp_)])), (ro_, .inl (cD, n_, .inr (.inr (.inr (.inl r_))))), (ja_, .inl (cI, 2 * n_ + 1, .inl fa_)), (jb_, .inl (cI, 2 * n_ + 1, .inl fb_)), (sr_, .inr (2, [.ref se_, .long (lN w_), .long (lN (w_ * 2 ^ h_))])), (se_, .inl (cJ, n_, .inr (.inl es_))), (br_, .inr (2, [.ref be_, .long (lN bs_), .long (lN (bs_ * 2 ^ h_))])), (be_, .inl (cJ, n_, .inr (.inl eb_))), (tr_, .inr (2, [.ref te_, .long (lN tl_), .long (lN (tl_ * 2 ^ h_))])), (te_, .inl (cJ, n_, .inr (.inl et_))), (ch_, .inr (1, [.long (lN ca_), .long (lN cb_), .long oc_, .long st_])), (lf_, .inr (0, [.ref ld_, .int wl_])), (ld_, .inl (cJ, 40, .inr (.inl fl_))), (ri_, .inr (0, [.ref rd_, .int wr_])), (rd_, .inl (cJ, 40, .inr (.inl fr_))), (m_, .inr (4, [.int th_, .int (nI n_), .long (lN w_), .int (nI h_), .ref ab_, .ref bb_, .long (lN ca_), .long (lN cb_), .long oc_, .long st_, .int (nI bs_), .int (nI tl_), .int (nI sp_), .ref rr_])), (ab_, .inl (cI, 49, .inl ga_)), (bb_, .inl (cI, 49, .inl gb_)), (rr_, .inl (cI, 152, .inl gr_)), (ou_, .inl (cJ, 1, .inr (.inl fo_))), (od_, .inl (cD, 1, .inr (.inr (.inr (.inl fd_)))))] H := hP.sub [20, 0, 1, 2, 3, 4, 5, 6, 7, 8, 9, 10, 11, 12, 13, 14, 15, 16, 17, 18, 19] rfl
    have hD : va_D A [(o_, .inr (3, [.int (nI n_), .ref ro_, .ref ja_, .ref jb_, .ref sr_, .ref br_, .ref tr_, .ref ch_, .ref lf_, .ref ri_, .int (nI h_), .int (nI sp_)])), (ro_, .inl (cD, n_, .inr (.inr (.inr (.inl r_))))), (ja_, .inl (cI, 2 * n_ + 1, .inl fa_)), (jb_, .inl (cI, 2 * n_ + 1, .inl fb_)), (sr_, .inr (2, [.ref se_, .long (lN w_), .long (lN (w_ * 2 ^ h_))])), (se_, .inl (cJ, n_, .inr (.inl es_))), (br_, .inr (2, [.ref be_, .long (lN bs_), .long (lN (bs_ * 2 ^ h_))])), (be_, .inl (cJ, n_, .inr (.inl eb_))), (tr_, .inr (2, [.ref te_, .long (lN tl_), .long (lN (tl_ * 2 ^ h_))])), (te_, .inl (cJ, n_, .inr (.inl et_))), (ch_, .inr (1, [.long (lN ca_), .long (lN cb_), .long oc_, .long st_])), (lf_, .inr (0, [.ref ld_, .int wl_])), (ld_, .inl (cJ, 40, .inr (.inl fl_))), (ri_, .inr (0, [.ref rd_, .int wr_])), (rd_, .inl (cJ, 40, .inr (.inl fr_))), (m_, .inr (4, [.int th_, .int (nI n_), .long (lN w_), .int (nI h_), .ref ab_, .ref bb_, .long (lN ca_), .long (lN cb_), .long oc_, .long st_, .int (nI bs_), .int (nI tl_), .int (nI sp_), .ref rr_])), (ab_, .inl (cI, 49, .inl ga_)), (bb_, .inl (cI, 49, .inl gb_)), (rr_, .inl (cI, 152, .inl gr_)), (ou_, .inl (cJ, 1, .inr (.inl fo_))), (od_, .inl (cD, 1, .inr (.inr (.inr (.inl fd_)))))] := hD.sub [20, 0, 1, 2, 3, 4, 5, 6, 7, 8, 9, 10, 11, 12, 13, 14, 15, 16, 17, 18, 19] (by decide) rfl
    have hw : r_1 = nI 1 := hw
    subst hw
    refine W.widen (k := cc_ + 1) (n := ss_ + 6) (Nat.le_refl _) (Nat.le_refl _) ?_
    refine lv_istore (lv' := [(6, .int (nI 1)), (0, .ref b_), (1, .ref o_), (2, .ref m_), (3, .ref ou_), (4, .ref od_), (5, .int (nI i_))]) hx hb dL_law_1096 hl (by decide) rfl (fun ls hl => ?_)
    refine lv_aload_n hx hb dL_law_1098 rfl (lv_at hl 3 rfl) ?_
    refine lv_aload_n hx hb dL_law_1099 rfl (lv_at hl 1 rfl) ?_
    refine lv_iload hx hb dL_law_1100 (lv_at hl 6 rfl) ?_
    refine lv_iconst (v := nI 1) hx hb dL_law_1102 (by decide) ?_
    refine lv_iadd hx hb dL_law_1103 ?_
    refine zi_ (y := nI (i_ + 1)) (nI_add i_ 1) ?_
    refine va_sld hx hb hX hbl hbA hS (i := nI (i_ + 1)) (vp_in_nI (by omega) (by omega)) dL_law_1104 ?_
    refine zi_ (y := xs_ (i_ + 1)) (by rw [nI_clamp (by omega)]) ?_
    refine lv_aload_n hx hb dL_law_1105 rfl (lv_at hl 1 rfl) ?_
    refine lv_iload hx hb dL_law_1106 (lv_at hl 6 rfl) ?_
    refine lv_iconst (v := nI 2) hx hb dL_law_1108 (by decide) ?_
    refine lv_iadd hx hb dL_law_1109 ?_
    refine zi_ (y := nI (i_ + 2)) (nI_add i_ 2) ?_
    refine va_sld hx hb hX hbl hbA hS (i := nI (i_ + 2)) (vp_in_nI (by omega) (by omega)) dL_law_1110 ?_
    refine zi_ (y := xs_ (i_ + 2)) (by rw [nI_clamp (by omega)]) ?_
    refine lv_i2l (v := (xs_ (i_ + 2)).toInt64) hx hb dL_law_1111 rfl ?_
    refine lv_bipush (v := nI 32) hx hb dL_law_1112 (by decide) ?_
    refine lv_lshl (v := (xs_ (i_ + 2)).toInt64 <<< ((nI 32).toInt64 &&& 63)) hx hb dL_law_1114 (rfl) ?_
    refine lv_aload_n hx hb dL_law_1115 rfl (lv_at hl 1 rfl) ?_
    refine lv_iload hx hb dL_law_1116 (lv_at hl 6 rfl) ?_
    refine lv_iconst (v := nI 3) hx hb dL_law_1118 (by decide) ?_
    refine lv_iadd hx hb dL_law_1119 ?_
    refine zi_ (y := nI (i_ + 3)) (nI_add i_ 3) ?_
    refine va_sld hx hb hX hbl hbA hS (i := nI (i_ + 3)) (vp_in_nI (by omega) (by omega)) dL_law_1120 ?_
    refine zi_ (y := xs_ (i_ + 3)) (by rw [nI_clamp (by omega)]) ?_
    refine lv_i2l (v := (xs_ (i_ + 3)).toInt64) hx hb dL_law_1121 rfl ?_
    refine lv_ldc2 (v := 4294967295) hx hb hown (zh (w := .constantLong RL 86 (4294967295)) hts 8 rfl) dL_law_1122 ?_
    refine zl_ (y := lN 4294967295) rfl ?_
    refine lv_land hx hb dL_law_1125 ?_
    refine lv_lor hx hb dL_law_1126 ?_
    refine zl_ (y := mkL (xs_ (i_ + 2)) (xs_ (i_ + 3))) (rfl) ?_
    refine lv_aload_n hx hb dL_law_1127 rfl (lv_at hl 1 rfl) ?_
    refine lv_iload hx hb dL_law_1128 (lv_at hl 6 rfl) ?_
    refine lv_iconst (v := nI 4) hx hb dL_law_1130 (by decide) ?_
    refine lv_iadd hx hb dL_law_1131 ?_
    refine zi_ (y := nI (i_ + 4)) (nI_add i_ 4) ?_
    refine va_sld hx hb hX hbl hbA hS (i := nI (i_ + 4)) (vp_in_nI (by omega) (by omega)) dL_law_1132 ?_
    refine zi_ (y := xs_ (i_ + 4)) (by rw [nI_clamp (by omega)]) ?_
    refine zc_l (wc := [(m_, .inr (4, [.int th_, .int (nI n_), .long (lN w_), .int (nI h_), .ref ab_, .ref bb_, .long (lN ca_), .long (lN cb_), .long oc_, .long st_, .int (nI bs_), .int (nI tl_), .int (nI sp_), .ref rr_]))]) (wr := [(o_, .inr (3, [.int (nI n_), .ref ro_, .ref ja_, .ref jb_, .ref sr_, .ref br_, .ref tr_, .ref ch_, .ref lf_, .ref ri_, .int (nI h_), .int (nI sp_)])), (ro_, .inl (cD, n_, .inr (.inr (.inr (.inl r_))))), (ja_, .inl (cI, 2 * n_ + 1, .inl fa_)), (jb_, .inl (cI, 2 * n_ + 1, .inl fb_)), (sr_, .inr (2, [.ref se_, .long (lN w_), .long (lN (w_ * 2 ^ h_))])), (se_, .inl (cJ, n_, .inr (.inl es_))), (br_, .inr (2, [.ref be_, .long (lN bs_), .long (lN (bs_ * 2 ^ h_))])), (be_, .inl (cJ, n_, .inr (.inl eb_))), (tr_, .inr (2, [.ref te_, .long (lN tl_), .long (lN (tl_ * 2 ^ h_))])), (te_, .inl (cJ, n_, .inr (.inl et_))), (ch_, .inr (1, [.long (lN ca_), .long (lN cb_), .long oc_, .long st_])), (lf_, .inr (0, [.ref ld_, .int wl_])), (ld_, .inl (cJ, 40, .inr (.inl fl_))), (ri_, .inr (0, [.ref rd_, .int wr_])), (rd_, .inl (cJ, 40, .inr (.inl fr_))), (ab_, .inl (cI, 49, .inl ga_)), (bb_, .inl (cI, 49, .inl gb_)), (rr_, .inl (cI, 152, .inl gr_)), (ou_, .inl (cJ, 1, .inr (.inl fo_))), (od_, .inl (cD, 1, .inr (.inr (.inr (.inl fd_)))))]) hP hD hS hA [15] [0, 1, 2, 3, 4, 5, 6, 7, 8, 9, 10, 11, 12, 13, 14, 16, 17, 18, 19, 20] rfl rfl (by decide) (by decide) (va_runV (As := [.int (xs_ (i_ + 1)), .long (mkL (xs_ (i_ + 2)) (xs_ (i_ + 3))), .int (xs_ (i_ + 4))]) (rest := []) ⟨hx, hb, hml, hown, hts⟩ (ct_X4_key l D cI cJ cD m_ ab_ bb_ rr_ th_ (nI n_) (nI h_) (nI bs_) (nI tl_) (nI sp_) (lN w_) (lN ca_) (lN cb_) oc_ st_ (xs_ (i_ + 1)) (mkL (xs_ (i_ + 2)) (xs_ (i_ + 3))) (xs_ (i_ + 4)) H.size ) (cwV 3 hts gL_law_X4_key rfl rfl rfl (by decide +kernel) ⟨Nat.le_of_ble_eq_true rfl, Nat.le_of_ble_eq_true rfl⟩) (zPreV (wc := [(m_, .inr (4, [.int th_, .int (nI n_), .long (lN w_), .int (nI h_), .ref ab_, .ref bb_, .long (lN ca_), .long (lN cb_), .long oc_, .long st_, .int (nI bs_), .int (nI tl_), .int (nI sp_), .ref rr_]))]) hK (hP.sub [15] rfl) (hD.sub [15] (by decide) rfl) 4 0 rfl rfl zTb (fun _ _ _ => trivial)) rfl rfl hl.1 rfl (lv_room (Nat.le_of_ble_eq_true rfl)) dL_law_1133 ⟨by show _ ≤ 644291; omega, by show _ ≤ 7163197; omega⟩) (fun r_2 u9_ H locs hw hP hD hS => ?_)
    obtain ⟨th29, rfl⟩ : ∃ z, z = u9_ := ⟨_, rfl⟩
    have hP : va_P D cl5 [(o_, .inr (3, [.int (nI n_), .ref ro_, .ref ja_, .ref jb_, .ref sr_, .ref br_, .ref tr_, .ref ch_, .ref lf_, .ref ri_, .int (nI h_), .int (nI sp_)])), (ro_, .inl (cD, n_, .inr (.inr (.inr (.inl r_))))), (ja_, .inl (cI, 2 * n_ + 1, .inl fa_)), (jb_, .inl (cI, 2 * n_ + 1, .inl fb_)), (sr_, .inr (2, [.ref se_, .long (lN w_), .long (lN (w_ * 2 ^ h_))])), (se_, .inl (cJ, n_, .inr (.inl es_))), (br_, .inr (2, [.ref be_, .long (lN bs_), .long (lN (bs_ * 2 ^ h_))])), (be_, .inl (cJ, n_, .inr (.inl eb_))), (tr_, .inr (2, [.ref te_, .long (lN tl_), .long (lN (tl_ * 2 ^ h_))])), (te_, .inl (cJ, n_, .inr (.inl et_))), (ch_, .inr (1, [.long (lN ca_), .long (lN cb_), .long oc_, .long st_])), (lf_, .inr (0, [.ref ld_, .int wl_])), (ld_, .inl (cJ, 40, .inr (.inl fl_))), (ri_, .inr (0, [.ref rd_, .int wr_])), (rd_, .inl (cJ, 40, .inr (.inl fr_))), (m_, .inr (4, [.int th29, .int (nI n_), .long (lN w_), .int (nI h_), .ref ab_, .ref bb_, .long (lN ca_), .long (lN cb_), .long oc_, .long st_, .int (nI bs_), .int (nI tl_), .int (nI sp_), .ref rr_])), (ab_, .inl (cI, 49, .inl ga_)), (bb_, .inl (cI, 49, .inl gb_)), (rr_, .inl (cI, 152, .inl gr_)), (ou_, .inl (cJ, 1, .inr (.inl fo_))), (od_, .inl (cD, 1, .inr (.inr (.inr (.inl fd_)))))] H := hP.sub [0, 1, 2, 3, 4, 5, 6, 7, 8, 9, 10, 11, 12, 13, 14, 20, 15, 16, 17, 18, 19] rfl
    have hD : va_D A [(o_, .inr (3, [.int (nI n_), .ref ro_, .ref ja_, .ref jb_, .ref sr_, .ref br_, .ref tr_, .ref ch_, .ref lf_, .ref ri_, .int (nI h_), .int (nI sp_)])), (ro_, .inl (cD, n_, .inr (.inr (.inr (.inl r_))))), (ja_, .inl (cI, 2 * n_ + 1, .inl fa_)), (jb_, .inl (cI, 2 * n_ + 1, .inl fb_)), (sr_, .inr (2, [.ref se_, .long (lN w_), .long (lN (w_ * 2 ^ h_))])), (se_, .inl (cJ, n_, .inr (.inl es_))), (br_, .inr (2, [.ref be_, .long (lN bs_), .long (lN (bs_ * 2 ^ h_))])), (be_, .inl (cJ, n_, .inr (.inl eb_))), (tr_, .inr (2, [.ref te_, .long (lN tl_), .long (lN (tl_ * 2 ^ h_))])), (te_, .inl (cJ, n_, .inr (.inl et_))), (ch_, .inr (1, [.long (lN ca_), .long (lN cb_), .long oc_, .long st_])), (lf_, .inr (0, [.ref ld_, .int wl_])), (ld_, .inl (cJ, 40, .inr (.inl fl_))), (ri_, .inr (0, [.ref rd_, .int wr_])), (rd_, .inl (cJ, 40, .inr (.inl fr_))), (m_, .inr (4, [.int th29, .int (nI n_), .long (lN w_), .int (nI h_), .ref ab_, .ref bb_, .long (lN ca_), .long (lN cb_), .long oc_, .long st_, .int (nI bs_), .int (nI tl_), .int (nI sp_), .ref rr_])), (ab_, .inl (cI, 49, .inl ga_)), (bb_, .inl (cI, 49, .inl gb_)), (rr_, .inl (cI, 152, .inl gr_)), (ou_, .inl (cJ, 1, .inr (.inl fo_))), (od_, .inl (cD, 1, .inr (.inr (.inr (.inl fd_)))))] := hD.sub [0, 1, 2, 3, 4, 5, 6, 7, 8, 9, 10, 11, 12, 13, 14, 20, 15, 16, 17, 18, 19] (by decide) rfl
    have hw : th29 = nI (cdKey (xs_ (i_ + 1)) (mkL (xs_ (i_ + 2)) (xs_ (i_ + 3))) (xs_ (i_ + 4))) ∧ (cdKey (xs_ (i_ + 1)) (mkL (xs_ (i_ + 2)) (xs_ (i_ + 3))) (xs_ (i_ + 4)) = 0 → ∃ kk xx q, (xs_ (i_ + 1)) = nI kk ∧ kk ≤ 11 ∧ (mkL (xs_ (i_ + 2)) (xs_ (i_ + 3))) = lN xx ∧ xx ≤ 1000000 ∧ (xs_ (i_ + 4)) = nI q ∧ q ≤ 3 ∧ r_2 = lN (keyN kk xx q)) := hw
    obtain ⟨ht_1133, hR_1133⟩ := hw
    have hth : th29 = nI 1 := by rw [ht_1133, hcd]
    refine lv_lstore (lv' := [(7, .long r_2), (6, .int (nI 1)), (0, .ref b_), (1, .ref o_), (2, .ref m_), (3, .ref ou_), (4, .ref od_), (5, .int (nI i_))]) hx hb dL_law_1136 hl (by decide) rfl (fun ls hl => ?_)
    refine lv_aload_n hx hb dL_law_1138 rfl (lv_at hl 4 rfl) ?_
    refine zc_i (wc := [(m_, .inr (4, [.int th29, .int (nI n_), .long (lN w_), .int (nI h_), .ref ab_, .ref bb_, .long (lN ca_), .long (lN cb_), .long oc_, .long st_, .int (nI bs_), .int (nI tl_), .int (nI sp_), .ref rr_]))]) (wr := [(o_, .inr (3, [.int (nI n_), .ref ro_, .ref ja_, .ref jb_, .ref sr_, .ref br_, .ref tr_, .ref ch_, .ref lf_, .ref ri_, .int (nI h_), .int (nI sp_)])), (ro_, .inl (cD, n_, .inr (.inr (.inr (.inl r_))))), (ja_, .inl (cI, 2 * n_ + 1, .inl fa_)), (jb_, .inl (cI, 2 * n_ + 1, .inl fb_)), (sr_, .inr (2, [.ref se_, .long (lN w_), .long (lN (w_ * 2 ^ h_))])), (se_, .inl (cJ, n_, .inr (.inl es_))), (br_, .inr (2, [.ref be_, .long (lN bs_), .long (lN (bs_ * 2 ^ h_))])), (be_, .inl (cJ, n_, .inr (.inl eb_))), (tr_, .inr (2, [.ref te_, .long (lN tl_), .long (lN (tl_ * 2 ^ h_))])), (te_, .inl (cJ, n_, .inr (.inl et_))), (ch_, .inr (1, [.long (lN ca_), .long (lN cb_), .long oc_, .long st_])), (lf_, .inr (0, [.ref ld_, .int wl_])), (ld_, .inl (cJ, 40, .inr (.inl fl_))), (ri_, .inr (0, [.ref rd_, .int wr_])), (rd_, .inl (cJ, 40, .inr (.inl fr_))), (ab_, .inl (cI, 49, .inl ga_)), (bb_, .inl (cI, 49, .inl gb_)), (rr_, .inl (cI, 152, .inl gr_)), (ou_, .inl (cJ, 1, .inr (.inl fo_))), (od_, .inl (cD, 1, .inr (.inr (.inr (.inl fd_)))))]) hP hD hS hA [15] [0, 1, 2, 3, 4, 5, 6, 7, 8, 9, 10, 11, 12, 13, 14, 16, 17, 18, 19, 20] rfl rfl (by decide) (by decide) (va_runV (As := []) (rest := []) ⟨hx, hb, hml, hown, hts⟩ (ct_X4_thrown l D cI cJ cD m_ ab_ bb_ rr_ th29 (nI n_) (nI h_) (nI bs_) (nI tl_) (nI sp_) (lN w_) (lN ca_) (lN cb_) oc_ st_ H.size ) (cwV 0 hts gL_law_X4_thrown rfl rfl rfl (by decide +kernel) ⟨Nat.le_of_ble_eq_true rfl, Nat.le_of_ble_eq_true rfl⟩) (zPreV (wc := [(m_, .inr (4, [.int th29, .int (nI n_), .long (lN w_), .int (nI h_), .ref ab_, .ref bb_, .long (lN ca_), .long (lN cb_), .long oc_, .long st_, .int (nI bs_), .int (nI tl_), .int (nI sp_), .ref rr_]))]) hK (hP.sub [15] rfl) (hD.sub [15] (by decide) rfl) 4 0 rfl rfl zTb (fun _ _ _ => trivial)) rfl rfl hl.1 rfl (lv_room (Nat.le_of_ble_eq_true rfl)) dL_law_1139 ⟨by show _ ≤ 644291; omega, by show _ ≤ 7163197; omega⟩) (fun r_3 u9_ H locs hw hP hD hS => ?_)
    have hP : va_P D cl5 [(o_, .inr (3, [.int (nI n_), .ref ro_, .ref ja_, .ref jb_, .ref sr_, .ref br_, .ref tr_, .ref ch_, .ref lf_, .ref ri_, .int (nI h_), .int (nI sp_)])), (ro_, .inl (cD, n_, .inr (.inr (.inr (.inl r_))))), (ja_, .inl (cI, 2 * n_ + 1, .inl fa_)), (jb_, .inl (cI, 2 * n_ + 1, .inl fb_)), (sr_, .inr (2, [.ref se_, .long (lN w_), .long (lN (w_ * 2 ^ h_))])), (se_, .inl (cJ, n_, .inr (.inl es_))), (br_, .inr (2, [.ref be_, .long (lN bs_), .long (lN (bs_ * 2 ^ h_))])), (be_, .inl (cJ, n_, .inr (.inl eb_))), (tr_, .inr (2, [.ref te_, .long (lN tl_), .long (lN (tl_ * 2 ^ h_))])), (te_, .inl (cJ, n_, .inr (.inl et_))), (ch_, .inr (1, [.long (lN ca_), .long (lN cb_), .long oc_, .long st_])), (lf_, .inr (0, [.ref ld_, .int wl_])), (ld_, .inl (cJ, 40, .inr (.inl fl_))), (ri_, .inr (0, [.ref rd_, .int wr_])), (rd_, .inl (cJ, 40, .inr (.inl fr_))), (m_, .inr (4, [.int th29, .int (nI n_), .long (lN w_), .int (nI h_), .ref ab_, .ref bb_, .long (lN ca_), .long (lN cb_), .long oc_, .long st_, .int (nI bs_), .int (nI tl_), .int (nI sp_), .ref rr_])), (ab_, .inl (cI, 49, .inl ga_)), (bb_, .inl (cI, 49, .inl gb_)), (rr_, .inl (cI, 152, .inl gr_)), (ou_, .inl (cJ, 1, .inr (.inl fo_))), (od_, .inl (cD, 1, .inr (.inr (.inr (.inl fd_)))))] H := hP.sub [0, 1, 2, 3, 4, 5, 6, 7, 8, 9, 10, 11, 12, 13, 14, 20, 15, 16, 17, 18, 19] rfl
    have hD : va_D A [(o_, .inr (3, [.int (nI n_), .ref ro_, .ref ja_, .ref jb_, .ref sr_, .ref br_, .ref tr_, .ref ch_, .ref lf_, .ref ri_, .int (nI h_), .int (nI sp_)])), (ro_, .inl (cD, n_, .inr (.inr (.inr (.inl r_))))), (ja_, .inl (cI, 2 * n_ + 1, .inl fa_)), (jb_, .inl (cI, 2 * n_ + 1, .inl fb_)), (sr_, .inr (2, [.ref se_, .long (lN w_), .long (lN (w_ * 2 ^ h_))])), (se_, .inl (cJ, n_, .inr (.inl es_))), (br_, .inr (2, [.ref be_, .long (lN bs_), .long (lN (bs_ * 2 ^ h_))])), (be_, .inl (cJ, n_, .inr (.inl eb_))), (tr_, .inr (2, [.ref te_, .long (lN tl_), .long (lN (tl_ * 2 ^ h_))])), (te_, .inl (cJ, n_, .inr (.inl et_))), (ch_, .inr (1, [.long (lN ca_), .long (lN cb_), .long oc_, .long st_])), (lf_, .inr (0, [.ref ld_, .int wl_])), (ld_, .inl (cJ, 40, .inr (.inl fl_))), (ri_, .inr (0, [.ref rd_, .int wr_])), (rd_, .inl (cJ, 40, .inr (.inl fr_))), (m_, .inr (4, [.int th29, .int (nI n_), .long (lN w_), .int (nI h_), .ref ab_, .ref bb_, .long (lN ca_), .long (lN cb_), .long oc_, .long st_, .int (nI bs_), .int (nI tl_), .int (nI sp_), .ref rr_])), (ab_, .inl (cI, 49, .inl ga_)), (bb_, .inl (cI, 49, .inl gb_)), (rr_, .inl (cI, 152, .inl gr_)), (ou_, .inl (cJ, 1, .inr (.inl fo_))), (od_, .inl (cD, 1, .inr (.inr (.inr (.inl fd_)))))] := hD.sub [0, 1, 2, 3, 4, 5, 6, 7, 8, 9, 10, 11, 12, 13, 14, 20, 15, 16, 17, 18, 19] (by decide) rfl
    have hw : r_3 = th29 := hw
    subst r_3
    refine zi_ (y := nI 1) (hth) ?_
    refine lv_iload hx hb dL_law_1142 (lv_at hl 1 rfl) ?_
    refine lv_icmp_eq (tgt := 1149) hx hb dL_law_1144 (by decide) (fun c_1144 => ?_) (fun c_1144 => ?_)
    · skip
      have c_1144 := zji_eq (a := 1) (b := 1) (by omega) (by omega) c_1144
      refine lv_iload hx hb dL_law_1149 (lv_at hl 1 rfl) ?_
      refine lv_if_ne (tgt := 1165) hx hb dL_law_1151 (by decide) (fun c_1151 => ?_) (fun c_1151 => ?_)
      · skip
        have c_1151 := zji_ne (a := 1) (b := 0) (by omega) (by omega) c_1151
        refine lv_goto (tgt := 1436) hx hb dL_law_1165 (by decide) ?_
        exact nx h_ w_ bs_ tl_ sp_ ca_ cb_ oc_ st_ th29 wl_ wr_ es_ eb_ et_ fl_ fr_ fo_ fa_ fb_ ga_ gb_ gr_ xa_ xb_ fd_ _ _ _ _ ⟨iw1, iw2, ih, ib1, ib2, it1, it2, is1, is2, ice, icb, ict, ija, ijb, iga, igb, ich⟩ hd hP hD hS (lv_sub hl [2, 3, 4, 5, 6, 7] rfl)
      · skip
        exact absurd c_1151 (by decide)
    · skip
      exact absurd c_1144 (by decide)
  · skip
    obtain ⟨pp, epp, hpp⟩ := pr_ok (by decide) g0
    by_cases g1 : prI (xs_ (i_ + 1)) 11 = 0
    · skip
      have hcd : cdKey (xs_ (i_ + 1)) (mkL (xs_ (i_ + 2)) (xs_ (i_ + 3))) (xs_ (i_ + 4)) = 1 := by unfold cdKey; (repeat' split) <;> first | rfl | omega
      refine lv_aload_n hx hb dL_law_1057 rfl (lv_at hl 1 rfl) ?_
      refine lv_aload_n hx hb dL_law_1058 rfl (lv_at hl 0 rfl) ?_
      refine lv_iload hx hb dL_law_1059 (lv_at hl 5 rfl) ?_
      refine lv_iconst (v := nI 1) hx hb dL_law_1061 (by decide) ?_
      refine lv_iadd hx hb dL_law_1062 ?_
      refine zi_ (y := nI (i_ + 1)) (nI_add i_ 1) ?_
      refine va_sld hx hb hX hbl hbA hS (i := nI (i_ + 1)) (vp_in_nI (by omega) (by omega)) dL_law_1063 ?_
      refine zi_ (y := xs_ (i_ + 1)) (by rw [nI_clamp (by omega)]) ?_
      refine lv_aload_n hx hb dL_law_1064 rfl (lv_at hl 0 rfl) ?_
      refine lv_iload hx hb dL_law_1065 (lv_at hl 5 rfl) ?_
      refine lv_iconst (v := nI 2) hx hb dL_law_1067 (by decide) ?_
      refine lv_iadd hx hb dL_law_1068 ?_
      refine zi_ (y := nI (i_ + 2)) (nI_add i_ 2) ?_
      refine va_sld hx hb hX hbl hbA hS (i := nI (i_ + 2)) (vp_in_nI (by omega) (by omega)) dL_law_1069 ?_
      refine zi_ (y := xs_ (i_ + 2)) (by rw [nI_clamp (by omega)]) ?_
      refine lv_i2l (v := (xs_ (i_ + 2)).toInt64) hx hb dL_law_1070 rfl ?_
      refine lv_bipush (v := nI 32) hx hb dL_law_1071 (by decide) ?_
      refine lv_lshl (v := (xs_ (i_ + 2)).toInt64 <<< ((nI 32).toInt64 &&& 63)) hx hb dL_law_1073 (rfl) ?_
      refine lv_aload_n hx hb dL_law_1074 rfl (lv_at hl 0 rfl) ?_
      refine lv_iload hx hb dL_law_1075 (lv_at hl 5 rfl) ?_
      refine lv_iconst (v := nI 3) hx hb dL_law_1077 (by decide) ?_
      refine lv_iadd hx hb dL_law_1078 ?_
      refine zi_ (y := nI (i_ + 3)) (nI_add i_ 3) ?_
      refine va_sld hx hb hX hbl hbA hS (i := nI (i_ + 3)) (vp_in_nI (by omega) (by omega)) dL_law_1079 ?_
      refine zi_ (y := xs_ (i_ + 3)) (by rw [nI_clamp (by omega)]) ?_
      refine lv_i2l (v := (xs_ (i_ + 3)).toInt64) hx hb dL_law_1080 rfl ?_
      refine lv_ldc2 (v := 4294967295) hx hb hown (zh (w := .constantLong RL 86 (4294967295)) hts 8 rfl) dL_law_1081 ?_
      refine zl_ (y := lN 4294967295) rfl ?_
      refine lv_land hx hb dL_law_1084 ?_
      refine lv_lor hx hb dL_law_1085 ?_
      refine zl_ (y := mkL (xs_ (i_ + 2)) (xs_ (i_ + 3))) (rfl) ?_
      refine lv_aload_n hx hb dL_law_1086 rfl (lv_at hl 0 rfl) ?_
      refine lv_iload hx hb dL_law_1087 (lv_at hl 5 rfl) ?_
      refine lv_iconst (v := nI 4) hx hb dL_law_1089 (by decide) ?_
      refine lv_iadd hx hb dL_law_1090 ?_
      refine zi_ (y := nI (i_ + 4)) (nI_add i_ 4) ?_
      refine va_sld hx hb hX hbl hbA hS (i := nI (i_ + 4)) (vp_in_nI (by omega) (by omega)) dL_law_1091 ?_
      refine zi_ (y := xs_ (i_ + 4)) (by rw [nI_clamp (by omega)]) ?_
      refine zi_ (y := nI pp) (epp) ?_
      refine lv_aload_n hx hb dL_law_1092 rfl (lv_at hl 3 rfl) ?_
      refine zc_i (wc := [(o_, .inr (3, [.int (nI n_), .ref ro_, .ref ja_, .ref jb_, .ref sr_, .ref br_, .ref tr_, .ref ch_, .ref lf_, .ref ri_, .int (nI h_), .int (nI sp_)]))]) (wr := [(ro_, .inl (cD, n_, .inr (.inr (.inr (.inl r_))))), (ja_, .inl (cI, 2 * n_ + 1, .inl fa_)), (jb_, .inl (cI, 2 * n_ + 1, .inl fb_)), (sr_, .inr (2, [.ref se_, .long (lN w_), .long (lN (w_ * 2 ^ h_))])), (se_, .inl (cJ, n_, .inr (.inl es_))), (br_, .inr (2, [.ref be_, .long (lN bs_), .long (lN (bs_ * 2 ^ h_))])), (be_, .inl (cJ, n_, .inr (.inl eb_))), (tr_, .inr (2, [.ref te_, .long (lN tl_), .long (lN (tl_ * 2 ^ h_))])), (te_, .inl (cJ, n_, .inr (.inl et_))), (ch_, .inr (1, [.long (lN ca_), .long (lN cb_), .long oc_, .long st_])), (lf_, .inr (0, [.ref ld_, .int wl_])), (ld_, .inl (cJ, 40, .inr (.inl fl_))), (ri_, .inr (0, [.ref rd_, .int wr_])), (rd_, .inl (cJ, 40, .inr (.inl fr_))), (m_, .inr (4, [.int th_, .int (nI n_), .long (lN w_), .int (nI h_), .ref ab_, .ref bb_, .long (lN ca_), .long (lN cb_), .long oc_, .long st_, .int (nI bs_), .int (nI tl_), .int (nI sp_), .ref rr_])), (ab_, .inl (cI, 49, .inl ga_)), (bb_, .inl (cI, 49, .inl gb_)), (rr_, .inl (cI, 152, .inl gr_)), (ou_, .inl (cJ, 1, .inr (.inl fo_))), (od_, .inl (cD, 1, .inr (.inr (.inr (.inl fd_)))))]) hP hD hS hA [0] [1, 2, 3, 4, 5, 6, 7, 8, 9, 10, 11, 12, 13, 14, 15, 16, 17, 18, 19, 20] rfl rfl (by decide) (by decide) (vx_runSW (As := [.ref o_, .int (xs_ (i_ + 1)), .long (mkL (xs_ (i_ + 2)) (xs_ (i_ + 3))), .int (nI pp), .ref ou_]) (rest := []) ⟨hx, hb, hml, hown, hts⟩ (ct_L_key_x2 l D cI cJ cD o_ ro_ ja_ jb_ sr_ br_ tr_ ch_ lf_ ri_ (nI n_) (nI h_) (nI sp_) (xs_ (i_ + 1)) (mkL (xs_ (i_ + 2)) (xs_ (i_ + 3))) pp ou_ H.size hl9 (by omega) g1) (vx_cwSW 5 hts gL_law_L_key rfl rfl rfl (by decide +kernel) ⟨Nat.le_of_ble_eq_true rfl, Nat.le_of_ble_eq_true rfl⟩) (zPreS (wc := [(o_, .inr (3, [.int (nI n_), .ref ro_, .ref ja_, .ref jb_, .ref sr_, .ref br_, .ref tr_, .ref ch_, .ref lf_, .ref ri_, .int (nI h_), .int (nI sp_)]))]) hK (hP.sub [0] rfl) (hD.sub [0] (by decide) rfl) nLaw_calling (fun U hU hW => nLaw_warm hE hS (va_free (wc := [(o_, .inr (3, [.int (nI n_), .ref ro_, .ref ja_, .ref jb_, .ref sr_, .ref br_, .ref tr_, .ref ch_, .ref lf_, .ref ri_, .int (nI h_), .int (nI sp_)]))]) hD hS hA [0] rfl) hU hW)) rfl rfl hl.1 rfl (lv_room (Nat.le_of_ble_eq_true rfl)) dL_law_1093 ⟨by show _ ≤ 644291; omega, by show _ ≤ 7163197; omega⟩) (fun r_4 u9_ H locs hw hP hD hS => ?_)
      have hP : va_P D cl5 [(o_, .inr (3, [.int (nI n_), .ref ro_, .ref ja_, .ref jb_, .ref sr_, .ref br_, .ref tr_, .ref ch_, .ref lf_, .ref ri_, .int (nI h_), .int (nI sp_)])), (ro_, .inl (cD, n_, .inr (.inr (.inr (.inl r_))))), (ja_, .inl (cI, 2 * n_ + 1, .inl fa_)), (jb_, .inl (cI, 2 * n_ + 1, .inl fb_)), (sr_, .inr (2, [.ref se_, .long (lN w_), .long (lN (w_ * 2 ^ h_))])), (se_, .inl (cJ, n_, .inr (.inl es_))), (br_, .inr (2, [.ref be_, .long (lN bs_), .long (lN (bs_ * 2 ^ h_))])), (be_, .inl (cJ, n_, .inr (.inl eb_))), (tr_, .inr (2, [.ref te_, .long (lN tl_), .long (lN (tl_ * 2 ^ h_))])), (te_, .inl (cJ, n_, .inr (.inl et_))), (ch_, .inr (1, [.long (lN ca_), .long (lN cb_), .long oc_, .long st_])), (lf_, .inr (0, [.ref ld_, .int wl_])), (ld_, .inl (cJ, 40, .inr (.inl fl_))), (ri_, .inr (0, [.ref rd_, .int wr_])), (rd_, .inl (cJ, 40, .inr (.inl fr_))), (m_, .inr (4, [.int th_, .int (nI n_), .long (lN w_), .int (nI h_), .ref ab_, .ref bb_, .long (lN ca_), .long (lN cb_), .long oc_, .long st_, .int (nI bs_), .int (nI tl_), .int (nI sp_), .ref rr_])), (ab_, .inl (cI, 49, .inl ga_)), (bb_, .inl (cI, 49, .inl gb_)), (rr_, .inl (cI, 152, .inl gr_)), (ou_, .inl (cJ, 1, .inr (.inl fo_))), (od_, .inl (cD, 1, .inr (.inr (.inr (.inl fd_)))))] H := hP.sub [20, 0, 1, 2, 3, 4, 5, 6, 7, 8, 9, 10, 11, 12, 13, 14, 15, 16, 17, 18, 19] rfl
      have hD : va_D A [(o_, .inr (3, [.int (nI n_), .ref ro_, .ref ja_, .ref jb_, .ref sr_, .ref br_, .ref tr_, .ref ch_, .ref lf_, .ref ri_, .int (nI h_), .int (nI sp_)])), (ro_, .inl (cD, n_, .inr (.inr (.inr (.inl r_))))), (ja_, .inl (cI, 2 * n_ + 1, .inl fa_)), (jb_, .inl (cI, 2 * n_ + 1, .inl fb_)), (sr_, .inr (2, [.ref se_, .long (lN w_), .long (lN (w_ * 2 ^ h_))])), (se_, .inl (cJ, n_, .inr (.inl es_))), (br_, .inr (2, [.ref be_, .long (lN bs_), .long (lN (bs_ * 2 ^ h_))])), (be_, .inl (cJ, n_, .inr (.inl eb_))), (tr_, .inr (2, [.ref te_, .long (lN tl_), .long (lN (tl_ * 2 ^ h_))])), (te_, .inl (cJ, n_, .inr (.inl et_))), (ch_, .inr (1, [.long (lN ca_), .long (lN cb_), .long oc_, .long st_])), (lf_, .inr (0, [.ref ld_, .int wl_])), (ld_, .inl (cJ, 40, .inr (.inl fl_))), (ri_, .inr (0, [.ref rd_, .int wr_])), (rd_, .inl (cJ, 40, .inr (.inl fr_))), (m_, .inr (4, [.int th_, .int (nI n_), .long (lN w_), .int (nI h_), .ref ab_, .ref bb_, .long (lN ca_), .long (lN cb_), .long oc_, .long st_, .int (nI bs_), .int (nI tl_), .int (nI sp_), .ref rr_])), (ab_, .inl (cI, 49, .inl ga_)), (bb_, .inl (cI, 49, .inl gb_)), (rr_, .inl (cI, 152, .inl gr_)), (ou_, .inl (cJ, 1, .inr (.inl fo_))), (od_, .inl (cD, 1, .inr (.inr (.inr (.inl fd_)))))] := hD.sub [20, 0, 1, 2, 3, 4, 5, 6, 7, 8, 9, 10, 11, 12, 13, 14, 15, 16, 17, 18, 19] (by decide) rfl
      have hw : r_4 = nI 1 := hw
      subst hw
      refine W.widen (k := cc_ + 1) (n := ss_ + 6) (Nat.le_refl _) (Nat.le_refl _) ?_
      refine lv_istore (lv' := [(6, .int (nI 1)), (0, .ref b_), (1, .ref o_), (2, .ref m_), (3, .ref ou_), (4, .ref od_), (5, .int (nI i_))]) hx hb dL_law_1096 hl (by decide) rfl (fun ls hl => ?_)
      refine lv_aload_n hx hb dL_law_1098 rfl (lv_at hl 3 rfl) ?_
      refine lv_aload_n hx hb dL_law_1099 rfl (lv_at hl 1 rfl) ?_
      refine lv_iload hx hb dL_law_1100 (lv_at hl 6 rfl) ?_
      refine lv_iconst (v := nI 1) hx hb dL_law_1102 (by decide) ?_
      refine lv_iadd hx hb dL_law_1103 ?_
      refine zi_ (y := nI (i_ + 1)) (nI_add i_ 1) ?_
      refine va_sld hx hb hX hbl hbA hS (i := nI (i_ + 1)) (vp_in_nI (by omega) (by omega)) dL_law_1104 ?_
      refine zi_ (y := xs_ (i_ + 1)) (by rw [nI_clamp (by omega)]) ?_
      refine lv_aload_n hx hb dL_law_1105 rfl (lv_at hl 1 rfl) ?_
      refine lv_iload hx hb dL_law_1106 (lv_at hl 6 rfl) ?_
      refine lv_iconst (v := nI 2) hx hb dL_law_1108 (by decide) ?_
      refine lv_iadd hx hb dL_law_1109 ?_
      refine zi_ (y := nI (i_ + 2)) (nI_add i_ 2) ?_
      refine va_sld hx hb hX hbl hbA hS (i := nI (i_ + 2)) (vp_in_nI (by omega) (by omega)) dL_law_1110 ?_
      refine zi_ (y := xs_ (i_ + 2)) (by rw [nI_clamp (by omega)]) ?_
      refine lv_i2l (v := (xs_ (i_ + 2)).toInt64) hx hb dL_law_1111 rfl ?_
      refine lv_bipush (v := nI 32) hx hb dL_law_1112 (by decide) ?_
      refine lv_lshl (v := (xs_ (i_ + 2)).toInt64 <<< ((nI 32).toInt64 &&& 63)) hx hb dL_law_1114 (rfl) ?_
      refine lv_aload_n hx hb dL_law_1115 rfl (lv_at hl 1 rfl) ?_
      refine lv_iload hx hb dL_law_1116 (lv_at hl 6 rfl) ?_
      refine lv_iconst (v := nI 3) hx hb dL_law_1118 (by decide) ?_
      refine lv_iadd hx hb dL_law_1119 ?_
      refine zi_ (y := nI (i_ + 3)) (nI_add i_ 3) ?_
      refine va_sld hx hb hX hbl hbA hS (i := nI (i_ + 3)) (vp_in_nI (by omega) (by omega)) dL_law_1120 ?_
      refine zi_ (y := xs_ (i_ + 3)) (by rw [nI_clamp (by omega)]) ?_
      refine lv_i2l (v := (xs_ (i_ + 3)).toInt64) hx hb dL_law_1121 rfl ?_
      refine lv_ldc2 (v := 4294967295) hx hb hown (zh (w := .constantLong RL 86 (4294967295)) hts 8 rfl) dL_law_1122 ?_
      refine zl_ (y := lN 4294967295) rfl ?_
      refine lv_land hx hb dL_law_1125 ?_
      refine lv_lor hx hb dL_law_1126 ?_
      refine zl_ (y := mkL (xs_ (i_ + 2)) (xs_ (i_ + 3))) (rfl) ?_
      refine lv_aload_n hx hb dL_law_1127 rfl (lv_at hl 1 rfl) ?_
      refine lv_iload hx hb dL_law_1128 (lv_at hl 6 rfl) ?_
      refine lv_iconst (v := nI 4) hx hb dL_law_1130 (by decide) ?_
      refine lv_iadd hx hb dL_law_1131 ?_
      refine zi_ (y := nI (i_ + 4)) (nI_add i_ 4) ?_
      refine va_sld hx hb hX hbl hbA hS (i := nI (i_ + 4)) (vp_in_nI (by omega) (by omega)) dL_law_1132 ?_
      refine zi_ (y := xs_ (i_ + 4)) (by rw [nI_clamp (by omega)]) ?_
      refine zc_l (wc := [(m_, .inr (4, [.int th_, .int (nI n_), .long (lN w_), .int (nI h_), .ref ab_, .ref bb_, .long (lN ca_), .long (lN cb_), .long oc_, .long st_, .int (nI bs_), .int (nI tl_), .int (nI sp_), .ref rr_]))]) (wr := [(o_, .inr (3, [.int (nI n_), .ref ro_, .ref ja_, .ref jb_, .ref sr_, .ref br_, .ref tr_, .ref ch_, .ref lf_, .ref ri_, .int (nI h_), .int (nI sp_)])), (ro_, .inl (cD, n_, .inr (.inr (.inr (.inl r_))))), (ja_, .inl (cI, 2 * n_ + 1, .inl fa_)), (jb_, .inl (cI, 2 * n_ + 1, .inl fb_)), (sr_, .inr (2, [.ref se_, .long (lN w_), .long (lN (w_ * 2 ^ h_))])), (se_, .inl (cJ, n_, .inr (.inl es_))), (br_, .inr (2, [.ref be_, .long (lN bs_), .long (lN (bs_ * 2 ^ h_))])), (be_, .inl (cJ, n_, .inr (.inl eb_))), (tr_, .inr (2, [.ref te_, .long (lN tl_), .long (lN (tl_ * 2 ^ h_))])), (te_, .inl (cJ, n_, .inr (.inl et_))), (ch_, .inr (1, [.long (lN ca_), .long (lN cb_), .long oc_, .long st_])), (lf_, .inr (0, [.ref ld_, .int wl_])), (ld_, .inl (cJ, 40, .inr (.inl fl_))), (ri_, .inr (0, [.ref rd_, .int wr_])), (rd_, .inl (cJ, 40, .inr (.inl fr_))), (ab_, .inl (cI, 49, .inl ga_)), (bb_, .inl (cI, 49, .inl gb_)), (rr_, .inl (cI, 152, .inl gr_)), (ou_, .inl (cJ, 1, .inr (.inl fo_))), (od_, .inl (cD, 1, .inr (.inr (.inr (.inl fd_)))))]) hP hD hS hA [15] [0, 1, 2, 3, 4, 5, 6, 7, 8, 9, 10, 11, 12, 13, 14, 16, 17, 18, 19, 20] rfl rfl (by decide) (by decide) (va_runV (As := [.int (xs_ (i_ + 1)), .long (mkL (xs_ (i_ + 2)) (xs_ (i_ + 3))), .int (xs_ (i_ + 4))]) (rest := []) ⟨hx, hb, hml, hown, hts⟩ (ct_X4_key l D cI cJ cD m_ ab_ bb_ rr_ th_ (nI n_) (nI h_) (nI bs_) (nI tl_) (nI sp_) (lN w_) (lN ca_) (lN cb_) oc_ st_ (xs_ (i_ + 1)) (mkL (xs_ (i_ + 2)) (xs_ (i_ + 3))) (xs_ (i_ + 4)) H.size ) (cwV 3 hts gL_law_X4_key rfl rfl rfl (by decide +kernel) ⟨Nat.le_of_ble_eq_true rfl, Nat.le_of_ble_eq_true rfl⟩) (zPreV (wc := [(m_, .inr (4, [.int th_, .int (nI n_), .long (lN w_), .int (nI h_), .ref ab_, .ref bb_, .long (lN ca_), .long (lN cb_), .long oc_, .long st_, .int (nI bs_), .int (nI tl_), .int (nI sp_), .ref rr_]))]) hK (hP.sub [15] rfl) (hD.sub [15] (by decide) rfl) 4 0 rfl rfl zTb (fun _ _ _ => trivial)) rfl rfl hl.1 rfl (lv_room (Nat.le_of_ble_eq_true rfl)) dL_law_1133 ⟨by show _ ≤ 644291; omega, by show _ ≤ 7163197; omega⟩) (fun r_5 u9_ H locs hw hP hD hS => ?_)
      obtain ⟨th29, rfl⟩ : ∃ z, z = u9_ := ⟨_, rfl⟩
      have hP : va_P D cl5 [(o_, .inr (3, [.int (nI n_), .ref ro_, .ref ja_, .ref jb_, .ref sr_, .ref br_, .ref tr_, .ref ch_, .ref lf_, .ref ri_, .int (nI h_), .int (nI sp_)])), (ro_, .inl (cD, n_, .inr (.inr (.inr (.inl r_))))), (ja_, .inl (cI, 2 * n_ + 1, .inl fa_)), (jb_, .inl (cI, 2 * n_ + 1, .inl fb_)), (sr_, .inr (2, [.ref se_, .long (lN w_), .long (lN (w_ * 2 ^ h_))])), (se_, .inl (cJ, n_, .inr (.inl es_))), (br_, .inr (2, [.ref be_, .long (lN bs_), .long (lN (bs_ * 2 ^ h_))])), (be_, .inl (cJ, n_, .inr (.inl eb_))), (tr_, .inr (2, [.ref te_, .long (lN tl_), .long (lN (tl_ * 2 ^ h_))])), (te_, .inl (cJ, n_, .inr (.inl et_))), (ch_, .inr (1, [.long (lN ca_), .long (lN cb_), .long oc_, .long st_])), (lf_, .inr (0, [.ref ld_, .int wl_])), (ld_, .inl (cJ, 40, .inr (.inl fl_))), (ri_, .inr (0, [.ref rd_, .int wr_])), (rd_, .inl (cJ, 40, .inr (.inl fr_))), (m_, .inr (4, [.int th29, .int (nI n_), .long (lN w_), .int (nI h_), .ref ab_, .ref bb_, .long (lN ca_), .long (lN cb_), .long oc_, .long st_, .int (nI bs_), .int (nI tl_), .int (nI sp_), .ref rr_])), (ab_, .inl (cI, 49, .inl ga_)), (bb_, .inl (cI, 49, .inl gb_)), (rr_, .inl (cI, 152, .inl gr_)), (ou_, .inl (cJ, 1, .inr (.inl fo_))), (od_, .inl (cD, 1, .inr (.inr (.inr (.inl fd_)))))] H := hP.sub [0, 1, 2, 3, 4, 5, 6, 7, 8, 9, 10, 11, 12, 13, 14, 20, 15, 16, 17, 18, 19] rfl
      have hD : va_D A [(o_, .inr (3, [.int (nI n_), .ref ro_, .ref ja_, .ref jb_, .ref sr_, .ref br_, .ref tr_, .ref ch_, .ref lf_, .ref ri_, .int (nI h_), .int (nI sp_)])), (ro_, .inl (cD, n_, .inr (.inr (.inr (.inl r_))))), (ja_, .inl (cI, 2 * n_ + 1, .inl fa_)), (jb_, .inl (cI, 2 * n_ + 1, .inl fb_)), (sr_, .inr (2, [.ref se_, .long (lN w_), .long (lN (w_ * 2 ^ h_))])), (se_, .inl (cJ, n_, .inr (.inl es_))), (br_, .inr (2, [.ref be_, .long (lN bs_), .long (lN (bs_ * 2 ^ h_))])), (be_, .inl (cJ, n_, .inr (.inl eb_))), (tr_, .inr (2, [.ref te_, .long (lN tl_), .long (lN (tl_ * 2 ^ h_))])), (te_, .inl (cJ, n_, .inr (.inl et_))), (ch_, .inr (1, [.long (lN ca_), .long (lN cb_), .long oc_, .long st_])), (lf_, .inr (0, [.ref ld_, .int wl_])), (ld_, .inl (cJ, 40, .inr (.inl fl_))), (ri_, .inr (0, [.ref rd_, .int wr_])), (rd_, .inl (cJ, 40, .inr (.inl fr_))), (m_, .inr (4, [.int th29, .int (nI n_), .long (lN w_), .int (nI h_), .ref ab_, .ref bb_, .long (lN ca_), .long (lN cb_), .long oc_, .long st_, .int (nI bs_), .int (nI tl_), .int (nI sp_), .ref rr_])), (ab_, .inl (cI, 49, .inl ga_)), (bb_, .inl (cI, 49, .inl gb_)), (rr_, .inl (cI, 152, .inl gr_)), (ou_, .inl (cJ, 1, .inr (.inl fo_))), (od_, .inl (cD, 1, .inr (.inr (.inr (.inl fd_)))))] := hD.sub [0, 1, 2, 3, 4, 5, 6, 7, 8, 9, 10, 11, 12, 13, 14, 20, 15, 16, 17, 18, 19] (by decide) rfl
      have hw : th29 = nI (cdKey (xs_ (i_ + 1)) (mkL (xs_ (i_ + 2)) (xs_ (i_ + 3))) (xs_ (i_ + 4))) ∧ (cdKey (xs_ (i_ + 1)) (mkL (xs_ (i_ + 2)) (xs_ (i_ + 3))) (xs_ (i_ + 4)) = 0 → ∃ kk xx q, (xs_ (i_ + 1)) = nI kk ∧ kk ≤ 11 ∧ (mkL (xs_ (i_ + 2)) (xs_ (i_ + 3))) = lN xx ∧ xx ≤ 1000000 ∧ (xs_ (i_ + 4)) = nI q ∧ q ≤ 3 ∧ r_5 = lN (keyN kk xx q)) := hw
      obtain ⟨ht_1133, hR_1133⟩ := hw
      have hth : th29 = nI 1 := by rw [ht_1133, hcd]
      refine lv_lstore (lv' := [(7, .long r_5), (6, .int (nI 1)), (0, .ref b_), (1, .ref o_), (2, .ref m_), (3, .ref ou_), (4, .ref od_), (5, .int (nI i_))]) hx hb dL_law_1136 hl (by decide) rfl (fun ls hl => ?_)
      refine lv_aload_n hx hb dL_law_1138 rfl (lv_at hl 4 rfl) ?_
      refine zc_i (wc := [(m_, .inr (4, [.int th29, .int (nI n_), .long (lN w_), .int (nI h_), .ref ab_, .ref bb_, .long (lN ca_), .long (lN cb_), .long oc_, .long st_, .int (nI bs_), .int (nI tl_), .int (nI sp_), .ref rr_]))]) (wr := [(o_, .inr (3, [.int (nI n_), .ref ro_, .ref ja_, .ref jb_, .ref sr_, .ref br_, .ref tr_, .ref ch_, .ref lf_, .ref ri_, .int (nI h_), .int (nI sp_)])), (ro_, .inl (cD, n_, .inr (.inr (.inr (.inl r_))))), (ja_, .inl (cI, 2 * n_ + 1, .inl fa_)), (jb_, .inl (cI, 2 * n_ + 1, .inl fb_)), (sr_, .inr (2, [.ref se_, .long (lN w_), .long (lN (w_ * 2 ^ h_))])), (se_, .inl (cJ, n_, .inr (.inl es_))), (br_, .inr (2, [.ref be_, .long (lN bs_), .long (lN (bs_ * 2 ^ h_))])), (be_, .inl (cJ, n_, .inr (.inl eb_))), (tr_, .inr (2, [.ref te_, .long (lN tl_), .long (lN (tl_ * 2 ^ h_))])), (te_, .inl (cJ, n_, .inr (.inl et_))), (ch_, .inr (1, [.long (lN ca_), .long (lN cb_), .long oc_, .long st_])), (lf_, .inr (0, [.ref ld_, .int wl_])), (ld_, .inl (cJ, 40, .inr (.inl fl_))), (ri_, .inr (0, [.ref rd_, .int wr_])), (rd_, .inl (cJ, 40, .inr (.inl fr_))), (ab_, .inl (cI, 49, .inl ga_)), (bb_, .inl (cI, 49, .inl gb_)), (rr_, .inl (cI, 152, .inl gr_)), (ou_, .inl (cJ, 1, .inr (.inl fo_))), (od_, .inl (cD, 1, .inr (.inr (.inr (.inl fd_)))))]) hP hD hS hA [15] [0, 1, 2, 3, 4, 5, 6, 7, 8, 9, 10, 11, 12, 13, 14, 16, 17, 18, 19, 20] rfl rfl (by decide) (by decide) (va_runV (As := []) (rest := []) ⟨hx, hb, hml, hown, hts⟩ (ct_X4_thrown l D cI cJ cD m_ ab_ bb_ rr_ th29 (nI n_) (nI h_) (nI bs_) (nI tl_) (nI sp_) (lN w_) (lN ca_) (lN cb_) oc_ st_ H.size ) (cwV 0 hts gL_law_X4_thrown rfl rfl rfl (by decide +kernel) ⟨Nat.le_of_ble_eq_true rfl, Nat.le_of_ble_eq_true rfl⟩) (zPreV (wc := [(m_, .inr (4, [.int th29, .int (nI n_), .long (lN w_), .int (nI h_), .ref ab_, .ref bb_, .long (lN ca_), .long (lN cb_), .long oc_, .long st_, .int (nI bs_), .int (nI tl_), .int (nI sp_), .ref rr_]))]) hK (hP.sub [15] rfl) (hD.sub [15] (by decide) rfl) 4 0 rfl rfl zTb (fun _ _ _ => trivial)) rfl rfl hl.1 rfl (lv_room (Nat.le_of_ble_eq_true rfl)) dL_law_1139 ⟨by show _ ≤ 644291; omega, by show _ ≤ 7163197; omega⟩) (fun r_6 u9_ H locs hw hP hD hS => ?_)
      have hP : va_P D cl5 [(o_, .inr (3, [.int (nI n_), .ref ro_, .ref ja_, .ref jb_, .ref sr_, .ref br_, .ref tr_, .ref ch_, .ref lf_, .ref ri_, .int (nI h_), .int (nI sp_)])), (ro_, .inl (cD, n_, .inr (.inr (.inr (.inl r_))))), (ja_, .inl (cI, 2 * n_ + 1, .inl fa_)), (jb_, .inl (cI, 2 * n_ + 1, .inl fb_)), (sr_, .inr (2, [.ref se_, .long (lN w_), .long (lN (w_ * 2 ^ h_))])), (se_, .inl (cJ, n_, .inr (.inl es_))), (br_, .inr (2, [.ref be_, .long (lN bs_), .long (lN (bs_ * 2 ^ h_))])), (be_, .inl (cJ, n_, .inr (.inl eb_))), (tr_, .inr (2, [.ref te_, .long (lN tl_), .long (lN (tl_ * 2 ^ h_))])), (te_, .inl (cJ, n_, .inr (.inl et_))), (ch_, .inr (1, [.long (lN ca_), .long (lN cb_), .long oc_, .long st_])), (lf_, .inr (0, [.ref ld_, .int wl_])), (ld_, .inl (cJ, 40, .inr (.inl fl_))), (ri_, .inr (0, [.ref rd_, .int wr_])), (rd_, .inl (cJ, 40, .inr (.inl fr_))), (m_, .inr (4, [.int th29, .int (nI n_), .long (lN w_), .int (nI h_), .ref ab_, .ref bb_, .long (lN ca_), .long (lN cb_), .long oc_, .long st_, .int (nI bs_), .int (nI tl_), .int (nI sp_), .ref rr_])), (ab_, .inl (cI, 49, .inl ga_)), (bb_, .inl (cI, 49, .inl gb_)), (rr_, .inl (cI, 152, .inl gr_)), (ou_, .inl (cJ, 1, .inr (.inl fo_))), (od_, .inl (cD, 1, .inr (.inr (.inr (.inl fd_)))))] H := hP.sub [0, 1, 2, 3, 4, 5, 6, 7, 8, 9, 10, 11, 12, 13, 14, 20, 15, 16, 17, 18, 19] rfl
      have hD : va_D A [(o_, .inr (3, [.int (nI n_), .ref ro_, .ref ja_, .ref jb_, .ref sr_, .ref br_, .ref tr_, .ref ch_, .ref lf_, .ref ri_, .int (nI h_), .int (nI sp_)])), (ro_, .inl (cD, n_, .inr (.inr (.inr (.inl r_))))), (ja_, .inl (cI, 2 * n_ + 1, .inl fa_)), (jb_, .inl (cI, 2 * n_ + 1, .inl fb_)), (sr_, .inr (2, [.ref se_, .long (lN w_), .long (lN (w_ * 2 ^ h_))])), (se_, .inl (cJ, n_, .inr (.inl es_))), (br_, .inr (2, [.ref be_, .long (lN bs_), .long (lN (bs_ * 2 ^ h_))])), (be_, .inl (cJ, n_, .inr (.inl eb_))), (tr_, .inr (2, [.ref te_, .long (lN tl_), .long (lN (tl_ * 2 ^ h_))])), (te_, .inl (cJ, n_, .inr (.inl et_))), (ch_, .inr (1, [.long (lN ca_), .long (lN cb_), .long oc_, .long st_])), (lf_, .inr (0, [.ref ld_, .int wl_])), (ld_, .inl (cJ, 40, .inr (.inl fl_))), (ri_, .inr (0, [.ref rd_, .int wr_])), (rd_, .inl (cJ, 40, .inr (.inl fr_))), (m_, .inr (4, [.int th29, .int (nI n_), .long (lN w_), .int (nI h_), .ref ab_, .ref bb_, .long (lN ca_), .long (lN cb_), .long oc_, .long st_, .int (nI bs_), .int (nI tl_), .int (nI sp_), .ref rr_])), (ab_, .inl (cI, 49, .inl ga_)), (bb_, .inl (cI, 49, .inl gb_)), (rr_, .inl (cI, 152, .inl gr_)), (ou_, .inl (cJ, 1, .inr (.inl fo_))), (od_, .inl (cD, 1, .inr (.inr (.inr (.inl fd_)))))] := hD.sub [0, 1, 2, 3, 4, 5, 6, 7, 8, 9, 10, 11, 12, 13, 14, 20, 15, 16, 17, 18, 19] (by decide) rfl
      have hw : r_6 = th29 := hw
      subst r_6
      refine zi_ (y := nI 1) (hth) ?_
      refine lv_iload hx hb dL_law_1142 (lv_at hl 1 rfl) ?_
      refine lv_icmp_eq (tgt := 1149) hx hb dL_law_1144 (by decide) (fun c_1144 => ?_) (fun c_1144 => ?_)
      · skip
        have c_1144 := zji_eq (a := 1) (b := 1) (by omega) (by omega) c_1144
        refine lv_iload hx hb dL_law_1149 (lv_at hl 1 rfl) ?_
        refine lv_if_ne (tgt := 1165) hx hb dL_law_1151 (by decide) (fun c_1151 => ?_) (fun c_1151 => ?_)
        · skip
          have c_1151 := zji_ne (a := 1) (b := 0) (by omega) (by omega) c_1151
          refine lv_goto (tgt := 1436) hx hb dL_law_1165 (by decide) ?_
          exact nx h_ w_ bs_ tl_ sp_ ca_ cb_ oc_ st_ th29 wl_ wr_ es_ eb_ et_ fl_ fr_ fo_ fa_ fb_ ga_ gb_ gr_ xa_ xb_ fd_ _ _ _ _ ⟨iw1, iw2, ih, ib1, ib2, it1, it2, is1, is2, ice, icb, ict, ija, ijb, iga, igb, ich⟩ hd hP hD hS (lv_sub hl [2, 3, 4, 5, 6, 7] rfl)
        · skip
          exact absurd c_1151 (by decide)
      · skip
        exact absurd c_1144 (by decide)
    · skip
      obtain ⟨kk, ekk, hk⟩ := pr_ok (by decide) g1
      by_cases g2 : inL (mkL (xs_ (i_ + 2)) (xs_ (i_ + 3))) = 0
      · skip
        have hcd : cdKey (xs_ (i_ + 1)) (mkL (xs_ (i_ + 2)) (xs_ (i_ + 3))) (xs_ (i_ + 4)) = 2 := by unfold cdKey; (repeat' split) <;> first | rfl | omega
        refine lv_aload_n hx hb dL_law_1057 rfl (lv_at hl 1 rfl) ?_
        refine lv_aload_n hx hb dL_law_1058 rfl (lv_at hl 0 rfl) ?_
        refine lv_iload hx hb dL_law_1059 (lv_at hl 5 rfl) ?_
        refine lv_iconst (v := nI 1) hx hb dL_law_1061 (by decide) ?_
        refine lv_iadd hx hb dL_law_1062 ?_
        refine zi_ (y := nI (i_ + 1)) (nI_add i_ 1) ?_
        refine va_sld hx hb hX hbl hbA hS (i := nI (i_ + 1)) (vp_in_nI (by omega) (by omega)) dL_law_1063 ?_
        refine zi_ (y := xs_ (i_ + 1)) (by rw [nI_clamp (by omega)]) ?_
        refine zi_ (y := nI kk) (ekk) ?_
        refine lv_aload_n hx hb dL_law_1064 rfl (lv_at hl 0 rfl) ?_
        refine lv_iload hx hb dL_law_1065 (lv_at hl 5 rfl) ?_
        refine lv_iconst (v := nI 2) hx hb dL_law_1067 (by decide) ?_
        refine lv_iadd hx hb dL_law_1068 ?_
        refine zi_ (y := nI (i_ + 2)) (nI_add i_ 2) ?_
        refine va_sld hx hb hX hbl hbA hS (i := nI (i_ + 2)) (vp_in_nI (by omega) (by omega)) dL_law_1069 ?_
        refine zi_ (y := xs_ (i_ + 2)) (by rw [nI_clamp (by omega)]) ?_
        refine lv_i2l (v := (xs_ (i_ + 2)).toInt64) hx hb dL_law_1070 rfl ?_
        refine lv_bipush (v := nI 32) hx hb dL_law_1071 (by decide) ?_
        refine lv_lshl (v := (xs_ (i_ + 2)).toInt64 <<< ((nI 32).toInt64 &&& 63)) hx hb dL_law_1073 (rfl) ?_
        refine lv_aload_n hx hb dL_law_1074 rfl (lv_at hl 0 rfl) ?_
        refine lv_iload hx hb dL_law_1075 (lv_at hl 5 rfl) ?_
        refine lv_iconst (v := nI 3) hx hb dL_law_1077 (by decide) ?_
        refine lv_iadd hx hb dL_law_1078 ?_
        refine zi_ (y := nI (i_ + 3)) (nI_add i_ 3) ?_
        refine va_sld hx hb hX hbl hbA hS (i := nI (i_ + 3)) (vp_in_nI (by omega) (by omega)) dL_law_1079 ?_
        refine zi_ (y := xs_ (i_ + 3)) (by rw [nI_clamp (by omega)]) ?_
        refine lv_i2l (v := (xs_ (i_ + 3)).toInt64) hx hb dL_law_1080 rfl ?_
        refine lv_ldc2 (v := 4294967295) hx hb hown (zh (w := .constantLong RL 86 (4294967295)) hts 8 rfl) dL_law_1081 ?_
        refine zl_ (y := lN 4294967295) rfl ?_
        refine lv_land hx hb dL_law_1084 ?_
        refine lv_lor hx hb dL_law_1085 ?_
        refine zl_ (y := mkL (xs_ (i_ + 2)) (xs_ (i_ + 3))) (rfl) ?_
        refine lv_aload_n hx hb dL_law_1086 rfl (lv_at hl 0 rfl) ?_
        refine lv_iload hx hb dL_law_1087 (lv_at hl 5 rfl) ?_
        refine lv_iconst (v := nI 4) hx hb dL_law_1089 (by decide) ?_
        refine lv_iadd hx hb dL_law_1090 ?_
        refine zi_ (y := nI (i_ + 4)) (nI_add i_ 4) ?_
        refine va_sld hx hb hX hbl hbA hS (i := nI (i_ + 4)) (vp_in_nI (by omega) (by omega)) dL_law_1091 ?_
        refine zi_ (y := xs_ (i_ + 4)) (by rw [nI_clamp (by omega)]) ?_
        refine zi_ (y := nI pp) (epp) ?_
        refine lv_aload_n hx hb dL_law_1092 rfl (lv_at hl 3 rfl) ?_
        refine zc_i (wc := [(o_, .inr (3, [.int (nI n_), .ref ro_, .ref ja_, .ref jb_, .ref sr_, .ref br_, .ref tr_, .ref ch_, .ref lf_, .ref ri_, .int (nI h_), .int (nI sp_)]))]) (wr := [(ro_, .inl (cD, n_, .inr (.inr (.inr (.inl r_))))), (ja_, .inl (cI, 2 * n_ + 1, .inl fa_)), (jb_, .inl (cI, 2 * n_ + 1, .inl fb_)), (sr_, .inr (2, [.ref se_, .long (lN w_), .long (lN (w_ * 2 ^ h_))])), (se_, .inl (cJ, n_, .inr (.inl es_))), (br_, .inr (2, [.ref be_, .long (lN bs_), .long (lN (bs_ * 2 ^ h_))])), (be_, .inl (cJ, n_, .inr (.inl eb_))), (tr_, .inr (2, [.ref te_, .long (lN tl_), .long (lN (tl_ * 2 ^ h_))])), (te_, .inl (cJ, n_, .inr (.inl et_))), (ch_, .inr (1, [.long (lN ca_), .long (lN cb_), .long oc_, .long st_])), (lf_, .inr (0, [.ref ld_, .int wl_])), (ld_, .inl (cJ, 40, .inr (.inl fl_))), (ri_, .inr (0, [.ref rd_, .int wr_])), (rd_, .inl (cJ, 40, .inr (.inl fr_))), (m_, .inr (4, [.int th_, .int (nI n_), .long (lN w_), .int (nI h_), .ref ab_, .ref bb_, .long (lN ca_), .long (lN cb_), .long oc_, .long st_, .int (nI bs_), .int (nI tl_), .int (nI sp_), .ref rr_])), (ab_, .inl (cI, 49, .inl ga_)), (bb_, .inl (cI, 49, .inl gb_)), (rr_, .inl (cI, 152, .inl gr_)), (ou_, .inl (cJ, 1, .inr (.inl fo_))), (od_, .inl (cD, 1, .inr (.inr (.inr (.inl fd_)))))]) hP hD hS hA [0] [1, 2, 3, 4, 5, 6, 7, 8, 9, 10, 11, 12, 13, 14, 15, 16, 17, 18, 19, 20] rfl rfl (by decide) (by decide) (vx_runSW (As := [.ref o_, .int (nI kk), .long (mkL (xs_ (i_ + 2)) (xs_ (i_ + 3))), .int (nI pp), .ref ou_]) (rest := []) ⟨hx, hb, hml, hown, hts⟩ (ct_L_key_x3 l D cI cJ cD o_ ro_ ja_ jb_ sr_ br_ tr_ ch_ lf_ ri_ (nI n_) (nI h_) (nI sp_) kk (mkL (xs_ (i_ + 2)) (xs_ (i_ + 3))) pp ou_ H.size hl9 hk (by omega) g2) (vx_cwSW 5 hts gL_law_L_key rfl rfl rfl (by decide +kernel) ⟨Nat.le_of_ble_eq_true rfl, Nat.le_of_ble_eq_true rfl⟩) (zPreS (wc := [(o_, .inr (3, [.int (nI n_), .ref ro_, .ref ja_, .ref jb_, .ref sr_, .ref br_, .ref tr_, .ref ch_, .ref lf_, .ref ri_, .int (nI h_), .int (nI sp_)]))]) hK (hP.sub [0] rfl) (hD.sub [0] (by decide) rfl) nLaw_calling (fun U hU hW => nLaw_warm hE hS (va_free (wc := [(o_, .inr (3, [.int (nI n_), .ref ro_, .ref ja_, .ref jb_, .ref sr_, .ref br_, .ref tr_, .ref ch_, .ref lf_, .ref ri_, .int (nI h_), .int (nI sp_)]))]) hD hS hA [0] rfl) hU hW)) rfl rfl hl.1 rfl (lv_room (Nat.le_of_ble_eq_true rfl)) dL_law_1093 ⟨by show _ ≤ 644291; omega, by show _ ≤ 7163197; omega⟩) (fun r_7 u9_ H locs hw hP hD hS => ?_)
        have hP : va_P D cl5 [(o_, .inr (3, [.int (nI n_), .ref ro_, .ref ja_, .ref jb_, .ref sr_, .ref br_, .ref tr_, .ref ch_, .ref lf_, .ref ri_, .int (nI h_), .int (nI sp_)])), (ro_, .inl (cD, n_, .inr (.inr (.inr (.inl r_))))), (ja_, .inl (cI, 2 * n_ + 1, .inl fa_)), (jb_, .inl (cI, 2 * n_ + 1, .inl fb_)), (sr_, .inr (2, [.ref se_, .long (lN w_), .long (lN (w_ * 2 ^ h_))])), (se_, .inl (cJ, n_, .inr (.inl es_))), (br_, .inr (2, [.ref be_, .long (lN bs_), .long (lN (bs_ * 2 ^ h_))])), (be_, .inl (cJ, n_, .inr (.inl eb_))), (tr_, .inr (2, [.ref te_, .long (lN tl_), .long (lN (tl_ * 2 ^ h_))])), (te_, .inl (cJ, n_, .inr (.inl et_))), (ch_, .inr (1, [.long (lN ca_), .long (lN cb_), .long oc_, .long st_])), (lf_, .inr (0, [.ref ld_, .int wl_])), (ld_, .inl (cJ, 40, .inr (.inl fl_))), (ri_, .inr (0, [.ref rd_, .int wr_])), (rd_, .inl (cJ, 40, .inr (.inl fr_))), (m_, .inr (4, [.int th_, .int (nI n_), .long (lN w_), .int (nI h_), .ref ab_, .ref bb_, .long (lN ca_), .long (lN cb_), .long oc_, .long st_, .int (nI bs_), .int (nI tl_), .int (nI sp_), .ref rr_])), (ab_, .inl (cI, 49, .inl ga_)), (bb_, .inl (cI, 49, .inl gb_)), (rr_, .inl (cI, 152, .inl gr_)), (ou_, .inl (cJ, 1, .inr (.inl fo_))), (od_, .inl (cD, 1, .inr (.inr (.inr (.inl fd_)))))] H := hP.sub [20, 0, 1, 2, 3, 4, 5, 6, 7, 8, 9, 10, 11, 12, 13, 14, 15, 16, 17, 18, 19] rfl
        have hD : va_D A [(o_, .inr (3, [.int (nI n_), .ref ro_, .ref ja_, .ref jb_, .ref sr_, .ref br_, .ref tr_, .ref ch_, .ref lf_, .ref ri_, .int (nI h_), .int (nI sp_)])), (ro_, .inl (cD, n_, .inr (.inr (.inr (.inl r_))))), (ja_, .inl (cI, 2 * n_ + 1, .inl fa_)), (jb_, .inl (cI, 2 * n_ + 1, .inl fb_)), (sr_, .inr (2, [.ref se_, .long (lN w_), .long (lN (w_ * 2 ^ h_))])), (se_, .inl (cJ, n_, .inr (.inl es_))), (br_, .inr (2, [.ref be_, .long (lN bs_), .long (lN (bs_ * 2 ^ h_))])), (be_, .inl (cJ, n_, .inr (.inl eb_))), (tr_, .inr (2, [.ref te_, .long (lN tl_), .long (lN (tl_ * 2 ^ h_))])), (te_, .inl (cJ, n_, .inr (.inl et_))), (ch_, .inr (1, [.long (lN ca_), .long (lN cb_), .long oc_, .long st_])), (lf_, .inr (0, [.ref ld_, .int wl_])), (ld_, .inl (cJ, 40, .inr (.inl fl_))), (ri_, .inr (0, [.ref rd_, .int wr_])), (rd_, .inl (cJ, 40, .inr (.inl fr_))), (m_, .inr (4, [.int th_, .int (nI n_), .long (lN w_), .int (nI h_), .ref ab_, .ref bb_, .long (lN ca_), .long (lN cb_), .long oc_, .long st_, .int (nI bs_), .int (nI tl_), .int (nI sp_), .ref rr_])), (ab_, .inl (cI, 49, .inl ga_)), (bb_, .inl (cI, 49, .inl gb_)), (rr_, .inl (cI, 152, .inl gr_)), (ou_, .inl (cJ, 1, .inr (.inl fo_))), (od_, .inl (cD, 1, .inr (.inr (.inr (.inl fd_)))))] := hD.sub [20, 0, 1, 2, 3, 4, 5, 6, 7, 8, 9, 10, 11, 12, 13, 14, 15, 16, 17, 18, 19] (by decide) rfl
        have hw : r_7 = nI 2 := hw
        subst hw
        refine W.widen (k := cc_ + 1) (n := ss_ + 6) (Nat.le_refl _) (Nat.le_refl _) ?_
        refine lv_istore (lv' := [(6, .int (nI 2)), (0, .ref b_), (1, .ref o_), (2, .ref m_), (3, .ref ou_), (4, .ref od_), (5, .int (nI i_))]) hx hb dL_law_1096 hl (by decide) rfl (fun ls hl => ?_)
        refine lv_aload_n hx hb dL_law_1098 rfl (lv_at hl 3 rfl) ?_
        refine lv_aload_n hx hb dL_law_1099 rfl (lv_at hl 1 rfl) ?_
        refine lv_iload hx hb dL_law_1100 (lv_at hl 6 rfl) ?_
        refine lv_iconst (v := nI 1) hx hb dL_law_1102 (by decide) ?_
        refine lv_iadd hx hb dL_law_1103 ?_
        refine zi_ (y := nI (i_ + 1)) (nI_add i_ 1) ?_
        refine va_sld hx hb hX hbl hbA hS (i := nI (i_ + 1)) (vp_in_nI (by omega) (by omega)) dL_law_1104 ?_
        refine zi_ (y := xs_ (i_ + 1)) (by rw [nI_clamp (by omega)]) ?_
        refine lv_aload_n hx hb dL_law_1105 rfl (lv_at hl 1 rfl) ?_
        refine lv_iload hx hb dL_law_1106 (lv_at hl 6 rfl) ?_
        refine lv_iconst (v := nI 2) hx hb dL_law_1108 (by decide) ?_
        refine lv_iadd hx hb dL_law_1109 ?_
        refine zi_ (y := nI (i_ + 2)) (nI_add i_ 2) ?_
        refine va_sld hx hb hX hbl hbA hS (i := nI (i_ + 2)) (vp_in_nI (by omega) (by omega)) dL_law_1110 ?_
        refine zi_ (y := xs_ (i_ + 2)) (by rw [nI_clamp (by omega)]) ?_
        refine lv_i2l (v := (xs_ (i_ + 2)).toInt64) hx hb dL_law_1111 rfl ?_
        refine lv_bipush (v := nI 32) hx hb dL_law_1112 (by decide) ?_
        refine lv_lshl (v := (xs_ (i_ + 2)).toInt64 <<< ((nI 32).toInt64 &&& 63)) hx hb dL_law_1114 (rfl) ?_
        refine lv_aload_n hx hb dL_law_1115 rfl (lv_at hl 1 rfl) ?_
        refine lv_iload hx hb dL_law_1116 (lv_at hl 6 rfl) ?_
        refine lv_iconst (v := nI 3) hx hb dL_law_1118 (by decide) ?_
        refine lv_iadd hx hb dL_law_1119 ?_
        refine zi_ (y := nI (i_ + 3)) (nI_add i_ 3) ?_
        refine va_sld hx hb hX hbl hbA hS (i := nI (i_ + 3)) (vp_in_nI (by omega) (by omega)) dL_law_1120 ?_
        refine zi_ (y := xs_ (i_ + 3)) (by rw [nI_clamp (by omega)]) ?_
        refine lv_i2l (v := (xs_ (i_ + 3)).toInt64) hx hb dL_law_1121 rfl ?_
        refine lv_ldc2 (v := 4294967295) hx hb hown (zh (w := .constantLong RL 86 (4294967295)) hts 8 rfl) dL_law_1122 ?_
        refine zl_ (y := lN 4294967295) rfl ?_
        refine lv_land hx hb dL_law_1125 ?_
        refine lv_lor hx hb dL_law_1126 ?_
        refine zl_ (y := mkL (xs_ (i_ + 2)) (xs_ (i_ + 3))) (rfl) ?_
        refine lv_aload_n hx hb dL_law_1127 rfl (lv_at hl 1 rfl) ?_
        refine lv_iload hx hb dL_law_1128 (lv_at hl 6 rfl) ?_
        refine lv_iconst (v := nI 4) hx hb dL_law_1130 (by decide) ?_
        refine lv_iadd hx hb dL_law_1131 ?_
        refine zi_ (y := nI (i_ + 4)) (nI_add i_ 4) ?_
        refine va_sld hx hb hX hbl hbA hS (i := nI (i_ + 4)) (vp_in_nI (by omega) (by omega)) dL_law_1132 ?_
        refine zi_ (y := xs_ (i_ + 4)) (by rw [nI_clamp (by omega)]) ?_
        refine zc_l (wc := [(m_, .inr (4, [.int th_, .int (nI n_), .long (lN w_), .int (nI h_), .ref ab_, .ref bb_, .long (lN ca_), .long (lN cb_), .long oc_, .long st_, .int (nI bs_), .int (nI tl_), .int (nI sp_), .ref rr_]))]) (wr := [(o_, .inr (3, [.int (nI n_), .ref ro_, .ref ja_, .ref jb_, .ref sr_, .ref br_, .ref tr_, .ref ch_, .ref lf_, .ref ri_, .int (nI h_), .int (nI sp_)])), (ro_, .inl (cD, n_, .inr (.inr (.inr (.inl r_))))), (ja_, .inl (cI, 2 * n_ + 1, .inl fa_)), (jb_, .inl (cI, 2 * n_ + 1, .inl fb_)), (sr_, .inr (2, [.ref se_, .long (lN w_), .long (lN (w_ * 2 ^ h_))])), (se_, .inl (cJ, n_, .inr (.inl es_))), (br_, .inr (2, [.ref be_, .long (lN bs_), .long (lN (bs_ * 2 ^ h_))])), (be_, .inl (cJ, n_, .inr (.inl eb_))), (tr_, .inr (2, [.ref te_, .long (lN tl_), .long (lN (tl_ * 2 ^ h_))])), (te_, .inl (cJ, n_, .inr (.inl et_))), (ch_, .inr (1, [.long (lN ca_), .long (lN cb_), .long oc_, .long st_])), (lf_, .inr (0, [.ref ld_, .int wl_])), (ld_, .inl (cJ, 40, .inr (.inl fl_))), (ri_, .inr (0, [.ref rd_, .int wr_])), (rd_, .inl (cJ, 40, .inr (.inl fr_))), (ab_, .inl (cI, 49, .inl ga_)), (bb_, .inl (cI, 49, .inl gb_)), (rr_, .inl (cI, 152, .inl gr_)), (ou_, .inl (cJ, 1, .inr (.inl fo_))), (od_, .inl (cD, 1, .inr (.inr (.inr (.inl fd_)))))]) hP hD hS hA [15] [0, 1, 2, 3, 4, 5, 6, 7, 8, 9, 10, 11, 12, 13, 14, 16, 17, 18, 19, 20] rfl rfl (by decide) (by decide) (va_runV (As := [.int (xs_ (i_ + 1)), .long (mkL (xs_ (i_ + 2)) (xs_ (i_ + 3))), .int (xs_ (i_ + 4))]) (rest := []) ⟨hx, hb, hml, hown, hts⟩ (ct_X4_key l D cI cJ cD m_ ab_ bb_ rr_ th_ (nI n_) (nI h_) (nI bs_) (nI tl_) (nI sp_) (lN w_) (lN ca_) (lN cb_) oc_ st_ (xs_ (i_ + 1)) (mkL (xs_ (i_ + 2)) (xs_ (i_ + 3))) (xs_ (i_ + 4)) H.size ) (cwV 3 hts gL_law_X4_key rfl rfl rfl (by decide +kernel) ⟨Nat.le_of_ble_eq_true rfl, Nat.le_of_ble_eq_true rfl⟩) (zPreV (wc := [(m_, .inr (4, [.int th_, .int (nI n_), .long (lN w_), .int (nI h_), .ref ab_, .ref bb_, .long (lN ca_), .long (lN cb_), .long oc_, .long st_, .int (nI bs_), .int (nI tl_), .int (nI sp_), .ref rr_]))]) hK (hP.sub [15] rfl) (hD.sub [15] (by decide) rfl) 4 0 rfl rfl zTb (fun _ _ _ => trivial)) rfl rfl hl.1 rfl (lv_room (Nat.le_of_ble_eq_true rfl)) dL_law_1133 ⟨by show _ ≤ 644291; omega, by show _ ≤ 7163197; omega⟩) (fun r_8 u9_ H locs hw hP hD hS => ?_)
        obtain ⟨th29, rfl⟩ : ∃ z, z = u9_ := ⟨_, rfl⟩
        have hP : va_P D cl5 [(o_, .inr (3, [.int (nI n_), .ref ro_, .ref ja_, .ref jb_, .ref sr_, .ref br_, .ref tr_, .ref ch_, .ref lf_, .ref ri_, .int (nI h_), .int (nI sp_)])), (ro_, .inl (cD, n_, .inr (.inr (.inr (.inl r_))))), (ja_, .inl (cI, 2 * n_ + 1, .inl fa_)), (jb_, .inl (cI, 2 * n_ + 1, .inl fb_)), (sr_, .inr (2, [.ref se_, .long (lN w_), .long (lN (w_ * 2 ^ h_))])), (se_, .inl (cJ, n_, .inr (.inl es_))), (br_, .inr (2, [.ref be_, .long (lN bs_), .long (lN (bs_ * 2 ^ h_))])), (be_, .inl (cJ, n_, .inr (.inl eb_))), (tr_, .inr (2, [.ref te_, .long (lN tl_), .long (lN (tl_ * 2 ^ h_))])), (te_, .inl (cJ, n_, .inr (.inl et_))), (ch_, .inr (1, [.long (lN ca_), .long (lN cb_), .long oc_, .long st_])), (lf_, .inr (0, [.ref ld_, .int wl_])), (ld_, .inl (cJ, 40, .inr (.inl fl_))), (ri_, .inr (0, [.ref rd_, .int wr_])), (rd_, .inl (cJ, 40, .inr (.inl fr_))), (m_, .inr (4, [.int th29, .int (nI n_), .long (lN w_), .int (nI h_), .ref ab_, .ref bb_, .long (lN ca_), .long (lN cb_), .long oc_, .long st_, .int (nI bs_), .int (nI tl_), .int (nI sp_), .ref rr_])), (ab_, .inl (cI, 49, .inl ga_)), (bb_, .inl (cI, 49, .inl gb_)), (rr_, .inl (cI, 152, .inl gr_)), (ou_, .inl (cJ, 1, .inr (.inl fo_))), (od_, .inl (cD, 1, .inr (.inr (.inr (.inl fd_)))))] H := hP.sub [0, 1, 2, 3, 4, 5, 6, 7, 8, 9, 10, 11, 12, 13, 14, 20, 15, 16, 17, 18, 19] rfl
        have hD : va_D A [(o_, .inr (3, [.int (nI n_), .ref ro_, .ref ja_, .ref jb_, .ref sr_, .ref br_, .ref tr_, .ref ch_, .ref lf_, .ref ri_, .int (nI h_), .int (nI sp_)])), (ro_, .inl (cD, n_, .inr (.inr (.inr (.inl r_))))), (ja_, .inl (cI, 2 * n_ + 1, .inl fa_)), (jb_, .inl (cI, 2 * n_ + 1, .inl fb_)), (sr_, .inr (2, [.ref se_, .long (lN w_), .long (lN (w_ * 2 ^ h_))])), (se_, .inl (cJ, n_, .inr (.inl es_))), (br_, .inr (2, [.ref be_, .long (lN bs_), .long (lN (bs_ * 2 ^ h_))])), (be_, .inl (cJ, n_, .inr (.inl eb_))), (tr_, .inr (2, [.ref te_, .long (lN tl_), .long (lN (tl_ * 2 ^ h_))])), (te_, .inl (cJ, n_, .inr (.inl et_))), (ch_, .inr (1, [.long (lN ca_), .long (lN cb_), .long oc_, .long st_])), (lf_, .inr (0, [.ref ld_, .int wl_])), (ld_, .inl (cJ, 40, .inr (.inl fl_))), (ri_, .inr (0, [.ref rd_, .int wr_])), (rd_, .inl (cJ, 40, .inr (.inl fr_))), (m_, .inr (4, [.int th29, .int (nI n_), .long (lN w_), .int (nI h_), .ref ab_, .ref bb_, .long (lN ca_), .long (lN cb_), .long oc_, .long st_, .int (nI bs_), .int (nI tl_), .int (nI sp_), .ref rr_])), (ab_, .inl (cI, 49, .inl ga_)), (bb_, .inl (cI, 49, .inl gb_)), (rr_, .inl (cI, 152, .inl gr_)), (ou_, .inl (cJ, 1, .inr (.inl fo_))), (od_, .inl (cD, 1, .inr (.inr (.inr (.inl fd_)))))] := hD.sub [0, 1, 2, 3, 4, 5, 6, 7, 8, 9, 10, 11, 12, 13, 14, 20, 15, 16, 17, 18, 19] (by decide) rfl
        have hw : th29 = nI (cdKey (xs_ (i_ + 1)) (mkL (xs_ (i_ + 2)) (xs_ (i_ + 3))) (xs_ (i_ + 4))) ∧ (cdKey (xs_ (i_ + 1)) (mkL (xs_ (i_ + 2)) (xs_ (i_ + 3))) (xs_ (i_ + 4)) = 0 → ∃ kk xx q, (xs_ (i_ + 1)) = nI kk ∧ kk ≤ 11 ∧ (mkL (xs_ (i_ + 2)) (xs_ (i_ + 3))) = lN xx ∧ xx ≤ 1000000 ∧ (xs_ (i_ + 4)) = nI q ∧ q ≤ 3 ∧ r_8 = lN (keyN kk xx q)) := hw
        obtain ⟨ht_1133, hR_1133⟩ := hw
        have hth : th29 = nI 2 := by rw [ht_1133, hcd]
        refine lv_lstore (lv' := [(7, .long r_8), (6, .int (nI 2)), (0, .ref b_), (1, .ref o_), (2, .ref m_), (3, .ref ou_), (4, .ref od_), (5, .int (nI i_))]) hx hb dL_law_1136 hl (by decide) rfl (fun ls hl => ?_)
        refine lv_aload_n hx hb dL_law_1138 rfl (lv_at hl 4 rfl) ?_
        refine zc_i (wc := [(m_, .inr (4, [.int th29, .int (nI n_), .long (lN w_), .int (nI h_), .ref ab_, .ref bb_, .long (lN ca_), .long (lN cb_), .long oc_, .long st_, .int (nI bs_), .int (nI tl_), .int (nI sp_), .ref rr_]))]) (wr := [(o_, .inr (3, [.int (nI n_), .ref ro_, .ref ja_, .ref jb_, .ref sr_, .ref br_, .ref tr_, .ref ch_, .ref lf_, .ref ri_, .int (nI h_), .int (nI sp_)])), (ro_, .inl (cD, n_, .inr (.inr (.inr (.inl r_))))), (ja_, .inl (cI, 2 * n_ + 1, .inl fa_)), (jb_, .inl (cI, 2 * n_ + 1, .inl fb_)), (sr_, .inr (2, [.ref se_, .long (lN w_), .long (lN (w_ * 2 ^ h_))])), (se_, .inl (cJ, n_, .inr (.inl es_))), (br_, .inr (2, [.ref be_, .long (lN bs_), .long (lN (bs_ * 2 ^ h_))])), (be_, .inl (cJ, n_, .inr (.inl eb_))), (tr_, .inr (2, [.ref te_, .long (lN tl_), .long (lN (tl_ * 2 ^ h_))])), (te_, .inl (cJ, n_, .inr (.inl et_))), (ch_, .inr (1, [.long (lN ca_), .long (lN cb_), .long oc_, .long st_])), (lf_, .inr (0, [.ref ld_, .int wl_])), (ld_, .inl (cJ, 40, .inr (.inl fl_))), (ri_, .inr (0, [.ref rd_, .int wr_])), (rd_, .inl (cJ, 40, .inr (.inl fr_))), (ab_, .inl (cI, 49, .inl ga_)), (bb_, .inl (cI, 49, .inl gb_)), (rr_, .inl (cI, 152, .inl gr_)), (ou_, .inl (cJ, 1, .inr (.inl fo_))), (od_, .inl (cD, 1, .inr (.inr (.inr (.inl fd_)))))]) hP hD hS hA [15] [0, 1, 2, 3, 4, 5, 6, 7, 8, 9, 10, 11, 12, 13, 14, 16, 17, 18, 19, 20] rfl rfl (by decide) (by decide) (va_runV (As := []) (rest := []) ⟨hx, hb, hml, hown, hts⟩ (ct_X4_thrown l D cI cJ cD m_ ab_ bb_ rr_ th29 (nI n_) (nI h_) (nI bs_) (nI tl_) (nI sp_) (lN w_) (lN ca_) (lN cb_) oc_ st_ H.size ) (cwV 0 hts gL_law_X4_thrown rfl rfl rfl (by decide +kernel) ⟨Nat.le_of_ble_eq_true rfl, Nat.le_of_ble_eq_true rfl⟩) (zPreV (wc := [(m_, .inr (4, [.int th29, .int (nI n_), .long (lN w_), .int (nI h_), .ref ab_, .ref bb_, .long (lN ca_), .long (lN cb_), .long oc_, .long st_, .int (nI bs_), .int (nI tl_), .int (nI sp_), .ref rr_]))]) hK (hP.sub [15] rfl) (hD.sub [15] (by decide) rfl) 4 0 rfl rfl zTb (fun _ _ _ => trivial)) rfl rfl hl.1 rfl (lv_room (Nat.le_of_ble_eq_true rfl)) dL_law_1139 ⟨by show _ ≤ 644291; omega, by show _ ≤ 7163197; omega⟩) (fun r_9 u9_ H locs hw hP hD hS => ?_)
        have hP : va_P D cl5 [(o_, .inr (3, [.int (nI n_), .ref ro_, .ref ja_, .ref jb_, .ref sr_, .ref br_, .ref tr_, .ref ch_, .ref lf_, .ref ri_, .int (nI h_), .int (nI sp_)])), (ro_, .inl (cD, n_, .inr (.inr (.inr (.inl r_))))), (ja_, .inl (cI, 2 * n_ + 1, .inl fa_)), (jb_, .inl (cI, 2 * n_ + 1, .inl fb_)), (sr_, .inr (2, [.ref se_, .long (lN w_), .long (lN (w_ * 2 ^ h_))])), (se_, .inl (cJ, n_, .inr (.inl es_))), (br_, .inr (2, [.ref be_, .long (lN bs_), .long (lN (bs_ * 2 ^ h_))])), (be_, .inl (cJ, n_, .inr (.inl eb_))), (tr_, .inr (2, [.ref te_, .long (lN tl_), .long (lN (tl_ * 2 ^ h_))])), (te_, .inl (cJ, n_, .inr (.inl et_))), (ch_, .inr (1, [.long (lN ca_), .long (lN cb_), .long oc_, .long st_])), (lf_, .inr (0, [.ref ld_, .int wl_])), (ld_, .inl (cJ, 40, .inr (.inl fl_))), (ri_, .inr (0, [.ref rd_, .int wr_])), (rd_, .inl (cJ, 40, .inr (.inl fr_))), (m_, .inr (4, [.int th29, .int (nI n_), .long (lN w_), .int (nI h_), .ref ab_, .ref bb_, .long (lN ca_), .long (lN cb_), .long oc_, .long st_, .int (nI bs_), .int (nI tl_), .int (nI sp_), .ref rr_])), (ab_, .inl (cI, 49, .inl ga_)), (bb_, .inl (cI, 49, .inl gb_)), (rr_, .inl (cI, 152, .inl gr_)), (ou_, .inl (cJ, 1, .inr (.inl fo_))), (od_, .inl (cD, 1, .inr (.inr (.inr (.inl fd_)))))] H := hP.sub [0, 1, 2, 3, 4, 5, 6, 7, 8, 9, 10, 11, 12, 13, 14, 20, 15, 16, 17, 18, 19] rfl
        have hD : va_D A [(o_, .inr (3, [.int (nI n_), .ref ro_, .ref ja_, .ref jb_, .ref sr_, .ref br_, .ref tr_, .ref ch_, .ref lf_, .ref ri_, .int (nI h_), .int (nI sp_)])), (ro_, .inl (cD, n_, .inr (.inr (.inr (.inl r_))))), (ja_, .inl (cI, 2 * n_ + 1, .inl fa_)), (jb_, .inl (cI, 2 * n_ + 1, .inl fb_)), (sr_, .inr (2, [.ref se_, .long (lN w_), .long (lN (w_ * 2 ^ h_))])), (se_, .inl (cJ, n_, .inr (.inl es_))), (br_, .inr (2, [.ref be_, .long (lN bs_), .long (lN (bs_ * 2 ^ h_))])), (be_, .inl (cJ, n_, .inr (.inl eb_))), (tr_, .inr (2, [.ref te_, .long (lN tl_), .long (lN (tl_ * 2 ^ h_))])), (te_, .inl (cJ, n_, .inr (.inl et_))), (ch_, .inr (1, [.long (lN ca_), .long (lN cb_), .long oc_, .long st_])), (lf_, .inr (0, [.ref ld_, .int wl_])), (ld_, .inl (cJ, 40, .inr (.inl fl_))), (ri_, .inr (0, [.ref rd_, .int wr_])), (rd_, .inl (cJ, 40, .inr (.inl fr_))), (m_, .inr (4, [.int th29, .int (nI n_), .long (lN w_), .int (nI h_), .ref ab_, .ref bb_, .long (lN ca_), .long (lN cb_), .long oc_, .long st_, .int (nI bs_), .int (nI tl_), .int (nI sp_), .ref rr_])), (ab_, .inl (cI, 49, .inl ga_)), (bb_, .inl (cI, 49, .inl gb_)), (rr_, .inl (cI, 152, .inl gr_)), (ou_, .inl (cJ, 1, .inr (.inl fo_))), (od_, .inl (cD, 1, .inr (.inr (.inr (.inl fd_)))))] := hD.sub [0, 1, 2, 3, 4, 5, 6, 7, 8, 9, 10, 11, 12, 13, 14, 20, 15, 16, 17, 18, 19] (by decide) rfl
        have hw : r_9 = th29 := hw
        subst r_9
        refine zi_ (y := nI 2) (hth) ?_
        refine lv_iload hx hb dL_law_1142 (lv_at hl 1 rfl) ?_
        refine lv_icmp_eq (tgt := 1149) hx hb dL_law_1144 (by decide) (fun c_1144 => ?_) (fun c_1144 => ?_)
        · skip
          have c_1144 := zji_eq (a := 2) (b := 2) (by omega) (by omega) c_1144
          refine lv_iload hx hb dL_law_1149 (lv_at hl 1 rfl) ?_
          refine lv_if_ne (tgt := 1165) hx hb dL_law_1151 (by decide) (fun c_1151 => ?_) (fun c_1151 => ?_)
          · skip
            have c_1151 := zji_ne (a := 2) (b := 0) (by omega) (by omega) c_1151
            refine lv_goto (tgt := 1436) hx hb dL_law_1165 (by decide) ?_
            exact nx h_ w_ bs_ tl_ sp_ ca_ cb_ oc_ st_ th29 wl_ wr_ es_ eb_ et_ fl_ fr_ fo_ fa_ fb_ ga_ gb_ gr_ xa_ xb_ fd_ _ _ _ _ ⟨iw1, iw2, ih, ib1, ib2, it1, it2, is1, is2, ice, icb, ict, ija, ijb, iga, igb, ich⟩ hd hP hD hS (lv_sub hl [2, 3, 4, 5, 6, 7] rfl)
          · skip
            exact absurd c_1151 (by decide)
        · skip
          exact absurd c_1144 (by decide)
      · skip
        obtain ⟨ww, eww, hw1, hw2⟩ := in_okL (a := 1) (b := 1000000) (by decide) (by decide) g2
        have hcd : cdKey (xs_ (i_ + 1)) (mkL (xs_ (i_ + 2)) (xs_ (i_ + 3))) (xs_ (i_ + 4)) = 0 := by unfold cdKey; (repeat' split) <;> first | rfl | omega
        refine lv_aload_n hx hb dL_law_1057 rfl (lv_at hl 1 rfl) ?_
        refine lv_aload_n hx hb dL_law_1058 rfl (lv_at hl 0 rfl) ?_
        refine lv_iload hx hb dL_law_1059 (lv_at hl 5 rfl) ?_
        refine lv_iconst (v := nI 1) hx hb dL_law_1061 (by decide) ?_
        refine lv_iadd hx hb dL_law_1062 ?_
        refine zi_ (y := nI (i_ + 1)) (nI_add i_ 1) ?_
        refine va_sld hx hb hX hbl hbA hS (i := nI (i_ + 1)) (vp_in_nI (by omega) (by omega)) dL_law_1063 ?_
        refine zi_ (y := xs_ (i_ + 1)) (by rw [nI_clamp (by omega)]) ?_
        refine zi_ (y := nI kk) (ekk) ?_
        refine lv_aload_n hx hb dL_law_1064 rfl (lv_at hl 0 rfl) ?_
        refine lv_iload hx hb dL_law_1065 (lv_at hl 5 rfl) ?_
        refine lv_iconst (v := nI 2) hx hb dL_law_1067 (by decide) ?_
        refine lv_iadd hx hb dL_law_1068 ?_
        refine zi_ (y := nI (i_ + 2)) (nI_add i_ 2) ?_
        refine va_sld hx hb hX hbl hbA hS (i := nI (i_ + 2)) (vp_in_nI (by omega) (by omega)) dL_law_1069 ?_
        refine zi_ (y := xs_ (i_ + 2)) (by rw [nI_clamp (by omega)]) ?_
        refine lv_i2l (v := (xs_ (i_ + 2)).toInt64) hx hb dL_law_1070 rfl ?_
        refine lv_bipush (v := nI 32) hx hb dL_law_1071 (by decide) ?_
        refine lv_lshl (v := (xs_ (i_ + 2)).toInt64 <<< ((nI 32).toInt64 &&& 63)) hx hb dL_law_1073 (rfl) ?_
        refine lv_aload_n hx hb dL_law_1074 rfl (lv_at hl 0 rfl) ?_
        refine lv_iload hx hb dL_law_1075 (lv_at hl 5 rfl) ?_
        refine lv_iconst (v := nI 3) hx hb dL_law_1077 (by decide) ?_
        refine lv_iadd hx hb dL_law_1078 ?_
        refine zi_ (y := nI (i_ + 3)) (nI_add i_ 3) ?_
        refine va_sld hx hb hX hbl hbA hS (i := nI (i_ + 3)) (vp_in_nI (by omega) (by omega)) dL_law_1079 ?_
        refine zi_ (y := xs_ (i_ + 3)) (by rw [nI_clamp (by omega)]) ?_
        refine lv_i2l (v := (xs_ (i_ + 3)).toInt64) hx hb dL_law_1080 rfl ?_
        refine lv_ldc2 (v := 4294967295) hx hb hown (zh (w := .constantLong RL 86 (4294967295)) hts 8 rfl) dL_law_1081 ?_
        refine zl_ (y := lN 4294967295) rfl ?_
        refine lv_land hx hb dL_law_1084 ?_
        refine lv_lor hx hb dL_law_1085 ?_
        refine zl_ (y := lN ww) (eww) ?_
        refine lv_aload_n hx hb dL_law_1086 rfl (lv_at hl 0 rfl) ?_
        refine lv_iload hx hb dL_law_1087 (lv_at hl 5 rfl) ?_
        refine lv_iconst (v := nI 4) hx hb dL_law_1089 (by decide) ?_
        refine lv_iadd hx hb dL_law_1090 ?_
        refine zi_ (y := nI (i_ + 4)) (nI_add i_ 4) ?_
        refine va_sld hx hb hX hbl hbA hS (i := nI (i_ + 4)) (vp_in_nI (by omega) (by omega)) dL_law_1091 ?_
        refine zi_ (y := xs_ (i_ + 4)) (by rw [nI_clamp (by omega)]) ?_
        refine zi_ (y := nI pp) (epp) ?_
        refine lv_aload_n hx hb dL_law_1092 rfl (lv_at hl 3 rfl) ?_
        refine zc_i (wc := [(o_, .inr (3, [.int (nI n_), .ref ro_, .ref ja_, .ref jb_, .ref sr_, .ref br_, .ref tr_, .ref ch_, .ref lf_, .ref ri_, .int (nI h_), .int (nI sp_)])), (ou_, .inl (cJ, 1, .inr (.inl fo_)))]) (wr := [(ro_, .inl (cD, n_, .inr (.inr (.inr (.inl r_))))), (ja_, .inl (cI, 2 * n_ + 1, .inl fa_)), (jb_, .inl (cI, 2 * n_ + 1, .inl fb_)), (sr_, .inr (2, [.ref se_, .long (lN w_), .long (lN (w_ * 2 ^ h_))])), (se_, .inl (cJ, n_, .inr (.inl es_))), (br_, .inr (2, [.ref be_, .long (lN bs_), .long (lN (bs_ * 2 ^ h_))])), (be_, .inl (cJ, n_, .inr (.inl eb_))), (tr_, .inr (2, [.ref te_, .long (lN tl_), .long (lN (tl_ * 2 ^ h_))])), (te_, .inl (cJ, n_, .inr (.inl et_))), (ch_, .inr (1, [.long (lN ca_), .long (lN cb_), .long oc_, .long st_])), (lf_, .inr (0, [.ref ld_, .int wl_])), (ld_, .inl (cJ, 40, .inr (.inl fl_))), (ri_, .inr (0, [.ref rd_, .int wr_])), (rd_, .inl (cJ, 40, .inr (.inl fr_))), (m_, .inr (4, [.int th_, .int (nI n_), .long (lN w_), .int (nI h_), .ref ab_, .ref bb_, .long (lN ca_), .long (lN cb_), .long oc_, .long st_, .int (nI bs_), .int (nI tl_), .int (nI sp_), .ref rr_])), (ab_, .inl (cI, 49, .inl ga_)), (bb_, .inl (cI, 49, .inl gb_)), (rr_, .inl (cI, 152, .inl gr_)), (od_, .inl (cD, 1, .inr (.inr (.inr (.inl fd_)))))]) hP hD hS hA [0, 19] [1, 2, 3, 4, 5, 6, 7, 8, 9, 10, 11, 12, 13, 14, 15, 16, 17, 18, 20] rfl rfl (by decide) (by decide) (vx_runSW (As := [.ref o_, .int (nI kk), .long (lN ww), .int (nI pp), .ref ou_]) (rest := []) ⟨hx, hb, hml, hown, hts⟩ (ct_L_key l D cI cJ cD o_ ro_ ja_ jb_ sr_ br_ tr_ ch_ lf_ ri_ (nI n_) (nI h_) (nI sp_) kk ww pp ou_ fo_ H.size hk hw1 hw2 (by omega)) (vx_cwSW 5 hts gL_law_L_key rfl rfl rfl (by decide +kernel) ⟨Nat.le_of_ble_eq_true rfl, Nat.le_of_ble_eq_true rfl⟩) (zPreS (wc := [(o_, .inr (3, [.int (nI n_), .ref ro_, .ref ja_, .ref jb_, .ref sr_, .ref br_, .ref tr_, .ref ch_, .ref lf_, .ref ri_, .int (nI h_), .int (nI sp_)])), (ou_, .inl (cJ, 1, .inr (.inl fo_)))]) hK (hP.sub [0, 19] rfl) (hD.sub [0, 19] (by decide) rfl) nLaw_calling (fun U hU hW => nLaw_warm hE hS (va_free (wc := [(o_, .inr (3, [.int (nI n_), .ref ro_, .ref ja_, .ref jb_, .ref sr_, .ref br_, .ref tr_, .ref ch_, .ref lf_, .ref ri_, .int (nI h_), .int (nI sp_)])), (ou_, .inl (cJ, 1, .inr (.inl fo_)))]) hD hS hA [0, 19] rfl) hU hW)) rfl rfl hl.1 rfl (lv_room (Nat.le_of_ble_eq_true rfl)) dL_law_1093 ⟨by show _ ≤ 644291; omega, by show _ ≤ 7163197; omega⟩) (fun r_10 u9_ H locs hw hP hD hS => ?_)
        have hP : va_P D cl5 [(o_, .inr (3, [.int (nI n_), .ref ro_, .ref ja_, .ref jb_, .ref sr_, .ref br_, .ref tr_, .ref ch_, .ref lf_, .ref ri_, .int (nI h_), .int (nI sp_)])), (ro_, .inl (cD, n_, .inr (.inr (.inr (.inl r_))))), (ja_, .inl (cI, 2 * n_ + 1, .inl fa_)), (jb_, .inl (cI, 2 * n_ + 1, .inl fb_)), (sr_, .inr (2, [.ref se_, .long (lN w_), .long (lN (w_ * 2 ^ h_))])), (se_, .inl (cJ, n_, .inr (.inl es_))), (br_, .inr (2, [.ref be_, .long (lN bs_), .long (lN (bs_ * 2 ^ h_))])), (be_, .inl (cJ, n_, .inr (.inl eb_))), (tr_, .inr (2, [.ref te_, .long (lN tl_), .long (lN (tl_ * 2 ^ h_))])), (te_, .inl (cJ, n_, .inr (.inl et_))), (ch_, .inr (1, [.long (lN ca_), .long (lN cb_), .long oc_, .long st_])), (lf_, .inr (0, [.ref ld_, .int wl_])), (ld_, .inl (cJ, 40, .inr (.inl fl_))), (ri_, .inr (0, [.ref rd_, .int wr_])), (rd_, .inl (cJ, 40, .inr (.inl fr_))), (m_, .inr (4, [.int th_, .int (nI n_), .long (lN w_), .int (nI h_), .ref ab_, .ref bb_, .long (lN ca_), .long (lN cb_), .long oc_, .long st_, .int (nI bs_), .int (nI tl_), .int (nI sp_), .ref rr_])), (ab_, .inl (cI, 49, .inl ga_)), (bb_, .inl (cI, 49, .inl gb_)), (rr_, .inl (cI, 152, .inl gr_)), (ou_, .inl (cJ, 1, .inr (.inl (vp_updL fo_ 0 (lN (keyN kk ww pp)))))), (od_, .inl (cD, 1, .inr (.inr (.inr (.inl fd_)))))] H := hP.sub [19, 0, 1, 2, 3, 4, 5, 6, 7, 8, 9, 10, 11, 12, 13, 14, 15, 16, 17, 20, 18] rfl
        have hD : va_D A [(o_, .inr (3, [.int (nI n_), .ref ro_, .ref ja_, .ref jb_, .ref sr_, .ref br_, .ref tr_, .ref ch_, .ref lf_, .ref ri_, .int (nI h_), .int (nI sp_)])), (ro_, .inl (cD, n_, .inr (.inr (.inr (.inl r_))))), (ja_, .inl (cI, 2 * n_ + 1, .inl fa_)), (jb_, .inl (cI, 2 * n_ + 1, .inl fb_)), (sr_, .inr (2, [.ref se_, .long (lN w_), .long (lN (w_ * 2 ^ h_))])), (se_, .inl (cJ, n_, .inr (.inl es_))), (br_, .inr (2, [.ref be_, .long (lN bs_), .long (lN (bs_ * 2 ^ h_))])), (be_, .inl (cJ, n_, .inr (.inl eb_))), (tr_, .inr (2, [.ref te_, .long (lN tl_), .long (lN (tl_ * 2 ^ h_))])), (te_, .inl (cJ, n_, .inr (.inl et_))), (ch_, .inr (1, [.long (lN ca_), .long (lN cb_), .long oc_, .long st_])), (lf_, .inr (0, [.ref ld_, .int wl_])), (ld_, .inl (cJ, 40, .inr (.inl fl_))), (ri_, .inr (0, [.ref rd_, .int wr_])), (rd_, .inl (cJ, 40, .inr (.inl fr_))), (m_, .inr (4, [.int th_, .int (nI n_), .long (lN w_), .int (nI h_), .ref ab_, .ref bb_, .long (lN ca_), .long (lN cb_), .long oc_, .long st_, .int (nI bs_), .int (nI tl_), .int (nI sp_), .ref rr_])), (ab_, .inl (cI, 49, .inl ga_)), (bb_, .inl (cI, 49, .inl gb_)), (rr_, .inl (cI, 152, .inl gr_)), (ou_, .inl (cJ, 1, .inr (.inl (vp_updL fo_ 0 (lN (keyN kk ww pp)))))), (od_, .inl (cD, 1, .inr (.inr (.inr (.inl fd_)))))] := hD.sub [19, 0, 1, 2, 3, 4, 5, 6, 7, 8, 9, 10, 11, 12, 13, 14, 15, 16, 17, 20, 18] (by decide) rfl
        have hw : r_10 = nI 0 := hw
        subst hw
        refine lv_istore (lv' := [(6, .int (nI 0)), (0, .ref b_), (1, .ref o_), (2, .ref m_), (3, .ref ou_), (4, .ref od_), (5, .int (nI i_))]) hx hb dL_law_1096 hl (by decide) rfl (fun ls hl => ?_)
        refine lv_aload_n hx hb dL_law_1098 rfl (lv_at hl 3 rfl) ?_
        refine lv_aload_n hx hb dL_law_1099 rfl (lv_at hl 1 rfl) ?_
        refine lv_iload hx hb dL_law_1100 (lv_at hl 6 rfl) ?_
        refine lv_iconst (v := nI 1) hx hb dL_law_1102 (by decide) ?_
        refine lv_iadd hx hb dL_law_1103 ?_
        refine zi_ (y := nI (i_ + 1)) (nI_add i_ 1) ?_
        refine va_sld hx hb hX hbl hbA hS (i := nI (i_ + 1)) (vp_in_nI (by omega) (by omega)) dL_law_1104 ?_
        refine zi_ (y := xs_ (i_ + 1)) (by rw [nI_clamp (by omega)]) ?_
        refine lv_aload_n hx hb dL_law_1105 rfl (lv_at hl 1 rfl) ?_
        refine lv_iload hx hb dL_law_1106 (lv_at hl 6 rfl) ?_
        refine lv_iconst (v := nI 2) hx hb dL_law_1108 (by decide) ?_
        refine lv_iadd hx hb dL_law_1109 ?_
        refine zi_ (y := nI (i_ + 2)) (nI_add i_ 2) ?_
        refine va_sld hx hb hX hbl hbA hS (i := nI (i_ + 2)) (vp_in_nI (by omega) (by omega)) dL_law_1110 ?_
        refine zi_ (y := xs_ (i_ + 2)) (by rw [nI_clamp (by omega)]) ?_
        refine lv_i2l (v := (xs_ (i_ + 2)).toInt64) hx hb dL_law_1111 rfl ?_
        refine lv_bipush (v := nI 32) hx hb dL_law_1112 (by decide) ?_
        refine lv_lshl (v := (xs_ (i_ + 2)).toInt64 <<< ((nI 32).toInt64 &&& 63)) hx hb dL_law_1114 (rfl) ?_
        refine lv_aload_n hx hb dL_law_1115 rfl (lv_at hl 1 rfl) ?_
        refine lv_iload hx hb dL_law_1116 (lv_at hl 6 rfl) ?_
        refine lv_iconst (v := nI 3) hx hb dL_law_1118 (by decide) ?_
        refine lv_iadd hx hb dL_law_1119 ?_
        refine zi_ (y := nI (i_ + 3)) (nI_add i_ 3) ?_
        refine va_sld hx hb hX hbl hbA hS (i := nI (i_ + 3)) (vp_in_nI (by omega) (by omega)) dL_law_1120 ?_
        refine zi_ (y := xs_ (i_ + 3)) (by rw [nI_clamp (by omega)]) ?_
        refine lv_i2l (v := (xs_ (i_ + 3)).toInt64) hx hb dL_law_1121 rfl ?_
        refine lv_ldc2 (v := 4294967295) hx hb hown (zh (w := .constantLong RL 86 (4294967295)) hts 8 rfl) dL_law_1122 ?_
        refine zl_ (y := lN 4294967295) rfl ?_
        refine lv_land hx hb dL_law_1125 ?_
        refine lv_lor hx hb dL_law_1126 ?_
        refine zl_ (y := mkL (xs_ (i_ + 2)) (xs_ (i_ + 3))) (rfl) ?_
        refine lv_aload_n hx hb dL_law_1127 rfl (lv_at hl 1 rfl) ?_
        refine lv_iload hx hb dL_law_1128 (lv_at hl 6 rfl) ?_
        refine lv_iconst (v := nI 4) hx hb dL_law_1130 (by decide) ?_
        refine lv_iadd hx hb dL_law_1131 ?_
        refine zi_ (y := nI (i_ + 4)) (nI_add i_ 4) ?_
        refine va_sld hx hb hX hbl hbA hS (i := nI (i_ + 4)) (vp_in_nI (by omega) (by omega)) dL_law_1132 ?_
        refine zi_ (y := xs_ (i_ + 4)) (by rw [nI_clamp (by omega)]) ?_
        refine zc_l (wc := [(m_, .inr (4, [.int th_, .int (nI n_), .long (lN w_), .int (nI h_), .ref ab_, .ref bb_, .long (lN ca_), .long (lN cb_), .long oc_, .long st_, .int (nI bs_), .int (nI tl_), .int (nI sp_), .ref rr_]))]) (wr := [(o_, .inr (3, [.int (nI n_), .ref ro_, .ref ja_, .ref jb_, .ref sr_, .ref br_, .ref tr_, .ref ch_, .ref lf_, .ref ri_, .int (nI h_), .int (nI sp_)])), (ro_, .inl (cD, n_, .inr (.inr (.inr (.inl r_))))), (ja_, .inl (cI, 2 * n_ + 1, .inl fa_)), (jb_, .inl (cI, 2 * n_ + 1, .inl fb_)), (sr_, .inr (2, [.ref se_, .long (lN w_), .long (lN (w_ * 2 ^ h_))])), (se_, .inl (cJ, n_, .inr (.inl es_))), (br_, .inr (2, [.ref be_, .long (lN bs_), .long (lN (bs_ * 2 ^ h_))])), (be_, .inl (cJ, n_, .inr (.inl eb_))), (tr_, .inr (2, [.ref te_, .long (lN tl_), .long (lN (tl_ * 2 ^ h_))])), (te_, .inl (cJ, n_, .inr (.inl et_))), (ch_, .inr (1, [.long (lN ca_), .long (lN cb_), .long oc_, .long st_])), (lf_, .inr (0, [.ref ld_, .int wl_])), (ld_, .inl (cJ, 40, .inr (.inl fl_))), (ri_, .inr (0, [.ref rd_, .int wr_])), (rd_, .inl (cJ, 40, .inr (.inl fr_))), (ab_, .inl (cI, 49, .inl ga_)), (bb_, .inl (cI, 49, .inl gb_)), (rr_, .inl (cI, 152, .inl gr_)), (ou_, .inl (cJ, 1, .inr (.inl (vp_updL fo_ 0 (lN (keyN kk ww pp)))))), (od_, .inl (cD, 1, .inr (.inr (.inr (.inl fd_)))))]) hP hD hS hA [15] [0, 1, 2, 3, 4, 5, 6, 7, 8, 9, 10, 11, 12, 13, 14, 16, 17, 18, 19, 20] rfl rfl (by decide) (by decide) (va_runV (As := [.int (xs_ (i_ + 1)), .long (mkL (xs_ (i_ + 2)) (xs_ (i_ + 3))), .int (xs_ (i_ + 4))]) (rest := []) ⟨hx, hb, hml, hown, hts⟩ (ct_X4_key l D cI cJ cD m_ ab_ bb_ rr_ th_ (nI n_) (nI h_) (nI bs_) (nI tl_) (nI sp_) (lN w_) (lN ca_) (lN cb_) oc_ st_ (xs_ (i_ + 1)) (mkL (xs_ (i_ + 2)) (xs_ (i_ + 3))) (xs_ (i_ + 4)) H.size ) (cwV 3 hts gL_law_X4_key rfl rfl rfl (by decide +kernel) ⟨Nat.le_of_ble_eq_true rfl, Nat.le_of_ble_eq_true rfl⟩) (zPreV (wc := [(m_, .inr (4, [.int th_, .int (nI n_), .long (lN w_), .int (nI h_), .ref ab_, .ref bb_, .long (lN ca_), .long (lN cb_), .long oc_, .long st_, .int (nI bs_), .int (nI tl_), .int (nI sp_), .ref rr_]))]) hK (hP.sub [15] rfl) (hD.sub [15] (by decide) rfl) 4 0 rfl rfl zTb (fun _ _ _ => trivial)) rfl rfl hl.1 rfl (lv_room (Nat.le_of_ble_eq_true rfl)) dL_law_1133 ⟨by show _ ≤ 644291; omega, by show _ ≤ 7163197; omega⟩) (fun r_11 u9_ H locs hw hP hD hS => ?_)
        obtain ⟨th29, rfl⟩ : ∃ z, z = u9_ := ⟨_, rfl⟩
        have hP : va_P D cl5 [(o_, .inr (3, [.int (nI n_), .ref ro_, .ref ja_, .ref jb_, .ref sr_, .ref br_, .ref tr_, .ref ch_, .ref lf_, .ref ri_, .int (nI h_), .int (nI sp_)])), (ro_, .inl (cD, n_, .inr (.inr (.inr (.inl r_))))), (ja_, .inl (cI, 2 * n_ + 1, .inl fa_)), (jb_, .inl (cI, 2 * n_ + 1, .inl fb_)), (sr_, .inr (2, [.ref se_, .long (lN w_), .long (lN (w_ * 2 ^ h_))])), (se_, .inl (cJ, n_, .inr (.inl es_))), (br_, .inr (2, [.ref be_, .long (lN bs_), .long (lN (bs_ * 2 ^ h_))])), (be_, .inl (cJ, n_, .inr (.inl eb_))), (tr_, .inr (2, [.ref te_, .long (lN tl_), .long (lN (tl_ * 2 ^ h_))])), (te_, .inl (cJ, n_, .inr (.inl et_))), (ch_, .inr (1, [.long (lN ca_), .long (lN cb_), .long oc_, .long st_])), (lf_, .inr (0, [.ref ld_, .int wl_])), (ld_, .inl (cJ, 40, .inr (.inl fl_))), (ri_, .inr (0, [.ref rd_, .int wr_])), (rd_, .inl (cJ, 40, .inr (.inl fr_))), (m_, .inr (4, [.int th29, .int (nI n_), .long (lN w_), .int (nI h_), .ref ab_, .ref bb_, .long (lN ca_), .long (lN cb_), .long oc_, .long st_, .int (nI bs_), .int (nI tl_), .int (nI sp_), .ref rr_])), (ab_, .inl (cI, 49, .inl ga_)), (bb_, .inl (cI, 49, .inl gb_)), (rr_, .inl (cI, 152, .inl gr_)), (ou_, .inl (cJ, 1, .inr (.inl (vp_updL fo_ 0 (lN (keyN kk ww pp)))))), (od_, .inl (cD, 1, .inr (.inr (.inr (.inl fd_)))))] H := hP.sub [0, 1, 2, 3, 4, 5, 6, 7, 8, 9, 10, 11, 12, 13, 14, 20, 15, 16, 17, 18, 19] rfl
        have hD : va_D A [(o_, .inr (3, [.int (nI n_), .ref ro_, .ref ja_, .ref jb_, .ref sr_, .ref br_, .ref tr_, .ref ch_, .ref lf_, .ref ri_, .int (nI h_), .int (nI sp_)])), (ro_, .inl (cD, n_, .inr (.inr (.inr (.inl r_))))), (ja_, .inl (cI, 2 * n_ + 1, .inl fa_)), (jb_, .inl (cI, 2 * n_ + 1, .inl fb_)), (sr_, .inr (2, [.ref se_, .long (lN w_), .long (lN (w_ * 2 ^ h_))])), (se_, .inl (cJ, n_, .inr (.inl es_))), (br_, .inr (2, [.ref be_, .long (lN bs_), .long (lN (bs_ * 2 ^ h_))])), (be_, .inl (cJ, n_, .inr (.inl eb_))), (tr_, .inr (2, [.ref te_, .long (lN tl_), .long (lN (tl_ * 2 ^ h_))])), (te_, .inl (cJ, n_, .inr (.inl et_))), (ch_, .inr (1, [.long (lN ca_), .long (lN cb_), .long oc_, .long st_])), (lf_, .inr (0, [.ref ld_, .int wl_])), (ld_, .inl (cJ, 40, .inr (.inl fl_))), (ri_, .inr (0, [.ref rd_, .int wr_])), (rd_, .inl (cJ, 40, .inr (.inl fr_))), (m_, .inr (4, [.int th29, .int (nI n_), .long (lN w_), .int (nI h_), .ref ab_, .ref bb_, .long (lN ca_), .long (lN cb_), .long oc_, .long st_, .int (nI bs_), .int (nI tl_), .int (nI sp_), .ref rr_])), (ab_, .inl (cI, 49, .inl ga_)), (bb_, .inl (cI, 49, .inl gb_)), (rr_, .inl (cI, 152, .inl gr_)), (ou_, .inl (cJ, 1, .inr (.inl (vp_updL fo_ 0 (lN (keyN kk ww pp)))))), (od_, .inl (cD, 1, .inr (.inr (.inr (.inl fd_)))))] := hD.sub [0, 1, 2, 3, 4, 5, 6, 7, 8, 9, 10, 11, 12, 13, 14, 20, 15, 16, 17, 18, 19] (by decide) rfl
        have hw : th29 = nI (cdKey (xs_ (i_ + 1)) (mkL (xs_ (i_ + 2)) (xs_ (i_ + 3))) (xs_ (i_ + 4))) ∧ (cdKey (xs_ (i_ + 1)) (mkL (xs_ (i_ + 2)) (xs_ (i_ + 3))) (xs_ (i_ + 4)) = 0 → ∃ kk xx q, (xs_ (i_ + 1)) = nI kk ∧ kk ≤ 11 ∧ (mkL (xs_ (i_ + 2)) (xs_ (i_ + 3))) = lN xx ∧ xx ≤ 1000000 ∧ (xs_ (i_ + 4)) = nI q ∧ q ≤ 3 ∧ r_11 = lN (keyN kk xx q)) := hw
        obtain ⟨ht_1133, hR_1133⟩ := hw
        have hth : th29 = nI 0 := by rw [ht_1133, hcd]
        obtain ⟨k9, x9, q9, ek9, hk9, ex9, hx9, eq9, hq9, er9⟩ := hR_1133 hcd
        have q_k9 := nI_two (by omega) (by omega) ekk ek9
        subst k9
        have q_x9 := lN_two (by omega) (by omega) eww ex9
        subst x9
        have q_q9 := nI_two (by omega) (by omega) epp eq9
        subst q9
        refine lv_lstore (lv' := [(7, .long r_11), (6, .int (nI 0)), (0, .ref b_), (1, .ref o_), (2, .ref m_), (3, .ref ou_), (4, .ref od_), (5, .int (nI i_))]) hx hb dL_law_1136 hl (by decide) rfl (fun ls hl => ?_)
        refine lv_aload_n hx hb dL_law_1138 rfl (lv_at hl 4 rfl) ?_
        refine zc_i (wc := [(m_, .inr (4, [.int th29, .int (nI n_), .long (lN w_), .int (nI h_), .ref ab_, .ref bb_, .long (lN ca_), .long (lN cb_), .long oc_, .long st_, .int (nI bs_), .int (nI tl_), .int (nI sp_), .ref rr_]))]) (wr := [(o_, .inr (3, [.int (nI n_), .ref ro_, .ref ja_, .ref jb_, .ref sr_, .ref br_, .ref tr_, .ref ch_, .ref lf_, .ref ri_, .int (nI h_), .int (nI sp_)])), (ro_, .inl (cD, n_, .inr (.inr (.inr (.inl r_))))), (ja_, .inl (cI, 2 * n_ + 1, .inl fa_)), (jb_, .inl (cI, 2 * n_ + 1, .inl fb_)), (sr_, .inr (2, [.ref se_, .long (lN w_), .long (lN (w_ * 2 ^ h_))])), (se_, .inl (cJ, n_, .inr (.inl es_))), (br_, .inr (2, [.ref be_, .long (lN bs_), .long (lN (bs_ * 2 ^ h_))])), (be_, .inl (cJ, n_, .inr (.inl eb_))), (tr_, .inr (2, [.ref te_, .long (lN tl_), .long (lN (tl_ * 2 ^ h_))])), (te_, .inl (cJ, n_, .inr (.inl et_))), (ch_, .inr (1, [.long (lN ca_), .long (lN cb_), .long oc_, .long st_])), (lf_, .inr (0, [.ref ld_, .int wl_])), (ld_, .inl (cJ, 40, .inr (.inl fl_))), (ri_, .inr (0, [.ref rd_, .int wr_])), (rd_, .inl (cJ, 40, .inr (.inl fr_))), (ab_, .inl (cI, 49, .inl ga_)), (bb_, .inl (cI, 49, .inl gb_)), (rr_, .inl (cI, 152, .inl gr_)), (ou_, .inl (cJ, 1, .inr (.inl (vp_updL fo_ 0 (lN (keyN kk ww pp)))))), (od_, .inl (cD, 1, .inr (.inr (.inr (.inl fd_)))))]) hP hD hS hA [15] [0, 1, 2, 3, 4, 5, 6, 7, 8, 9, 10, 11, 12, 13, 14, 16, 17, 18, 19, 20] rfl rfl (by decide) (by decide) (va_runV (As := []) (rest := []) ⟨hx, hb, hml, hown, hts⟩ (ct_X4_thrown l D cI cJ cD m_ ab_ bb_ rr_ th29 (nI n_) (nI h_) (nI bs_) (nI tl_) (nI sp_) (lN w_) (lN ca_) (lN cb_) oc_ st_ H.size ) (cwV 0 hts gL_law_X4_thrown rfl rfl rfl (by decide +kernel) ⟨Nat.le_of_ble_eq_true rfl, Nat.le_of_ble_eq_true rfl⟩) (zPreV (wc := [(m_, .inr (4, [.int th29, .int (nI n_), .long (lN w_), .int (nI h_), .ref ab_, .ref bb_, .long (lN ca_), .long (lN cb_), .long oc_, .long st_, .int (nI bs_), .int (nI tl_), .int (nI sp_), .ref rr_]))]) hK (hP.sub [15] rfl) (hD.sub [15] (by decide) rfl) 4 0 rfl rfl zTb (fun _ _ _ => trivial)) rfl rfl hl.1 rfl (lv_room (Nat.le_of_ble_eq_true rfl)) dL_law_1139 ⟨by show _ ≤ 644291; omega, by show _ ≤ 7163197; omega⟩) (fun r_12 u9_ H locs hw hP hD hS => ?_)
        have hP : va_P D cl5 [(o_, .inr (3, [.int (nI n_), .ref ro_, .ref ja_, .ref jb_, .ref sr_, .ref br_, .ref tr_, .ref ch_, .ref lf_, .ref ri_, .int (nI h_), .int (nI sp_)])), (ro_, .inl (cD, n_, .inr (.inr (.inr (.inl r_))))), (ja_, .inl (cI, 2 * n_ + 1, .inl fa_)), (jb_, .inl (cI, 2 * n_ + 1, .inl fb_)), (sr_, .inr (2, [.ref se_, .long (lN w_), .long (lN (w_ * 2 ^ h_))])), (se_, .inl (cJ, n_, .inr (.inl es_))), (br_, .inr (2, [.ref be_, .long (lN bs_), .long (lN (bs_ * 2 ^ h_))])), (be_, .inl (cJ, n_, .inr (.inl eb_))), (tr_, .inr (2, [.ref te_, .long (lN tl_), .long (lN (tl_ * 2 ^ h_))])), (te_, .inl (cJ, n_, .inr (.inl et_))), (ch_, .inr (1, [.long (lN ca_), .long (lN cb_), .long oc_, .long st_])), (lf_, .inr (0, [.ref ld_, .int wl_])), (ld_, .inl (cJ, 40, .inr (.inl fl_))), (ri_, .inr (0, [.ref rd_, .int wr_])), (rd_, .inl (cJ, 40, .inr (.inl fr_))), (m_, .inr (4, [.int th29, .int (nI n_), .long (lN w_), .int (nI h_), .ref ab_, .ref bb_, .long (lN ca_), .long (lN cb_), .long oc_, .long st_, .int (nI bs_), .int (nI tl_), .int (nI sp_), .ref rr_])), (ab_, .inl (cI, 49, .inl ga_)), (bb_, .inl (cI, 49, .inl gb_)), (rr_, .inl (cI, 152, .inl gr_)), (ou_, .inl (cJ, 1, .inr (.inl (vp_updL fo_ 0 (lN (keyN kk ww pp)))))), (od_, .inl (cD, 1, .inr (.inr (.inr (.inl fd_)))))] H := hP.sub [0, 1, 2, 3, 4, 5, 6, 7, 8, 9, 10, 11, 12, 13, 14, 20, 15, 16, 17, 18, 19] rfl
        have hD : va_D A [(o_, .inr (3, [.int (nI n_), .ref ro_, .ref ja_, .ref jb_, .ref sr_, .ref br_, .ref tr_, .ref ch_, .ref lf_, .ref ri_, .int (nI h_), .int (nI sp_)])), (ro_, .inl (cD, n_, .inr (.inr (.inr (.inl r_))))), (ja_, .inl (cI, 2 * n_ + 1, .inl fa_)), (jb_, .inl (cI, 2 * n_ + 1, .inl fb_)), (sr_, .inr (2, [.ref se_, .long (lN w_), .long (lN (w_ * 2 ^ h_))])), (se_, .inl (cJ, n_, .inr (.inl es_))), (br_, .inr (2, [.ref be_, .long (lN bs_), .long (lN (bs_ * 2 ^ h_))])), (be_, .inl (cJ, n_, .inr (.inl eb_))), (tr_, .inr (2, [.ref te_, .long (lN tl_), .long (lN (tl_ * 2 ^ h_))])), (te_, .inl (cJ, n_, .inr (.inl et_))), (ch_, .inr (1, [.long (lN ca_), .long (lN cb_), .long oc_, .long st_])), (lf_, .inr (0, [.ref ld_, .int wl_])), (ld_, .inl (cJ, 40, .inr (.inl fl_))), (ri_, .inr (0, [.ref rd_, .int wr_])), (rd_, .inl (cJ, 40, .inr (.inl fr_))), (m_, .inr (4, [.int th29, .int (nI n_), .long (lN w_), .int (nI h_), .ref ab_, .ref bb_, .long (lN ca_), .long (lN cb_), .long oc_, .long st_, .int (nI bs_), .int (nI tl_), .int (nI sp_), .ref rr_])), (ab_, .inl (cI, 49, .inl ga_)), (bb_, .inl (cI, 49, .inl gb_)), (rr_, .inl (cI, 152, .inl gr_)), (ou_, .inl (cJ, 1, .inr (.inl (vp_updL fo_ 0 (lN (keyN kk ww pp)))))), (od_, .inl (cD, 1, .inr (.inr (.inr (.inl fd_)))))] := hD.sub [0, 1, 2, 3, 4, 5, 6, 7, 8, 9, 10, 11, 12, 13, 14, 20, 15, 16, 17, 18, 19] (by decide) rfl
        have hw : r_12 = th29 := hw
        subst r_12
        refine zi_ (y := nI 0) (hth) ?_
        refine lv_iload hx hb dL_law_1142 (lv_at hl 1 rfl) ?_
        refine lv_icmp_eq (tgt := 1149) hx hb dL_law_1144 (by decide) (fun c_1144 => ?_) (fun c_1144 => ?_)
        · skip
          have c_1144 := zji_eq (a := 0) (b := 0) (by omega) (by omega) c_1144
          refine lv_iload hx hb dL_law_1149 (lv_at hl 1 rfl) ?_
          refine lv_if_ne (tgt := 1165) hx hb dL_law_1151 (by decide) (fun c_1151 => ?_) (fun c_1151 => ?_)
          · skip
            exact absurd c_1151 (by decide)
          · skip
            have c_1151 := zji_eq (a := 0) (b := 0) (by omega) (by omega) c_1151
            refine lv_aload_n hx hb dL_law_1154 rfl (lv_at hl 5 rfl) ?_
            refine lv_iconst (v := nI 0) hx hb dL_law_1155 (by decide) ?_
            refine z_lald (j := 0) hx hb hK hP 19 1 rfl rfl (by omega) (by omega) dL_law_1156 ?_
            refine zl_ (y := r_11) (by rw [pk_uLs]; exact er9.symm) ?_
            refine lv_lload hx hb dL_law_1157 (lv_at hl 0 rfl) ?_
            refine zl_eq (tgt := 1165) hx hb dL_law_1159 dL_law_1160 (by decide) (fun c_1160 => ?_) (fun c_1160 => ?_)
            · skip
              refine lv_goto (tgt := 1436) hx hb dL_law_1165 (by decide) ?_
              refine W.widen (k := cc_ + 1) (n := ss_ + 6) (Nat.le_add_right _ _) (Nat.le_add_right _ _) ?_ 
              exact nx h_ w_ bs_ tl_ sp_ ca_ cb_ oc_ st_ th29 wl_ wr_ es_ eb_ et_ fl_ fr_ (vp_updL fo_ 0 (lN (keyN kk ww pp))) fa_ fb_ ga_ gb_ gr_ xa_ xb_ fd_ _ _ _ _ ⟨iw1, iw2, ih, ib1, ib2, it1, it2, is1, is2, ice, icb, ict, ija, ijb, iga, igb, ich⟩ hd hP hD hS (lv_sub hl [2, 3, 4, 5, 6, 7] rfl)
            · skip
              exact absurd rfl c_1160
        · skip
          exact absurd c_1144 (by decide)
