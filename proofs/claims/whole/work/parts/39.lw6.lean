abbrev rm_L_exact : Room := { frames := 7, cells := 0, slots := 0, locals := 176 }
set_option maxHeartbeats 4000000 in
set_option maxRecDepth 100000 in
/-- exact, called -/
theorem ct_L_exact (l : Launch) (D : va_G) (cI cJ cD : ClassId) (o_ : Nat) (ro_ : Nat) (ja_ : Nat) (jb_ : Nat) (sr_ : Nat) (br_ : Nat) (tr_ : Nat) (ch_ : Nat) (lf_ : Nat) (ri_ : Nat) (sh_ : Int32) (sp_ : Int32) (n_ : Nat) (ld_ : Nat) (rd_ : Nat) (wl_ : Int32) (wr_ : Int32) (fl_ : Nat → Int64) (fr_ : Nat → Int64) (r_ : Nat → UInt64) (se_ : Nat) (k_ : Nat) (a_ : Nat) (ln_ : Int64) (e_ : Nat → Int64) (fa_ : Nat → Int32) (fb_ : Nat → Int32) (ou_ : Nat) (fo_ : Nat → Int64) (sz : Nat) (hn1 : 1 ≤ n_) (hn : n_ ≤ 24) (hk : k_ ≤ 2 * n_) (ha1 : 1 ≤ a_) (ha : a_ ≤ 65536000000) (hc : cacheOK e_ n_ a_) : MetD lw_cs l yL_exact wsL_exact rm_L_exact (zP D (ty3 cI cJ cD) [.ref o_, .int (nI k_), .ref ou_] sz [(o_, .inr (3, [.int (nI n_), .ref ro_, .ref ja_, .ref jb_, .ref sr_, .ref br_, .ref tr_, .ref ch_, .ref lf_, .ref ri_, .int sh_, .int sp_])), (ro_, .inl (cD, n_, .inr (.inr (.inr (.inl r_))))), (lf_, .inr (0, [.ref ld_, .int wl_])), (ld_, .inl (cJ, 40, .inr (.inl fl_))), (ri_, .inr (0, [.ref rd_, .int wr_])), (rd_, .inl (cJ, 40, .inr (.inl fr_))), (ja_, .inl (cI, 2 * n_ + 1, .inl fa_)), (jb_, .inl (cI, 2 * n_ + 1, .inl fb_)), (sr_, .inr (2, [.ref se_, .long ln_, .long (lN a_)])), (se_, .inl (cJ, n_, .inr (.inl e_))), (ou_, .inl (cJ, 1, .inr (.inl fo_)))] (nLaw (va_A [(o_, .inr (3, [.int (nI n_), .ref ro_, .ref ja_, .ref jb_, .ref sr_, .ref br_, .ref tr_, .ref ch_, .ref lf_, .ref ri_, .int sh_, .int sp_])), (ro_, .inl (cD, n_, .inr (.inr (.inr (.inl r_))))), (lf_, .inr (0, [.ref ld_, .int wl_])), (ld_, .inl (cJ, 40, .inr (.inl fl_))), (ri_, .inr (0, [.ref rd_, .int wr_])), (rd_, .inl (cJ, 40, .inr (.inl fr_))), (ja_, .inl (cI, 2 * n_ + 1, .inl fa_)), (jb_, .inl (cI, 2 * n_ + 1, .inl fb_)), (sr_, .inr (2, [.ref se_, .long ln_, .long (lN a_)])), (se_, .inl (cJ, n_, .inr (.inl e_))), (ou_, .inl (cJ, 1, .inr (.inl fo_)))] sz))) (va_Qi (fun (r : Int32) (u : Nat × Int32 × (Nat → Int64) × Int32 × (Nat → Int64) × (Nat → Int64)) => r = nI 0 ∧ rootI n_ k_ a_ (u.1) ∧ cacheOK (u.2.2.2.2.2) n_ a_) (zB D (ty3 cI cJ cD) (fun (u : Nat × Int32 × (Nat → Int64) × Int32 × (Nat → Int64) × (Nat → Int64)) => [(o_, .inr (3, [.int (nI n_), .ref ro_, .ref ja_, .ref jb_, .ref sr_, .ref br_, .ref tr_, .ref ch_, .ref lf_, .ref ri_, .int sh_, .int sp_])), (ro_, .inl (cD, n_, .inr (.inr (.inr (.inl r_))))), (lf_, .inr (0, [.ref ld_, .int (u.2.1)])), (ld_, .inl (cJ, 40, .inr (.inl (u.2.2.1)))), (ri_, .inr (0, [.ref rd_, .int (u.2.2.2.1)])), (rd_, .inl (cJ, 40, .inr (.inl (u.2.2.2.2.1)))), (ja_, .inl (cI, 2 * n_ + 1, .inl fa_)), (jb_, .inl (cI, 2 * n_ + 1, .inl fb_)), (sr_, .inr (2, [.ref se_, .long ln_, .long (lN a_)])), (se_, .inl (cJ, n_, .inr (.inl (u.2.2.2.2.2)))), (ou_, .inl (cJ, 1, .inr (.inl (vp_updL fo_ 0 (lN (emI k_ n_ (u.1) a_))))))]) (va_A [(o_, .inr (3, [.int (nI n_), .ref ro_, .ref ja_, .ref jb_, .ref sr_, .ref br_, .ref tr_, .ref ch_, .ref lf_, .ref ri_, .int sh_, .int sp_])), (ro_, .inl (cD, n_, .inr (.inr (.inr (.inl r_))))), (lf_, .inr (0, [.ref ld_, .int wl_])), (ld_, .inl (cJ, 40, .inr (.inl fl_))), (ri_, .inr (0, [.ref rd_, .int wr_])), (rd_, .inl (cJ, 40, .inr (.inl fr_))), (ja_, .inl (cI, 2 * n_ + 1, .inl fa_)), (jb_, .inl (cI, 2 * n_ + 1, .inl fb_)), (sr_, .inr (2, [.ref se_, .long ln_, .long (lN a_)])), (se_, .inl (cJ, n_, .inr (.inl e_))), (ou_, .inl (cJ, 1, .inr (.inl fo_)))] sz)) (va_A [(o_, .inr (3, [.int (nI n_), .ref ro_, .ref ja_, .ref jb_, .ref sr_, .ref br_, .ref tr_, .ref ch_, .ref lf_, .ref ri_, .int sh_, .int sp_])), (ro_, .inl (cD, n_, .inr (.inr (.inr (.inl r_))))), (lf_, .inr (0, [.ref ld_, .int wl_])), (ld_, .inl (cJ, 40, .inr (.inl fl_))), (ri_, .inr (0, [.ref rd_, .int wr_])), (rd_, .inl (cJ, 40, .inr (.inl fr_))), (ja_, .inl (cI, 2 * n_ + 1, .inl fa_)), (jb_, .inl (cI, 2 * n_ + 1, .inl fb_)), (sr_, .inr (2, [.ref se_, .long ln_, .long (lN a_)])), (se_, .inl (cJ, n_, .inr (.inl e_))), (ou_, .inl (cJ, 1, .inr (.inl fo_)))] sz)) 0 0 (va_A [(o_, .inr (3, [.int (nI n_), .ref ro_, .ref ja_, .ref jb_, .ref sr_, .ref br_, .ref tr_, .ref ch_, .ref lf_, .ref ri_, .int sh_, .int sp_])), (ro_, .inl (cD, n_, .inr (.inr (.inr (.inl r_))))), (lf_, .inr (0, [.ref ld_, .int wl_])), (ld_, .inl (cJ, 40, .inr (.inl fl_))), (ri_, .inr (0, [.ref rd_, .int wr_])), (rd_, .inl (cJ, 40, .inr (.inl fr_))), (ja_, .inl (cI, 2 * n_ + 1, .inl fa_)), (jb_, .inl (cI, 2 * n_ + 1, .inl fb_)), (sr_, .inr (2, [.ref se_, .long ln_, .long (lN a_)])), (se_, .inl (cJ, n_, .inr (.inl e_))), (ou_, .inl (cJ, 1, .inr (.inl fo_)))] sz) := by
  refine zMetWDz (E := nLaw) (Qf := fun A => va_Qi (fun (r : Int32) (u : Nat × Int32 × (Nat → Int64) × Int32 × (Nat → Int64) × (Nat → Int64)) => r = nI 0 ∧ rootI n_ k_ a_ (u.1) ∧ cacheOK (u.2.2.2.2.2) n_ a_) (zB D (ty3 cI cJ cD) (fun (u : Nat × Int32 × (Nat → Int64) × Int32 × (Nat → Int64) × (Nat → Int64)) => [(o_, .inr (3, [.int (nI n_), .ref ro_, .ref ja_, .ref jb_, .ref sr_, .ref br_, .ref tr_, .ref ch_, .ref lf_, .ref ri_, .int sh_, .int sp_])), (ro_, .inl (cD, n_, .inr (.inr (.inr (.inl r_))))), (lf_, .inr (0, [.ref ld_, .int (u.2.1)])), (ld_, .inl (cJ, 40, .inr (.inl (u.2.2.1)))), (ri_, .inr (0, [.ref rd_, .int (u.2.2.2.1)])), (rd_, .inl (cJ, 40, .inr (.inl (u.2.2.2.2.1)))), (ja_, .inl (cI, 2 * n_ + 1, .inl fa_)), (jb_, .inl (cI, 2 * n_ + 1, .inl fb_)), (sr_, .inr (2, [.ref se_, .long ln_, .long (lN a_)])), (se_, .inl (cJ, n_, .inr (.inl (u.2.2.2.2.2)))), (ou_, .inl (cJ, 1, .inr (.inl (vp_updL fo_ 0 (lN (emI k_ n_ (u.1) a_))))))]) A) A) (cc := cL_exact) (maxL := 4) (ret := (some .int)) (hh := [(0, 16, 19, 19)]) (by decide) rfl (Nat.le_of_ble_eq_true rfl) ?_
  intro p e s m args below meth c A ls Q H d hargs hQ hHe hx hb hr hml hown hts hlocks hin hP hK hD hA hS hE hAe hl hd
  have hl : lv_has ls 4 [(0, .ref o_), (1, .int (nI k_)), (2, .ref ou_)] := hl
  have hts0 := hts
  have hK0 := hK
  have hts := dr_words hts0 d
  have hK := zK_dr (d := d) hK0
  have hown : (s.setDrawn d).vm.findClass RL = some m.cls := hown
  refine lv_aload_n hx hb dL_exact_0 rfl (lv_at hl 2 rfl) ?_
  refine lv_iconst (v := nI 0) hx hb dL_exact_1 (by decide) ?_
  refine lv_aload_n hx hb dL_exact_2 rfl (lv_at hl 0 rfl) ?_
  refine lv_iload_n hx hb dL_exact_3 rfl (lv_at hl 1 rfl) ?_
  refine zd_i hd (wc := [(o_, .inr (3, [.int (nI n_), .ref ro_, .ref ja_, .ref jb_, .ref sr_, .ref br_, .ref tr_, .ref ch_, .ref lf_, .ref ri_, .int sh_, .int sp_])), (ro_, .inl (cD, n_, .inr (.inr (.inr (.inl r_))))), (lf_, .inr (0, [.ref ld_, .int wl_])), (ld_, .inl (cJ, 40, .inr (.inl fl_))), (ri_, .inr (0, [.ref rd_, .int wr_])), (rd_, .inl (cJ, 40, .inr (.inl fr_))), (ja_, .inl (cI, 2 * n_ + 1, .inl fa_)), (jb_, .inl (cI, 2 * n_ + 1, .inl fb_)), (sr_, .inr (2, [.ref se_, .long ln_, .long (lN a_)])), (se_, .inl (cJ, n_, .inr (.inl e_)))]) (wr := [(ou_, .inl (cJ, 1, .inr (.inl fo_)))]) hP hD hS hA [0, 1, 2, 3, 4, 5, 6, 7, 8, 9] [10] rfl rfl (by decide) (by decide) (va_runV_D (As := [.int (nI k_)]) (rest := [.int (nI 0), .ref ou_]) ⟨hx, hb, hml, hown, hts⟩ (ct_X3_exact l D cI cJ cD o_ ro_ ja_ jb_ sr_ br_ tr_ ch_ lf_ ri_ sh_ sp_ n_ ld_ rd_ wl_ wr_ fl_ fr_ r_ se_ k_ a_ ln_ e_ fa_ fb_ H.size hn1 hn hk ha1 ha hc) (cwV 1 hts gL_exact_X3_exact rfl rfl rfl (by decide +kernel) ⟨Nat.le_of_ble_eq_true rfl, Nat.le_of_ble_eq_true rfl⟩) (zPreV (wc := [(o_, .inr (3, [.int (nI n_), .ref ro_, .ref ja_, .ref jb_, .ref sr_, .ref br_, .ref tr_, .ref ch_, .ref lf_, .ref ri_, .int sh_, .int sp_])), (ro_, .inl (cD, n_, .inr (.inr (.inr (.inl r_))))), (lf_, .inr (0, [.ref ld_, .int wl_])), (ld_, .inl (cJ, 40, .inr (.inl fl_))), (ri_, .inr (0, [.ref rd_, .int wr_])), (rd_, .inl (cJ, 40, .inr (.inl fr_))), (ja_, .inl (cI, 2 * n_ + 1, .inl fa_)), (jb_, .inl (cI, 2 * n_ + 1, .inl fb_)), (sr_, .inr (2, [.ref se_, .long ln_, .long (lN a_)])), (se_, .inl (cJ, n_, .inr (.inl e_)))]) hK (hP.sub [0, 1, 2, 3, 4, 5, 6, 7, 8, 9] rfl) (hD.sub [0, 1, 2, 3, 4, 5, 6, 7, 8, 9] (by decide) rfl) 3 0 rfl rfl zTb (fun _ _ _ => trivial)) rfl rfl hl.1 rfl (lv_room (Nat.le_of_ble_eq_true rfl)) dL_exact_4 ⟨Nat.le_of_ble_eq_true rfl, Nat.le_of_ble_eq_true rfl⟩) (fun r_1 u9_ H locs hw hP hD hS d hd => ?_)
  have hts := dr_words hts0 d
  have hK := zK_dr (d := d) hK0
  have hown : (s.setDrawn d).vm.findClass RL = some m.cls := hown
  obtain ⟨w2q, wl2q, fl2q, wr2q, fr2q, e2q⟩ := u9_
  have hP : va_P D cl5 [(o_, .inr (3, [.int (nI n_), .ref ro_, .ref ja_, .ref jb_, .ref sr_, .ref br_, .ref tr_, .ref ch_, .ref lf_, .ref ri_, .int sh_, .int sp_])), (ro_, .inl (cD, n_, .inr (.inr (.inr (.inl r_))))), (lf_, .inr (0, [.ref ld_, .int wl2q])), (ld_, .inl (cJ, 40, .inr (.inl fl2q))), (ri_, .inr (0, [.ref rd_, .int wr2q])), (rd_, .inl (cJ, 40, .inr (.inl fr2q))), (ja_, .inl (cI, 2 * n_ + 1, .inl fa_)), (jb_, .inl (cI, 2 * n_ + 1, .inl fb_)), (sr_, .inr (2, [.ref se_, .long ln_, .long (lN a_)])), (se_, .inl (cJ, n_, .inr (.inl e2q))), (ou_, .inl (cJ, 1, .inr (.inl fo_)))] H := hP.sub [1, 2, 3, 4, 5, 6, 7, 8, 9, 10, 0] rfl
  have hD : va_D A [(o_, .inr (3, [.int (nI n_), .ref ro_, .ref ja_, .ref jb_, .ref sr_, .ref br_, .ref tr_, .ref ch_, .ref lf_, .ref ri_, .int sh_, .int sp_])), (ro_, .inl (cD, n_, .inr (.inr (.inr (.inl r_))))), (lf_, .inr (0, [.ref ld_, .int wl2q])), (ld_, .inl (cJ, 40, .inr (.inl fl2q))), (ri_, .inr (0, [.ref rd_, .int wr2q])), (rd_, .inl (cJ, 40, .inr (.inl fr2q))), (ja_, .inl (cI, 2 * n_ + 1, .inl fa_)), (jb_, .inl (cI, 2 * n_ + 1, .inl fb_)), (sr_, .inr (2, [.ref se_, .long ln_, .long (lN a_)])), (se_, .inl (cJ, n_, .inr (.inl e2q))), (ou_, .inl (cJ, 1, .inr (.inl fo_)))] := hD.sub [1, 2, 3, 4, 5, 6, 7, 8, 9, 10, 0] (by decide) rfl
  have hw : r_1 = nI (emI k_ n_ w2q a_) ∧ rootI n_ k_ a_ w2q ∧ cacheOK e2q n_ a_ := hw
  obtain ⟨rfl, hR_4, hC_4⟩ := hw
  refine lv_if_eq (tgt := 14) hx hb dL_exact_7 (by decide) (fun c_7 => ?_) (fun c_7 => ?_)
  · skip
    have c_7 := zji_eq (a := emI k_ n_ w2q a_) (b := 0) ((by have := emI_le k_ n_ w2q a_; omega)) ((by have := emI_le k_ n_ w2q a_; omega)) c_7
    refine lv_lconst (v := lN 0) hx hb dL_exact_14 rfl ?_
    refine zl_ (y := lN (emI k_ n_ w2q a_)) (by exact congrArg lN (by omega)) ?_
    refine z_last (j := 0) hx hb hK hP hD hS 10 1 rfl rfl (by omega) (by omega) dL_exact_15 (fun H locs hP hD hS => ?_)
    have hP : va_P D cl5 [(o_, .inr (3, [.int (nI n_), .ref ro_, .ref ja_, .ref jb_, .ref sr_, .ref br_, .ref tr_, .ref ch_, .ref lf_, .ref ri_, .int sh_, .int sp_])), (ro_, .inl (cD, n_, .inr (.inr (.inr (.inl r_))))), (lf_, .inr (0, [.ref ld_, .int wl2q])), (ld_, .inl (cJ, 40, .inr (.inl fl2q))), (ri_, .inr (0, [.ref rd_, .int wr2q])), (rd_, .inl (cJ, 40, .inr (.inl fr2q))), (ja_, .inl (cI, 2 * n_ + 1, .inl fa_)), (jb_, .inl (cI, 2 * n_ + 1, .inl fb_)), (sr_, .inr (2, [.ref se_, .long ln_, .long (lN a_)])), (se_, .inl (cJ, n_, .inr (.inl e2q))), (ou_, .inl (cJ, 1, .inr (.inl (vp_updL fo_ 0 (lN (emI k_ n_ w2q a_))))))] H := hP
    have hD : va_D A [(o_, .inr (3, [.int (nI n_), .ref ro_, .ref ja_, .ref jb_, .ref sr_, .ref br_, .ref tr_, .ref ch_, .ref lf_, .ref ri_, .int sh_, .int sp_])), (ro_, .inl (cD, n_, .inr (.inr (.inr (.inl r_))))), (lf_, .inr (0, [.ref ld_, .int wl2q])), (ld_, .inl (cJ, 40, .inr (.inl fl2q))), (ri_, .inr (0, [.ref rd_, .int wr2q])), (rd_, .inl (cJ, 40, .inr (.inl fr2q))), (ja_, .inl (cI, 2 * n_ + 1, .inl fa_)), (jb_, .inl (cI, 2 * n_ + 1, .inl fb_)), (sr_, .inr (2, [.ref se_, .long ln_, .long (lN a_)])), (se_, .inl (cJ, n_, .inr (.inl e2q))), (ou_, .inl (cJ, 1, .inr (.inl (vp_updL fo_ 0 (lN (emI k_ n_ w2q a_))))))] := hD
    refine lv_goto (tgt := 22) hx hb dL_exact_16 (by decide) ?_
    refine lv_iconst (v := nI 0) hx hb dL_exact_22 (by decide) ?_
    subst hQ
    refine W.endD hd ?_
    exact ze_i hx hb hr hlocks (w2q, wl2q, fl2q, wr2q, fr2q, e2q) (⟨rfl, hR_4, hC_4⟩) hP hK hD hS dL_exact_23
  · skip
    have c_7 := zji_ne (a := emI k_ n_ w2q a_) (b := 0) ((by have := emI_le k_ n_ w2q a_; omega)) ((by have := emI_le k_ n_ w2q a_; omega)) c_7
    refine lv_lconst (v := lN 1) hx hb dL_exact_10 rfl ?_
    refine zl_ (y := lN (emI k_ n_ w2q a_)) (by have := emI_le k_ n_ w2q a_; exact congrArg lN (by omega)) ?_
    refine lv_goto (tgt := 15) hx hb dL_exact_11 (by decide) ?_
    refine z_last (j := 0) hx hb hK hP hD hS 10 1 rfl rfl (by omega) (by omega) dL_exact_15 (fun H locs hP hD hS => ?_)
    have hP : va_P D cl5 [(o_, .inr (3, [.int (nI n_), .ref ro_, .ref ja_, .ref jb_, .ref sr_, .ref br_, .ref tr_, .ref ch_, .ref lf_, .ref ri_, .int sh_, .int sp_])), (ro_, .inl (cD, n_, .inr (.inr (.inr (.inl r_))))), (lf_, .inr (0, [.ref ld_, .int wl2q])), (ld_, .inl (cJ, 40, .inr (.inl fl2q))), (ri_, .inr (0, [.ref rd_, .int wr2q])), (rd_, .inl (cJ, 40, .inr (.inl fr2q))), (ja_, .inl (cI, 2 * n_ + 1, .inl fa_)), (jb_, .inl (cI, 2 * n_ + 1, .inl fb_)), (sr_, .inr (2, [.ref se_, .long ln_, .long (lN a_)])), (se_, .inl (cJ, n_, .inr (.inl e2q))), (ou_, .inl (cJ, 1, .inr (.inl (vp_updL fo_ 0 (lN (emI k_ n_ w2q a_))))))] H := hP
    have hD : va_D A [(o_, .inr (3, [.int (nI n_), .ref ro_, .ref ja_, .ref jb_, .ref sr_, .ref br_, .ref tr_, .ref ch_, .ref lf_, .ref ri_, .int sh_, .int sp_])), (ro_, .inl (cD, n_, .inr (.inr (.inr (.inl r_))))), (lf_, .inr (0, [.ref ld_, .int wl2q])), (ld_, .inl (cJ, 40, .inr (.inl fl2q))), (ri_, .inr (0, [.ref rd_, .int wr2q])), (rd_, .inl (cJ, 40, .inr (.inl fr2q))), (ja_, .inl (cI, 2 * n_ + 1, .inl fa_)), (jb_, .inl (cI, 2 * n_ + 1, .inl fb_)), (sr_, .inr (2, [.ref se_, .long ln_, .long (lN a_)])), (se_, .inl (cJ, n_, .inr (.inl e2q))), (ou_, .inl (cJ, 1, .inr (.inl (vp_updL fo_ 0 (lN (emI k_ n_ w2q a_))))))] := hD
    refine lv_goto (tgt := 22) hx hb dL_exact_16 (by decide) ?_
    refine lv_iconst (v := nI 0) hx hb dL_exact_22 (by decide) ?_
    subst hQ
    refine W.endD hd ?_
    exact ze_i hx hb hr hlocks (w2q, wl2q, fl2q, wr2q, fr2q, e2q) (⟨rfl, hR_4, hC_4⟩) hP hK hD hS dL_exact_23
abbrev rm_L_step : Room := { frames := 4, cells := 0, slots := 0, locals := 111 }
set_option maxHeartbeats 4000000 in
set_option maxRecDepth 100000 in
/-- step, called -/
theorem ct_L_step (l : Launch) (D : va_G) (cI cJ cD : ClassId) (o_ : Nat) (ro_ : Nat) (ja_ : Nat) (jb_ : Nat) (sr_ : Nat) (br_ : Nat) (tr_ : Nat) (ch_ : Nat) (lf_ : Nat) (ri_ : Nat) (nn_ : Int32) (sh_ : Int32) (sp_ : Int32) (ca_ : Nat) (cb_ : Nat) (x_ : Nat) (y_ : Nat) (oc_ : Int64) (st_ : Int64) (ou_ : Nat) (fo_ : Nat → Int64) (sz : Nat) (hch : chOK ca_ cb_) (hx1 : 1 ≤ x_) (hx2 : x_ ≤ 1000000) (hy1 : 1 ≤ y_) (hy2 : y_ ≤ 1000000) : Met l yL_step wsL_step rm_L_step (zP D (ty3 cI cJ cD) [.ref o_, .int (nI x_), .int (nI y_), .ref ou_] sz [(o_, .inr (3, [.int nn_, .ref ro_, .ref ja_, .ref jb_, .ref sr_, .ref br_, .ref tr_, .ref ch_, .ref lf_, .ref ri_, .int sh_, .int sp_])), (ch_, .inr (1, [.long (lN ca_), .long (lN cb_), .long oc_, .long st_])), (ou_, .inl (cJ, 1, .inr (.inl fo_)))] (nLaw (va_A [(o_, .inr (3, [.int nn_, .ref ro_, .ref ja_, .ref jb_, .ref sr_, .ref br_, .ref tr_, .ref ch_, .ref lf_, .ref ri_, .int sh_, .int sp_])), (ch_, .inr (1, [.long (lN ca_), .long (lN cb_), .long oc_, .long st_])), (ou_, .inl (cJ, 1, .inr (.inl fo_)))] sz))) (va_Qi (fun (r : Int32) (u : Nat × Nat × Int64 × Int64 × Int32) => r = nI 0 ∧ ((u.2.2.2.2) = 0 ∨ (u.2.2.2.2) = 1) ∧ stD ca_ cb_ x_ y_ oc_ st_ (u.2.2.2.2) (u.1) (u.2.1) (u.2.2.1) (u.2.2.2.1)) (zB D (ty3 cI cJ cD) (fun (u : Nat × Nat × Int64 × Int64 × Int32) => [(o_, .inr (3, [.int nn_, .ref ro_, .ref ja_, .ref jb_, .ref sr_, .ref br_, .ref tr_, .ref ch_, .ref lf_, .ref ri_, .int sh_, .int sp_])), (ch_, .inr (1, [.long (lN (u.1)), .long (lN (u.2.1)), .long (u.2.2.1), .long (u.2.2.2.1)])), (ou_, .inl (cJ, 1, .inr (.inl (vp_updL fo_ 0 (if (u.2.2.2.2) = 0 then lN 0 else lN 1)))))]) (va_A [(o_, .inr (3, [.int nn_, .ref ro_, .ref ja_, .ref jb_, .ref sr_, .ref br_, .ref tr_, .ref ch_, .ref lf_, .ref ri_, .int sh_, .int sp_])), (ch_, .inr (1, [.long (lN ca_), .long (lN cb_), .long oc_, .long st_])), (ou_, .inl (cJ, 1, .inr (.inl fo_)))] sz)) (va_A [(o_, .inr (3, [.int nn_, .ref ro_, .ref ja_, .ref jb_, .ref sr_, .ref br_, .ref tr_, .ref ch_, .ref lf_, .ref ri_, .int sh_, .int sp_])), (ch_, .inr (1, [.long (lN ca_), .long (lN cb_), .long oc_, .long st_])), (ou_, .inl (cJ, 1, .inr (.inl fo_)))] sz)) 0 0 (va_A [(o_, .inr (3, [.int nn_, .ref ro_, .ref ja_, .ref jb_, .ref sr_, .ref br_, .ref tr_, .ref ch_, .ref lf_, .ref ri_, .int sh_, .int sp_])), (ch_, .inr (1, [.long (lN ca_), .long (lN cb_), .long oc_, .long st_])), (ou_, .inl (cJ, 1, .inr (.inl fo_)))] sz) := by
  refine zMetW (E := nLaw) (Qf := fun A => va_Qi (fun (r : Int32) (u : Nat × Nat × Int64 × Int64 × Int32) => r = nI 0 ∧ ((u.2.2.2.2) = 0 ∨ (u.2.2.2.2) = 1) ∧ stD ca_ cb_ x_ y_ oc_ st_ (u.2.2.2.2) (u.1) (u.2.1) (u.2.2.1) (u.2.2.2.1)) (zB D (ty3 cI cJ cD) (fun (u : Nat × Nat × Int64 × Int64 × Int32) => [(o_, .inr (3, [.int nn_, .ref ro_, .ref ja_, .ref jb_, .ref sr_, .ref br_, .ref tr_, .ref ch_, .ref lf_, .ref ri_, .int sh_, .int sp_])), (ch_, .inr (1, [.long (lN (u.1)), .long (lN (u.2.1)), .long (u.2.2.1), .long (u.2.2.2.1)])), (ou_, .inl (cJ, 1, .inr (.inl (vp_updL fo_ 0 (if (u.2.2.2.2) = 0 then lN 0 else lN 1)))))]) A) A) (cc := cL_step) (maxL := 5) (ret := (some .int)) (hh := [(0, 17, 20, 13)]) (by decide) rfl (Nat.le_of_ble_eq_true rfl) ?_
  intro p e s m args below meth c A ls Q H hargs hQ hHe hx hb hr hml hown hts hlocks hin hP hK hD hA hS hE hAe htb hl
  have hl : lv_has ls 5 [(0, .ref o_), (1, .int (nI x_)), (2, .int (nI y_)), (3, .ref ou_)] := hl
  refine lv_aload_n hx hb dL_step_0 rfl (lv_at hl 3 rfl) ?_
  refine lv_iconst (v := nI 0) hx hb dL_step_1 (by decide) ?_
  refine lv_aload_n hx hb dL_step_2 rfl (lv_at hl 0 rfl) ?_
  refine lv_iload_n hx hb dL_step_3 rfl (lv_at hl 1 rfl) ?_
  refine lv_iload_n hx hb dL_step_4 rfl (lv_at hl 2 rfl) ?_
  refine zc_i (wc := [(o_, .inr (3, [.int nn_, .ref ro_, .ref ja_, .ref jb_, .ref sr_, .ref br_, .ref tr_, .ref ch_, .ref lf_, .ref ri_, .int sh_, .int sp_])), (ch_, .inr (1, [.long (lN ca_), .long (lN cb_), .long oc_, .long st_]))]) (wr := [(ou_, .inl (cJ, 1, .inr (.inl fo_)))]) hP hD hS hA [0, 1] [2] rfl rfl (by decide) (by decide) (va_runV (As := [.int (nI x_), .int (nI y_)]) (rest := [.int (nI 0), .ref ou_]) ⟨hx, hb, hml, hown, hts⟩ (ct_X3_step l D cI cJ cD o_ ro_ ja_ jb_ sr_ br_ tr_ ch_ lf_ ri_ nn_ sh_ sp_ ca_ cb_ x_ y_ oc_ st_ H.size hch hx1 hx2 hy1 hy2) (cwV 2 hts gL_step_X3_step rfl rfl rfl (by decide +kernel) ⟨Nat.le_of_ble_eq_true rfl, Nat.le_of_ble_eq_true rfl⟩) (zPreV (wc := [(o_, .inr (3, [.int nn_, .ref ro_, .ref ja_, .ref jb_, .ref sr_, .ref br_, .ref tr_, .ref ch_, .ref lf_, .ref ri_, .int sh_, .int sp_])), (ch_, .inr (1, [.long (lN ca_), .long (lN cb_), .long oc_, .long st_]))]) hK (hP.sub [0, 1] rfl) (hD.sub [0, 1] (by decide) rfl) 3 0 rfl rfl nChain_calling (fun U hU hW => nChain_warm hW hE.2.2.2.1)) rfl rfl hl.1 rfl (lv_room (Nat.le_of_ble_eq_true rfl)) dL_step_5 ⟨Nat.le_of_ble_eq_true rfl, Nat.le_of_ble_eq_true rfl⟩) (fun r_1 u9_ H locs hw hP hD hS => ?_)
  obtain ⟨ca2q, cb2q, oc2q, st2q⟩ := u9_
  have hP : va_P D cl5 [(o_, .inr (3, [.int nn_, .ref ro_, .ref ja_, .ref jb_, .ref sr_, .ref br_, .ref tr_, .ref ch_, .ref lf_, .ref ri_, .int sh_, .int sp_])), (ch_, .inr (1, [.long (lN ca2q), .long (lN cb2q), .long oc2q, .long st2q])), (ou_, .inl (cJ, 1, .inr (.inl fo_)))] H := hP.sub [1, 2, 0] rfl
  have hD : va_D A [(o_, .inr (3, [.int nn_, .ref ro_, .ref ja_, .ref jb_, .ref sr_, .ref br_, .ref tr_, .ref ch_, .ref lf_, .ref ri_, .int sh_, .int sp_])), (ch_, .inr (1, [.long (lN ca2q), .long (lN cb2q), .long oc2q, .long st2q])), (ou_, .inl (cJ, 1, .inr (.inl fo_)))] := hD.sub [1, 2, 0] (by decide) rfl
  have hw : (r_1 = 0 ∨ r_1 = 1) ∧ stD ca_ cb_ x_ y_ oc_ st_ r_1 ca2q cb2q oc2q st2q := hw
  obtain ⟨hz_5, hE_5⟩ := hw
  refine lv_if_eq (tgt := 15) hx hb dL_step_8 (by decide) (fun c_8 => ?_) (fun c_8 => ?_)
  · skip
    refine lv_lconst (v := lN 0) hx hb dL_step_15 rfl ?_
    refine zl_ (y := if r_1 = 0 then lN 0 else lN 1) (by rw [if_pos c_8]) ?_
    refine z_last (j := 0) hx hb hK hP hD hS 2 1 rfl rfl (by omega) (by omega) dL_step_16 (fun H locs hP hD hS => ?_)
    have hP : va_P D cl5 [(o_, .inr (3, [.int nn_, .ref ro_, .ref ja_, .ref jb_, .ref sr_, .ref br_, .ref tr_, .ref ch_, .ref lf_, .ref ri_, .int sh_, .int sp_])), (ch_, .inr (1, [.long (lN ca2q), .long (lN cb2q), .long oc2q, .long st2q])), (ou_, .inl (cJ, 1, .inr (.inl (vp_updL fo_ 0 (if r_1 = 0 then lN 0 else lN 1)))))] H := hP
    have hD : va_D A [(o_, .inr (3, [.int nn_, .ref ro_, .ref ja_, .ref jb_, .ref sr_, .ref br_, .ref tr_, .ref ch_, .ref lf_, .ref ri_, .int sh_, .int sp_])), (ch_, .inr (1, [.long (lN ca2q), .long (lN cb2q), .long oc2q, .long st2q])), (ou_, .inl (cJ, 1, .inr (.inl (vp_updL fo_ 0 (if r_1 = 0 then lN 0 else lN 1)))))] := hD
    refine lv_goto (tgt := 24) hx hb dL_step_17 (by decide) ?_
    refine lv_iconst (v := nI 0) hx hb dL_step_24 (by decide) ?_
    subst hQ
    exact ze_i hx hb hr hlocks (ca2q, cb2q, oc2q, st2q, r_1) (⟨rfl, hz_5, hE_5⟩) hP hK hD hS dL_step_25
  · skip
    refine lv_lconst (v := lN 1) hx hb dL_step_11 rfl ?_
    refine zl_ (y := if r_1 = 0 then lN 0 else lN 1) (by rw [if_neg c_8]) ?_
    refine lv_goto (tgt := 16) hx hb dL_step_12 (by decide) ?_
    refine z_last (j := 0) hx hb hK hP hD hS 2 1 rfl rfl (by omega) (by omega) dL_step_16 (fun H locs hP hD hS => ?_)
    have hP : va_P D cl5 [(o_, .inr (3, [.int nn_, .ref ro_, .ref ja_, .ref jb_, .ref sr_, .ref br_, .ref tr_, .ref ch_, .ref lf_, .ref ri_, .int sh_, .int sp_])), (ch_, .inr (1, [.long (lN ca2q), .long (lN cb2q), .long oc2q, .long st2q])), (ou_, .inl (cJ, 1, .inr (.inl (vp_updL fo_ 0 (if r_1 = 0 then lN 0 else lN 1)))))] H := hP
    have hD : va_D A [(o_, .inr (3, [.int nn_, .ref ro_, .ref ja_, .ref jb_, .ref sr_, .ref br_, .ref tr_, .ref ch_, .ref lf_, .ref ri_, .int sh_, .int sp_])), (ch_, .inr (1, [.long (lN ca2q), .long (lN cb2q), .long oc2q, .long st2q])), (ou_, .inl (cJ, 1, .inr (.inl (vp_updL fo_ 0 (if r_1 = 0 then lN 0 else lN 1)))))] := hD
    refine lv_goto (tgt := 24) hx hb dL_step_17 (by decide) ?_
    refine lv_iconst (v := nI 0) hx hb dL_step_24 (by decide) ?_
    subst hQ
    exact ze_i hx hb hr hlocks (ca2q, cb2q, oc2q, st2q, r_1) (⟨rfl, hz_5, hE_5⟩) hP hK hD hS dL_step_25
abbrev rm_L_key : Room := { frames := 2, cells := 0, slots := 0, locals := 51 }
set_option maxHeartbeats 4000000 in
set_option maxRecDepth 100000 in
/-- key, called -/
theorem ct_L_key (l : Launch) (D : va_G) (cI cJ cD : ClassId) (o_ : Nat) (ro_ : Nat) (ja_ : Nat) (jb_ : Nat) (sr_ : Nat) (br_ : Nat) (tr_ : Nat) (ch_ : Nat) (lf_ : Nat) (ri_ : Nat) (nn_ : Int32) (sh_ : Int32) (sp_ : Int32) (k_ : Nat) (w_ : Nat) (p_ : Nat) (ou_ : Nat) (fo_ : Nat → Int64) (sz : Nat) (hk : k_ ≤ 11) (hw1 : 1 ≤ w_) (hw_ : w_ ≤ 1000000) (hp : p_ < 4) : Met l yL_key wsL_key rm_L_key (zP D (ty3 cI cJ cD) [.ref o_, .int (nI k_), .long (lN w_), .int (nI p_), .ref ou_] sz [(o_, .inr (3, [.int nn_, .ref ro_, .ref ja_, .ref jb_, .ref sr_, .ref br_, .ref tr_, .ref ch_, .ref lf_, .ref ri_, .int sh_, .int sp_])), (ou_, .inl (cJ, 1, .inr (.inl fo_)))] (nLaw (va_A [(o_, .inr (3, [.int nn_, .ref ro_, .ref ja_, .ref jb_, .ref sr_, .ref br_, .ref tr_, .ref ch_, .ref lf_, .ref ri_, .int sh_, .int sp_])), (ou_, .inl (cJ, 1, .inr (.inl fo_)))] sz))) (va_Qi (fun (r : Int32) (u : Unit) => r = nI 0) (zB D (ty3 cI cJ cD) (fun (u : Unit) => [(o_, .inr (3, [.int nn_, .ref ro_, .ref ja_, .ref jb_, .ref sr_, .ref br_, .ref tr_, .ref ch_, .ref lf_, .ref ri_, .int sh_, .int sp_])), (ou_, .inl (cJ, 1, .inr (.inl (vp_updL fo_ 0 (lN (keyN k_ w_ p_))))))]) (va_A [(o_, .inr (3, [.int nn_, .ref ro_, .ref ja_, .ref jb_, .ref sr_, .ref br_, .ref tr_, .ref ch_, .ref lf_, .ref ri_, .int sh_, .int sp_])), (ou_, .inl (cJ, 1, .inr (.inl fo_)))] sz)) (va_A [(o_, .inr (3, [.int nn_, .ref ro_, .ref ja_, .ref jb_, .ref sr_, .ref br_, .ref tr_, .ref ch_, .ref lf_, .ref ri_, .int sh_, .int sp_])), (ou_, .inl (cJ, 1, .inr (.inl fo_)))] sz)) 0 0 (va_A [(o_, .inr (3, [.int nn_, .ref ro_, .ref ja_, .ref jb_, .ref sr_, .ref br_, .ref tr_, .ref ch_, .ref lf_, .ref ri_, .int sh_, .int sp_])), (ou_, .inl (cJ, 1, .inr (.inl fo_)))] sz) := by
  refine zMetW (E := nLaw) (Qf := fun A => va_Qi (fun (r : Int32) (u : Unit) => r = nI 0) (zB D (ty3 cI cJ cD) (fun (u : Unit) => [(o_, .inr (3, [.int nn_, .ref ro_, .ref ja_, .ref jb_, .ref sr_, .ref br_, .ref tr_, .ref ch_, .ref lf_, .ref ri_, .int sh_, .int sp_])), (ou_, .inl (cJ, 1, .inr (.inl (vp_updL fo_ 0 (lN (keyN k_ w_ p_))))))]) A) A) (cc := cL_key) (maxL := 7) (ret := (some .int)) (hh := [(0, 12, 15, 19), (0, 12, 19, 13)]) (by decide) rfl (Nat.le_of_ble_eq_true rfl) ?_
  intro p e s m args below meth c A ls Q H hargs hQ hHe hx hb hr hml hown hts hlocks hin hP hK hD hA hS hE hAe htb hl
  have hl : lv_has ls 7 [(0, .ref o_), (1, .int (nI k_)), (2, .long (lN w_)), (4, .int (nI p_)), (5, .ref ou_)] := hl
  refine lv_aload hx hb dL_key_0 (lv_at hl 4 rfl) ?_
  refine lv_iconst (v := nI 0) hx hb dL_key_2 (by decide) ?_
  refine lv_aload_n hx hb dL_key_3 rfl (lv_at hl 0 rfl) ?_
  refine lv_iload_n hx hb dL_key_4 rfl (lv_at hl 1 rfl) ?_
  refine lv_lload_n hx hb dL_key_5 rfl (lv_at hl 2 rfl) ?_
  refine lv_iload hx hb dL_key_6 (lv_at hl 3 rfl) ?_
  refine zc_l (wc := [(o_, .inr (3, [.int nn_, .ref ro_, .ref ja_, .ref jb_, .ref sr_, .ref br_, .ref tr_, .ref ch_, .ref lf_, .ref ri_, .int sh_, .int sp_]))]) (wr := [(ou_, .inl (cJ, 1, .inr (.inl fo_)))]) hP hD hS hA [0] [1] rfl rfl (by decide) (by decide) (va_runV (As := [.int (nI k_), .long (lN w_), .int (nI p_)]) (rest := [.int (nI 0), .ref ou_]) ⟨hx, hb, hml, hown, hts⟩ (ct_X3_key l D cI cJ cD o_ ro_ ja_ jb_ sr_ br_ tr_ ch_ lf_ ri_ nn_ sh_ sp_ k_ w_ p_ H.size hk hw1 hw_ hp) (cwV 3 hts gL_key_X3_key rfl rfl rfl (by decide +kernel) ⟨Nat.le_of_ble_eq_true rfl, Nat.le_of_ble_eq_true rfl⟩) (zPreV (wc := [(o_, .inr (3, [.int nn_, .ref ro_, .ref ja_, .ref jb_, .ref sr_, .ref br_, .ref tr_, .ref ch_, .ref lf_, .ref ri_, .int sh_, .int sp_]))]) hK (hP.sub [0] rfl) (hD.sub [0] (by decide) rfl) 3 0 rfl rfl nTh_calling (fun U hU hW => nTh_warm hE.1 hS (va_free (wc := [(o_, .inr (3, [.int nn_, .ref ro_, .ref ja_, .ref jb_, .ref sr_, .ref br_, .ref tr_, .ref ch_, .ref lf_, .ref ri_, .int sh_, .int sp_]))]) hD hS hA [0] rfl) hU hW)) rfl rfl hl.1 rfl (lv_room (Nat.le_of_ble_eq_true rfl)) dL_key_8 ⟨Nat.le_of_ble_eq_true rfl, Nat.le_of_ble_eq_true rfl⟩) (fun r_1 u9_ H locs hw hP hD hS => ?_)
  have hP : va_P D cl5 [(o_, .inr (3, [.int nn_, .ref ro_, .ref ja_, .ref jb_, .ref sr_, .ref br_, .ref tr_, .ref ch_, .ref lf_, .ref ri_, .int sh_, .int sp_])), (ou_, .inl (cJ, 1, .inr (.inl fo_)))] H := hP.sub [1, 0] rfl
  have hD : va_D A [(o_, .inr (3, [.int nn_, .ref ro_, .ref ja_, .ref jb_, .ref sr_, .ref br_, .ref tr_, .ref ch_, .ref lf_, .ref ri_, .int sh_, .int sp_])), (ou_, .inl (cJ, 1, .inr (.inl fo_)))] := hD.sub [1, 0] (by decide) rfl
  have hw : r_1 = lN (keyN k_ w_ p_) := hw
  subst hw
  refine z_last (j := 0) hx hb hK hP hD hS 1 1 rfl rfl (by omega) (by omega) dL_key_11 (fun H locs hP hD hS => ?_)
  have hP : va_P D cl5 [(o_, .inr (3, [.int nn_, .ref ro_, .ref ja_, .ref jb_, .ref sr_, .ref br_, .ref tr_, .ref ch_, .ref lf_, .ref ri_, .int sh_, .int sp_])), (ou_, .inl (cJ, 1, .inr (.inl (vp_updL fo_ 0 (lN (keyN k_ w_ p_))))))] H := hP
  have hD : va_D A [(o_, .inr (3, [.int nn_, .ref ro_, .ref ja_, .ref jb_, .ref sr_, .ref br_, .ref tr_, .ref ch_, .ref lf_, .ref ri_, .int sh_, .int sp_])), (ou_, .inl (cJ, 1, .inr (.inl (vp_updL fo_ 0 (lN (keyN k_ w_ p_))))))] := hD
  refine lv_goto (tgt := 23) hx hb dL_key_12 (by decide) ?_
  refine lv_iconst (v := nI 0) hx hb dL_key_23 (by decide) ?_
  subst hQ
  exact ze_i hx hb hr hlocks () (rfl) hP hK hD hS dL_key_24
abbrev rm_L_pull : Room := { frames := 2, cells := 0, slots := 0, locals := 51 }
set_option maxHeartbeats 4000000 in
set_option maxRecDepth 100000 in
/-- pull, called -/
theorem ct_L_pull (l : Launch) (D : va_G) (cI cJ cD : ClassId) (o_ : Nat) (ro_ : Nat) (ja_ : Nat) (jb_ : Nat) (sr_ : Nat) (br_ : Nat) (tr_ : Nat) (ch_ : Nat) (lf_ : Nat) (ri_ : Nat) (nn_ : Int32) (sh_ : Int32) (sp_ : Int32) (x_ : UInt64) (y_ : UInt64) (z_ : UInt64) (ou_ : Nat) (fo_ : Nat → UInt64) (sz : Nat) (h1 : rlI x_ 0 4666723172467343360 = 1) (h2 : rlI y_ 0 4666723172467343360 = 1) (h3 : rlI z_ 0 4666723172467343360 = 1) : MetD lw_cs l yL_pull wsL_pull rm_L_pull (zP D (ty3 cI cJ cD) [.ref o_, .double x_, .double y_, .double z_, .ref ou_] sz [(o_, .inr (3, [.int nn_, .ref ro_, .ref ja_, .ref jb_, .ref sr_, .ref br_, .ref tr_, .ref ch_, .ref lf_, .ref ri_, .int sh_, .int sp_])), (ou_, .inl (cD, 1, .inr (.inr (.inr (.inl fo_)))))] (nLaw (va_A [(o_, .inr (3, [.int nn_, .ref ro_, .ref ja_, .ref jb_, .ref sr_, .ref br_, .ref tr_, .ref ch_, .ref lf_, .ref ri_, .int sh_, .int sp_])), (ou_, .inl (cD, 1, .inr (.inr (.inr (.inl fo_)))))] sz))) (va_Qi (fun (r : Int32) (u : UInt64) => r = nI 0 ∧ pullR x_ y_ z_ u) (zB D (ty3 cI cJ cD) (fun (u : UInt64) => [(o_, .inr (3, [.int nn_, .ref ro_, .ref ja_, .ref jb_, .ref sr_, .ref br_, .ref tr_, .ref ch_, .ref lf_, .ref ri_, .int sh_, .int sp_])), (ou_, .inl (cD, 1, .inr (.inr (.inr (.inl (vf_upd fo_ 0 u))))))]) (va_A [(o_, .inr (3, [.int nn_, .ref ro_, .ref ja_, .ref jb_, .ref sr_, .ref br_, .ref tr_, .ref ch_, .ref lf_, .ref ri_, .int sh_, .int sp_])), (ou_, .inl (cD, 1, .inr (.inr (.inr (.inl fo_)))))] sz)) (va_A [(o_, .inr (3, [.int nn_, .ref ro_, .ref ja_, .ref jb_, .ref sr_, .ref br_, .ref tr_, .ref ch_, .ref lf_, .ref ri_, .int sh_, .int sp_])), (ou_, .inl (cD, 1, .inr (.inr (.inr (.inl fo_)))))] sz)) 0 0 (va_A [(o_, .inr (3, [.int nn_, .ref ro_, .ref ja_, .ref jb_, .ref sr_, .ref br_, .ref tr_, .ref ch_, .ref lf_, .ref ri_, .int sh_, .int sp_])), (ou_, .inl (cD, 1, .inr (.inr (.inr (.inl fo_)))))] sz) := by
  refine zMetWDz (E := nLaw) (Qf := fun A => va_Qi (fun (r : Int32) (u : UInt64) => r = nI 0 ∧ pullR x_ y_ z_ u) (zB D (ty3 cI cJ cD) (fun (u : UInt64) => [(o_, .inr (3, [.int nn_, .ref ro_, .ref ja_, .ref jb_, .ref sr_, .ref br_, .ref tr_, .ref ch_, .ref lf_, .ref ri_, .int sh_, .int sp_])), (ou_, .inl (cD, 1, .inr (.inr (.inr (.inl (vf_upd fo_ 0 u))))))]) A) A) (cc := cL_pull) (maxL := 9) (ret := (some .int)) (hh := [(0, 12, 15, 13)]) (by decide) rfl (Nat.le_of_ble_eq_true rfl) ?_
  intro p e s m args below meth c A ls Q H d hargs hQ hHe hx hb hr hml hown hts hlocks hin hP hK hD hA hS hE hAe hl hd
  have hl : lv_has ls 9 [(0, .ref o_), (1, .double x_), (3, .double y_), (5, .double z_), (7, .ref ou_)] := hl
  have hts0 := hts
  have hK0 := hK
  have hts := dr_words hts0 d
  have hK := zK_dr (d := d) hK0
  have hown : (s.setDrawn d).vm.findClass RL = some m.cls := hown
  refine lv_aload hx hb dL_pull_0 (lv_at hl 4 rfl) ?_
  refine lv_iconst (v := nI 0) hx hb dL_pull_2 (by decide) ?_
  refine lv_aload_n hx hb dL_pull_3 rfl (lv_at hl 0 rfl) ?_
  refine lv_dload_n hx hb dL_pull_4 rfl (lv_at hl 1 rfl) ?_
  refine lv_dload_n hx hb dL_pull_5 rfl (lv_at hl 2 rfl) ?_
  refine lv_dload hx hb dL_pull_6 (lv_at hl 3 rfl) ?_
  refine zd_d hd (wc := [(o_, .inr (3, [.int nn_, .ref ro_, .ref ja_, .ref jb_, .ref sr_, .ref br_, .ref tr_, .ref ch_, .ref lf_, .ref ri_, .int sh_, .int sp_]))]) (wr := [(ou_, .inl (cD, 1, .inr (.inr (.inr (.inl fo_)))))]) hP hD hS hA [0] [1] rfl rfl (by decide) (by decide) (va_runV_D (As := [.double x_, .double y_, .double z_]) (rest := [.int (nI 0), .ref ou_]) ⟨hx, hb, hml, hown, hts⟩ (ct_X3_pull l D cI cJ cD o_ ro_ ja_ jb_ sr_ br_ tr_ ch_ lf_ ri_ nn_ sh_ sp_ x_ y_ z_ H.size h1 h2 h3) (cwV 3 hts gL_pull_X3_pull rfl rfl rfl (by decide +kernel) ⟨Nat.le_of_ble_eq_true rfl, Nat.le_of_ble_eq_true rfl⟩) (zPreV (wc := [(o_, .inr (3, [.int nn_, .ref ro_, .ref ja_, .ref jb_, .ref sr_, .ref br_, .ref tr_, .ref ch_, .ref lf_, .ref ri_, .int sh_, .int sp_]))]) hK (hP.sub [0] rfl) (hD.sub [0] (by decide) rfl) 3 0 rfl rfl zTb (fun _ _ _ => trivial)) rfl rfl hl.1 rfl (lv_room (Nat.le_of_ble_eq_true rfl)) dL_pull_8 ⟨Nat.le_of_ble_eq_true rfl, Nat.le_of_ble_eq_true rfl⟩) (fun r_1 u9_ H locs hw hP hD hS d hd => ?_)
  have hts := dr_words hts0 d
  have hK := zK_dr (d := d) hK0
  have hown : (s.setDrawn d).vm.findClass RL = some m.cls := hown
  have hP : va_P D cl5 [(o_, .inr (3, [.int nn_, .ref ro_, .ref ja_, .ref jb_, .ref sr_, .ref br_, .ref tr_, .ref ch_, .ref lf_, .ref ri_, .int sh_, .int sp_])), (ou_, .inl (cD, 1, .inr (.inr (.inr (.inl fo_)))))] H := hP.sub [1, 0] rfl
  have hD : va_D A [(o_, .inr (3, [.int nn_, .ref ro_, .ref ja_, .ref jb_, .ref sr_, .ref br_, .ref tr_, .ref ch_, .ref lf_, .ref ri_, .int sh_, .int sp_])), (ou_, .inl (cD, 1, .inr (.inr (.inr (.inl fo_)))))] := hD.sub [1, 0] (by decide) rfl
  have hw : pullR x_ y_ z_ r_1 := hw
  have hR_8 := hw
  refine z_dast (j := 0) hx hb hK hP hD hS 1 2 rfl rfl (by omega) (by omega) dL_pull_11 (fun H locs hP hD hS => ?_)
  have hP : va_P D cl5 [(o_, .inr (3, [.int nn_, .ref ro_, .ref ja_, .ref jb_, .ref sr_, .ref br_, .ref tr_, .ref ch_, .ref lf_, .ref ri_, .int sh_, .int sp_])), (ou_, .inl (cD, 1, .inr (.inr (.inr (.inl (vf_upd fo_ 0 r_1))))))] H := hP
  have hD : va_D A [(o_, .inr (3, [.int nn_, .ref ro_, .ref ja_, .ref jb_, .ref sr_, .ref br_, .ref tr_, .ref ch_, .ref lf_, .ref ri_, .int sh_, .int sp_])), (ou_, .inl (cD, 1, .inr (.inr (.inr (.inl (vf_upd fo_ 0 r_1))))))] := hD
  refine lv_goto (tgt := 19) hx hb dL_pull_12 (by decide) ?_
  refine lv_iconst (v := nI 0) hx hb dL_pull_19 (by decide) ?_
  subst hQ
  refine W.endD hd ?_
  exact ze_i hx hb hr hlocks r_1 (⟨rfl, hR_8⟩) hP hK hD hS dL_pull_20
abbrev rm_L_pipe : Room := { frames := 2, cells := 0, slots := 0, locals := 50 }
set_option maxHeartbeats 4000000 in
set_option maxRecDepth 100000 in
/-- pipe, called -/
theorem ct_L_pipe (l : Launch) (D : va_G) (cI cJ cD : ClassId) (o_ : Nat) (ro_ : Nat) (ja_ : Nat) (jb_ : Nat) (sr_ : Nat) (br_ : Nat) (tr_ : Nat) (ch_ : Nat) (lf_ : Nat) (ri_ : Nat) (nn_ : Int32) (sh_ : Int32) (sp_ : Int32) (x_ : UInt64) (v_ : Int32) (y_ : UInt64) (ou_ : Nat) (fo_ : Nat → UInt64) (sz : Nat) (h1 : rlI x_ 4607182418800017408 4666723172467343360 = 1) (h2 : rlI y_ 0 4636737291354636288 = 1) : MetD lw_cs l yL_pipe wsL_pipe rm_L_pipe (zP D (ty3 cI cJ cD) [.ref o_, .double x_, .int v_, .double y_, .ref ou_] sz [(o_, .inr (3, [.int nn_, .ref ro_, .ref ja_, .ref jb_, .ref sr_, .ref br_, .ref tr_, .ref ch_, .ref lf_, .ref ri_, .int sh_, .int sp_])), (ou_, .inl (cD, 1, .inr (.inr (.inr (.inl fo_)))))] (nLaw (va_A [(o_, .inr (3, [.int nn_, .ref ro_, .ref ja_, .ref jb_, .ref sr_, .ref br_, .ref tr_, .ref ch_, .ref lf_, .ref ri_, .int sh_, .int sp_])), (ou_, .inl (cD, 1, .inr (.inr (.inr (.inl fo_)))))] sz))) (va_Qi (fun (r : Int32) (u : UInt64) => r = nI 0 ∧ pipeR x_ v_ y_ u) (zB D (ty3 cI cJ cD) (fun (u : UInt64) => [(o_, .inr (3, [.int nn_, .ref ro_, .ref ja_, .ref jb_, .ref sr_, .ref br_, .ref tr_, .ref ch_, .ref lf_, .ref ri_, .int sh_, .int sp_])), (ou_, .inl (cD, 1, .inr (.inr (.inr (.inl (vf_upd fo_ 0 u))))))]) (va_A [(o_, .inr (3, [.int nn_, .ref ro_, .ref ja_, .ref jb_, .ref sr_, .ref br_, .ref tr_, .ref ch_, .ref lf_, .ref ri_, .int sh_, .int sp_])), (ou_, .inl (cD, 1, .inr (.inr (.inr (.inl fo_)))))] sz)) (va_A [(o_, .inr (3, [.int nn_, .ref ro_, .ref ja_, .ref jb_, .ref sr_, .ref br_, .ref tr_, .ref ch_, .ref lf_, .ref ri_, .int sh_, .int sp_])), (ou_, .inl (cD, 1, .inr (.inr (.inr (.inl fo_)))))] sz)) 0 0 (va_A [(o_, .inr (3, [.int nn_, .ref ro_, .ref ja_, .ref jb_, .ref sr_, .ref br_, .ref tr_, .ref ch_, .ref lf_, .ref ri_, .int sh_, .int sp_])), (ou_, .inl (cD, 1, .inr (.inr (.inr (.inl fo_)))))] sz) := by
  refine zMetWDz (E := nLaw) (Qf := fun A => va_Qi (fun (r : Int32) (u : UInt64) => r = nI 0 ∧ pipeR x_ v_ y_ u) (zB D (ty3 cI cJ cD) (fun (u : UInt64) => [(o_, .inr (3, [.int nn_, .ref ro_, .ref ja_, .ref jb_, .ref sr_, .ref br_, .ref tr_, .ref ch_, .ref lf_, .ref ri_, .int sh_, .int sp_])), (ou_, .inl (cD, 1, .inr (.inr (.inr (.inl (vf_upd fo_ 0 u))))))]) A) A) (cc := cL_pipe) (maxL := 8) (ret := (some .int)) (hh := [(0, 12, 15, 13)]) (by decide) rfl (Nat.le_of_ble_eq_true rfl) ?_
  intro p e s m args below meth c A ls Q H d hargs hQ hHe hx hb hr hml hown hts hlocks hin hP hK hD hA hS hE hAe hl hd
  have hl : lv_has ls 8 [(0, .ref o_), (1, .double x_), (3, .int v_), (4, .double y_), (6, .ref ou_)] := hl
  have hts0 := hts
  have hK0 := hK
  have hts := dr_words hts0 d
  have hK := zK_dr (d := d) hK0
  have hown : (s.setDrawn d).vm.findClass RL = some m.cls := hown
  refine lv_aload hx hb dL_pipe_0 (lv_at hl 4 rfl) ?_
  refine lv_iconst (v := nI 0) hx hb dL_pipe_2 (by decide) ?_
  refine lv_aload_n hx hb dL_pipe_3 rfl (lv_at hl 0 rfl) ?_
  refine lv_dload_n hx hb dL_pipe_4 rfl (lv_at hl 1 rfl) ?_
  refine lv_iload_n hx hb dL_pipe_5 rfl (lv_at hl 2 rfl) ?_
  refine lv_dload hx hb dL_pipe_6 (lv_at hl 3 rfl) ?_
  refine zd_d hd (wc := [(o_, .inr (3, [.int nn_, .ref ro_, .ref ja_, .ref jb_, .ref sr_, .ref br_, .ref tr_, .ref ch_, .ref lf_, .ref ri_, .int sh_, .int sp_]))]) (wr := [(ou_, .inl (cD, 1, .inr (.inr (.inr (.inl fo_)))))]) hP hD hS hA [0] [1] rfl rfl (by decide) (by decide) (va_runV_D (As := [.double x_, .int v_, .double y_]) (rest := [.int (nI 0), .ref ou_]) ⟨hx, hb, hml, hown, hts⟩ (ct_X3_pipe l D cI cJ cD o_ ro_ ja_ jb_ sr_ br_ tr_ ch_ lf_ ri_ nn_ sh_ sp_ x_ v_ y_ H.size h1 h2) (cwV 3 hts gL_pipe_X3_pipe rfl rfl rfl (by decide +kernel) ⟨Nat.le_of_ble_eq_true rfl, Nat.le_of_ble_eq_true rfl⟩) (zPreV (wc := [(o_, .inr (3, [.int nn_, .ref ro_, .ref ja_, .ref jb_, .ref sr_, .ref br_, .ref tr_, .ref ch_, .ref lf_, .ref ri_, .int sh_, .int sp_]))]) hK (hP.sub [0] rfl) (hD.sub [0] (by decide) rfl) 3 0 rfl rfl zTb (fun _ _ _ => trivial)) rfl rfl hl.1 rfl (lv_room (Nat.le_of_ble_eq_true rfl)) dL_pipe_8 ⟨Nat.le_of_ble_eq_true rfl, Nat.le_of_ble_eq_true rfl⟩) (fun r_1 u9_ H locs hw hP hD hS d hd => ?_)
  have hts := dr_words hts0 d
  have hK := zK_dr (d := d) hK0
  have hown : (s.setDrawn d).vm.findClass RL = some m.cls := hown
  have hP : va_P D cl5 [(o_, .inr (3, [.int nn_, .ref ro_, .ref ja_, .ref jb_, .ref sr_, .ref br_, .ref tr_, .ref ch_, .ref lf_, .ref ri_, .int sh_, .int sp_])), (ou_, .inl (cD, 1, .inr (.inr (.inr (.inl fo_)))))] H := hP.sub [1, 0] rfl
  have hD : va_D A [(o_, .inr (3, [.int nn_, .ref ro_, .ref ja_, .ref jb_, .ref sr_, .ref br_, .ref tr_, .ref ch_, .ref lf_, .ref ri_, .int sh_, .int sp_])), (ou_, .inl (cD, 1, .inr (.inr (.inr (.inl fo_)))))] := hD.sub [1, 0] (by decide) rfl
  have hw : pipeR x_ v_ y_ r_1 := hw
  have hR_8 := hw
  refine z_dast (j := 0) hx hb hK hP hD hS 1 2 rfl rfl (by omega) (by omega) dL_pipe_11 (fun H locs hP hD hS => ?_)
  have hP : va_P D cl5 [(o_, .inr (3, [.int nn_, .ref ro_, .ref ja_, .ref jb_, .ref sr_, .ref br_, .ref tr_, .ref ch_, .ref lf_, .ref ri_, .int sh_, .int sp_])), (ou_, .inl (cD, 1, .inr (.inr (.inr (.inl (vf_upd fo_ 0 r_1))))))] H := hP
  have hD : va_D A [(o_, .inr (3, [.int nn_, .ref ro_, .ref ja_, .ref jb_, .ref sr_, .ref br_, .ref tr_, .ref ch_, .ref lf_, .ref ri_, .int sh_, .int sp_])), (ou_, .inl (cD, 1, .inr (.inr (.inr (.inl (vf_upd fo_ 0 r_1))))))] := hD
  refine lv_goto (tgt := 19) hx hb dL_pipe_12 (by decide) ?_
  refine lv_iconst (v := nI 0) hx hb dL_pipe_19 (by decide) ?_
  subst hQ
  refine W.endD hd ?_
  exact ze_i hx hb hr hlocks r_1 (⟨rfl, hR_8⟩) hP hK hD hS dL_pipe_20
theorem nCell_calling {b L : Nat} {xs : Nat → Int32} (U : State) (g : JFrame) (mk : MethodId) (a : Array Value) (h : va_X b L xs U U.heap ∧ b < U.heap.size) : va_X b L xs (U.calling g mk a) (U.calling g mk a).heap ∧ b < (U.calling g mk a).heap.size := ⟨va_X.moved (u := U) (Vm.Alike.refl U.vm) h.1, h.2⟩
theorem nCell_warm {b L : Nat} {xs : Nat → Int32} {A : Nat → Prop} {s U : State} {H : Heap} {locs : List Loc} (hX : va_X b L xs s s.heap) (hbl : b < s.heap.size) (hbA : ¬ A b) (hS : va_S A s.heap H locs) (hU : U.heap = H) (hW : s.WarmedH U.vm) : va_X b L xs U U.heap ∧ b < U.heap.size := by
  rw [hU]
  exact ⟨(va_X.moved hW.alike hX).kept (hS.2.1 b hbl hbA), Nat.lt_of_lt_of_le hbl hS.1⟩
def cellV (L : Nat) (xs : Nat → Int32) : Int32 := if L = 0 then nI 0 else xs 0
abbrev rm_L_cell : Room := { frames := 0, cells := 0, slots := 0, locals := 0 }
set_option maxHeartbeats 4000000 in
/-- cell, at place 0 -/
theorem ct_L_cell (l : Launch) (D : va_G) (cI cJ cD : ClassId) (b L : Nat) (xs : Nat → Int32) (sz : Nat) (hL : L ≤ 2561) : Met l yL_cell wsL_cell rm_L_cell (zP D (ty3 cI cJ cD) [.ref b, .int (nI 0)] sz [] (fun U => va_X b L xs U U.heap ∧ b < U.heap.size)) (va_Qi (fun (r : Int32) (u : Unit) => r = cellV L xs) (zB D (ty3 cI cJ cD) (fun (u : Unit) => []) (va_A [] sz)) (va_A [] sz)) 0 0 (va_A [] sz) := by
  refine zMet (Qf := fun A => va_Qi (fun (r : Int32) (u : Unit) => r = cellV L xs) (zB D (ty3 cI cJ cD) (fun (u : Unit) => []) A) A) (cc := cL_cell) (maxL := 2) (ret := some .int) (by decide) rfl (Nat.le_of_ble_eq_true rfl) ?_
  intro p e s m args below meth c A ls Q H hargs hQ hHe hx hb hr hml hown hts hlocks hin hP hK hD hA hS hE hAe hl
  have hl : lv_has ls 2 [(0, .ref b), (1, .int (nI 0))] := hl
  obtain ⟨hX, hbl⟩ := hE
  have hbA : ¬ A b := by rw [← hAe]; exact fun q => q.elim (fun h => by simp at h) (fun h => absurd h (Nat.not_le.mpr hbl))
  subst hHe
  refine lv_iload_n hx hb dL_cell_0 rfl (lv_at hl 1 rfl) ?_
  refine lv_aload_n hx hb dL_cell_1 rfl (lv_at hl 0 rfl) ?_
  refine va_slen hx hb hX hbl hbA hS dL_cell_2 ?_
  refine lv_icmp_ge (tgt := 12) hx hb dL_cell_3 (by decide) (fun c_3 => ?_) (fun c_3 => ?_)
  · have h0 : L = 0 := by have := zji_le (a := L) (b := 0) (by omega) (by omega) c_3; omega
    refine lv_iconst (v := nI 0) hx hb dL_cell_12 (by decide) ?_
    subst hQ
    exact ze_i hx hb hr hlocks () (by unfold cellV; rw [if_pos h0]) hP hK hD hS dL_cell_13
  · have h0 : 0 < L := zji_nle (a := L) (b := 0) (by omega) (by omega) c_3
    refine lv_aload_n hx hb dL_cell_6 rfl (lv_at hl 0 rfl) ?_
    refine lv_iload_n hx hb dL_cell_7 rfl (lv_at hl 1 rfl) ?_
    refine va_sld hx hb hX hbl hbA hS (i := nI 0) (vp_in_nI h0 (by omega)) dL_cell_8 ?_
    refine zi_ (y := xs 0) (by rw [nI_clamp (by omega)]) ?_
    refine lv_goto (tgt := 13) hx hb dL_cell_9 (by decide) ?_
    subst hQ
    exact ze_i hx hb hr hlocks () (by unfold cellV; rw [if_neg (Nat.ne_of_gt h0)]) hP hK hD hS dL_cell_13
