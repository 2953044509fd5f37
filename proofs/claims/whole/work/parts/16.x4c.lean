theorem nX4_fret_4 : ∀ w ∈ wsX40, w ∈ wsX4_fret := by decide +kernel
abbrev rm_X4_fret : Room := { frames := 4, cells := 0, slots := 0, locals := 121 }
set_option maxHeartbeats 4000000 in
set_option maxRecDepth 100000 in
/-- fret of the reference -/
theorem ct_X4_fret (l : Launch) (D : va_G) (cI cJ cD : ClassId) (m_ : Nat) (ab_ : Nat) (be_ : Nat) (rr_ : Nat) (th_ : Int32) (bs_ : Int32) (tr_ : Int32) (sp_ : Int32) (ca_ : Int64) (cb_ : Int64) (oc_ : Int64) (st_ : Int64) (n_ : Nat) (w_ : Nat) (h_ : Nat) (g_ : Nat → Int32) (k_ : Int32) (u_ : Int32) (sz : Nat) (hn1 : 1 ≤ n_) (hn : n_ ≤ 24) (hw_ : w_ ≤ 1000000) (hh : h_ ≤ 16) : Met l yX4_fret wsX4_fret rm_X4_fret (zP D (ty3 cI cJ cD) [.ref m_, .int k_, .int u_] sz [(m_, .inr (4, [.int th_, .int (nI n_), .long (lN w_), .int (nI h_), .ref ab_, .ref be_, .long ca_, .long cb_, .long oc_, .long st_, .int bs_, .int tr_, .int sp_, .ref rr_])), (rr_, .inl (cI, 152, .inl g_))] zT) (va_Ql (fun (r : Int64) (u : Int32 × (Nat → Int32)) => (u.1) = nI (npI k_ n_) ∧ (npI k_ n_ = 0 → ∃ kk w, k_ = nI kk ∧ kk ≤ 2 * n_ ∧ rootI n_ kk (w_ * 2 ^ h_) w ∧ r = lN (frN u_ w (eqI (w ^ n_ * 2 ^ kk) ((w_ * 2 ^ h_) ^ n_))))) (zB D (ty3 cI cJ cD) (fun (u : Int32 × (Nat → Int32)) => [(m_, .inr (4, [.int (u.1), .int (nI n_), .long (lN w_), .int (nI h_), .ref ab_, .ref be_, .long ca_, .long cb_, .long oc_, .long st_, .int bs_, .int tr_, .int sp_, .ref rr_])), (rr_, .inl (cI, 152, .inl (u.2)))]) (va_A [(m_, .inr (4, [.int th_, .int (nI n_), .long (lN w_), .int (nI h_), .ref ab_, .ref be_, .long ca_, .long cb_, .long oc_, .long st_, .int bs_, .int tr_, .int sp_, .ref rr_])), (rr_, .inl (cI, 152, .inl g_))] sz)) (va_A [(m_, .inr (4, [.int th_, .int (nI n_), .long (lN w_), .int (nI h_), .ref ab_, .ref be_, .long ca_, .long cb_, .long oc_, .long st_, .int bs_, .int tr_, .int sp_, .ref rr_])), (rr_, .inl (cI, 152, .inl g_))] sz)) 0 0 (va_A [(m_, .inr (4, [.int th_, .int (nI n_), .long (lN w_), .int (nI h_), .ref ab_, .ref be_, .long ca_, .long cb_, .long oc_, .long st_, .int bs_, .int tr_, .int sp_, .ref rr_])), (rr_, .inl (cI, 152, .inl g_))] sz) := by
  refine zMet (Qf := fun A => va_Ql (fun (r : Int64) (u : Int32 × (Nat → Int32)) => (u.1) = nI (npI k_ n_) ∧ (npI k_ n_ = 0 → ∃ kk w, k_ = nI kk ∧ kk ≤ 2 * n_ ∧ rootI n_ kk (w_ * 2 ^ h_) w ∧ r = lN (frN u_ w (eqI (w ^ n_ * 2 ^ kk) ((w_ * 2 ^ h_) ^ n_))))) (zB D (ty3 cI cJ cD) (fun (u : Int32 × (Nat → Int32)) => [(m_, .inr (4, [.int (u.1), .int (nI n_), .long (lN w_), .int (nI h_), .ref ab_, .ref be_, .long ca_, .long cb_, .long oc_, .long st_, .int bs_, .int tr_, .int sp_, .ref rr_])), (rr_, .inl (cI, 152, .inl (u.2)))]) A) A) (cc := cX4_fret) (maxL := 5) (ret := (some .long)) (by decide) rfl (Nat.le_of_ble_eq_true rfl) ?_
  intro p e s m args below meth c A ls Q H hargs hQ hHe hx hb hr hml hown hts hlocks hin hP hK hD hA hS hE hAe hl
  have hl : lv_has ls 5 [(0, .ref m_), (1, .int k_), (2, .int u_)] := hl
  have hall := own_le hw_ hh
  refine lv_aload_n hx hb dX4_fret_0 rfl (lv_at hl 0 rfl) ?_
  refine lv_aload_n hx hb dX4_fret_1 rfl (lv_at hl 0 rfl) ?_
  refine lv_iload_n hx hb dX4_fret_2 rfl (lv_at hl 1 rfl) ?_
  refine zc_i (wc := [(m_, .inr (4, [.int th_, .int (nI n_), .long (lN w_), .int (nI h_), .ref ab_, .ref be_, .long ca_, .long cb_, .long oc_, .long st_, .int bs_, .int tr_, .int sp_, .ref rr_]))]) (wr := [(rr_, .inl (cI, 152, .inl g_))]) hP hD hS hA [0] [1] rfl rfl (by decide) (by decide) (va_runV (As := [.int k_]) (rest := [.ref m_]) ⟨hx, hb, hml, hown, hts⟩ (ct_X4_noPlace l D cI cJ cD m_ ab_ be_ rr_ th_ (nI h_) bs_ tr_ sp_ (lN w_) ca_ cb_ oc_ st_ n_ k_ H.size (by omega)) (cwV 1 hts gX4_fret_X4_noPlace rfl rfl rfl (by decide +kernel) ⟨Nat.le_of_ble_eq_true rfl, Nat.le_of_ble_eq_true rfl⟩) (zPreV (wc := [(m_, .inr (4, [.int th_, .int (nI n_), .long (lN w_), .int (nI h_), .ref ab_, .ref be_, .long ca_, .long cb_, .long oc_, .long st_, .int bs_, .int tr_, .int sp_, .ref rr_]))]) hK (hP.sub [0] rfl) (hD.sub [0] (by decide) rfl) 4 0 rfl rfl zTb (fun _ _ _ => trivial)) rfl rfl hl.1 rfl (lv_room (Nat.le_of_ble_eq_true rfl)) dX4_fret_3 ⟨Nat.le_of_ble_eq_true rfl, Nat.le_of_ble_eq_true rfl⟩) (fun r_1 u H locs hw hP hD hS => ?_)
  have hP : va_P D cl5 [(m_, .inr (4, [.int th_, .int (nI n_), .long (lN w_), .int (nI h_), .ref ab_, .ref be_, .long ca_, .long cb_, .long oc_, .long st_, .int bs_, .int tr_, .int sp_, .ref rr_])), (rr_, .inl (cI, 152, .inl g_))] H := hP.sub [1, 0] rfl
  have hD : va_D A [(m_, .inr (4, [.int th_, .int (nI n_), .long (lN w_), .int (nI h_), .ref ab_, .ref be_, .long ca_, .long cb_, .long oc_, .long st_, .int bs_, .int tr_, .int sp_, .ref rr_])), (rr_, .inl (cI, 152, .inl g_))] := hD.sub [1, 0] (by decide) rfl
  have hw : r_1 = nI (npI k_ n_) ∧ npI k_ n_ ≤ 1 := hw
  obtain ⟨rfl, hb_3⟩ := hw
  refine lv_if_eq (tgt := 13) hx hb dX4_fret_6 (by decide) (fun c_6 => ?_) (fun c_6 => ?_)
  · skip
    have c_6 := zji_eq (a := npI k_ n_) (b := 0) (by omega) (by omega) c_6
    obtain ⟨kk, ek, hkk⟩ := np_ok hn c_6
    refine lv_iconst (v := nI 0) hx hb dX4_fret_13 (by decide) ?_
    refine va_put (D := D) (ci := 4) (v := .int (nI 0)) (ty := .int) (C := RX4) (T := TX4) (N := 14) hx hb hts nX4_fret_4 tyX4 tyX4_ok nmX4 hown hK hP hD hS 0 rfl rfl 0 (by decide) (zh (w := .fieldLink RX4 47 "FretRootsModel" "thrown" "I") hts 1 rfl) (fun _ h9 => h9) rfl (by decide +kernel) rfl rfl (Nat.le_of_ble_eq_true rfl) dX4_fret_14 (fun H locs hP hD hS => ?_)
    have hP : va_P D cl5 [(m_, .inr (4, [.int (nI 0), .int (nI n_), .long (lN w_), .int (nI h_), .ref ab_, .ref be_, .long ca_, .long cb_, .long oc_, .long st_, .int bs_, .int tr_, .int sp_, .ref rr_])), (rr_, .inl (cI, 152, .inl g_))] H := hP
    have hD : va_D A [(m_, .inr (4, [.int (nI 0), .int (nI n_), .long (lN w_), .int (nI h_), .ref ab_, .ref be_, .long ca_, .long cb_, .long oc_, .long st_, .int bs_, .int tr_, .int sp_, .ref rr_])), (rr_, .inl (cI, 152, .inl g_))] := hD
    refine lv_aload_n hx hb dX4_fret_17 rfl (lv_at hl 0 rfl) ?_
    refine va_get (D := D) (ci := 4) (v := .int (nI 0)) (C := RX4) (T := TX4) (N := 14) hx hb hts nX4_fret_4 hown hK hP 0 rfl rfl 0 (by decide) (zh (w := .fieldLink RX4 47 "FretRootsModel" "thrown" "I") hts 1 rfl) (fun _ h9 => h9) rfl dX4_fret_18 ?_
    refine lv_if_le (tgt := 26) hx hb dX4_fret_21 (by decide) (fun c_21 => ?_) (fun c_21 => ?_)
    · skip
      have c_21 := zji_le (a := 0) (b := 0) (by omega) (by omega) c_21
      refine lv_aload_n hx hb dX4_fret_26 rfl (lv_at hl 0 rfl) ?_
      refine lv_iload_n hx hb dX4_fret_27 rfl (lv_at hl 1 rfl) ?_
      refine zi_ (y := nI kk) (ek) ?_
      refine lv_aload_n hx hb dX4_fret_28 rfl (lv_at hl 0 rfl) ?_
      refine va_get (D := D) (ci := 4) (v := .long (lN w_)) (C := RX4) (T := TX4) (N := 14) hx hb hts nX4_fret_4 hown hK hP 0 rfl rfl 2 (by decide) (zh (w := .fieldLink RX4 9 "FretRootsModel" "length" "J") hts 2 rfl) (fun _ h9 => h9) rfl dX4_fret_29 ?_
      refine zc_l (wc := [(m_, .inr (4, [.int (nI 0), .int (nI n_), .long (lN w_), .int (nI h_), .ref ab_, .ref be_, .long ca_, .long cb_, .long oc_, .long st_, .int bs_, .int tr_, .int sp_, .ref rr_])), (rr_, .inl (cI, 152, .inl g_))]) (wr := []) hP hD hS hA [0, 1] [] rfl rfl (by decide) (by decide) (va_runV (As := [.int (nI kk), .long (lN w_)]) (rest := []) ⟨hx, hb, hml, hown, hts⟩ (ct_X4_lower l D cI cJ cD m_ ab_ be_ rr_ (nI 0) bs_ tr_ sp_ (lN w_) ca_ cb_ oc_ st_ n_ kk w_ h_ g_ H.size (by omega) (by omega) (by omega) (by omega) (by omega)) (cwV 2 hts gX4_fret_X4_lower rfl rfl rfl (by decide +kernel) ⟨Nat.le_of_ble_eq_true rfl, Nat.le_of_ble_eq_true rfl⟩) (zPreV (wc := [(m_, .inr (4, [.int (nI 0), .int (nI n_), .long (lN w_), .int (nI h_), .ref ab_, .ref be_, .long ca_, .long cb_, .long oc_, .long st_, .int bs_, .int tr_, .int sp_, .ref rr_])), (rr_, .inl (cI, 152, .inl g_))]) hK hP hD 4 0 rfl rfl zTb (fun _ _ _ => trivial)) rfl rfl hl.1 rfl (lv_room (Nat.le_of_ble_eq_true rfl)) dX4_fret_32 ⟨Nat.le_of_ble_eq_true rfl, Nat.le_of_ble_eq_true rfl⟩) (fun r_2 u H locs hw hP hD hS => ?_)
      obtain ⟨wq, g2_3⟩ := u
      have hP : va_P D cl5 [(m_, .inr (4, [.int (nI 0), .int (nI n_), .long (lN w_), .int (nI h_), .ref ab_, .ref be_, .long ca_, .long cb_, .long oc_, .long st_, .int bs_, .int tr_, .int sp_, .ref rr_])), (rr_, .inl (cI, 152, .inl g2_3))] H := hP.sub [0, 1] rfl
      have hD : va_D A [(m_, .inr (4, [.int (nI 0), .int (nI n_), .long (lN w_), .int (nI h_), .ref ab_, .ref be_, .long ca_, .long cb_, .long oc_, .long st_, .int bs_, .int tr_, .int sp_, .ref rr_])), (rr_, .inl (cI, 152, .inl g2_3))] := hD.sub [0, 1] (by decide) rfl
      have hw : r_2 = lN wq ∧ rootI n_ kk (w_ * 2 ^ h_) wq := hw
      obtain ⟨rfl, hR_32⟩ := hw
      have hwb := root_le hn1 hR_32
      refine lv_lstore_n (lv' := [(3, .long (lN wq)), (0, .ref m_), (1, .int k_), (2, .int u_)]) hx hb dX4_fret_35 rfl hl (by decide) rfl (fun ls hl => ?_)
      refine lv_iload_n hx hb dX4_fret_36 rfl (lv_at hl 3 rfl) ?_
      refine lv_if_eq (tgt := 64) hx hb dX4_fret_37 (by decide) (fun c_37 => ?_) (fun c_37 => ?_)
      · skip
        refine lv_lload_n hx hb dX4_fret_64 rfl (lv_at hl 0 rfl) ?_
        subst hQ
        exact ze_l hx hb hr hlocks (nI 0, g2_3) (⟨by rw [c_6], fun _ => ⟨kk, wq, ek, hkk, hR_32, by first | exact congrArg lN (frN_a c_37).symm | exact congrArg lN (frN_b c_37 (cmpI_zero c_55)).symm | exact congrArg lN (frN_c c_37 (cmpI_nz c_55)).symm⟩⟩) hP hK hD hS dX4_fret_65
      · skip
        refine lv_aload_n hx hb dX4_fret_40 rfl (lv_at hl 1 rfl) ?_
        refine lv_lload_n hx hb dX4_fret_41 rfl (lv_at hl 0 rfl) ?_
        refine lv_iload_n hx hb dX4_fret_42 rfl (lv_at hl 2 rfl) ?_
        refine zi_ (y := nI kk) (ek) ?_
        refine lv_aload_n hx hb dX4_fret_43 rfl (lv_at hl 1 rfl) ?_
        refine va_get (D := D) (ci := 4) (v := .long (lN w_)) (C := RX4) (T := TX4) (N := 14) hx hb hts nX4_fret_4 hown hK hP 0 rfl rfl 2 (by decide) (zh (w := .fieldLink RX4 9 "FretRootsModel" "length" "J") hts 2 rfl) (fun _ h9 => h9) rfl dX4_fret_44 ?_
        refine lv_aload_n hx hb dX4_fret_47 rfl (lv_at hl 1 rfl) ?_
        refine va_get (D := D) (ci := 4) (v := .int (nI h_)) (C := RX4) (T := TX4) (N := 14) hx hb hts nX4_fret_4 hown hK hP 0 rfl rfl 3 (by decide) (zh (w := .fieldLink RX4 15 "FretRootsModel" "shift" "I") hts 3 rfl) (fun _ h9 => h9) rfl dX4_fret_48 ?_
        refine lv_lshl (v := lN (w_ * 2 ^ h_)) hx hb dX4_fret_51 (z_shl w_ (by omega)) ?_
        refine zc_i (wc := [(m_, .inr (4, [.int (nI 0), .int (nI n_), .long (lN w_), .int (nI h_), .ref ab_, .ref be_, .long ca_, .long cb_, .long oc_, .long st_, .int bs_, .int tr_, .int sp_, .ref rr_])), (rr_, .inl (cI, 152, .inl g2_3))]) (wr := []) hP hD hS hA [0, 1] [] rfl rfl (by decide) (by decide) (va_runV (As := [.long (lN wq), .int (nI kk), .long (lN (w_ * 2 ^ h_))]) (rest := []) ⟨hx, hb, hml, hown, hts⟩ (ct_X4_side l D cI cJ cD m_ ab_ be_ rr_ (nI 0) (nI h_) bs_ tr_ sp_ (lN w_) ca_ cb_ oc_ st_ n_ wq kk (w_ * 2 ^ h_) g2_3 H.size (by omega) (by omega) (by omega) (by omega)) (cwV 3 hts gX4_fret_X4_side rfl rfl rfl (by decide +kernel) ⟨Nat.le_of_ble_eq_true rfl, Nat.le_of_ble_eq_true rfl⟩) (zPreV (wc := [(m_, .inr (4, [.int (nI 0), .int (nI n_), .long (lN w_), .int (nI h_), .ref ab_, .ref be_, .long ca_, .long cb_, .long oc_, .long st_, .int bs_, .int tr_, .int sp_, .ref rr_])), (rr_, .inl (cI, 152, .inl g2_3))]) hK hP hD 4 0 rfl rfl zTb (fun _ _ _ => trivial)) rfl rfl hl.1 rfl (lv_room (Nat.le_of_ble_eq_true rfl)) dX4_fret_52 ⟨Nat.le_of_ble_eq_true rfl, Nat.le_of_ble_eq_true rfl⟩) (fun r_4 u H locs hw hP hD hS => ?_)
        obtain ⟨g2_5, rfl⟩ : ∃ z, z = u := ⟨_, rfl⟩
        have hP : va_P D cl5 [(m_, .inr (4, [.int (nI 0), .int (nI n_), .long (lN w_), .int (nI h_), .ref ab_, .ref be_, .long ca_, .long cb_, .long oc_, .long st_, .int bs_, .int tr_, .int sp_, .ref rr_])), (rr_, .inl (cI, 152, .inl g2_5))] H := hP.sub [0, 1] rfl
        have hD : va_D A [(m_, .inr (4, [.int (nI 0), .int (nI n_), .long (lN w_), .int (nI h_), .ref ab_, .ref be_, .long ca_, .long cb_, .long oc_, .long st_, .int bs_, .int tr_, .int sp_, .ref rr_])), (rr_, .inl (cI, 152, .inl g2_5))] := hD.sub [0, 1] (by decide) rfl
        have hw : r_4 = cmpI (wq ^ n_ * 2 ^ kk) ((w_ * 2 ^ h_) ^ n_) := hw
        subst hw
        refine lv_if_eq (tgt := 64) hx hb dX4_fret_55 (by decide) (fun c_55 => ?_) (fun c_55 => ?_)
        · skip
          refine lv_lload_n hx hb dX4_fret_64 rfl (lv_at hl 0 rfl) ?_
          subst hQ
          exact ze_l hx hb hr hlocks (nI 0, g2_5) (⟨by rw [c_6], fun _ => ⟨kk, wq, ek, hkk, hR_32, by first | exact congrArg lN (frN_a c_37).symm | exact congrArg lN (frN_b c_37 (cmpI_zero c_55)).symm | exact congrArg lN (frN_c c_37 (cmpI_nz c_55)).symm⟩⟩) hP hK hD hS dX4_fret_65
        · skip
          refine lv_lload_n hx hb dX4_fret_58 rfl (lv_at hl 0 rfl) ?_
          refine lv_lconst (v := lN 1) hx hb dX4_fret_59 rfl ?_
          refine lv_ladd hx hb dX4_fret_60 ?_
          refine zl_ (y := lN (wq + 1)) (lN_add wq 1) ?_
          refine lv_goto (tgt := 65) hx hb dX4_fret_61 (by decide) ?_
          subst hQ
          exact ze_l hx hb hr hlocks (nI 0, g2_5) (⟨by rw [c_6], fun _ => ⟨kk, wq, ek, hkk, hR_32, by first | exact congrArg lN (frN_a c_37).symm | exact congrArg lN (frN_b c_37 (cmpI_zero c_55)).symm | exact congrArg lN (frN_c c_37 (cmpI_nz c_55)).symm⟩⟩) hP hK hD hS dX4_fret_65
    · skip
      exact absurd c_21 (by decide)
  · skip
    have c_6 := zji_ne (a := npI k_ n_) (b := 0) (by omega) (by omega) c_6
    have hnp : npI k_ n_ = 1 := by omega
    refine lv_iconst (v := nI 1) hx hb dX4_fret_9 (by decide) ?_
    refine lv_goto (tgt := 14) hx hb dX4_fret_10 (by decide) ?_
    refine va_put (D := D) (ci := 4) (v := .int (nI 1)) (ty := .int) (C := RX4) (T := TX4) (N := 14) hx hb hts nX4_fret_4 tyX4 tyX4_ok nmX4 hown hK hP hD hS 0 rfl rfl 0 (by decide) (zh (w := .fieldLink RX4 47 "FretRootsModel" "thrown" "I") hts 1 rfl) (fun _ h9 => h9) rfl (by decide +kernel) rfl rfl (Nat.le_of_ble_eq_true rfl) dX4_fret_14 (fun H locs hP hD hS => ?_)
    have hP : va_P D cl5 [(m_, .inr (4, [.int (nI 1), .int (nI n_), .long (lN w_), .int (nI h_), .ref ab_, .ref be_, .long ca_, .long cb_, .long oc_, .long st_, .int bs_, .int tr_, .int sp_, .ref rr_])), (rr_, .inl (cI, 152, .inl g_))] H := hP
    have hD : va_D A [(m_, .inr (4, [.int (nI 1), .int (nI n_), .long (lN w_), .int (nI h_), .ref ab_, .ref be_, .long ca_, .long cb_, .long oc_, .long st_, .int bs_, .int tr_, .int sp_, .ref rr_])), (rr_, .inl (cI, 152, .inl g_))] := hD
    refine lv_aload_n hx hb dX4_fret_17 rfl (lv_at hl 0 rfl) ?_
    refine va_get (D := D) (ci := 4) (v := .int (nI 1)) (C := RX4) (T := TX4) (N := 14) hx hb hts nX4_fret_4 hown hK hP 0 rfl rfl 0 (by decide) (zh (w := .fieldLink RX4 47 "FretRootsModel" "thrown" "I") hts 1 rfl) (fun _ h9 => h9) rfl dX4_fret_18 ?_
    refine lv_if_le (tgt := 26) hx hb dX4_fret_21 (by decide) (fun c_21 => ?_) (fun c_21 => ?_)
    · skip
      exact absurd c_21 (by decide)
    · skip
      have c_21 := zji_nle (a := 1) (b := 0) (by omega) (by omega) c_21
      refine lv_lconst (v := lN 0) hx hb dX4_fret_24 rfl ?_
      subst hQ
      exact ze_l hx hb hr hlocks (nI 1, g_) (⟨by rw [hnp], fun q => absurd q (by omega)⟩) hP hK hD hS dX4_fret_25
theorem nX4_exact_4 : ∀ w ∈ wsX40, w ∈ wsX4_exact := by decide +kernel
abbrev rm_X4_exact : Room := { frames := 4, cells := 0, slots := 0, locals := 121 }
set_option maxHeartbeats 4000000 in
set_option maxRecDepth 100000 in
/-- exact of the reference -/
theorem ct_X4_exact (l : Launch) (D : va_G) (cI cJ cD : ClassId) (m_ : Nat) (ab_ : Nat) (be_ : Nat) (rr_ : Nat) (th_ : Int32) (bs_ : Int32) (tr_ : Int32) (sp_ : Int32) (ca_ : Int64) (cb_ : Int64) (oc_ : Int64) (st_ : Int64) (n_ : Nat) (w_ : Nat) (h_ : Nat) (g_ : Nat → Int32) (k_ : Int32) (sz : Nat) (hn1 : 1 ≤ n_) (hn : n_ ≤ 24) (hw_ : w_ ≤ 1000000) (hh : h_ ≤ 16) : Met l yX4_exact wsX4_exact rm_X4_exact (zP D (ty3 cI cJ cD) [.ref m_, .int k_] sz [(m_, .inr (4, [.int th_, .int (nI n_), .long (lN w_), .int (nI h_), .ref ab_, .ref be_, .long ca_, .long cb_, .long oc_, .long st_, .int bs_, .int tr_, .int sp_, .ref rr_])), (rr_, .inl (cI, 152, .inl g_))] zT) (va_Qi (fun (r : Int32) (u : Int32 × (Nat → Int32)) => (u.1) = nI (npI k_ n_) ∧ (r = 0 ∨ r = 1) ∧ (npI k_ n_ = 0 → ∃ kk w, k_ = nI kk ∧ kk ≤ 2 * n_ ∧ rootI n_ kk (w_ * 2 ^ h_) w ∧ r = nI (eqI (w ^ n_ * 2 ^ kk) ((w_ * 2 ^ h_) ^ n_)))) (zB D (ty3 cI cJ cD) (fun (u : Int32 × (Nat → Int32)) => [(m_, .inr (4, [.int (u.1), .int (nI n_), .long (lN w_), .int (nI h_), .ref ab_, .ref be_, .long ca_, .long cb_, .long oc_, .long st_, .int bs_, .int tr_, .int sp_, .ref rr_])), (rr_, .inl (cI, 152, .inl (u.2)))]) (va_A [(m_, .inr (4, [.int th_, .int (nI n_), .long (lN w_), .int (nI h_), .ref ab_, .ref be_, .long ca_, .long cb_, .long oc_, .long st_, .int bs_, .int tr_, .int sp_, .ref rr_])), (rr_, .inl (cI, 152, .inl g_))] sz)) (va_A [(m_, .inr (4, [.int th_, .int (nI n_), .long (lN w_), .int (nI h_), .ref ab_, .ref be_, .long ca_, .long cb_, .long oc_, .long st_, .int bs_, .int tr_, .int sp_, .ref rr_])), (rr_, .inl (cI, 152, .inl g_))] sz)) 0 0 (va_A [(m_, .inr (4, [.int th_, .int (nI n_), .long (lN w_), .int (nI h_), .ref ab_, .ref be_, .long ca_, .long cb_, .long oc_, .long st_, .int bs_, .int tr_, .int sp_, .ref rr_])), (rr_, .inl (cI, 152, .inl g_))] sz) := by
  refine zMet (Qf := fun A => va_Qi (fun (r : Int32) (u : Int32 × (Nat → Int32)) => (u.1) = nI (npI k_ n_) ∧ (r = 0 ∨ r = 1) ∧ (npI k_ n_ = 0 → ∃ kk w, k_ = nI kk ∧ kk ≤ 2 * n_ ∧ rootI n_ kk (w_ * 2 ^ h_) w ∧ r = nI (eqI (w ^ n_ * 2 ^ kk) ((w_ * 2 ^ h_) ^ n_)))) (zB D (ty3 cI cJ cD) (fun (u : Int32 × (Nat → Int32)) => [(m_, .inr (4, [.int (u.1), .int (nI n_), .long (lN w_), .int (nI h_), .ref ab_, .ref be_, .long ca_, .long cb_, .long oc_, .long st_, .int bs_, .int tr_, .int sp_, .ref rr_])), (rr_, .inl (cI, 152, .inl (u.2)))]) A) A) (cc := cX4_exact) (maxL := 2) (ret := (some .boolean)) (by decide) rfl (Nat.le_of_ble_eq_true rfl) ?_
  intro p e s m args below meth c A ls Q H hargs hQ hHe hx hb hr hml hown hts hlocks hin hP hK hD hA hS hE hAe hl
  have hl : lv_has ls 2 [(0, .ref m_), (1, .int k_)] := hl
  have hall := own_le hw_ hh
  refine lv_aload_n hx hb dX4_exact_0 rfl (lv_at hl 0 rfl) ?_
  refine lv_aload_n hx hb dX4_exact_1 rfl (lv_at hl 0 rfl) ?_
  refine lv_iload_n hx hb dX4_exact_2 rfl (lv_at hl 1 rfl) ?_
  refine zc_i (wc := [(m_, .inr (4, [.int th_, .int (nI n_), .long (lN w_), .int (nI h_), .ref ab_, .ref be_, .long ca_, .long cb_, .long oc_, .long st_, .int bs_, .int tr_, .int sp_, .ref rr_]))]) (wr := [(rr_, .inl (cI, 152, .inl g_))]) hP hD hS hA [0] [1] rfl rfl (by decide) (by decide) (va_runV (As := [.int k_]) (rest := [.ref m_]) ⟨hx, hb, hml, hown, hts⟩ (ct_X4_noPlace l D cI cJ cD m_ ab_ be_ rr_ th_ (nI h_) bs_ tr_ sp_ (lN w_) ca_ cb_ oc_ st_ n_ k_ H.size (by omega)) (cwV 1 hts gX4_exact_X4_noPlace rfl rfl rfl (by decide +kernel) ⟨Nat.le_of_ble_eq_true rfl, Nat.le_of_ble_eq_true rfl⟩) (zPreV (wc := [(m_, .inr (4, [.int th_, .int (nI n_), .long (lN w_), .int (nI h_), .ref ab_, .ref be_, .long ca_, .long cb_, .long oc_, .long st_, .int bs_, .int tr_, .int sp_, .ref rr_]))]) hK (hP.sub [0] rfl) (hD.sub [0] (by decide) rfl) 4 0 rfl rfl zTb (fun _ _ _ => trivial)) rfl rfl hl.1 rfl (lv_room (Nat.le_of_ble_eq_true rfl)) dX4_exact_3 ⟨Nat.le_of_ble_eq_true rfl, Nat.le_of_ble_eq_true rfl⟩) (fun r_1 u H locs hw hP hD hS => ?_)
  have hP : va_P D cl5 [(m_, .inr (4, [.int th_, .int (nI n_), .long (lN w_), .int (nI h_), .ref ab_, .ref be_, .long ca_, .long cb_, .long oc_, .long st_, .int bs_, .int tr_, .int sp_, .ref rr_])), (rr_, .inl (cI, 152, .inl g_))] H := hP.sub [1, 0] rfl
  have hD : va_D A [(m_, .inr (4, [.int th_, .int (nI n_), .long (lN w_), .int (nI h_), .ref ab_, .ref be_, .long ca_, .long cb_, .long oc_, .long st_, .int bs_, .int tr_, .int sp_, .ref rr_])), (rr_, .inl (cI, 152, .inl g_))] := hD.sub [1, 0] (by decide) rfl
  have hw : r_1 = nI (npI k_ n_) ∧ npI k_ n_ ≤ 1 := hw
  obtain ⟨rfl, hb_3⟩ := hw
  refine lv_if_eq (tgt := 13) hx hb dX4_exact_6 (by decide) (fun c_6 => ?_) (fun c_6 => ?_)
  · skip
    have c_6 := zji_eq (a := npI k_ n_) (b := 0) (by omega) (by omega) c_6
    obtain ⟨kk, ek, hkk⟩ := np_ok hn c_6
    refine lv_iconst (v := nI 0) hx hb dX4_exact_13 (by decide) ?_
    refine va_put (D := D) (ci := 4) (v := .int (nI 0)) (ty := .int) (C := RX4) (T := TX4) (N := 14) hx hb hts nX4_exact_4 tyX4 tyX4_ok nmX4 hown hK hP hD hS 0 rfl rfl 0 (by decide) (zh (w := .fieldLink RX4 47 "FretRootsModel" "thrown" "I") hts 1 rfl) (fun _ h9 => h9) rfl (by decide +kernel) rfl rfl (Nat.le_of_ble_eq_true rfl) dX4_exact_14 (fun H locs hP hD hS => ?_)
    have hP : va_P D cl5 [(m_, .inr (4, [.int (nI 0), .int (nI n_), .long (lN w_), .int (nI h_), .ref ab_, .ref be_, .long ca_, .long cb_, .long oc_, .long st_, .int bs_, .int tr_, .int sp_, .ref rr_])), (rr_, .inl (cI, 152, .inl g_))] H := hP
    have hD : va_D A [(m_, .inr (4, [.int (nI 0), .int (nI n_), .long (lN w_), .int (nI h_), .ref ab_, .ref be_, .long ca_, .long cb_, .long oc_, .long st_, .int bs_, .int tr_, .int sp_, .ref rr_])), (rr_, .inl (cI, 152, .inl g_))] := hD
    refine lv_aload_n hx hb dX4_exact_17 rfl (lv_at hl 0 rfl) ?_
    refine va_get (D := D) (ci := 4) (v := .int (nI 0)) (C := RX4) (T := TX4) (N := 14) hx hb hts nX4_exact_4 hown hK hP 0 rfl rfl 0 (by decide) (zh (w := .fieldLink RX4 47 "FretRootsModel" "thrown" "I") hts 1 rfl) (fun _ h9 => h9) rfl dX4_exact_18 ?_
    refine lv_if_ne (tgt := 54) hx hb dX4_exact_21 (by decide) (fun c_21 => ?_) (fun c_21 => ?_)
    · skip
      exact absurd c_21 (by decide)
    · skip
      have c_21 := zji_eq (a := 0) (b := 0) (by omega) (by omega) c_21
      refine lv_aload_n hx hb dX4_exact_24 rfl (lv_at hl 0 rfl) ?_
      refine lv_aload_n hx hb dX4_exact_25 rfl (lv_at hl 0 rfl) ?_
      refine lv_iload_n hx hb dX4_exact_26 rfl (lv_at hl 1 rfl) ?_
      refine zi_ (y := nI kk) (ek) ?_
      refine lv_aload_n hx hb dX4_exact_27 rfl (lv_at hl 0 rfl) ?_
      refine va_get (D := D) (ci := 4) (v := .long (lN w_)) (C := RX4) (T := TX4) (N := 14) hx hb hts nX4_exact_4 hown hK hP 0 rfl rfl 2 (by decide) (zh (w := .fieldLink RX4 9 "FretRootsModel" "length" "J") hts 2 rfl) (fun _ h9 => h9) rfl dX4_exact_28 ?_
      refine zc_l (wc := [(m_, .inr (4, [.int (nI 0), .int (nI n_), .long (lN w_), .int (nI h_), .ref ab_, .ref be_, .long ca_, .long cb_, .long oc_, .long st_, .int bs_, .int tr_, .int sp_, .ref rr_])), (rr_, .inl (cI, 152, .inl g_))]) (wr := []) hP hD hS hA [0, 1] [] rfl rfl (by decide) (by decide) (va_runV (As := [.int (nI kk), .long (lN w_)]) (rest := [.ref m_]) ⟨hx, hb, hml, hown, hts⟩ (ct_X4_lower l D cI cJ cD m_ ab_ be_ rr_ (nI 0) bs_ tr_ sp_ (lN w_) ca_ cb_ oc_ st_ n_ kk w_ h_ g_ H.size (by omega) (by omega) (by omega) (by omega) (by omega)) (cwV 2 hts gX4_exact_X4_lower rfl rfl rfl (by decide +kernel) ⟨Nat.le_of_ble_eq_true rfl, Nat.le_of_ble_eq_true rfl⟩) (zPreV (wc := [(m_, .inr (4, [.int (nI 0), .int (nI n_), .long (lN w_), .int (nI h_), .ref ab_, .ref be_, .long ca_, .long cb_, .long oc_, .long st_, .int bs_, .int tr_, .int sp_, .ref rr_])), (rr_, .inl (cI, 152, .inl g_))]) hK hP hD 4 0 rfl rfl zTb (fun _ _ _ => trivial)) rfl rfl hl.1 rfl (lv_room (Nat.le_of_ble_eq_true rfl)) dX4_exact_31 ⟨Nat.le_of_ble_eq_true rfl, Nat.le_of_ble_eq_true rfl⟩) (fun r_2 u H locs hw hP hD hS => ?_)
      obtain ⟨wq, g2_3⟩ := u
      have hP : va_P D cl5 [(m_, .inr (4, [.int (nI 0), .int (nI n_), .long (lN w_), .int (nI h_), .ref ab_, .ref be_, .long ca_, .long cb_, .long oc_, .long st_, .int bs_, .int tr_, .int sp_, .ref rr_])), (rr_, .inl (cI, 152, .inl g2_3))] H := hP.sub [0, 1] rfl
      have hD : va_D A [(m_, .inr (4, [.int (nI 0), .int (nI n_), .long (lN w_), .int (nI h_), .ref ab_, .ref be_, .long ca_, .long cb_, .long oc_, .long st_, .int bs_, .int tr_, .int sp_, .ref rr_])), (rr_, .inl (cI, 152, .inl g2_3))] := hD.sub [0, 1] (by decide) rfl
      have hw : r_2 = lN wq ∧ rootI n_ kk (w_ * 2 ^ h_) wq := hw
      obtain ⟨rfl, hR_31⟩ := hw
      have hwb := root_le hn1 hR_31
      refine lv_iload_n hx hb dX4_exact_34 rfl (lv_at hl 1 rfl) ?_
      refine zi_ (y := nI kk) (ek) ?_
      refine lv_aload_n hx hb dX4_exact_35 rfl (lv_at hl 0 rfl) ?_
      refine va_get (D := D) (ci := 4) (v := .long (lN w_)) (C := RX4) (T := TX4) (N := 14) hx hb hts nX4_exact_4 hown hK hP 0 rfl rfl 2 (by decide) (zh (w := .fieldLink RX4 9 "FretRootsModel" "length" "J") hts 2 rfl) (fun _ h9 => h9) rfl dX4_exact_36 ?_
      refine lv_aload_n hx hb dX4_exact_39 rfl (lv_at hl 0 rfl) ?_
      refine va_get (D := D) (ci := 4) (v := .int (nI h_)) (C := RX4) (T := TX4) (N := 14) hx hb hts nX4_exact_4 hown hK hP 0 rfl rfl 3 (by decide) (zh (w := .fieldLink RX4 15 "FretRootsModel" "shift" "I") hts 3 rfl) (fun _ h9 => h9) rfl dX4_exact_40 ?_
      refine lv_lshl (v := lN (w_ * 2 ^ h_)) hx hb dX4_exact_43 (z_shl w_ (by omega)) ?_
      refine zc_i (wc := [(m_, .inr (4, [.int (nI 0), .int (nI n_), .long (lN w_), .int (nI h_), .ref ab_, .ref be_, .long ca_, .long cb_, .long oc_, .long st_, .int bs_, .int tr_, .int sp_, .ref rr_])), (rr_, .inl (cI, 152, .inl g2_3))]) (wr := []) hP hD hS hA [0, 1] [] rfl rfl (by decide) (by decide) (va_runV (As := [.long (lN wq), .int (nI kk), .long (lN (w_ * 2 ^ h_))]) (rest := []) ⟨hx, hb, hml, hown, hts⟩ (ct_X4_side l D cI cJ cD m_ ab_ be_ rr_ (nI 0) (nI h_) bs_ tr_ sp_ (lN w_) ca_ cb_ oc_ st_ n_ wq kk (w_ * 2 ^ h_) g2_3 H.size (by omega) (by omega) (by omega) (by omega)) (cwV 3 hts gX4_exact_X4_side rfl rfl rfl (by decide +kernel) ⟨Nat.le_of_ble_eq_true rfl, Nat.le_of_ble_eq_true rfl⟩) (zPreV (wc := [(m_, .inr (4, [.int (nI 0), .int (nI n_), .long (lN w_), .int (nI h_), .ref ab_, .ref be_, .long ca_, .long cb_, .long oc_, .long st_, .int bs_, .int tr_, .int sp_, .ref rr_])), (rr_, .inl (cI, 152, .inl g2_3))]) hK hP hD 4 0 rfl rfl zTb (fun _ _ _ => trivial)) rfl rfl hl.1 rfl (lv_room (Nat.le_of_ble_eq_true rfl)) dX4_exact_44 ⟨Nat.le_of_ble_eq_true rfl, Nat.le_of_ble_eq_true rfl⟩) (fun r_4 u H locs hw hP hD hS => ?_)
      obtain ⟨g2_5, rfl⟩ : ∃ z, z = u := ⟨_, rfl⟩
      have hP : va_P D cl5 [(m_, .inr (4, [.int (nI 0), .int (nI n_), .long (lN w_), .int (nI h_), .ref ab_, .ref be_, .long ca_, .long cb_, .long oc_, .long st_, .int bs_, .int tr_, .int sp_, .ref rr_])), (rr_, .inl (cI, 152, .inl g2_5))] H := hP.sub [0, 1] rfl
      have hD : va_D A [(m_, .inr (4, [.int (nI 0), .int (nI n_), .long (lN w_), .int (nI h_), .ref ab_, .ref be_, .long ca_, .long cb_, .long oc_, .long st_, .int bs_, .int tr_, .int sp_, .ref rr_])), (rr_, .inl (cI, 152, .inl g2_5))] := hD.sub [0, 1] (by decide) rfl
      have hw : r_4 = cmpI (wq ^ n_ * 2 ^ kk) ((w_ * 2 ^ h_) ^ n_) := hw
      subst hw
      refine lv_if_ne (tgt := 54) hx hb dX4_exact_47 (by decide) (fun c_47 => ?_) (fun c_47 => ?_)
      · skip
        refine lv_iconst (v := nI 0) hx hb dX4_exact_54 (by decide) ?_
        subst hQ
        exact ze_z hx hb hr hlocks (nI 0, g2_5) (by first | exact Or.inl rfl | exact Or.inr rfl | omega) (⟨by rw [c_6], by first | exact Or.inl rfl | exact Or.inr rfl, fun _ => ⟨kk, wq, ek, hkk, hR_31, by first | exact congrArg nI (if_pos (cmpI_zero c_47)).symm | exact congrArg nI (if_neg (cmpI_nz c_47)).symm⟩⟩) hP hK hD hS dX4_exact_55
      · skip
        refine lv_iconst (v := nI 1) hx hb dX4_exact_50 (by decide) ?_
        refine lv_goto (tgt := 55) hx hb dX4_exact_51 (by decide) ?_
        subst hQ
        exact ze_z hx hb hr hlocks (nI 0, g2_5) (by first | exact Or.inl rfl | exact Or.inr rfl | omega) (⟨by rw [c_6], by first | exact Or.inl rfl | exact Or.inr rfl, fun _ => ⟨kk, wq, ek, hkk, hR_31, by first | exact congrArg nI (if_pos (cmpI_zero c_47)).symm | exact congrArg nI (if_neg (cmpI_nz c_47)).symm⟩⟩) hP hK hD hS dX4_exact_55
  · skip
    have c_6 := zji_ne (a := npI k_ n_) (b := 0) (by omega) (by omega) c_6
    have hnp : npI k_ n_ = 1 := by omega
    refine lv_iconst (v := nI 1) hx hb dX4_exact_9 (by decide) ?_
    refine lv_goto (tgt := 14) hx hb dX4_exact_10 (by decide) ?_
    refine va_put (D := D) (ci := 4) (v := .int (nI 1)) (ty := .int) (C := RX4) (T := TX4) (N := 14) hx hb hts nX4_exact_4 tyX4 tyX4_ok nmX4 hown hK hP hD hS 0 rfl rfl 0 (by decide) (zh (w := .fieldLink RX4 47 "FretRootsModel" "thrown" "I") hts 1 rfl) (fun _ h9 => h9) rfl (by decide +kernel) rfl rfl (Nat.le_of_ble_eq_true rfl) dX4_exact_14 (fun H locs hP hD hS => ?_)
    have hP : va_P D cl5 [(m_, .inr (4, [.int (nI 1), .int (nI n_), .long (lN w_), .int (nI h_), .ref ab_, .ref be_, .long ca_, .long cb_, .long oc_, .long st_, .int bs_, .int tr_, .int sp_, .ref rr_])), (rr_, .inl (cI, 152, .inl g_))] H := hP
    have hD : va_D A [(m_, .inr (4, [.int (nI 1), .int (nI n_), .long (lN w_), .int (nI h_), .ref ab_, .ref be_, .long ca_, .long cb_, .long oc_, .long st_, .int bs_, .int tr_, .int sp_, .ref rr_])), (rr_, .inl (cI, 152, .inl g_))] := hD
    refine lv_aload_n hx hb dX4_exact_17 rfl (lv_at hl 0 rfl) ?_
    refine va_get (D := D) (ci := 4) (v := .int (nI 1)) (C := RX4) (T := TX4) (N := 14) hx hb hts nX4_exact_4 hown hK hP 0 rfl rfl 0 (by decide) (zh (w := .fieldLink RX4 47 "FretRootsModel" "thrown" "I") hts 1 rfl) (fun _ h9 => h9) rfl dX4_exact_18 ?_
    refine lv_if_ne (tgt := 54) hx hb dX4_exact_21 (by decide) (fun c_21 => ?_) (fun c_21 => ?_)
    · skip
      have c_21 := zji_ne (a := 1) (b := 0) (by omega) (by omega) c_21
      refine lv_iconst (v := nI 0) hx hb dX4_exact_54 (by decide) ?_
      subst hQ
      exact ze_z hx hb hr hlocks (nI 1, g_) (by first | exact Or.inl rfl | exact Or.inr rfl | omega) (⟨by rw [hnp], Or.inl rfl, fun q => absurd q (by omega)⟩) hP hK hD hS dX4_exact_55
    · skip
      exact absurd c_21 (by decide)
theorem nX4_justAt_4 : ∀ w ∈ wsX40, w ∈ wsX4_justAt := by decide +kernel
abbrev rm_X4_justAt : Room := { frames := 2, cells := 0, slots := 0, locals := 46 }
set_option maxHeartbeats 4000000 in
set_option maxRecDepth 100000 in
/-- justAt of the reference -/
theorem ct_X4_justAt (l : Launch) (D : va_G) (cI cJ cD : ClassId) (m_ : Nat) (ab_ : Nat) (be_ : Nat) (rr_ : Nat) (th_ : Int32) (bs_ : Int32) (tr_ : Int32) (sp_ : Int32) (ca_ : Int64) (cb_ : Int64) (oc_ : Int64) (st_ : Int64) (n_ : Nat) (w_ : Nat) (h_ : Nat) (k_ : Int32) (p_ : Int32) (fa_ : Nat → Int32) (fb_ : Nat → Int32) (xa_ : Nat → Nat) (xb_ : Nat → Nat) (sz : Nat) (hn1 : 1 ≤ n_) (hn : n_ ≤ 24) (hja : jOK n_ fa_ xa_) (hjb : jOK n_ fb_ xb_) : Met l yX4_justAt wsX4_justAt rm_X4_justAt (zP D (ty3 cI cJ cD) [.ref m_, .int k_, .int p_] sz [(m_, .inr (4, [.int th_, .int (nI n_), .long (lN w_), .int (nI h_), .ref ab_, .ref be_, .long ca_, .long cb_, .long oc_, .long st_, .int bs_, .int tr_, .int sp_, .ref rr_])), (ab_, .inl (cI, 49, .inl fa_)), (be_, .inl (cI, 49, .inl fb_))] zT) (va_Qi (fun (r : Int32) (u : Int32) => u = nI (cdPart k_ p_ n_) ∧ (cdPart k_ p_ n_ = 0 → ∃ kk, k_ = nI kk ∧ kk ≤ 2 * n_ ∧ r = nI (if p_ = 0 then xa_ kk else xb_ kk))) (zB D (ty3 cI cJ cD) (fun (u : Int32) => [(m_, .inr (4, [.int u, .int (nI n_), .long (lN w_), .int (nI h_), .ref ab_, .ref be_, .long ca_, .long cb_, .long oc_, .long st_, .int bs_, .int tr_, .int sp_, .ref rr_])), (ab_, .inl (cI, 49, .inl fa_)), (be_, .inl (cI, 49, .inl fb_))]) (va_A [(m_, .inr (4, [.int th_, .int (nI n_), .long (lN w_), .int (nI h_), .ref ab_, .ref be_, .long ca_, .long cb_, .long oc_, .long st_, .int bs_, .int tr_, .int sp_, .ref rr_])), (ab_, .inl (cI, 49, .inl fa_)), (be_, .inl (cI, 49, .inl fb_))] sz)) (va_A [(m_, .inr (4, [.int th_, .int (nI n_), .long (lN w_), .int (nI h_), .ref ab_, .ref be_, .long ca_, .long cb_, .long oc_, .long st_, .int bs_, .int tr_, .int sp_, .ref rr_])), (ab_, .inl (cI, 49, .inl fa_)), (be_, .inl (cI, 49, .inl fb_))] sz)) 0 0 (va_A [(m_, .inr (4, [.int th_, .int (nI n_), .long (lN w_), .int (nI h_), .ref ab_, .ref be_, .long ca_, .long cb_, .long oc_, .long st_, .int bs_, .int tr_, .int sp_, .ref rr_])), (ab_, .inl (cI, 49, .inl fa_)), (be_, .inl (cI, 49, .inl fb_))] sz) := by
  refine zMet (Qf := fun A => va_Qi (fun (r : Int32) (u : Int32) => u = nI (cdPart k_ p_ n_) ∧ (cdPart k_ p_ n_ = 0 → ∃ kk, k_ = nI kk ∧ kk ≤ 2 * n_ ∧ r = nI (if p_ = 0 then xa_ kk else xb_ kk))) (zB D (ty3 cI cJ cD) (fun (u : Int32) => [(m_, .inr (4, [.int u, .int (nI n_), .long (lN w_), .int (nI h_), .ref ab_, .ref be_, .long ca_, .long cb_, .long oc_, .long st_, .int bs_, .int tr_, .int sp_, .ref rr_])), (ab_, .inl (cI, 49, .inl fa_)), (be_, .inl (cI, 49, .inl fb_))]) A) A) (cc := cX4_justAt) (maxL := 3) (ret := (some .int)) (by decide) rfl (Nat.le_of_ble_eq_true rfl) ?_
  intro p e s m args below meth c A ls Q H hargs hQ hHe hx hb hr hml hown hts hlocks hin hP hK hD hA hS hE hAe hl
  have hl : lv_has ls 3 [(0, .ref m_), (1, .int k_), (2, .int p_)] := hl
  refine lv_aload_n hx hb dX4_justAt_0 rfl (lv_at hl 0 rfl) ?_
  refine lv_aload_n hx hb dX4_justAt_1 rfl (lv_at hl 0 rfl) ?_
  refine lv_iload_n hx hb dX4_justAt_2 rfl (lv_at hl 1 rfl) ?_
  refine zc_i (wc := [(m_, .inr (4, [.int th_, .int (nI n_), .long (lN w_), .int (nI h_), .ref ab_, .ref be_, .long ca_, .long cb_, .long oc_, .long st_, .int bs_, .int tr_, .int sp_, .ref rr_]))]) (wr := [(ab_, .inl (cI, 49, .inl fa_)), (be_, .inl (cI, 49, .inl fb_))]) hP hD hS hA [0] [1, 2] rfl rfl (by decide) (by decide) (va_runV (As := [.int k_]) (rest := [.ref m_]) ⟨hx, hb, hml, hown, hts⟩ (ct_X4_noPlace l D cI cJ cD m_ ab_ be_ rr_ th_ (nI h_) bs_ tr_ sp_ (lN w_) ca_ cb_ oc_ st_ n_ k_ H.size (by omega)) (cwV 1 hts gX4_justAt_X4_noPlace rfl rfl rfl (by decide +kernel) ⟨Nat.le_of_ble_eq_true rfl, Nat.le_of_ble_eq_true rfl⟩) (zPreV (wc := [(m_, .inr (4, [.int th_, .int (nI n_), .long (lN w_), .int (nI h_), .ref ab_, .ref be_, .long ca_, .long cb_, .long oc_, .long st_, .int bs_, .int tr_, .int sp_, .ref rr_]))]) hK (hP.sub [0] rfl) (hD.sub [0] (by decide) rfl) 4 0 rfl rfl zTb (fun _ _ _ => trivial)) rfl rfl hl.1 rfl (lv_room (Nat.le_of_ble_eq_true rfl)) dX4_justAt_3 ⟨Nat.le_of_ble_eq_true rfl, Nat.le_of_ble_eq_true rfl⟩) (fun r_1 u H locs hw hP hD hS => ?_)
  have hP : va_P D cl5 [(m_, .inr (4, [.int th_, .int (nI n_), .long (lN w_), .int (nI h_), .ref ab_, .ref be_, .long ca_, .long cb_, .long oc_, .long st_, .int bs_, .int tr_, .int sp_, .ref rr_])), (ab_, .inl (cI, 49, .inl fa_)), (be_, .inl (cI, 49, .inl fb_))] H := hP.sub [2, 0, 1] rfl
  have hD : va_D A [(m_, .inr (4, [.int th_, .int (nI n_), .long (lN w_), .int (nI h_), .ref ab_, .ref be_, .long ca_, .long cb_, .long oc_, .long st_, .int bs_, .int tr_, .int sp_, .ref rr_])), (ab_, .inl (cI, 49, .inl fa_)), (be_, .inl (cI, 49, .inl fb_))] := hD.sub [2, 0, 1] (by decide) rfl
  have hw : r_1 = nI (npI k_ n_) ∧ npI k_ n_ ≤ 1 := hw
  obtain ⟨rfl, hb_3⟩ := hw
  refine lv_if_ne (tgt := 19) hx hb dX4_justAt_6 (by decide) (fun c_6 => ?_) (fun c_6 => ?_)
  · skip
    have c_6 := zji_ne (a := npI k_ n_) (b := 0) (by omega) (by omega) c_6
    have hnp : npI k_ n_ = 1 := by omega
    have hcd : cdPart k_ p_ n_ = 1 := if_pos (Or.inl hnp)
    refine lv_iconst (v := nI 1) hx hb dX4_justAt_19 (by decide) ?_
    refine lv_goto (tgt := 24) hx hb dX4_justAt_20 (by decide) ?_
    refine va_put (D := D) (ci := 4) (v := .int (nI 1)) (ty := .int) (C := RX4) (T := TX4) (N := 14) hx hb hts nX4_justAt_4 tyX4 tyX4_ok nmX4 hown hK hP hD hS 0 rfl rfl 0 (by decide) (zh (w := .fieldLink RX4 47 "FretRootsModel" "thrown" "I") hts 1 rfl) (fun _ h9 => h9) rfl (by decide +kernel) rfl rfl (Nat.le_of_ble_eq_true rfl) dX4_justAt_24 (fun H locs hP hD hS => ?_)
    have hP : va_P D cl5 [(m_, .inr (4, [.int (nI 1), .int (nI n_), .long (lN w_), .int (nI h_), .ref ab_, .ref be_, .long ca_, .long cb_, .long oc_, .long st_, .int bs_, .int tr_, .int sp_, .ref rr_])), (ab_, .inl (cI, 49, .inl fa_)), (be_, .inl (cI, 49, .inl fb_))] H := hP
    have hD : va_D A [(m_, .inr (4, [.int (nI 1), .int (nI n_), .long (lN w_), .int (nI h_), .ref ab_, .ref be_, .long ca_, .long cb_, .long oc_, .long st_, .int bs_, .int tr_, .int sp_, .ref rr_])), (ab_, .inl (cI, 49, .inl fa_)), (be_, .inl (cI, 49, .inl fb_))] := hD
    refine lv_aload_n hx hb dX4_justAt_27 rfl (lv_at hl 0 rfl) ?_
    refine va_get (D := D) (ci := 4) (v := .int (nI 1)) (C := RX4) (T := TX4) (N := 14) hx hb hts nX4_justAt_4 hown hK hP 0 rfl rfl 0 (by decide) (zh (w := .fieldLink RX4 47 "FretRootsModel" "thrown" "I") hts 1 rfl) (fun _ h9 => h9) rfl dX4_justAt_28 ?_
    refine lv_if_le (tgt := 38) hx hb dX4_justAt_31 (by decide) (fun c_31 => ?_) (fun c_31 => ?_)
    · skip
      exact absurd c_31 (by decide)
    · skip
      have c_31 := zji_nle (a := 1) (b := 0) (by omega) (by omega) c_31
      refine lv_iconst (v := nI 0) hx hb dX4_justAt_34 (by decide) ?_
      refine lv_goto (tgt := 57) hx hb dX4_justAt_35 (by decide) ?_
      subst hQ
      exact ze_i hx hb hr hlocks (nI 1) (⟨by rw [hcd], fun q => absurd q (by omega)⟩) hP hK hD hS dX4_justAt_57
  · skip
    have c_6 := zji_eq (a := npI k_ n_) (b := 0) (by omega) (by omega) c_6
    obtain ⟨kk, ek, hkk⟩ := np_ok hn c_6
    refine lv_iload_n hx hb dX4_justAt_9 rfl (lv_at hl 2 rfl) ?_
    refine lv_i2l (v := p_.toInt64) hx hb dX4_justAt_10 rfl ?_
    refine lv_lconst (v := lN 0) hx hb dX4_justAt_11 rfl ?_
    refine lv_lconst (v := lN 1) hx hb dX4_justAt_12 rfl ?_
    refine zc_i (wc := []) (wr := [(m_, .inr (4, [.int th_, .int (nI n_), .long (lN w_), .int (nI h_), .ref ab_, .ref be_, .long ca_, .long cb_, .long oc_, .long st_, .int bs_, .int tr_, .int sp_, .ref rr_])), (ab_, .inl (cI, 49, .inl fa_)), (be_, .inl (cI, 49, .inl fb_))]) hP hD hS hA [] [0, 1, 2] rfl rfl (by decide) (by decide) (va_runS (As := [.long p_.toInt64, .long (lN 0), .long (lN 1)]) (rest := [.ref m_]) ⟨hx, hb, hml, hown, hts⟩ (ct_X4_isIn l D cI cJ cD p_.toInt64 (lN 0) (lN 1) H.size ) (va_cwS 3 hts gX4_justAt_X4_isIn rfl rfl rfl (by decide +kernel) ⟨Nat.le_of_ble_eq_true rfl, Nat.le_of_ble_eq_true rfl⟩) (zPreS (wc := []) hK (hP.sub [] rfl) (hD.sub [] (by decide) rfl) zTb (fun _ _ _ => trivial)) rfl rfl hl.1 rfl (lv_room (Nat.le_of_ble_eq_true rfl)) dX4_justAt_13 ⟨Nat.le_of_ble_eq_true rfl, Nat.le_of_ble_eq_true rfl⟩) (fun r_2 u H locs hw hP hD hS => ?_)
    have hP : va_P D cl5 [(m_, .inr (4, [.int th_, .int (nI n_), .long (lN w_), .int (nI h_), .ref ab_, .ref be_, .long ca_, .long cb_, .long oc_, .long st_, .int bs_, .int tr_, .int sp_, .ref rr_])), (ab_, .inl (cI, 49, .inl fa_)), (be_, .inl (cI, 49, .inl fb_))] H := hP.sub [0, 1, 2] rfl
    have hD : va_D A [(m_, .inr (4, [.int th_, .int (nI n_), .long (lN w_), .int (nI h_), .ref ab_, .ref be_, .long ca_, .long cb_, .long oc_, .long st_, .int bs_, .int tr_, .int sp_, .ref rr_])), (ab_, .inl (cI, 49, .inl fa_)), (be_, .inl (cI, 49, .inl fb_))] := hD.sub [0, 1, 2] (by decide) rfl
    have hw : r_2 = nI (inI p_.toInt64 (lN 0) (lN 1)) ∧ inI p_.toInt64 (lN 0) (lN 1) ≤ 1 := hw
    obtain ⟨rfl, hb_13⟩ := hw
    refine lv_if_ne (tgt := 23) hx hb dX4_justAt_16 (by decide) (fun c_16 => ?_) (fun c_16 => ?_)
    · skip
      have c_16 := zji_ne (a := inI p_.toInt64 (lN 0) (lN 1)) (b := 0) (by omega) (by omega) c_16
      have hcd : cdPart k_ p_ n_ = 0 := if_neg (fun q => q.elim (fun q => by omega) (fun q => c_16 q))
      refine lv_iconst (v := nI 0) hx hb dX4_justAt_23 (by decide) ?_
      refine va_put (D := D) (ci := 4) (v := .int (nI 0)) (ty := .int) (C := RX4) (T := TX4) (N := 14) hx hb hts nX4_justAt_4 tyX4 tyX4_ok nmX4 hown hK hP hD hS 0 rfl rfl 0 (by decide) (zh (w := .fieldLink RX4 47 "FretRootsModel" "thrown" "I") hts 1 rfl) (fun _ h9 => h9) rfl (by decide +kernel) rfl rfl (Nat.le_of_ble_eq_true rfl) dX4_justAt_24 (fun H locs hP hD hS => ?_)
      have hP : va_P D cl5 [(m_, .inr (4, [.int (nI 0), .int (nI n_), .long (lN w_), .int (nI h_), .ref ab_, .ref be_, .long ca_, .long cb_, .long oc_, .long st_, .int bs_, .int tr_, .int sp_, .ref rr_])), (ab_, .inl (cI, 49, .inl fa_)), (be_, .inl (cI, 49, .inl fb_))] H := hP
      have hD : va_D A [(m_, .inr (4, [.int (nI 0), .int (nI n_), .long (lN w_), .int (nI h_), .ref ab_, .ref be_, .long ca_, .long cb_, .long oc_, .long st_, .int bs_, .int tr_, .int sp_, .ref rr_])), (ab_, .inl (cI, 49, .inl fa_)), (be_, .inl (cI, 49, .inl fb_))] := hD
      refine lv_aload_n hx hb dX4_justAt_27 rfl (lv_at hl 0 rfl) ?_
      refine va_get (D := D) (ci := 4) (v := .int (nI 0)) (C := RX4) (T := TX4) (N := 14) hx hb hts nX4_justAt_4 hown hK hP 0 rfl rfl 0 (by decide) (zh (w := .fieldLink RX4 47 "FretRootsModel" "thrown" "I") hts 1 rfl) (fun _ h9 => h9) rfl dX4_justAt_28 ?_
      refine lv_if_le (tgt := 38) hx hb dX4_justAt_31 (by decide) (fun c_31 => ?_) (fun c_31 => ?_)
      · skip
        have c_31 := zji_le (a := 0) (b := 0) (by omega) (by omega) c_31
        refine lv_iload_n hx hb dX4_justAt_38 rfl (lv_at hl 2 rfl) ?_
        refine lv_if_ne (tgt := 51) hx hb dX4_justAt_39 (by decide) (fun c_39 => ?_) (fun c_39 => ?_)
        · skip
          refine lv_aload_n hx hb dX4_justAt_51 rfl (lv_at hl 0 rfl) ?_
          refine va_get (D := D) (ci := 4) (v := .ref be_) (C := RX4) (T := TX4) (N := 14) hx hb hts nX4_justAt_4 hown hK hP 0 rfl rfl 5 (by decide) (zh (w := .fieldLink RX4 23 "FretRootsModel" "belows" "[I") hts 3 rfl) (fun _ h9 => h9) rfl dX4_justAt_52 ?_
          refine lv_iload_n hx hb dX4_justAt_55 rfl (lv_at hl 1 rfl) ?_
          refine zi_ (y := nI kk) (ek) ?_
          refine z_iald (j := kk) hx hb hK hP 2 0 rfl rfl (by omega) (by omega) dX4_justAt_56 ?_
          refine zi_ (y := nI (xb_ kk)) ((hjb kk hkk).1) ?_
          subst hQ
          exact ze_i hx hb hr hlocks (nI 0) (⟨by rw [hcd], fun _ => ⟨kk, ek, hkk, by first | exact congrArg nI (if_pos c_39).symm | exact congrArg nI (if_neg c_39).symm⟩⟩) hP hK hD hS dX4_justAt_57
        · skip
          refine lv_aload_n hx hb dX4_justAt_42 rfl (lv_at hl 0 rfl) ?_
          refine va_get (D := D) (ci := 4) (v := .ref ab_) (C := RX4) (T := TX4) (N := 14) hx hb hts nX4_justAt_4 hown hK hP 0 rfl rfl 4 (by decide) (zh (w := .fieldLink RX4 19 "FretRootsModel" "aboves" "[I") hts 2 rfl) (fun _ h9 => h9) rfl dX4_justAt_43 ?_
          refine lv_iload_n hx hb dX4_justAt_46 rfl (lv_at hl 1 rfl) ?_
          refine zi_ (y := nI kk) (ek) ?_
          refine z_iald (j := kk) hx hb hK hP 1 0 rfl rfl (by omega) (by omega) dX4_justAt_47 ?_
          refine zi_ (y := nI (xa_ kk)) ((hja kk hkk).1) ?_
          refine lv_goto (tgt := 57) hx hb dX4_justAt_48 (by decide) ?_
          subst hQ
          exact ze_i hx hb hr hlocks (nI 0) (⟨by rw [hcd], fun _ => ⟨kk, ek, hkk, by first | exact congrArg nI (if_pos c_39).symm | exact congrArg nI (if_neg c_39).symm⟩⟩) hP hK hD hS dX4_justAt_57
      · skip
        exact absurd c_31 (by decide)
    · skip
      have c_16 := zji_eq (a := inI p_.toInt64 (lN 0) (lN 1)) (b := 0) (by omega) (by omega) c_16
      have hcd : cdPart k_ p_ n_ = 1 := if_pos (Or.inr c_16)
      refine lv_iconst (v := nI 1) hx hb dX4_justAt_19 (by decide) ?_
      refine lv_goto (tgt := 24) hx hb dX4_justAt_20 (by decide) ?_
      refine va_put (D := D) (ci := 4) (v := .int (nI 1)) (ty := .int) (C := RX4) (T := TX4) (N := 14) hx hb hts nX4_justAt_4 tyX4 tyX4_ok nmX4 hown hK hP hD hS 0 rfl rfl 0 (by decide) (zh (w := .fieldLink RX4 47 "FretRootsModel" "thrown" "I") hts 1 rfl) (fun _ h9 => h9) rfl (by decide +kernel) rfl rfl (Nat.le_of_ble_eq_true rfl) dX4_justAt_24 (fun H locs hP hD hS => ?_)
      have hP : va_P D cl5 [(m_, .inr (4, [.int (nI 1), .int (nI n_), .long (lN w_), .int (nI h_), .ref ab_, .ref be_, .long ca_, .long cb_, .long oc_, .long st_, .int bs_, .int tr_, .int sp_, .ref rr_])), (ab_, .inl (cI, 49, .inl fa_)), (be_, .inl (cI, 49, .inl fb_))] H := hP
      have hD : va_D A [(m_, .inr (4, [.int (nI 1), .int (nI n_), .long (lN w_), .int (nI h_), .ref ab_, .ref be_, .long ca_, .long cb_, .long oc_, .long st_, .int bs_, .int tr_, .int sp_, .ref rr_])), (ab_, .inl (cI, 49, .inl fa_)), (be_, .inl (cI, 49, .inl fb_))] := hD
      refine lv_aload_n hx hb dX4_justAt_27 rfl (lv_at hl 0 rfl) ?_
      refine va_get (D := D) (ci := 4) (v := .int (nI 1)) (C := RX4) (T := TX4) (N := 14) hx hb hts nX4_justAt_4 hown hK hP 0 rfl rfl 0 (by decide) (zh (w := .fieldLink RX4 47 "FretRootsModel" "thrown" "I") hts 1 rfl) (fun _ h9 => h9) rfl dX4_justAt_28 ?_
      refine lv_if_le (tgt := 38) hx hb dX4_justAt_31 (by decide) (fun c_31 => ?_) (fun c_31 => ?_)
      · skip
        exact absurd c_31 (by decide)
      · skip
        have c_31 := zji_nle (a := 1) (b := 0) (by omega) (by omega) c_31
        refine lv_iconst (v := nI 0) hx hb dX4_justAt_34 (by decide) ?_
        refine lv_goto (tgt := 57) hx hb dX4_justAt_35 (by decide) ?_
        subst hQ
        exact ze_i hx hb hr hlocks (nI 1) (⟨by rw [hcd], fun q => absurd q (by omega)⟩) hP hK hD hS dX4_justAt_57
theorem nX4_leaves_4 : ∀ w ∈ wsX40, w ∈ wsX4_leaves := by decide +kernel
abbrev rm_X4_leaves : Room := { frames := 2, cells := 0, slots := 0, locals := 46 }
set_option maxHeartbeats 4000000 in
set_option maxRecDepth 100000 in
/-- leaves of the reference -/
theorem ct_X4_leaves (l : Launch) (D : va_G) (cI cJ cD : ClassId) (m_ : Nat) (ab_ : Nat) (be_ : Nat) (rr_ : Nat) (th_ : Int32) (bs_ : Int32) (tr_ : Int32) (sp_ : Int32) (ca_ : Int64) (cb_ : Int64) (oc_ : Int64) (st_ : Int64) (n_ : Nat) (w_ : Nat) (h_ : Nat) (k_ : Int32) (fa_ : Nat → Int32) (fb_ : Nat → Int32) (xa_ : Nat → Nat) (xb_ : Nat → Nat) (sz : Nat) (hn1 : 1 ≤ n_) (hn : n_ ≤ 24) (hw_ : w_ ≤ 1000000) (hh : h_ ≤ 16) (hja : jOK n_ fa_ xa_) (hjb : jOK n_ fb_ xb_) : Met l yX4_leaves wsX4_leaves rm_X4_leaves (zP D (ty3 cI cJ cD) [.ref m_, .int k_] sz [(m_, .inr (4, [.int th_, .int (nI n_), .long (lN w_), .int (nI h_), .ref ab_, .ref be_, .long ca_, .long cb_, .long oc_, .long st_, .int bs_, .int tr_, .int sp_, .ref rr_])), (ab_, .inl (cI, 49, .inl fa_)), (be_, .inl (cI, 49, .inl fb_))] zT) (va_Ql (fun (r : Int64) (u : Int32) => u = nI (npI k_ n_) ∧ (npI k_ n_ = 0 → ∃ kk, k_ = nI kk ∧ kk ≤ 2 * n_ ∧ r = lN (w_ * 2 ^ h_ * xb_ kk / xa_ kk))) (zB D (ty3 cI cJ cD) (fun (u : Int32) => [(m_, .inr (4, [.int u, .int (nI n_), .long (lN w_), .int (nI h_), .ref ab_, .ref be_, .long ca_, .long cb_, .long oc_, .long st_, .int bs_, .int tr_, .int sp_, .ref rr_])), (ab_, .inl (cI, 49, .inl fa_)), (be_, .inl (cI, 49, .inl fb_))]) (va_A [(m_, .inr (4, [.int th_, .int (nI n_), .long (lN w_), .int (nI h_), .ref ab_, .ref be_, .long ca_, .long cb_, .long oc_, .long st_, .int bs_, .int tr_, .int sp_, .ref rr_])), (ab_, .inl (cI, 49, .inl fa_)), (be_, .inl (cI, 49, .inl fb_))] sz)) (va_A [(m_, .inr (4, [.int th_, .int (nI n_), .long (lN w_), .int (nI h_), .ref ab_, .ref be_, .long ca_, .long cb_, .long oc_, .long st_, .int bs_, .int tr_, .int sp_, .ref rr_])), (ab_, .inl (cI, 49, .inl fa_)), (be_, .inl (cI, 49, .inl fb_))] sz)) 0 0 (va_A [(m_, .inr (4, [.int th_, .int (nI n_), .long (lN w_), .int (nI h_), .ref ab_, .ref be_, .long ca_, .long cb_, .long oc_, .long st_, .int bs_, .int tr_, .int sp_, .ref rr_])), (ab_, .inl (cI, 49, .inl fa_)), (be_, .inl (cI, 49, .inl fb_))] sz) := by
  refine zMet (Qf := fun A => va_Ql (fun (r : Int64) (u : Int32) => u = nI (npI k_ n_) ∧ (npI k_ n_ = 0 → ∃ kk, k_ = nI kk ∧ kk ≤ 2 * n_ ∧ r = lN (w_ * 2 ^ h_ * xb_ kk / xa_ kk))) (zB D (ty3 cI cJ cD) (fun (u : Int32) => [(m_, .inr (4, [.int u, .int (nI n_), .long (lN w_), .int (nI h_), .ref ab_, .ref be_, .long ca_, .long cb_, .long oc_, .long st_, .int bs_, .int tr_, .int sp_, .ref rr_])), (ab_, .inl (cI, 49, .inl fa_)), (be_, .inl (cI, 49, .inl fb_))]) A) A) (cc := cX4_leaves) (maxL := 2) (ret := (some .long)) (by decide) rfl (Nat.le_of_ble_eq_true rfl) ?_
  intro p e s m args below meth c A ls Q H hargs hQ hHe hx hb hr hml hown hts hlocks hin hP hK hD hA hS hE hAe hl
  have hl : lv_has ls 2 [(0, .ref m_), (1, .int k_)] := hl
  have hall := own_le hw_ hh
  refine lv_aload_n hx hb dX4_leaves_0 rfl (lv_at hl 0 rfl) ?_
  refine lv_aload_n hx hb dX4_leaves_1 rfl (lv_at hl 0 rfl) ?_
  refine lv_iload_n hx hb dX4_leaves_2 rfl (lv_at hl 1 rfl) ?_
  refine zc_i (wc := [(m_, .inr (4, [.int th_, .int (nI n_), .long (lN w_), .int (nI h_), .ref ab_, .ref be_, .long ca_, .long cb_, .long oc_, .long st_, .int bs_, .int tr_, .int sp_, .ref rr_]))]) (wr := [(ab_, .inl (cI, 49, .inl fa_)), (be_, .inl (cI, 49, .inl fb_))]) hP hD hS hA [0] [1, 2] rfl rfl (by decide) (by decide) (va_runV (As := [.int k_]) (rest := [.ref m_]) ⟨hx, hb, hml, hown, hts⟩ (ct_X4_noPlace l D cI cJ cD m_ ab_ be_ rr_ th_ (nI h_) bs_ tr_ sp_ (lN w_) ca_ cb_ oc_ st_ n_ k_ H.size (by omega)) (cwV 1 hts gX4_leaves_X4_noPlace rfl rfl rfl (by decide +kernel) ⟨Nat.le_of_ble_eq_true rfl, Nat.le_of_ble_eq_true rfl⟩) (zPreV (wc := [(m_, .inr (4, [.int th_, .int (nI n_), .long (lN w_), .int (nI h_), .ref ab_, .ref be_, .long ca_, .long cb_, .long oc_, .long st_, .int bs_, .int tr_, .int sp_, .ref rr_]))]) hK (hP.sub [0] rfl) (hD.sub [0] (by decide) rfl) 4 0 rfl rfl zTb (fun _ _ _ => trivial)) rfl rfl hl.1 rfl (lv_room (Nat.le_of_ble_eq_true rfl)) dX4_leaves_3 ⟨Nat.le_of_ble_eq_true rfl, Nat.le_of_ble_eq_true rfl⟩) (fun r_1 u H locs hw hP hD hS => ?_)
  have hP : va_P D cl5 [(m_, .inr (4, [.int th_, .int (nI n_), .long (lN w_), .int (nI h_), .ref ab_, .ref be_, .long ca_, .long cb_, .long oc_, .long st_, .int bs_, .int tr_, .int sp_, .ref rr_])), (ab_, .inl (cI, 49, .inl fa_)), (be_, .inl (cI, 49, .inl fb_))] H := hP.sub [2, 0, 1] rfl
  have hD : va_D A [(m_, .inr (4, [.int th_, .int (nI n_), .long (lN w_), .int (nI h_), .ref ab_, .ref be_, .long ca_, .long cb_, .long oc_, .long st_, .int bs_, .int tr_, .int sp_, .ref rr_])), (ab_, .inl (cI, 49, .inl fa_)), (be_, .inl (cI, 49, .inl fb_))] := hD.sub [2, 0, 1] (by decide) rfl
  have hw : r_1 = nI (npI k_ n_) ∧ npI k_ n_ ≤ 1 := hw
  obtain ⟨rfl, hb_3⟩ := hw
  refine lv_if_eq (tgt := 13) hx hb dX4_leaves_6 (by decide) (fun c_6 => ?_) (fun c_6 => ?_)
  · skip
    have c_6 := zji_eq (a := npI k_ n_) (b := 0) (by omega) (by omega) c_6
    obtain ⟨kk, ek, hkk⟩ := np_ok hn c_6
    refine lv_iconst (v := nI 0) hx hb dX4_leaves_13 (by decide) ?_
    refine va_put (D := D) (ci := 4) (v := .int (nI 0)) (ty := .int) (C := RX4) (T := TX4) (N := 14) hx hb hts nX4_leaves_4 tyX4 tyX4_ok nmX4 hown hK hP hD hS 0 rfl rfl 0 (by decide) (zh (w := .fieldLink RX4 47 "FretRootsModel" "thrown" "I") hts 1 rfl) (fun _ h9 => h9) rfl (by decide +kernel) rfl rfl (Nat.le_of_ble_eq_true rfl) dX4_leaves_14 (fun H locs hP hD hS => ?_)
    have hP : va_P D cl5 [(m_, .inr (4, [.int (nI 0), .int (nI n_), .long (lN w_), .int (nI h_), .ref ab_, .ref be_, .long ca_, .long cb_, .long oc_, .long st_, .int bs_, .int tr_, .int sp_, .ref rr_])), (ab_, .inl (cI, 49, .inl fa_)), (be_, .inl (cI, 49, .inl fb_))] H := hP
    have hD : va_D A [(m_, .inr (4, [.int (nI 0), .int (nI n_), .long (lN w_), .int (nI h_), .ref ab_, .ref be_, .long ca_, .long cb_, .long oc_, .long st_, .int bs_, .int tr_, .int sp_, .ref rr_])), (ab_, .inl (cI, 49, .inl fa_)), (be_, .inl (cI, 49, .inl fb_))] := hD
    refine lv_aload_n hx hb dX4_leaves_17 rfl (lv_at hl 0 rfl) ?_
    refine va_get (D := D) (ci := 4) (v := .int (nI 0)) (C := RX4) (T := TX4) (N := 14) hx hb hts nX4_leaves_4 hown hK hP 0 rfl rfl 0 (by decide) (zh (w := .fieldLink RX4 47 "FretRootsModel" "thrown" "I") hts 1 rfl) (fun _ h9 => h9) rfl dX4_leaves_18 ?_
    refine lv_if_le (tgt := 28) hx hb dX4_leaves_21 (by decide) (fun c_21 => ?_) (fun c_21 => ?_)
    · skip
      have c_21 := zji_le (a := 0) (b := 0) (by omega) (by omega) c_21
      have hjb2 := (hjb kk hkk).2
      have hja2 := (hja kk hkk).2
      have hpr : w_ * 2 ^ h_ * xb_ kk ≤ 65536000000 * 1000000 := Nat.mul_le_mul hall hjb2.2
      refine lv_aload_n hx hb dX4_leaves_28 rfl (lv_at hl 0 rfl) ?_
      refine va_get (D := D) (ci := 4) (v := .long (lN w_)) (C := RX4) (T := TX4) (N := 14) hx hb hts nX4_leaves_4 hown hK hP 0 rfl rfl 2 (by decide) (zh (w := .fieldLink RX4 9 "FretRootsModel" "length" "J") hts 2 rfl) (fun _ h9 => h9) rfl dX4_leaves_29 ?_
      refine lv_aload_n hx hb dX4_leaves_32 rfl (lv_at hl 0 rfl) ?_
      refine va_get (D := D) (ci := 4) (v := .int (nI h_)) (C := RX4) (T := TX4) (N := 14) hx hb hts nX4_leaves_4 hown hK hP 0 rfl rfl 3 (by decide) (zh (w := .fieldLink RX4 15 "FretRootsModel" "shift" "I") hts 3 rfl) (fun _ h9 => h9) rfl dX4_leaves_33 ?_
      refine lv_lshl (v := lN (w_ * 2 ^ h_)) hx hb dX4_leaves_36 (z_shl w_ (by omega)) ?_
      refine lv_aload_n hx hb dX4_leaves_37 rfl (lv_at hl 0 rfl) ?_
      refine va_get (D := D) (ci := 4) (v := .ref be_) (C := RX4) (T := TX4) (N := 14) hx hb hts nX4_leaves_4 hown hK hP 0 rfl rfl 5 (by decide) (zh (w := .fieldLink RX4 23 "FretRootsModel" "belows" "[I") hts 4 rfl) (fun _ h9 => h9) rfl dX4_leaves_38 ?_
      refine lv_iload_n hx hb dX4_leaves_41 rfl (lv_at hl 1 rfl) ?_
      refine zi_ (y := nI kk) (ek) ?_
      refine z_iald (j := kk) hx hb hK hP 2 0 rfl rfl (by omega) (by omega) dX4_leaves_42 ?_
      refine zi_ (y := nI (xb_ kk)) ((hjb kk hkk).1) ?_
      refine lv_i2l (v := lN (xb_ kk)) hx hb dX4_leaves_43 (nI_l (by omega)) ?_
      refine lv_lmul hx hb dX4_leaves_44 ?_
      refine zl_ (y := lN ((w_ * 2 ^ h_) * (xb_ kk))) (lN_mul (w_ * 2 ^ h_) (xb_ kk)) ?_
      refine lv_aload_n hx hb dX4_leaves_45 rfl (lv_at hl 0 rfl) ?_
      refine va_get (D := D) (ci := 4) (v := .ref ab_) (C := RX4) (T := TX4) (N := 14) hx hb hts nX4_leaves_4 hown hK hP 0 rfl rfl 4 (by decide) (zh (w := .fieldLink RX4 19 "FretRootsModel" "aboves" "[I") hts 5 rfl) (fun _ h9 => h9) rfl dX4_leaves_46 ?_
      refine lv_iload_n hx hb dX4_leaves_49 rfl (lv_at hl 1 rfl) ?_
      refine zi_ (y := nI kk) (ek) ?_
      refine z_iald (j := kk) hx hb hK hP 1 0 rfl rfl (by omega) (by omega) dX4_leaves_50 ?_
      refine zi_ (y := nI (xa_ kk)) ((hja kk hkk).1) ?_
      refine lv_i2l (v := lN (xa_ kk)) hx hb dX4_leaves_51 (nI_l (by omega)) ?_
      refine lv_ldiv hx hb dX4_leaves_52 (zlne0 (by omega) (by omega)) ?_
      refine zl_ (y := lN (((w_ * 2 ^ h_) * (xb_ kk)) / (xa_ kk))) (pk_lDiv (by omega) (by omega) (by omega)) ?_
      subst hQ
      exact ze_l hx hb hr hlocks (nI 0) (⟨by rw [c_6], fun _ => ⟨kk, ek, hkk, rfl⟩⟩) hP hK hD hS dX4_leaves_53
    · skip
      exact absurd c_21 (by decide)
  · skip
    have c_6 := zji_ne (a := npI k_ n_) (b := 0) (by omega) (by omega) c_6
    have hnp : npI k_ n_ = 1 := by omega
    refine lv_iconst (v := nI 1) hx hb dX4_leaves_9 (by decide) ?_
    refine lv_goto (tgt := 14) hx hb dX4_leaves_10 (by decide) ?_
    refine va_put (D := D) (ci := 4) (v := .int (nI 1)) (ty := .int) (C := RX4) (T := TX4) (N := 14) hx hb hts nX4_leaves_4 tyX4 tyX4_ok nmX4 hown hK hP hD hS 0 rfl rfl 0 (by decide) (zh (w := .fieldLink RX4 47 "FretRootsModel" "thrown" "I") hts 1 rfl) (fun _ h9 => h9) rfl (by decide +kernel) rfl rfl (Nat.le_of_ble_eq_true rfl) dX4_leaves_14 (fun H locs hP hD hS => ?_)
    have hP : va_P D cl5 [(m_, .inr (4, [.int (nI 1), .int (nI n_), .long (lN w_), .int (nI h_), .ref ab_, .ref be_, .long ca_, .long cb_, .long oc_, .long st_, .int bs_, .int tr_, .int sp_, .ref rr_])), (ab_, .inl (cI, 49, .inl fa_)), (be_, .inl (cI, 49, .inl fb_))] H := hP
    have hD : va_D A [(m_, .inr (4, [.int (nI 1), .int (nI n_), .long (lN w_), .int (nI h_), .ref ab_, .ref be_, .long ca_, .long cb_, .long oc_, .long st_, .int bs_, .int tr_, .int sp_, .ref rr_])), (ab_, .inl (cI, 49, .inl fa_)), (be_, .inl (cI, 49, .inl fb_))] := hD
    refine lv_aload_n hx hb dX4_leaves_17 rfl (lv_at hl 0 rfl) ?_
    refine va_get (D := D) (ci := 4) (v := .int (nI 1)) (C := RX4) (T := TX4) (N := 14) hx hb hts nX4_leaves_4 hown hK hP 0 rfl rfl 0 (by decide) (zh (w := .fieldLink RX4 47 "FretRootsModel" "thrown" "I") hts 1 rfl) (fun _ h9 => h9) rfl dX4_leaves_18 ?_
    refine lv_if_le (tgt := 28) hx hb dX4_leaves_21 (by decide) (fun c_21 => ?_) (fun c_21 => ?_)
    · skip
      exact absurd c_21 (by decide)
    · skip
      have c_21 := zji_nle (a := 1) (b := 0) (by omega) (by omega) c_21
      refine lv_lconst (v := lN 0) hx hb dX4_leaves_24 rfl ?_
      refine lv_goto (tgt := 53) hx hb dX4_leaves_25 (by decide) ?_
      subst hQ
      exact ze_l hx hb hr hlocks (nI 1) (⟨by rw [hnp], fun q => absurd q (by omega)⟩) hP hK hD hS dX4_leaves_53
theorem nX4_beside_4 : ∀ w ∈ wsX40, w ∈ wsX4_beside := by decide +kernel
abbrev rm_X4_beside : Room := { frames := 3, cells := 0, slots := 0, locals := 89 }
set_option maxHeartbeats 4000000 in
set_option maxRecDepth 100000 in
/-- beside of the reference -/
theorem ct_X4_beside (l : Launch) (D : va_G) (cI cJ cD : ClassId) (m_ : Nat) (ab_ : Nat) (be_ : Nat) (rr_ : Nat) (th_ : Int32) (bs_ : Int32) (tr_ : Int32) (sp_ : Int32) (ca_ : Int64) (cb_ : Int64) (oc_ : Int64) (st_ : Int64) (n_ : Nat) (w_ : Nat) (h_ : Nat) (g_ : Nat → Int32) (k_ : Int32) (fa_ : Nat → Int32) (fb_ : Nat → Int32) (xa_ : Nat → Nat) (xb_ : Nat → Nat) (sz : Nat) (hn1 : 1 ≤ n_) (hn : n_ ≤ 24) (hja : jOK n_ fa_ xa_) (hjb : jOK n_ fb_ xb_) : Met l yX4_beside wsX4_beside rm_X4_beside (zP D (ty3 cI cJ cD) [.ref m_, .int k_] sz [(m_, .inr (4, [.int th_, .int (nI n_), .long (lN w_), .int (nI h_), .ref ab_, .ref be_, .long ca_, .long cb_, .long oc_, .long st_, .int bs_, .int tr_, .int sp_, .ref rr_])), (rr_, .inl (cI, 152, .inl g_)), (ab_, .inl (cI, 49, .inl fa_)), (be_, .inl (cI, 49, .inl fb_))] zT) (va_Qi (fun (r : Int32) (u : Int32 × (Nat → Int32)) => (u.1) = nI (npI k_ n_) ∧ (npI k_ n_ = 0 → ∃ kk, k_ = nI kk ∧ kk ≤ 2 * n_ ∧ r = cmpI (xa_ kk ^ n_) (xb_ kk ^ n_ * 2 ^ kk))) (zB D (ty3 cI cJ cD) (fun (u : Int32 × (Nat → Int32)) => [(m_, .inr (4, [.int (u.1), .int (nI n_), .long (lN w_), .int (nI h_), .ref ab_, .ref be_, .long ca_, .long cb_, .long oc_, .long st_, .int bs_, .int tr_, .int sp_, .ref rr_])), (rr_, .inl (cI, 152, .inl (u.2))), (ab_, .inl (cI, 49, .inl fa_)), (be_, .inl (cI, 49, .inl fb_))]) (va_A [(m_, .inr (4, [.int th_, .int (nI n_), .long (lN w_), .int (nI h_), .ref ab_, .ref be_, .long ca_, .long cb_, .long oc_, .long st_, .int bs_, .int tr_, .int sp_, .ref rr_])), (rr_, .inl (cI, 152, .inl g_)), (ab_, .inl (cI, 49, .inl fa_)), (be_, .inl (cI, 49, .inl fb_))] sz)) (va_A [(m_, .inr (4, [.int th_, .int (nI n_), .long (lN w_), .int (nI h_), .ref ab_, .ref be_, .long ca_, .long cb_, .long oc_, .long st_, .int bs_, .int tr_, .int sp_, .ref rr_])), (rr_, .inl (cI, 152, .inl g_)), (ab_, .inl (cI, 49, .inl fa_)), (be_, .inl (cI, 49, .inl fb_))] sz)) 0 0 (va_A [(m_, .inr (4, [.int th_, .int (nI n_), .long (lN w_), .int (nI h_), .ref ab_, .ref be_, .long ca_, .long cb_, .long oc_, .long st_, .int bs_, .int tr_, .int sp_, .ref rr_])), (rr_, .inl (cI, 152, .inl g_)), (ab_, .inl (cI, 49, .inl fa_)), (be_, .inl (cI, 49, .inl fb_))] sz) := by
  refine zMet (Qf := fun A => va_Qi (fun (r : Int32) (u : Int32 × (Nat → Int32)) => (u.1) = nI (npI k_ n_) ∧ (npI k_ n_ = 0 → ∃ kk, k_ = nI kk ∧ kk ≤ 2 * n_ ∧ r = cmpI (xa_ kk ^ n_) (xb_ kk ^ n_ * 2 ^ kk))) (zB D (ty3 cI cJ cD) (fun (u : Int32 × (Nat → Int32)) => [(m_, .inr (4, [.int (u.1), .int (nI n_), .long (lN w_), .int (nI h_), .ref ab_, .ref be_, .long ca_, .long cb_, .long oc_, .long st_, .int bs_, .int tr_, .int sp_, .ref rr_])), (rr_, .inl (cI, 152, .inl (u.2))), (ab_, .inl (cI, 49, .inl fa_)), (be_, .inl (cI, 49, .inl fb_))]) A) A) (cc := cX4_beside) (maxL := 2) (ret := (some .int)) (by decide) rfl (Nat.le_of_ble_eq_true rfl) ?_
  intro p e s m args below meth c A ls Q H hargs hQ hHe hx hb hr hml hown hts hlocks hin hP hK hD hA hS hE hAe hl
  have hl : lv_has ls 2 [(0, .ref m_), (1, .int k_)] := hl
  refine lv_aload_n hx hb dX4_beside_0 rfl (lv_at hl 0 rfl) ?_
  refine lv_aload_n hx hb dX4_beside_1 rfl (lv_at hl 0 rfl) ?_
  refine lv_iload_n hx hb dX4_beside_2 rfl (lv_at hl 1 rfl) ?_
  refine zc_i (wc := [(m_, .inr (4, [.int th_, .int (nI n_), .long (lN w_), .int (nI h_), .ref ab_, .ref be_, .long ca_, .long cb_, .long oc_, .long st_, .int bs_, .int tr_, .int sp_, .ref rr_]))]) (wr := [(rr_, .inl (cI, 152, .inl g_)), (ab_, .inl (cI, 49, .inl fa_)), (be_, .inl (cI, 49, .inl fb_))]) hP hD hS hA [0] [1, 2, 3] rfl rfl (by decide) (by decide) (va_runV (As := [.int k_]) (rest := [.ref m_]) ⟨hx, hb, hml, hown, hts⟩ (ct_X4_noPlace l D cI cJ cD m_ ab_ be_ rr_ th_ (nI h_) bs_ tr_ sp_ (lN w_) ca_ cb_ oc_ st_ n_ k_ H.size (by omega)) (cwV 1 hts gX4_beside_X4_noPlace rfl rfl rfl (by decide +kernel) ⟨Nat.le_of_ble_eq_true rfl, Nat.le_of_ble_eq_true rfl⟩) (zPreV (wc := [(m_, .inr (4, [.int th_, .int (nI n_), .long (lN w_), .int (nI h_), .ref ab_, .ref be_, .long ca_, .long cb_, .long oc_, .long st_, .int bs_, .int tr_, .int sp_, .ref rr_]))]) hK (hP.sub [0] rfl) (hD.sub [0] (by decide) rfl) 4 0 rfl rfl zTb (fun _ _ _ => trivial)) rfl rfl hl.1 rfl (lv_room (Nat.le_of_ble_eq_true rfl)) dX4_beside_3 ⟨Nat.le_of_ble_eq_true rfl, Nat.le_of_ble_eq_true rfl⟩) (fun r_1 u H locs hw hP hD hS => ?_)
  have hP : va_P D cl5 [(m_, .inr (4, [.int th_, .int (nI n_), .long (lN w_), .int (nI h_), .ref ab_, .ref be_, .long ca_, .long cb_, .long oc_, .long st_, .int bs_, .int tr_, .int sp_, .ref rr_])), (rr_, .inl (cI, 152, .inl g_)), (ab_, .inl (cI, 49, .inl fa_)), (be_, .inl (cI, 49, .inl fb_))] H := hP.sub [3, 0, 1, 2] rfl
  have hD : va_D A [(m_, .inr (4, [.int th_, .int (nI n_), .long (lN w_), .int (nI h_), .ref ab_, .ref be_, .long ca_, .long cb_, .long oc_, .long st_, .int bs_, .int tr_, .int sp_, .ref rr_])), (rr_, .inl (cI, 152, .inl g_)), (ab_, .inl (cI, 49, .inl fa_)), (be_, .inl (cI, 49, .inl fb_))] := hD.sub [3, 0, 1, 2] (by decide) rfl
  have hw : r_1 = nI (npI k_ n_) ∧ npI k_ n_ ≤ 1 := hw
  obtain ⟨rfl, hb_3⟩ := hw
  refine lv_if_eq (tgt := 13) hx hb dX4_beside_6 (by decide) (fun c_6 => ?_) (fun c_6 => ?_)
  · skip
    have c_6 := zji_eq (a := npI k_ n_) (b := 0) (by omega) (by omega) c_6
    obtain ⟨kk, ek, hkk⟩ := np_ok hn c_6
    refine lv_iconst (v := nI 0) hx hb dX4_beside_13 (by decide) ?_
    refine va_put (D := D) (ci := 4) (v := .int (nI 0)) (ty := .int) (C := RX4) (T := TX4) (N := 14) hx hb hts nX4_beside_4 tyX4 tyX4_ok nmX4 hown hK hP hD hS 0 rfl rfl 0 (by decide) (zh (w := .fieldLink RX4 47 "FretRootsModel" "thrown" "I") hts 1 rfl) (fun _ h9 => h9) rfl (by decide +kernel) rfl rfl (Nat.le_of_ble_eq_true rfl) dX4_beside_14 (fun H locs hP hD hS => ?_)
    have hP : va_P D cl5 [(m_, .inr (4, [.int (nI 0), .int (nI n_), .long (lN w_), .int (nI h_), .ref ab_, .ref be_, .long ca_, .long cb_, .long oc_, .long st_, .int bs_, .int tr_, .int sp_, .ref rr_])), (rr_, .inl (cI, 152, .inl g_)), (ab_, .inl (cI, 49, .inl fa_)), (be_, .inl (cI, 49, .inl fb_))] H := hP
    have hD : va_D A [(m_, .inr (4, [.int (nI 0), .int (nI n_), .long (lN w_), .int (nI h_), .ref ab_, .ref be_, .long ca_, .long cb_, .long oc_, .long st_, .int bs_, .int tr_, .int sp_, .ref rr_])), (rr_, .inl (cI, 152, .inl g_)), (ab_, .inl (cI, 49, .inl fa_)), (be_, .inl (cI, 49, .inl fb_))] := hD
    refine lv_aload_n hx hb dX4_beside_17 rfl (lv_at hl 0 rfl) ?_
    refine va_get (D := D) (ci := 4) (v := .int (nI 0)) (C := RX4) (T := TX4) (N := 14) hx hb hts nX4_beside_4 hown hK hP 0 rfl rfl 0 (by decide) (zh (w := .fieldLink RX4 47 "FretRootsModel" "thrown" "I") hts 1 rfl) (fun _ h9 => h9) rfl dX4_beside_18 ?_
    refine lv_if_le (tgt := 28) hx hb dX4_beside_21 (by decide) (fun c_21 => ?_) (fun c_21 => ?_)
    · skip
      have c_21 := zji_le (a := 0) (b := 0) (by omega) (by omega) c_21
      have hjb2 := (hjb kk hkk).2
      have hja2 := (hja kk hkk).2
      refine lv_aload_n hx hb dX4_beside_28 rfl (lv_at hl 0 rfl) ?_
      refine lv_aload_n hx hb dX4_beside_29 rfl (lv_at hl 0 rfl) ?_
      refine va_get (D := D) (ci := 4) (v := .ref ab_) (C := RX4) (T := TX4) (N := 14) hx hb hts nX4_beside_4 hown hK hP 0 rfl rfl 4 (by decide) (zh (w := .fieldLink RX4 19 "FretRootsModel" "aboves" "[I") hts 2 rfl) (fun _ h9 => h9) rfl dX4_beside_30 ?_
      refine lv_iload_n hx hb dX4_beside_33 rfl (lv_at hl 1 rfl) ?_
      refine zi_ (y := nI kk) (ek) ?_
      refine z_iald (j := kk) hx hb hK hP 2 0 rfl rfl (by omega) (by omega) dX4_beside_34 ?_
      refine zi_ (y := nI (xa_ kk)) ((hja kk hkk).1) ?_
      refine lv_aload_n hx hb dX4_beside_35 rfl (lv_at hl 0 rfl) ?_
      refine va_get (D := D) (ci := 4) (v := .ref be_) (C := RX4) (T := TX4) (N := 14) hx hb hts nX4_beside_4 hown hK hP 0 rfl rfl 5 (by decide) (zh (w := .fieldLink RX4 23 "FretRootsModel" "belows" "[I") hts 3 rfl) (fun _ h9 => h9) rfl dX4_beside_36 ?_
      refine lv_iload_n hx hb dX4_beside_39 rfl (lv_at hl 1 rfl) ?_
      refine zi_ (y := nI kk) (ek) ?_
      refine z_iald (j := kk) hx hb hK hP 3 0 rfl rfl (by omega) (by omega) dX4_beside_40 ?_
      refine zi_ (y := nI (xb_ kk)) ((hjb kk hkk).1) ?_
      refine lv_aload_n hx hb dX4_beside_41 rfl (lv_at hl 0 rfl) ?_
      refine va_get (D := D) (ci := 4) (v := .int (nI n_)) (C := RX4) (T := TX4) (N := 14) hx hb hts nX4_beside_4 hown hK hP 0 rfl rfl 1 (by decide) (zh (w := .fieldLink RX4 44 "FretRootsModel" "notes" "I") hts 4 rfl) (fun _ h9 => h9) rfl dX4_beside_42 ?_
      refine lv_iload_n hx hb dX4_beside_45 rfl (lv_at hl 1 rfl) ?_
      refine zi_ (y := nI kk) (ek) ?_
      refine zc_i (wc := [(m_, .inr (4, [.int (nI 0), .int (nI n_), .long (lN w_), .int (nI h_), .ref ab_, .ref be_, .long ca_, .long cb_, .long oc_, .long st_, .int bs_, .int tr_, .int sp_, .ref rr_])), (rr_, .inl (cI, 152, .inl g_))]) (wr := [(ab_, .inl (cI, 49, .inl fa_)), (be_, .inl (cI, 49, .inl fb_))]) hP hD hS hA [0, 1] [2, 3] rfl rfl (by decide) (by decide) (va_runV (As := [.int (nI (xa_ kk)), .int (nI (xb_ kk)), .int (nI n_), .int (nI kk)]) (rest := []) ⟨hx, hb, hml, hown, hts⟩ (ct_X4_side_ l D cI cJ cD m_ ab_ be_ rr_ (nI 0) (nI n_) (nI h_) bs_ tr_ sp_ (lN w_) ca_ cb_ oc_ st_ (xa_ kk) (xb_ kk) n_ kk g_ H.size (by omega) (by omega) (by omega) (by omega)) (cwV 4 hts gX4_beside_X4_side_ rfl rfl rfl (by decide +kernel) ⟨Nat.le_of_ble_eq_true rfl, Nat.le_of_ble_eq_true rfl⟩) (zPreV (wc := [(m_, .inr (4, [.int (nI 0), .int (nI n_), .long (lN w_), .int (nI h_), .ref ab_, .ref be_, .long ca_, .long cb_, .long oc_, .long st_, .int bs_, .int tr_, .int sp_, .ref rr_])), (rr_, .inl (cI, 152, .inl g_))]) hK (hP.sub [0, 1] rfl) (hD.sub [0, 1] (by decide) rfl) 4 0 rfl rfl zTb (fun _ _ _ => trivial)) rfl rfl hl.1 rfl (lv_room (Nat.le_of_ble_eq_true rfl)) dX4_beside_46 ⟨Nat.le_of_ble_eq_true rfl, Nat.le_of_ble_eq_true rfl⟩) (fun r_2 u H locs hw hP hD hS => ?_)
      obtain ⟨g2_3, rfl⟩ : ∃ z, z = u := ⟨_, rfl⟩
      have hP : va_P D cl5 [(m_, .inr (4, [.int (nI 0), .int (nI n_), .long (lN w_), .int (nI h_), .ref ab_, .ref be_, .long ca_, .long cb_, .long oc_, .long st_, .int bs_, .int tr_, .int sp_, .ref rr_])), (rr_, .inl (cI, 152, .inl g2_3)), (ab_, .inl (cI, 49, .inl fa_)), (be_, .inl (cI, 49, .inl fb_))] H := hP.sub [2, 3, 0, 1] rfl
      have hD : va_D A [(m_, .inr (4, [.int (nI 0), .int (nI n_), .long (lN w_), .int (nI h_), .ref ab_, .ref be_, .long ca_, .long cb_, .long oc_, .long st_, .int bs_, .int tr_, .int sp_, .ref rr_])), (rr_, .inl (cI, 152, .inl g2_3)), (ab_, .inl (cI, 49, .inl fa_)), (be_, .inl (cI, 49, .inl fb_))] := hD.sub [2, 3, 0, 1] (by decide) rfl
      have hw : r_2 = cmpI ((xa_ kk) ^ n_) ((xb_ kk) ^ n_ * 2 ^ kk) := hw
      subst hw
      subst hQ
      exact ze_i hx hb hr hlocks (nI 0, g2_3) (⟨by rw [c_6], fun _ => ⟨kk, ek, hkk, rfl⟩⟩) hP hK hD hS dX4_beside_49
    · skip
      exact absurd c_21 (by decide)
  · skip
    have c_6 := zji_ne (a := npI k_ n_) (b := 0) (by omega) (by omega) c_6
    have hnp : npI k_ n_ = 1 := by omega
    refine lv_iconst (v := nI 1) hx hb dX4_beside_9 (by decide) ?_
    refine lv_goto (tgt := 14) hx hb dX4_beside_10 (by decide) ?_
    refine va_put (D := D) (ci := 4) (v := .int (nI 1)) (ty := .int) (C := RX4) (T := TX4) (N := 14) hx hb hts nX4_beside_4 tyX4 tyX4_ok nmX4 hown hK hP hD hS 0 rfl rfl 0 (by decide) (zh (w := .fieldLink RX4 47 "FretRootsModel" "thrown" "I") hts 1 rfl) (fun _ h9 => h9) rfl (by decide +kernel) rfl rfl (Nat.le_of_ble_eq_true rfl) dX4_beside_14 (fun H locs hP hD hS => ?_)
    have hP : va_P D cl5 [(m_, .inr (4, [.int (nI 1), .int (nI n_), .long (lN w_), .int (nI h_), .ref ab_, .ref be_, .long ca_, .long cb_, .long oc_, .long st_, .int bs_, .int tr_, .int sp_, .ref rr_])), (rr_, .inl (cI, 152, .inl g_)), (ab_, .inl (cI, 49, .inl fa_)), (be_, .inl (cI, 49, .inl fb_))] H := hP
    have hD : va_D A [(m_, .inr (4, [.int (nI 1), .int (nI n_), .long (lN w_), .int (nI h_), .ref ab_, .ref be_, .long ca_, .long cb_, .long oc_, .long st_, .int bs_, .int tr_, .int sp_, .ref rr_])), (rr_, .inl (cI, 152, .inl g_)), (ab_, .inl (cI, 49, .inl fa_)), (be_, .inl (cI, 49, .inl fb_))] := hD
    refine lv_aload_n hx hb dX4_beside_17 rfl (lv_at hl 0 rfl) ?_
    refine va_get (D := D) (ci := 4) (v := .int (nI 1)) (C := RX4) (T := TX4) (N := 14) hx hb hts nX4_beside_4 hown hK hP 0 rfl rfl 0 (by decide) (zh (w := .fieldLink RX4 47 "FretRootsModel" "thrown" "I") hts 1 rfl) (fun _ h9 => h9) rfl dX4_beside_18 ?_
    refine lv_if_le (tgt := 28) hx hb dX4_beside_21 (by decide) (fun c_21 => ?_) (fun c_21 => ?_)
    · skip
      exact absurd c_21 (by decide)
    · skip
      have c_21 := zji_nle (a := 1) (b := 0) (by omega) (by omega) c_21
      refine lv_iconst (v := nI 0) hx hb dX4_beside_24 (by decide) ?_
      refine lv_goto (tgt := 49) hx hb dX4_beside_25 (by decide) ?_
      subst hQ
      exact ze_i hx hb hr hlocks (nI 1, g_) (⟨by rw [hnp], fun q => absurd q (by omega)⟩) hP hK hD hS dX4_beside_49
theorem nX4_clear_4 : ∀ w ∈ wsX40, w ∈ wsX4_clear := by decide +kernel
abbrev rm_X4_clear : Room := { frames := 0, cells := 0, slots := 0, locals := 0 }
set_option maxHeartbeats 4000000 in
set_option maxRecDepth 100000 in
/-- clear of the reference -/
theorem ct_X4_clear (l : Launch) (D : va_G) (cI cJ cD : ClassId) (m_ : Nat) (ab_ : Nat) (be_ : Nat) (rr_ : Nat) (th_ : Int32) (nn_ : Int32) (sh_ : Int32) (bs_ : Int32) (tr_ : Int32) (sp_ : Int32) (le_ : Int64) (ca_ : Int64) (cb_ : Int64) (oc_ : Int64) (st_ : Int64) (sz : Nat) : Met l yX4_clear wsX4_clear rm_X4_clear (zP D (ty3 cI cJ cD) [.ref m_] sz [(m_, .inr (4, [.int th_, .int nn_, .long le_, .int sh_, .ref ab_, .ref be_, .long ca_, .long cb_, .long oc_, .long st_, .int bs_, .int tr_, .int sp_, .ref rr_]))] zT) (va_Qv (fun (u : Unit) => True) (zB D (ty3 cI cJ cD) (fun (u : Unit) => [(m_, .inr (4, [.int (nI 0), .int nn_, .long le_, .int sh_, .ref ab_, .ref be_, .long (lN 1), .long (lN 1), .long (lN 0), .long (lN 0), .int bs_, .int tr_, .int sp_, .ref rr_]))]) (va_A [(m_, .inr (4, [.int th_, .int nn_, .long le_, .int sh_, .ref ab_, .ref be_, .long ca_, .long cb_, .long oc_, .long st_, .int bs_, .int tr_, .int sp_, .ref rr_]))] sz)) (va_A [(m_, .inr (4, [.int th_, .int nn_, .long le_, .int sh_, .ref ab_, .ref be_, .long ca_, .long cb_, .long oc_, .long st_, .int bs_, .int tr_, .int sp_, .ref rr_]))] sz)) 0 0 (va_A [(m_, .inr (4, [.int th_, .int nn_, .long le_, .int sh_, .ref ab_, .ref be_, .long ca_, .long cb_, .long oc_, .long st_, .int bs_, .int tr_, .int sp_, .ref rr_]))] sz) := by
  refine zMet (Qf := fun A => va_Qv (fun (u : Unit) => True) (zB D (ty3 cI cJ cD) (fun (u : Unit) => [(m_, .inr (4, [.int (nI 0), .int nn_, .long le_, .int sh_, .ref ab_, .ref be_, .long (lN 1), .long (lN 1), .long (lN 0), .long (lN 0), .int bs_, .int tr_, .int sp_, .ref rr_]))]) A) A) (cc := cX4_clear) (maxL := 1) (ret := none) (by decide) rfl (Nat.le_of_ble_eq_true rfl) ?_
  intro p e s m args below meth c A ls Q H hargs hQ hHe hx hb hr hml hown hts hlocks hin hP hK hD hA hS hE hAe hl
  have hl : lv_has ls 1 [(0, .ref m_)] := hl
  refine lv_aload_n hx hb dX4_clear_0 rfl (lv_at hl 0 rfl) ?_
  refine lv_iconst (v := nI 0) hx hb dX4_clear_1 (by decide) ?_
  refine va_put (D := D) (ci := 4) (v := .int (nI 0)) (ty := .int) (C := RX4) (T := TX4) (N := 14) hx hb hts nX4_clear_4 tyX4 tyX4_ok nmX4 hown hK hP hD hS 0 rfl rfl 0 (by decide) (zh (w := .fieldLink RX4 47 "FretRootsModel" "thrown" "I") hts 1 rfl) (fun _ h9 => h9) rfl (by decide +kernel) rfl rfl (Nat.le_of_ble_eq_true rfl) dX4_clear_2 (fun H locs hP hD hS => ?_)
  have hP : va_P D cl5 [(m_, .inr (4, [.int (nI 0), .int nn_, .long le_, .int sh_, .ref ab_, .ref be_, .long ca_, .long cb_, .long oc_, .long st_, .int bs_, .int tr_, .int sp_, .ref rr_]))] H := hP
  have hD : va_D A [(m_, .inr (4, [.int (nI 0), .int nn_, .long le_, .int sh_, .ref ab_, .ref be_, .long ca_, .long cb_, .long oc_, .long st_, .int bs_, .int tr_, .int sp_, .ref rr_]))] := hD
  refine lv_aload_n hx hb dX4_clear_5 rfl (lv_at hl 0 rfl) ?_
  refine lv_lconst (v := lN 1) hx hb dX4_clear_6 rfl ?_
  refine va_put (D := D) (ci := 4) (v := .long (lN 1)) (ty := .long) (C := RX4) (T := TX4) (N := 14) hx hb hts nX4_clear_4 tyX4 tyX4_ok nmX4 hown hK hP hD hS 0 rfl rfl 6 (by decide) (zh (w := .fieldLink RX4 26 "FretRootsModel" "chainAbove" "J") hts 2 rfl) (fun _ h9 => h9) rfl (by decide +kernel) rfl rfl (Nat.le_of_ble_eq_true rfl) dX4_clear_7 (fun H locs hP hD hS => ?_)
  have hP : va_P D cl5 [(m_, .inr (4, [.int (nI 0), .int nn_, .long le_, .int sh_, .ref ab_, .ref be_, .long (lN 1), .long cb_, .long oc_, .long st_, .int bs_, .int tr_, .int sp_, .ref rr_]))] H := hP
  have hD : va_D A [(m_, .inr (4, [.int (nI 0), .int nn_, .long le_, .int sh_, .ref ab_, .ref be_, .long (lN 1), .long cb_, .long oc_, .long st_, .int bs_, .int tr_, .int sp_, .ref rr_]))] := hD
  refine lv_aload_n hx hb dX4_clear_10 rfl (lv_at hl 0 rfl) ?_
  refine lv_lconst (v := lN 1) hx hb dX4_clear_11 rfl ?_
  refine va_put (D := D) (ci := 4) (v := .long (lN 1)) (ty := .long) (C := RX4) (T := TX4) (N := 14) hx hb hts nX4_clear_4 tyX4 tyX4_ok nmX4 hown hK hP hD hS 0 rfl rfl 7 (by decide) (zh (w := .fieldLink RX4 29 "FretRootsModel" "chainBelow" "J") hts 3 rfl) (fun _ h9 => h9) rfl (by decide +kernel) rfl rfl (Nat.le_of_ble_eq_true rfl) dX4_clear_12 (fun H locs hP hD hS => ?_)
  have hP : va_P D cl5 [(m_, .inr (4, [.int (nI 0), .int nn_, .long le_, .int sh_, .ref ab_, .ref be_, .long (lN 1), .long (lN 1), .long oc_, .long st_, .int bs_, .int tr_, .int sp_, .ref rr_]))] H := hP
  have hD : va_D A [(m_, .inr (4, [.int (nI 0), .int nn_, .long le_, .int sh_, .ref ab_, .ref be_, .long (lN 1), .long (lN 1), .long oc_, .long st_, .int bs_, .int tr_, .int sp_, .ref rr_]))] := hD
  refine lv_aload_n hx hb dX4_clear_15 rfl (lv_at hl 0 rfl) ?_
  refine lv_lconst (v := lN 0) hx hb dX4_clear_16 rfl ?_
  refine va_put (D := D) (ci := 4) (v := .long (lN 0)) (ty := .long) (C := RX4) (T := TX4) (N := 14) hx hb hts nX4_clear_4 tyX4 tyX4_ok nmX4 hown hK hP hD hS 0 rfl rfl 8 (by decide) (zh (w := .fieldLink RX4 125 "FretRootsModel" "octaves" "J") hts 4 rfl) (fun _ h9 => h9) rfl (by decide +kernel) rfl rfl (Nat.le_of_ble_eq_true rfl) dX4_clear_17 (fun H locs hP hD hS => ?_)
  have hP : va_P D cl5 [(m_, .inr (4, [.int (nI 0), .int nn_, .long le_, .int sh_, .ref ab_, .ref be_, .long (lN 1), .long (lN 1), .long (lN 0), .long st_, .int bs_, .int tr_, .int sp_, .ref rr_]))] H := hP
  have hD : va_D A [(m_, .inr (4, [.int (nI 0), .int nn_, .long le_, .int sh_, .ref ab_, .ref be_, .long (lN 1), .long (lN 1), .long (lN 0), .long st_, .int bs_, .int tr_, .int sp_, .ref rr_]))] := hD
  refine lv_aload_n hx hb dX4_clear_20 rfl (lv_at hl 0 rfl) ?_
  refine lv_lconst (v := lN 0) hx hb dX4_clear_21 rfl ?_
  refine va_put (D := D) (ci := 4) (v := .long (lN 0)) (ty := .long) (C := RX4) (T := TX4) (N := 14) hx hb hts nX4_clear_4 tyX4 tyX4_ok nmX4 hown hK hP hD hS 0 rfl rfl 9 (by decide) (zh (w := .fieldLink RX4 128 "FretRootsModel" "steps" "J") hts 5 rfl) (fun _ h9 => h9) rfl (by decide +kernel) rfl rfl (Nat.le_of_ble_eq_true rfl) dX4_clear_22 (fun H locs hP hD hS => ?_)
  have hP : va_P D cl5 [(m_, .inr (4, [.int (nI 0), .int nn_, .long le_, .int sh_, .ref ab_, .ref be_, .long (lN 1), .long (lN 1), .long (lN 0), .long (lN 0), .int bs_, .int tr_, .int sp_, .ref rr_]))] H := hP
  have hD : va_D A [(m_, .inr (4, [.int (nI 0), .int nn_, .long le_, .int sh_, .ref ab_, .ref be_, .long (lN 1), .long (lN 1), .long (lN 0), .long (lN 0), .int bs_, .int tr_, .int sp_, .ref rr_]))] := hD
  subst hQ
  exact ze_v hx hb hr hlocks () (trivial) hP hK hD hS dX4_clear_25
theorem nX4_rest_4 : ∀ w ∈ wsX40, w ∈ wsX4_rest := by decide +kernel
abbrev rm_X4_rest : Room := { frames := 1, cells := 0, slots := 0, locals := 25 }
set_option maxHeartbeats 4000000 in
set_option maxRecDepth 100000 in
/-- rest of the reference -/
theorem ct_X4_rest (l : Launch) (D : va_G) (cI cJ cD : ClassId) (m_ : Nat) (ab_ : Nat) (be_ : Nat) (rr_ : Nat) (th_ : Int32) (nn_ : Int32) (sh_ : Int32) (bs_ : Int32) (tr_ : Int32) (sp_ : Int32) (le_ : Int64) (ca_ : Int64) (cb_ : Int64) (oc_ : Int64) (st_ : Int64) (p_ : Int32) (sz : Nat) : Met l yX4_rest wsX4_rest rm_X4_rest (zP D (ty3 cI cJ cD) [.ref m_, .int p_] sz [(m_, .inr (4, [.int th_, .int nn_, .long le_, .int sh_, .ref ab_, .ref be_, .long ca_, .long cb_, .long oc_, .long st_, .int bs_, .int tr_, .int sp_, .ref rr_]))] zT) (va_Ql (fun (r : Int64) (u : Int32) => u = nI (1 - prI p_ 3) ∧ (prI p_ 3 = 1 → r = (if p_ = 0 then ca_ else if p_ = nI 1 then cb_ else if p_ = nI 2 then oc_ else st_))) (zB D (ty3 cI cJ cD) (fun (u : Int32) => [(m_, .inr (4, [.int u, .int nn_, .long le_, .int sh_, .ref ab_, .ref be_, .long ca_, .long cb_, .long oc_, .long st_, .int bs_, .int tr_, .int sp_, .ref rr_]))]) (va_A [(m_, .inr (4, [.int th_, .int nn_, .long le_, .int sh_, .ref ab_, .ref be_, .long ca_, .long cb_, .long oc_, .long st_, .int bs_, .int tr_, .int sp_, .ref rr_]))] sz)) (va_A [(m_, .inr (4, [.int th_, .int nn_, .long le_, .int sh_, .ref ab_, .ref be_, .long ca_, .long cb_, .long oc_, .long st_, .int bs_, .int tr_, .int sp_, .ref rr_]))] sz)) 0 0 (va_A [(m_, .inr (4, [.int th_, .int nn_, .long le_, .int sh_, .ref ab_, .ref be_, .long ca_, .long cb_, .long oc_, .long st_, .int bs_, .int tr_, .int sp_, .ref rr_]))] sz) := by
  refine zMet (Qf := fun A => va_Ql (fun (r : Int64) (u : Int32) => u = nI (1 - prI p_ 3) ∧ (prI p_ 3 = 1 → r = (if p_ = 0 then ca_ else if p_ = nI 1 then cb_ else if p_ = nI 2 then oc_ else st_))) (zB D (ty3 cI cJ cD) (fun (u : Int32) => [(m_, .inr (4, [.int u, .int nn_, .long le_, .int sh_, .ref ab_, .ref be_, .long ca_, .long cb_, .long oc_, .long st_, .int bs_, .int tr_, .int sp_, .ref rr_]))]) A) A) (cc := cX4_rest) (maxL := 2) (ret := (some .long)) (by decide) rfl (Nat.le_of_ble_eq_true rfl) ?_
  intro p e s m args below meth c A ls Q H hargs hQ hHe hx hb hr hml hown hts hlocks hin hP hK hD hA hS hE hAe hl
  have hl : lv_has ls 2 [(0, .ref m_), (1, .int p_)] := hl
  refine lv_aload_n hx hb dX4_rest_0 rfl (lv_at hl 0 rfl) ?_
  refine lv_iload_n hx hb dX4_rest_1 rfl (lv_at hl 1 rfl) ?_
  refine lv_i2l (v := p_.toInt64) hx hb dX4_rest_2 rfl ?_
  refine lv_lconst (v := lN 0) hx hb dX4_rest_3 rfl ?_
  refine lv_ldc2 (v := 3) hx hb hown (zh (w := .constantLong RX4 131 (3)) hts 1 rfl) dX4_rest_4 ?_
  refine zl_ (y := lN 3) rfl ?_
  refine zc_i (wc := []) (wr := [(m_, .inr (4, [.int th_, .int nn_, .long le_, .int sh_, .ref ab_, .ref be_, .long ca_, .long cb_, .long oc_, .long st_, .int bs_, .int tr_, .int sp_, .ref rr_]))]) hP hD hS hA [] [0] rfl rfl (by decide) (by decide) (va_runS (As := [.long p_.toInt64, .long (lN 0), .long (lN 3)]) (rest := [.ref m_]) ⟨hx, hb, hml, hown, hts⟩ (ct_X4_isIn l D cI cJ cD p_.toInt64 (lN 0) (lN 3) H.size ) (va_cwS 3 hts gX4_rest_X4_isIn rfl rfl rfl (by decide +kernel) ⟨Nat.le_of_ble_eq_true rfl, Nat.le_of_ble_eq_true rfl⟩) (zPreS (wc := []) hK (hP.sub [] rfl) (hD.sub [] (by decide) rfl) zTb (fun _ _ _ => trivial)) rfl rfl hl.1 rfl (lv_room (Nat.le_of_ble_eq_true rfl)) dX4_rest_7 ⟨Nat.le_of_ble_eq_true rfl, Nat.le_of_ble_eq_true rfl⟩) (fun r_1 u H locs hw hP hD hS => ?_)
  have hP : va_P D cl5 [(m_, .inr (4, [.int th_, .int nn_, .long le_, .int sh_, .ref ab_, .ref be_, .long ca_, .long cb_, .long oc_, .long st_, .int bs_, .int tr_, .int sp_, .ref rr_]))] H := hP.sub [0] rfl
  have hD : va_D A [(m_, .inr (4, [.int th_, .int nn_, .long le_, .int sh_, .ref ab_, .ref be_, .long ca_, .long cb_, .long oc_, .long st_, .int bs_, .int tr_, .int sp_, .ref rr_]))] := hD.sub [0] (by decide) rfl
  have hw : r_1 = nI (inI p_.toInt64 (lN 0) (lN 3)) ∧ inI p_.toInt64 (lN 0) (lN 3) ≤ 1 := hw
  obtain ⟨rfl, hb_7⟩ := hw
  refine lv_if_eq (tgt := 17) hx hb dX4_rest_10 (by decide) (fun c_10 => ?_) (fun c_10 => ?_)
  · skip
    have c_10 := zji_eq (a := inI p_.toInt64 (lN 0) (lN 3)) (b := 0) (by omega) (by omega) c_10
    have hpr : prI p_ 3 = 0 := c_10
    refine lv_iconst (v := nI 1) hx hb dX4_rest_17 (by decide) ?_
    refine va_put (D := D) (ci := 4) (v := .int (nI 1)) (ty := .int) (C := RX4) (T := TX4) (N := 14) hx hb hts nX4_rest_4 tyX4 tyX4_ok nmX4 hown hK hP hD hS 0 rfl rfl 0 (by decide) (zh (w := .fieldLink RX4 47 "FretRootsModel" "thrown" "I") hts 2 rfl) (fun _ h9 => h9) rfl (by decide +kernel) rfl rfl (Nat.le_of_ble_eq_true rfl) dX4_rest_18 (fun H locs hP hD hS => ?_)
    have hP : va_P D cl5 [(m_, .inr (4, [.int (nI 1), .int nn_, .long le_, .int sh_, .ref ab_, .ref be_, .long ca_, .long cb_, .long oc_, .long st_, .int bs_, .int tr_, .int sp_, .ref rr_]))] H := hP
    have hD : va_D A [(m_, .inr (4, [.int (nI 1), .int nn_, .long le_, .int sh_, .ref ab_, .ref be_, .long ca_, .long cb_, .long oc_, .long st_, .int bs_, .int tr_, .int sp_, .ref rr_]))] := hD
    refine lv_aload_n hx hb dX4_rest_21 rfl (lv_at hl 0 rfl) ?_
    refine va_get (D := D) (ci := 4) (v := .int (nI 1)) (C := RX4) (T := TX4) (N := 14) hx hb hts nX4_rest_4 hown hK hP 0 rfl rfl 0 (by decide) (zh (w := .fieldLink RX4 47 "FretRootsModel" "thrown" "I") hts 2 rfl) (fun _ h9 => h9) rfl dX4_rest_22 ?_
    refine lv_if_le (tgt := 32) hx hb dX4_rest_25 (by decide) (fun c_25 => ?_) (fun c_25 => ?_)
    · skip
      exact absurd c_25 (by decide)
    · skip
      have c_25 := zji_nle (a := 1) (b := 0) (by omega) (by omega) c_25
      refine lv_lconst (v := lN 0) hx hb dX4_rest_28 rfl ?_
      refine lv_goto (tgt := 71) hx hb dX4_rest_29 (by decide) ?_
      subst hQ
      exact ze_l hx hb hr hlocks (nI 1) (⟨by rw [hpr], fun q => absurd q (by omega)⟩) hP hK hD hS dX4_rest_71
  · skip
    have c_10 := zji_ne (a := inI p_.toInt64 (lN 0) (lN 3)) (b := 0) (by omega) (by omega) c_10
    have hpr : prI p_ 3 = 1 := Nat.le_antisymm hb_7 (Nat.pos_of_ne_zero c_10)
    refine lv_iconst (v := nI 0) hx hb dX4_rest_13 (by decide) ?_
    refine lv_goto (tgt := 18) hx hb dX4_rest_14 (by decide) ?_
    refine va_put (D := D) (ci := 4) (v := .int (nI 0)) (ty := .int) (C := RX4) (T := TX4) (N := 14) hx hb hts nX4_rest_4 tyX4 tyX4_ok nmX4 hown hK hP hD hS 0 rfl rfl 0 (by decide) (zh (w := .fieldLink RX4 47 "FretRootsModel" "thrown" "I") hts 2 rfl) (fun _ h9 => h9) rfl (by decide +kernel) rfl rfl (Nat.le_of_ble_eq_true rfl) dX4_rest_18 (fun H locs hP hD hS => ?_)
    have hP : va_P D cl5 [(m_, .inr (4, [.int (nI 0), .int nn_, .long le_, .int sh_, .ref ab_, .ref be_, .long ca_, .long cb_, .long oc_, .long st_, .int bs_, .int tr_, .int sp_, .ref rr_]))] H := hP
    have hD : va_D A [(m_, .inr (4, [.int (nI 0), .int nn_, .long le_, .int sh_, .ref ab_, .ref be_, .long ca_, .long cb_, .long oc_, .long st_, .int bs_, .int tr_, .int sp_, .ref rr_]))] := hD
    refine lv_aload_n hx hb dX4_rest_21 rfl (lv_at hl 0 rfl) ?_
    refine va_get (D := D) (ci := 4) (v := .int (nI 0)) (C := RX4) (T := TX4) (N := 14) hx hb hts nX4_rest_4 hown hK hP 0 rfl rfl 0 (by decide) (zh (w := .fieldLink RX4 47 "FretRootsModel" "thrown" "I") hts 2 rfl) (fun _ h9 => h9) rfl dX4_rest_22 ?_
    refine lv_if_le (tgt := 32) hx hb dX4_rest_25 (by decide) (fun c_25 => ?_) (fun c_25 => ?_)
    · skip
      have c_25 := zji_le (a := 0) (b := 0) (by omega) (by omega) c_25
      refine lv_iload_n hx hb dX4_rest_32 rfl (lv_at hl 1 rfl) ?_
      refine lv_if_ne (tgt := 43) hx hb dX4_rest_33 (by decide) (fun c_33 => ?_) (fun c_33 => ?_)
      · skip
        refine lv_iload_n hx hb dX4_rest_43 rfl (lv_at hl 1 rfl) ?_
        refine lv_iconst (v := nI 1) hx hb dX4_rest_44 (by decide) ?_
        refine lv_icmp_ne (tgt := 55) hx hb dX4_rest_45 (by decide) (fun c_45 => ?_) (fun c_45 => ?_)
        · skip
          refine lv_iload_n hx hb dX4_rest_55 rfl (lv_at hl 1 rfl) ?_
          refine lv_iconst (v := nI 2) hx hb dX4_rest_56 (by decide) ?_
          refine lv_icmp_ne (tgt := 67) hx hb dX4_rest_57 (by decide) (fun c_57 => ?_) (fun c_57 => ?_)
          · skip
            refine lv_aload_n hx hb dX4_rest_67 rfl (lv_at hl 0 rfl) ?_
            refine va_get (D := D) (ci := 4) (v := .long st_) (C := RX4) (T := TX4) (N := 14) hx hb hts nX4_rest_4 hown hK hP 0 rfl rfl 9 (by decide) (zh (w := .fieldLink RX4 128 "FretRootsModel" "steps" "J") hts 6 rfl) (fun _ h9 => h9) rfl dX4_rest_68 ?_
            subst hQ
            exact ze_l hx hb hr hlocks (nI 0) (⟨by rw [hpr], fun _ => by first | exact (if_pos c_33).symm | (rw [if_neg c_33, if_pos c_45]) | (rw [if_neg c_33, if_neg c_45, if_pos c_57]) | (rw [if_neg c_33, if_neg c_45, if_neg c_57])⟩) hP hK hD hS dX4_rest_71
          · skip
            refine lv_aload_n hx hb dX4_rest_60 rfl (lv_at hl 0 rfl) ?_
            refine va_get (D := D) (ci := 4) (v := .long oc_) (C := RX4) (T := TX4) (N := 14) hx hb hts nX4_rest_4 hown hK hP 0 rfl rfl 8 (by decide) (zh (w := .fieldLink RX4 125 "FretRootsModel" "octaves" "J") hts 5 rfl) (fun _ h9 => h9) rfl dX4_rest_61 ?_
            refine lv_goto (tgt := 71) hx hb dX4_rest_64 (by decide) ?_
            subst hQ
            exact ze_l hx hb hr hlocks (nI 0) (⟨by rw [hpr], fun _ => by first | exact (if_pos c_33).symm | (rw [if_neg c_33, if_pos c_45]) | (rw [if_neg c_33, if_neg c_45, if_pos c_57]) | (rw [if_neg c_33, if_neg c_45, if_neg c_57])⟩) hP hK hD hS dX4_rest_71
        · skip
          refine lv_aload_n hx hb dX4_rest_48 rfl (lv_at hl 0 rfl) ?_
          refine va_get (D := D) (ci := 4) (v := .long cb_) (C := RX4) (T := TX4) (N := 14) hx hb hts nX4_rest_4 hown hK hP 0 rfl rfl 7 (by decide) (zh (w := .fieldLink RX4 29 "FretRootsModel" "chainBelow" "J") hts 4 rfl) (fun _ h9 => h9) rfl dX4_rest_49 ?_
          refine lv_goto (tgt := 71) hx hb dX4_rest_52 (by decide) ?_
          subst hQ
          exact ze_l hx hb hr hlocks (nI 0) (⟨by rw [hpr], fun _ => by first | exact (if_pos c_33).symm | (rw [if_neg c_33, if_pos c_45]) | (rw [if_neg c_33, if_neg c_45, if_pos c_57]) | (rw [if_neg c_33, if_neg c_45, if_neg c_57])⟩) hP hK hD hS dX4_rest_71
      · skip
        refine lv_aload_n hx hb dX4_rest_36 rfl (lv_at hl 0 rfl) ?_
        refine va_get (D := D) (ci := 4) (v := .long ca_) (C := RX4) (T := TX4) (N := 14) hx hb hts nX4_rest_4 hown hK hP 0 rfl rfl 6 (by decide) (zh (w := .fieldLink RX4 26 "FretRootsModel" "chainAbove" "J") hts 3 rfl) (fun _ h9 => h9) rfl dX4_rest_37 ?_
        refine lv_goto (tgt := 71) hx hb dX4_rest_40 (by decide) ?_
        subst hQ
        exact ze_l hx hb hr hlocks (nI 0) (⟨by rw [hpr], fun _ => by first | exact (if_pos c_33).symm | (rw [if_neg c_33, if_pos c_45]) | (rw [if_neg c_33, if_neg c_45, if_pos c_57]) | (rw [if_neg c_33, if_neg c_45, if_neg c_57])⟩) hP hK hD hS dX4_rest_71
    · skip
      exact absurd c_25 (by decide)
theorem nX4_thrown_4 : ∀ w ∈ wsX40, w ∈ wsX4_thrown := by decide +kernel
abbrev rm_X4_thrown : Room := { frames := 0, cells := 0, slots := 0, locals := 0 }
set_option maxHeartbeats 4000000 in
set_option maxRecDepth 100000 in
/-- thrown -/
theorem ct_X4_thrown (l : Launch) (D : va_G) (cI cJ cD : ClassId) (m_ : Nat) (ab_ : Nat) (be_ : Nat) (rr_ : Nat) (th_ : Int32) (nn_ : Int32) (sh_ : Int32) (bs_ : Int32) (tr_ : Int32) (sp_ : Int32) (le_ : Int64) (ca_ : Int64) (cb_ : Int64) (oc_ : Int64) (st_ : Int64) (sz : Nat) : Met l yX4_thrown wsX4_thrown rm_X4_thrown (zP D (ty3 cI cJ cD) [.ref m_] sz [(m_, .inr (4, [.int th_, .int nn_, .long le_, .int sh_, .ref ab_, .ref be_, .long ca_, .long cb_, .long oc_, .long st_, .int bs_, .int tr_, .int sp_, .ref rr_]))] zT) (va_Qi (fun (r : Int32) (u : Unit) => r = th_) (zB D (ty3 cI cJ cD) (fun (u : Unit) => [(m_, .inr (4, [.int th_, .int nn_, .long le_, .int sh_, .ref ab_, .ref be_, .long ca_, .long cb_, .long oc_, .long st_, .int bs_, .int tr_, .int sp_, .ref rr_]))]) (va_A [(m_, .inr (4, [.int th_, .int nn_, .long le_, .int sh_, .ref ab_, .ref be_, .long ca_, .long cb_, .long oc_, .long st_, .int bs_, .int tr_, .int sp_, .ref rr_]))] sz)) (va_A [(m_, .inr (4, [.int th_, .int nn_, .long le_, .int sh_, .ref ab_, .ref be_, .long ca_, .long cb_, .long oc_, .long st_, .int bs_, .int tr_, .int sp_, .ref rr_]))] sz)) 0 0 (va_A [(m_, .inr (4, [.int th_, .int nn_, .long le_, .int sh_, .ref ab_, .ref be_, .long ca_, .long cb_, .long oc_, .long st_, .int bs_, .int tr_, .int sp_, .ref rr_]))] sz) := by
  refine zMet (Qf := fun A => va_Qi (fun (r : Int32) (u : Unit) => r = th_) (zB D (ty3 cI cJ cD) (fun (u : Unit) => [(m_, .inr (4, [.int th_, .int nn_, .long le_, .int sh_, .ref ab_, .ref be_, .long ca_, .long cb_, .long oc_, .long st_, .int bs_, .int tr_, .int sp_, .ref rr_]))]) A) A) (cc := cX4_thrown) (maxL := 1) (ret := (some .int)) (by decide) rfl (Nat.le_of_ble_eq_true rfl) ?_
  intro p e s m args below meth c A ls Q H hargs hQ hHe hx hb hr hml hown hts hlocks hin hP hK hD hA hS hE hAe hl
  have hl : lv_has ls 1 [(0, .ref m_)] := hl
  refine lv_aload_n hx hb dX4_thrown_0 rfl (lv_at hl 0 rfl) ?_
  refine va_get (D := D) (ci := 4) (v := .int th_) (C := RX4) (T := TX4) (N := 14) hx hb hts nX4_thrown_4 hown hK hP 0 rfl rfl 0 (by decide) (zh (w := .fieldLink RX4 47 "FretRootsModel" "thrown" "I") hts 1 rfl) (fun _ h9 => h9) rfl dX4_thrown_1 ?_
  subst hQ
  exact ze_i hx hb hr hlocks () (rfl) hP hK hD hS dX4_thrown_4
