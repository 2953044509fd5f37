theorem nX4_nearest_4 : ∀ w ∈ wsX40, w ∈ wsX4_nearest := by decide +kernel
abbrev rm_X4_nearest : Room := { frames := 3, cells := 0, slots := 0, locals := 89 }
set_option maxHeartbeats 4000000 in
set_option maxRecDepth 100000 in
/-- nearest of the reference -/
theorem ct_X4_nearest (l : Launch) (D : va_G) (cI cJ cD : ClassId) (m_ : Nat) (ab_ : Nat) (be_ : Nat) (rr_ : Nat) (th_ : Int32) (bs_ : Int32) (tr_ : Int32) (sp_ : Int32) (ca_ : Int64) (cb_ : Int64) (oc_ : Int64) (st_ : Int64) (n_ : Nat) (w_ : Nat) (h_ : Nat) (g_ : Nat → Int32) (x_ : Int32) (y_ : Int32) (sz : Nat) (hn1 : 1 ≤ n_) (hn : n_ ≤ 24) : Met l yX4_nearest wsX4_nearest rm_X4_nearest (zP D (ty3 cI cJ cD) [.ref m_, .int x_, .int y_] sz [(m_, .inr (4, [.int th_, .int (nI n_), .long (lN w_), .int (nI h_), .ref ab_, .ref be_, .long ca_, .long cb_, .long oc_, .long st_, .int bs_, .int tr_, .int sp_, .ref rr_])), (rr_, .inl (cI, 152, .inl g_))] zT) (va_Qi (fun (r : Int32) (u : Int32 × (Nat → Int32)) => (u.1) = nI (cd2 (ptI x_) (ptI y_)) ∧ (cd2 (ptI x_) (ptI y_) = 0 → ∃ xx yy k, x_ = nI xx ∧ y_ = nI yy ∧ xx ≤ 1000000 ∧ yy ≤ 1000000 ∧ nearI n_ xx yy k ∧ r = nI k ∧ k ≤ 48)) (zB D (ty3 cI cJ cD) (fun (u : Int32 × (Nat → Int32)) => [(m_, .inr (4, [.int (u.1), .int (nI n_), .long (lN w_), .int (nI h_), .ref ab_, .ref be_, .long ca_, .long cb_, .long oc_, .long st_, .int bs_, .int tr_, .int sp_, .ref rr_])), (rr_, .inl (cI, 152, .inl (u.2)))]) (va_A [(m_, .inr (4, [.int th_, .int (nI n_), .long (lN w_), .int (nI h_), .ref ab_, .ref be_, .long ca_, .long cb_, .long oc_, .long st_, .int bs_, .int tr_, .int sp_, .ref rr_])), (rr_, .inl (cI, 152, .inl g_))] sz)) (va_A [(m_, .inr (4, [.int th_, .int (nI n_), .long (lN w_), .int (nI h_), .ref ab_, .ref be_, .long ca_, .long cb_, .long oc_, .long st_, .int bs_, .int tr_, .int sp_, .ref rr_])), (rr_, .inl (cI, 152, .inl g_))] sz)) 0 0 (va_A [(m_, .inr (4, [.int th_, .int (nI n_), .long (lN w_), .int (nI h_), .ref ab_, .ref be_, .long ca_, .long cb_, .long oc_, .long st_, .int bs_, .int tr_, .int sp_, .ref rr_])), (rr_, .inl (cI, 152, .inl g_))] sz) := by
  refine zMet (Qf := fun A => va_Qi (fun (r : Int32) (u : Int32 × (Nat → Int32)) => (u.1) = nI (cd2 (ptI x_) (ptI y_)) ∧ (cd2 (ptI x_) (ptI y_) = 0 → ∃ xx yy k, x_ = nI xx ∧ y_ = nI yy ∧ xx ≤ 1000000 ∧ yy ≤ 1000000 ∧ nearI n_ xx yy k ∧ r = nI k ∧ k ≤ 48)) (zB D (ty3 cI cJ cD) (fun (u : Int32 × (Nat → Int32)) => [(m_, .inr (4, [.int (u.1), .int (nI n_), .long (lN w_), .int (nI h_), .ref ab_, .ref be_, .long ca_, .long cb_, .long oc_, .long st_, .int bs_, .int tr_, .int sp_, .ref rr_])), (rr_, .inl (cI, 152, .inl (u.2)))]) A) A) (cc := cX4_nearest) (maxL := 4) (ret := (some .int)) (by decide) rfl (Nat.le_of_ble_eq_true rfl) ?_
  intro p e s m args below meth c A ls Q H hargs hQ hHe hx hb hr hml hown hts hlocks hin hP hK hD hA hS hE hAe hl
  have hl : lv_has ls 4 [(0, .ref m_), (1, .int x_), (2, .int y_)] := hl
  have lp_39 : ∀ (k9_ : Nat) (xx : Nat) (yy : Nat) (k : Nat) (g : Nat → Int32) (H : Heap) (locs : List Loc) (ls : Array Slot), 2 * n_ - k < k9_ → x_ = nI xx → y_ = nI yy → 1 ≤ xx → xx ≤ 1000000 → 1 ≤ yy → yy ≤ 1000000 → cd2 (ptI x_) (ptI y_) = 0 → yy ≤ xx → k ≤ 2 * n_ → yy ^ n_ * 2 ^ k ≤ xx ^ n_ →  va_P D cl5 [(m_, .inr (4, [.int (nI 0), .int (nI n_), .long (lN w_), .int (nI h_), .ref ab_, .ref be_, .long ca_, .long cb_, .long oc_, .long st_, .int bs_, .int tr_, .int sp_, .ref rr_])), (rr_, .inl (cI, 152, .inl g))] H → va_D A [(m_, .inr (4, [.int (nI 0), .int (nI n_), .long (lN w_), .int (nI h_), .ref ab_, .ref be_, .long ca_, .long cb_, .long oc_, .long st_, .int bs_, .int tr_, .int sp_, .ref rr_])), (rr_, .inl (cI, 152, .inl g))] → va_S A s.heap H locs → lv_has ls 4 [(0, .ref m_), (1, .int x_), (2, .int y_), (3, .int (nI k))] → W p l e rm_X4_nearest s m args below meth c H locs 0 0 Q (F0 m 39 ls []) := by
    intro k9_
    induction k9_ with
    | zero => intro xx yy k g H locs ls hm; exact absurd hm (Nat.not_lt_zero _)
    | succ k9_ ih_39 =>
      intro xx yy k g H locs ls hm  ex ey x1 x2 y1 y2 hcd hyx h1 h2 hP hD hS hl
      refine lv_iload_n hx hb dX4_nearest_39 rfl (lv_at hl 3 rfl) ?_
      refine lv_iconst (v := nI 2) hx hb dX4_nearest_40 (by decide) ?_
      refine lv_aload_n hx hb dX4_nearest_41 rfl (lv_at hl 0 rfl) ?_
      refine va_get (D := D) (ci := 4) (v := .int (nI n_)) (C := RX4) (T := TX4) (N := 14) hx hb hts nX4_nearest_4 hown hK hP 0 rfl rfl 1 (by decide) (zh (w := .fieldLink RX4 44 "FretRootsModel" "notes" "I") hts 2 rfl) (fun _ h9 => h9) rfl dX4_nearest_42 ?_
      refine lv_imul hx hb dX4_nearest_45 ?_
      refine zi_ (y := nI (2 * n_)) (pk_mul 2 n_) ?_
      refine lv_icmp_ge (tgt := 71) hx hb dX4_nearest_46 (by decide) (fun c_46 => ?_) (fun c_46 => ?_)
      · skip
        have c_46 := zji_le (a := 2 * n_) (b := k) (by omega) (by omega) c_46
        have hend : k < 2 * n_ → xx ^ n_ < yy ^ n_ * 2 ^ (k + 1) := fun q => absurd q (by omega)
        refine lv_iload_n hx hb dX4_nearest_71 rfl (lv_at hl 3 rfl) ?_
        refine lv_iconst (v := nI 2) hx hb dX4_nearest_72 (by decide) ?_
        refine lv_aload_n hx hb dX4_nearest_73 rfl (lv_at hl 0 rfl) ?_
        refine va_get (D := D) (ci := 4) (v := .int (nI n_)) (C := RX4) (T := TX4) (N := 14) hx hb hts nX4_nearest_4 hown hK hP 0 rfl rfl 1 (by decide) (zh (w := .fieldLink RX4 44 "FretRootsModel" "notes" "I") hts 2 rfl) (fun _ h9 => h9) rfl dX4_nearest_74 ?_
        refine lv_imul hx hb dX4_nearest_77 ?_
        refine zi_ (y := nI (2 * n_)) (pk_mul 2 n_) ?_
        refine lv_icmp_ge (tgt := 107) hx hb dX4_nearest_78 (by decide) (fun c_78 => ?_) (fun c_78 => ?_)
        · skip
          have c_78 := zji_le (a := 2 * n_) (b := k) (by omega) (by omega) c_78
          refine lv_iload_n hx hb dX4_nearest_107 rfl (lv_at hl 3 rfl) ?_
          subst hQ
          exact ze_i hx hb hr hlocks (nI 0, g) (⟨by rw [hcd], fun _ => ⟨xx, yy, _, ex, ey, x2, y2, by first | exact near_a (by omega) h1 h2 hend (Or.inl c_78) | exact near_a (by omega) h1 h2 hend (Or.inr (fun q => absurd (cmpI_le0 c_98) (by omega))) | exact near_b (by omega) c_78 h2 hend (cmpI_nle0 c_98), rfl, by omega⟩⟩) hP hK hD hS dX4_nearest_108
        · skip
          have c_78 := zji_nle (a := 2 * n_) (b := k) (by omega) (by omega) c_78
          refine lv_aload_n hx hb dX4_nearest_81 rfl (lv_at hl 0 rfl) ?_
          refine lv_iload_n hx hb dX4_nearest_82 rfl (lv_at hl 1 rfl) ?_
          refine zi_ (y := nI xx) (ex) ?_
          refine lv_iload_n hx hb dX4_nearest_83 rfl (lv_at hl 2 rfl) ?_
          refine zi_ (y := nI yy) (ey) ?_
          refine lv_iconst (v := nI 2) hx hb dX4_nearest_84 (by decide) ?_
          refine lv_aload_n hx hb dX4_nearest_85 rfl (lv_at hl 0 rfl) ?_
          refine va_get (D := D) (ci := 4) (v := .int (nI n_)) (C := RX4) (T := TX4) (N := 14) hx hb hts nX4_nearest_4 hown hK hP 0 rfl rfl 1 (by decide) (zh (w := .fieldLink RX4 44 "FretRootsModel" "notes" "I") hts 2 rfl) (fun _ h9 => h9) rfl dX4_nearest_86 ?_
          refine lv_imul hx hb dX4_nearest_89 ?_
          refine zi_ (y := nI (2 * n_)) (pk_mul 2 n_) ?_
          refine lv_iconst (v := nI 2) hx hb dX4_nearest_90 (by decide) ?_
          refine lv_iload_n hx hb dX4_nearest_91 rfl (lv_at hl 3 rfl) ?_
          refine lv_imul hx hb dX4_nearest_92 ?_
          refine zi_ (y := nI (2 * k)) (pk_mul 2 k) ?_
          refine lv_iconst (v := nI 1) hx hb dX4_nearest_93 (by decide) ?_
          refine lv_iadd hx hb dX4_nearest_94 ?_
          refine zi_ (y := nI (2 * k + 1)) (nI_add (2 * k) 1) ?_
          refine zc_i (wc := [(m_, .inr (4, [.int (nI 0), .int (nI n_), .long (lN w_), .int (nI h_), .ref ab_, .ref be_, .long ca_, .long cb_, .long oc_, .long st_, .int bs_, .int tr_, .int sp_, .ref rr_])), (rr_, .inl (cI, 152, .inl g))]) (wr := []) hP hD hS hA [0, 1] [] rfl rfl (by decide) (by decide) (va_runV (As := [.int (nI xx), .int (nI yy), .int (nI (2 * n_)), .int (nI (2 * k + 1))]) (rest := []) ⟨hx, hb, hml, hown, hts⟩ (ct_X4_side_ l D cI cJ cD m_ ab_ be_ rr_ (nI 0) (nI n_) (nI h_) bs_ tr_ sp_ (lN w_) ca_ cb_ oc_ st_ xx yy (2 * n_) (2 * k + 1) g H.size (by omega) (by omega) (by omega) (by omega)) (cwV 4 hts gX4_nearest_X4_side_ rfl rfl rfl (by decide +kernel) ⟨Nat.le_of_ble_eq_true rfl, Nat.le_of_ble_eq_true rfl⟩) (zPreV (wc := [(m_, .inr (4, [.int (nI 0), .int (nI n_), .long (lN w_), .int (nI h_), .ref ab_, .ref be_, .long ca_, .long cb_, .long oc_, .long st_, .int bs_, .int tr_, .int sp_, .ref rr_])), (rr_, .inl (cI, 152, .inl g))]) hK hP hD 4 0 rfl rfl zTb (fun _ _ _ => trivial)) rfl rfl hl.1 rfl (lv_room (Nat.le_of_ble_eq_true rfl)) dX4_nearest_95 ⟨Nat.le_of_ble_eq_true rfl, Nat.le_of_ble_eq_true rfl⟩) (fun r_1 u9_ H locs hw hP hD hS => ?_)
          obtain ⟨g2_2, rfl⟩ : ∃ z, z = u9_ := ⟨_, rfl⟩
          have hP : va_P D cl5 [(m_, .inr (4, [.int (nI 0), .int (nI n_), .long (lN w_), .int (nI h_), .ref ab_, .ref be_, .long ca_, .long cb_, .long oc_, .long st_, .int bs_, .int tr_, .int sp_, .ref rr_])), (rr_, .inl (cI, 152, .inl g2_2))] H := hP.sub [0, 1] rfl
          have hD : va_D A [(m_, .inr (4, [.int (nI 0), .int (nI n_), .long (lN w_), .int (nI h_), .ref ab_, .ref be_, .long ca_, .long cb_, .long oc_, .long st_, .int bs_, .int tr_, .int sp_, .ref rr_])), (rr_, .inl (cI, 152, .inl g2_2))] := hD.sub [0, 1] (by decide) rfl
          have hw : r_1 = cmpI (xx ^ (2 * n_)) (yy ^ (2 * n_) * 2 ^ (2 * k + 1)) := hw
          subst hw
          refine lv_if_le (tgt := 107) hx hb dX4_nearest_98 (by decide) (fun c_98 => ?_) (fun c_98 => ?_)
          · skip
            refine lv_iload_n hx hb dX4_nearest_107 rfl (lv_at hl 3 rfl) ?_
            subst hQ
            exact ze_i hx hb hr hlocks (nI 0, g2_2) (⟨by rw [hcd], fun _ => ⟨xx, yy, _, ex, ey, x2, y2, by first | exact near_a (by omega) h1 h2 hend (Or.inl c_78) | exact near_a (by omega) h1 h2 hend (Or.inr (fun q => absurd (cmpI_le0 c_98) (by omega))) | exact near_b (by omega) c_78 h2 hend (cmpI_nle0 c_98), rfl, by omega⟩⟩) hP hK hD hS dX4_nearest_108
          · skip
            refine lv_iload_n hx hb dX4_nearest_101 rfl (lv_at hl 3 rfl) ?_
            refine lv_iconst (v := nI 1) hx hb dX4_nearest_102 (by decide) ?_
            refine lv_iadd hx hb dX4_nearest_103 ?_
            refine zi_ (y := nI (k + 1)) (nI_add k 1) ?_
            refine lv_goto (tgt := 108) hx hb dX4_nearest_104 (by decide) ?_
            subst hQ
            exact ze_i hx hb hr hlocks (nI 0, g2_2) (⟨by rw [hcd], fun _ => ⟨xx, yy, _, ex, ey, x2, y2, by first | exact near_a (by omega) h1 h2 hend (Or.inl c_78) | exact near_a (by omega) h1 h2 hend (Or.inr (fun q => absurd (cmpI_le0 c_98) (by omega))) | exact near_b (by omega) c_78 h2 hend (cmpI_nle0 c_98), rfl, by omega⟩⟩) hP hK hD hS dX4_nearest_108
      · skip
        have c_46 := zji_nle (a := 2 * n_) (b := k) (by omega) (by omega) c_46
        refine lv_aload_n hx hb dX4_nearest_49 rfl (lv_at hl 0 rfl) ?_
        refine lv_iload_n hx hb dX4_nearest_50 rfl (lv_at hl 1 rfl) ?_
        refine zi_ (y := nI xx) (ex) ?_
        refine lv_iload_n hx hb dX4_nearest_51 rfl (lv_at hl 2 rfl) ?_
        refine zi_ (y := nI yy) (ey) ?_
        refine lv_aload_n hx hb dX4_nearest_52 rfl (lv_at hl 0 rfl) ?_
        refine va_get (D := D) (ci := 4) (v := .int (nI n_)) (C := RX4) (T := TX4) (N := 14) hx hb hts nX4_nearest_4 hown hK hP 0 rfl rfl 1 (by decide) (zh (w := .fieldLink RX4 44 "FretRootsModel" "notes" "I") hts 2 rfl) (fun _ h9 => h9) rfl dX4_nearest_53 ?_
        refine lv_iload_n hx hb dX4_nearest_56 rfl (lv_at hl 3 rfl) ?_
        refine lv_iconst (v := nI 1) hx hb dX4_nearest_57 (by decide) ?_
        refine lv_iadd hx hb dX4_nearest_58 ?_
        refine zi_ (y := nI (k + 1)) (nI_add k 1) ?_
        refine zc_i (wc := [(m_, .inr (4, [.int (nI 0), .int (nI n_), .long (lN w_), .int (nI h_), .ref ab_, .ref be_, .long ca_, .long cb_, .long oc_, .long st_, .int bs_, .int tr_, .int sp_, .ref rr_])), (rr_, .inl (cI, 152, .inl g))]) (wr := []) hP hD hS hA [0, 1] [] rfl rfl (by decide) (by decide) (va_runV (As := [.int (nI xx), .int (nI yy), .int (nI n_), .int (nI (k + 1))]) (rest := []) ⟨hx, hb, hml, hown, hts⟩ (ct_X4_side_ l D cI cJ cD m_ ab_ be_ rr_ (nI 0) (nI n_) (nI h_) bs_ tr_ sp_ (lN w_) ca_ cb_ oc_ st_ xx yy n_ (k + 1) g H.size (by omega) (by omega) (by omega) (by omega)) (cwV 4 hts gX4_nearest_X4_side_ rfl rfl rfl (by decide +kernel) ⟨Nat.le_of_ble_eq_true rfl, Nat.le_of_ble_eq_true rfl⟩) (zPreV (wc := [(m_, .inr (4, [.int (nI 0), .int (nI n_), .long (lN w_), .int (nI h_), .ref ab_, .ref be_, .long ca_, .long cb_, .long oc_, .long st_, .int bs_, .int tr_, .int sp_, .ref rr_])), (rr_, .inl (cI, 152, .inl g))]) hK hP hD 4 0 rfl rfl zTb (fun _ _ _ => trivial)) rfl rfl hl.1 rfl (lv_room (Nat.le_of_ble_eq_true rfl)) dX4_nearest_59 ⟨Nat.le_of_ble_eq_true rfl, Nat.le_of_ble_eq_true rfl⟩) (fun r_3 u9_ H locs hw hP hD hS => ?_)
        obtain ⟨g2_4, rfl⟩ : ∃ z, z = u9_ := ⟨_, rfl⟩
        have hP : va_P D cl5 [(m_, .inr (4, [.int (nI 0), .int (nI n_), .long (lN w_), .int (nI h_), .ref ab_, .ref be_, .long ca_, .long cb_, .long oc_, .long st_, .int bs_, .int tr_, .int sp_, .ref rr_])), (rr_, .inl (cI, 152, .inl g2_4))] H := hP.sub [0, 1] rfl
        have hD : va_D A [(m_, .inr (4, [.int (nI 0), .int (nI n_), .long (lN w_), .int (nI h_), .ref ab_, .ref be_, .long ca_, .long cb_, .long oc_, .long st_, .int bs_, .int tr_, .int sp_, .ref rr_])), (rr_, .inl (cI, 152, .inl g2_4))] := hD.sub [0, 1] (by decide) rfl
        have hw : r_3 = cmpI (xx ^ n_) (yy ^ n_ * 2 ^ (k + 1)) := hw
        subst hw
        refine lv_if_lt (tgt := 71) hx hb dX4_nearest_62 (by decide) (fun c_62 => ?_) (fun c_62 => ?_)
        · skip
          have hend : k < 2 * n_ → xx ^ n_ < yy ^ n_ * 2 ^ (k + 1) := fun _ => cmpI_lt0 c_62
          refine lv_iload_n hx hb dX4_nearest_71 rfl (lv_at hl 3 rfl) ?_
          refine lv_iconst (v := nI 2) hx hb dX4_nearest_72 (by decide) ?_
          refine lv_aload_n hx hb dX4_nearest_73 rfl (lv_at hl 0 rfl) ?_
          refine va_get (D := D) (ci := 4) (v := .int (nI n_)) (C := RX4) (T := TX4) (N := 14) hx hb hts nX4_nearest_4 hown hK hP 0 rfl rfl 1 (by decide) (zh (w := .fieldLink RX4 44 "FretRootsModel" "notes" "I") hts 2 rfl) (fun _ h9 => h9) rfl dX4_nearest_74 ?_
          refine lv_imul hx hb dX4_nearest_77 ?_
          refine zi_ (y := nI (2 * n_)) (pk_mul 2 n_) ?_
          refine lv_icmp_ge (tgt := 107) hx hb dX4_nearest_78 (by decide) (fun c_78 => ?_) (fun c_78 => ?_)
          · skip
            have c_78 := zji_le (a := 2 * n_) (b := k) (by omega) (by omega) c_78
            refine lv_iload_n hx hb dX4_nearest_107 rfl (lv_at hl 3 rfl) ?_
            subst hQ
            exact ze_i hx hb hr hlocks (nI 0, g2_4) (⟨by rw [hcd], fun _ => ⟨xx, yy, _, ex, ey, x2, y2, by first | exact near_a (by omega) h1 h2 hend (Or.inl c_78) | exact near_a (by omega) h1 h2 hend (Or.inr (fun q => absurd (cmpI_le0 c_98) (by omega))) | exact near_b (by omega) c_78 h2 hend (cmpI_nle0 c_98), rfl, by omega⟩⟩) hP hK hD hS dX4_nearest_108
          · skip
            have c_78 := zji_nle (a := 2 * n_) (b := k) (by omega) (by omega) c_78
            refine lv_aload_n hx hb dX4_nearest_81 rfl (lv_at hl 0 rfl) ?_
            refine lv_iload_n hx hb dX4_nearest_82 rfl (lv_at hl 1 rfl) ?_
            refine zi_ (y := nI xx) (ex) ?_
            refine lv_iload_n hx hb dX4_nearest_83 rfl (lv_at hl 2 rfl) ?_
            refine zi_ (y := nI yy) (ey) ?_
            refine lv_iconst (v := nI 2) hx hb dX4_nearest_84 (by decide) ?_
            refine lv_aload_n hx hb dX4_nearest_85 rfl (lv_at hl 0 rfl) ?_
            refine va_get (D := D) (ci := 4) (v := .int (nI n_)) (C := RX4) (T := TX4) (N := 14) hx hb hts nX4_nearest_4 hown hK hP 0 rfl rfl 1 (by decide) (zh (w := .fieldLink RX4 44 "FretRootsModel" "notes" "I") hts 2 rfl) (fun _ h9 => h9) rfl dX4_nearest_86 ?_
            refine lv_imul hx hb dX4_nearest_89 ?_
            refine zi_ (y := nI (2 * n_)) (pk_mul 2 n_) ?_
            refine lv_iconst (v := nI 2) hx hb dX4_nearest_90 (by decide) ?_
            refine lv_iload_n hx hb dX4_nearest_91 rfl (lv_at hl 3 rfl) ?_
            refine lv_imul hx hb dX4_nearest_92 ?_
            refine zi_ (y := nI (2 * k)) (pk_mul 2 k) ?_
            refine lv_iconst (v := nI 1) hx hb dX4_nearest_93 (by decide) ?_
            refine lv_iadd hx hb dX4_nearest_94 ?_
            refine zi_ (y := nI (2 * k + 1)) (nI_add (2 * k) 1) ?_
            refine zc_i (wc := [(m_, .inr (4, [.int (nI 0), .int (nI n_), .long (lN w_), .int (nI h_), .ref ab_, .ref be_, .long ca_, .long cb_, .long oc_, .long st_, .int bs_, .int tr_, .int sp_, .ref rr_])), (rr_, .inl (cI, 152, .inl g2_4))]) (wr := []) hP hD hS hA [0, 1] [] rfl rfl (by decide) (by decide) (va_runV (As := [.int (nI xx), .int (nI yy), .int (nI (2 * n_)), .int (nI (2 * k + 1))]) (rest := []) ⟨hx, hb, hml, hown, hts⟩ (ct_X4_side_ l D cI cJ cD m_ ab_ be_ rr_ (nI 0) (nI n_) (nI h_) bs_ tr_ sp_ (lN w_) ca_ cb_ oc_ st_ xx yy (2 * n_) (2 * k + 1) g2_4 H.size (by omega) (by omega) (by omega) (by omega)) (cwV 4 hts gX4_nearest_X4_side_ rfl rfl rfl (by decide +kernel) ⟨Nat.le_of_ble_eq_true rfl, Nat.le_of_ble_eq_true rfl⟩) (zPreV (wc := [(m_, .inr (4, [.int (nI 0), .int (nI n_), .long (lN w_), .int (nI h_), .ref ab_, .ref be_, .long ca_, .long cb_, .long oc_, .long st_, .int bs_, .int tr_, .int sp_, .ref rr_])), (rr_, .inl (cI, 152, .inl g2_4))]) hK hP hD 4 0 rfl rfl zTb (fun _ _ _ => trivial)) rfl rfl hl.1 rfl (lv_room (Nat.le_of_ble_eq_true rfl)) dX4_nearest_95 ⟨Nat.le_of_ble_eq_true rfl, Nat.le_of_ble_eq_true rfl⟩) (fun r_5 u9_ H locs hw hP hD hS => ?_)
            obtain ⟨g2_6, rfl⟩ : ∃ z, z = u9_ := ⟨_, rfl⟩
            have hP : va_P D cl5 [(m_, .inr (4, [.int (nI 0), .int (nI n_), .long (lN w_), .int (nI h_), .ref ab_, .ref be_, .long ca_, .long cb_, .long oc_, .long st_, .int bs_, .int tr_, .int sp_, .ref rr_])), (rr_, .inl (cI, 152, .inl g2_6))] H := hP.sub [0, 1] rfl
            have hD : va_D A [(m_, .inr (4, [.int (nI 0), .int (nI n_), .long (lN w_), .int (nI h_), .ref ab_, .ref be_, .long ca_, .long cb_, .long oc_, .long st_, .int bs_, .int tr_, .int sp_, .ref rr_])), (rr_, .inl (cI, 152, .inl g2_6))] := hD.sub [0, 1] (by decide) rfl
            have hw : r_5 = cmpI (xx ^ (2 * n_)) (yy ^ (2 * n_) * 2 ^ (2 * k + 1)) := hw
            subst hw
            refine lv_if_le (tgt := 107) hx hb dX4_nearest_98 (by decide) (fun c_98 => ?_) (fun c_98 => ?_)
            · skip
              refine lv_iload_n hx hb dX4_nearest_107 rfl (lv_at hl 3 rfl) ?_
              subst hQ
              exact ze_i hx hb hr hlocks (nI 0, g2_6) (⟨by rw [hcd], fun _ => ⟨xx, yy, _, ex, ey, x2, y2, by first | exact near_a (by omega) h1 h2 hend (Or.inl c_78) | exact near_a (by omega) h1 h2 hend (Or.inr (fun q => absurd (cmpI_le0 c_98) (by omega))) | exact near_b (by omega) c_78 h2 hend (cmpI_nle0 c_98), rfl, by omega⟩⟩) hP hK hD hS dX4_nearest_108
            · skip
              refine lv_iload_n hx hb dX4_nearest_101 rfl (lv_at hl 3 rfl) ?_
              refine lv_iconst (v := nI 1) hx hb dX4_nearest_102 (by decide) ?_
              refine lv_iadd hx hb dX4_nearest_103 ?_
              refine zi_ (y := nI (k + 1)) (nI_add k 1) ?_
              refine lv_goto (tgt := 108) hx hb dX4_nearest_104 (by decide) ?_
              subst hQ
              exact ze_i hx hb hr hlocks (nI 0, g2_6) (⟨by rw [hcd], fun _ => ⟨xx, yy, _, ex, ey, x2, y2, by first | exact near_a (by omega) h1 h2 hend (Or.inl c_78) | exact near_a (by omega) h1 h2 hend (Or.inr (fun q => absurd (cmpI_le0 c_98) (by omega))) | exact near_b (by omega) c_78 h2 hend (cmpI_nle0 c_98), rfl, by omega⟩⟩) hP hK hD hS dX4_nearest_108
        · skip
          refine lv_iinc (v := nI (k + 1)) (lv' := [(3, .int (nI (k + 1))), (0, .ref m_), (1, .int x_), (2, .int y_)]) hx hb dX4_nearest_65 hl (k := 3) rfl (z_inc k 1) (by decide) rfl (fun ls hl => ?_)
          refine lv_goto (tgt := 39) hx hb dX4_nearest_68 (by decide) ?_
          exact ih_39 xx yy (k + 1) g2_4 _ _ _ (by omega) ex ey x1 x2 y1 y2 hcd hyx (by omega) (cmpI_nlt0 c_62) hP hD hS (lv_sub hl [1, 2, 3, 0] rfl)
  refine lv_aload_n hx hb dX4_nearest_0 rfl (lv_at hl 0 rfl) ?_
  refine lv_iload_n hx hb dX4_nearest_1 rfl (lv_at hl 1 rfl) ?_
  refine zc_i (wc := []) (wr := [(m_, .inr (4, [.int th_, .int (nI n_), .long (lN w_), .int (nI h_), .ref ab_, .ref be_, .long ca_, .long cb_, .long oc_, .long st_, .int bs_, .int tr_, .int sp_, .ref rr_])), (rr_, .inl (cI, 152, .inl g_))]) hP hD hS hA [] [0, 1] rfl rfl (by decide) (by decide) (va_runS (As := [.int x_]) (rest := [.ref m_]) ⟨hx, hb, hml, hown, hts⟩ (ct_X4_isPart l D cI cJ cD x_ H.size ) (va_cwS 1 hts gX4_nearest_X4_isPart rfl rfl rfl (by decide +kernel) ⟨Nat.le_of_ble_eq_true rfl, Nat.le_of_ble_eq_true rfl⟩) (zPreS (wc := []) hK (hP.sub [] rfl) (hD.sub [] (by decide) rfl) zTb (fun _ _ _ => trivial)) rfl rfl hl.1 rfl (lv_room (Nat.le_of_ble_eq_true rfl)) dX4_nearest_2 ⟨Nat.le_of_ble_eq_true rfl, Nat.le_of_ble_eq_true rfl⟩) (fun r_7 u9_ H locs hw hP hD hS => ?_)
  have hP : va_P D cl5 [(m_, .inr (4, [.int th_, .int (nI n_), .long (lN w_), .int (nI h_), .ref ab_, .ref be_, .long ca_, .long cb_, .long oc_, .long st_, .int bs_, .int tr_, .int sp_, .ref rr_])), (rr_, .inl (cI, 152, .inl g_))] H := hP.sub [0, 1] rfl
  have hD : va_D A [(m_, .inr (4, [.int th_, .int (nI n_), .long (lN w_), .int (nI h_), .ref ab_, .ref be_, .long ca_, .long cb_, .long oc_, .long st_, .int bs_, .int tr_, .int sp_, .ref rr_])), (rr_, .inl (cI, 152, .inl g_))] := hD.sub [0, 1] (by decide) rfl
  have hw : r_7 = nI (ptI x_) ∧ ptI x_ ≤ 1 := hw
  obtain ⟨rfl, hb_2⟩ := hw
  refine lv_if_eq (tgt := 19) hx hb dX4_nearest_5 (by decide) (fun c_5 => ?_) (fun c_5 => ?_)
  · skip
    have c_5 := zji_eq (a := ptI x_) (b := 0) (by omega) (by omega) c_5
    have hcd : cd2 (ptI x_) (ptI y_) = 1 := cd2_a c_5
    refine lv_iconst (v := nI 1) hx hb dX4_nearest_19 (by decide) ?_
    refine va_put (D := D) (ci := 4) (v := .int (nI 1)) (ty := .int) (C := RX4) (T := TX4) (N := 14) hx hb hts nX4_nearest_4 tyX4 tyX4_ok nmX4 hown hK hP hD hS 0 rfl rfl 0 (by decide) (zh (w := .fieldLink RX4 47 "FretRootsModel" "thrown" "I") hts 1 rfl) (fun _ h9 => h9) rfl (by decide +kernel) rfl rfl (Nat.le_of_ble_eq_true rfl) dX4_nearest_20 (fun H locs hP hD hS => ?_)
    have hP : va_P D cl5 [(m_, .inr (4, [.int (nI 1), .int (nI n_), .long (lN w_), .int (nI h_), .ref ab_, .ref be_, .long ca_, .long cb_, .long oc_, .long st_, .int bs_, .int tr_, .int sp_, .ref rr_])), (rr_, .inl (cI, 152, .inl g_))] H := hP
    have hD : va_D A [(m_, .inr (4, [.int (nI 1), .int (nI n_), .long (lN w_), .int (nI h_), .ref ab_, .ref be_, .long ca_, .long cb_, .long oc_, .long st_, .int bs_, .int tr_, .int sp_, .ref rr_])), (rr_, .inl (cI, 152, .inl g_))] := hD
    refine lv_aload_n hx hb dX4_nearest_23 rfl (lv_at hl 0 rfl) ?_
    refine va_get (D := D) (ci := 4) (v := .int (nI 1)) (C := RX4) (T := TX4) (N := 14) hx hb hts nX4_nearest_4 hown hK hP 0 rfl rfl 0 (by decide) (zh (w := .fieldLink RX4 47 "FretRootsModel" "thrown" "I") hts 1 rfl) (fun _ h9 => h9) rfl dX4_nearest_24 ?_
    refine lv_if_gt (tgt := 35) hx hb dX4_nearest_27 (by decide) (fun c_27 => ?_) (fun c_27 => ?_)
    · skip
      have c_27 := zji_lt (a := 0) (b := 1) (by omega) (by omega) c_27
      refine lv_iconst (v := nI 0) hx hb dX4_nearest_35 (by decide) ?_
      subst hQ
      exact ze_i hx hb hr hlocks (nI 1, g_) (⟨by rw [hcd], by first | exact fun q => absurd q (by omega) | exact fun _ => ⟨xx, yy, 0, ex, ey, hx2, hy2, near_0 c_32, rfl, by decide⟩⟩) hP hK hD hS dX4_nearest_36
    · skip
      exact absurd c_27 (by decide)
  · skip
    have c_5 := zji_ne (a := ptI x_) (b := 0) (by omega) (by omega) c_5
    refine lv_iload_n hx hb dX4_nearest_8 rfl (lv_at hl 2 rfl) ?_
    refine zc_i (wc := []) (wr := [(m_, .inr (4, [.int th_, .int (nI n_), .long (lN w_), .int (nI h_), .ref ab_, .ref be_, .long ca_, .long cb_, .long oc_, .long st_, .int bs_, .int tr_, .int sp_, .ref rr_])), (rr_, .inl (cI, 152, .inl g_))]) hP hD hS hA [] [0, 1] rfl rfl (by decide) (by decide) (va_runS (As := [.int y_]) (rest := [.ref m_]) ⟨hx, hb, hml, hown, hts⟩ (ct_X4_isPart l D cI cJ cD y_ H.size ) (va_cwS 1 hts gX4_nearest_X4_isPart rfl rfl rfl (by decide +kernel) ⟨Nat.le_of_ble_eq_true rfl, Nat.le_of_ble_eq_true rfl⟩) (zPreS (wc := []) hK (hP.sub [] rfl) (hD.sub [] (by decide) rfl) zTb (fun _ _ _ => trivial)) rfl rfl hl.1 rfl (lv_room (Nat.le_of_ble_eq_true rfl)) dX4_nearest_9 ⟨Nat.le_of_ble_eq_true rfl, Nat.le_of_ble_eq_true rfl⟩) (fun r_8 u9_ H locs hw hP hD hS => ?_)
    have hP : va_P D cl5 [(m_, .inr (4, [.int th_, .int (nI n_), .long (lN w_), .int (nI h_), .ref ab_, .ref be_, .long ca_, .long cb_, .long oc_, .long st_, .int bs_, .int tr_, .int sp_, .ref rr_])), (rr_, .inl (cI, 152, .inl g_))] H := hP.sub [0, 1] rfl
    have hD : va_D A [(m_, .inr (4, [.int th_, .int (nI n_), .long (lN w_), .int (nI h_), .ref ab_, .ref be_, .long ca_, .long cb_, .long oc_, .long st_, .int bs_, .int tr_, .int sp_, .ref rr_])), (rr_, .inl (cI, 152, .inl g_))] := hD.sub [0, 1] (by decide) rfl
    have hw : r_8 = nI (ptI y_) ∧ ptI y_ ≤ 1 := hw
    obtain ⟨rfl, hb_9⟩ := hw
    refine lv_if_eq (tgt := 19) hx hb dX4_nearest_12 (by decide) (fun c_12 => ?_) (fun c_12 => ?_)
    · skip
      have c_12 := zji_eq (a := ptI y_) (b := 0) (by omega) (by omega) c_12
      have hcd : cd2 (ptI x_) (ptI y_) = 1 := cd2_b c_12
      refine lv_iconst (v := nI 1) hx hb dX4_nearest_19 (by decide) ?_
      refine va_put (D := D) (ci := 4) (v := .int (nI 1)) (ty := .int) (C := RX4) (T := TX4) (N := 14) hx hb hts nX4_nearest_4 tyX4 tyX4_ok nmX4 hown hK hP hD hS 0 rfl rfl 0 (by decide) (zh (w := .fieldLink RX4 47 "FretRootsModel" "thrown" "I") hts 1 rfl) (fun _ h9 => h9) rfl (by decide +kernel) rfl rfl (Nat.le_of_ble_eq_true rfl) dX4_nearest_20 (fun H locs hP hD hS => ?_)
      have hP : va_P D cl5 [(m_, .inr (4, [.int (nI 1), .int (nI n_), .long (lN w_), .int (nI h_), .ref ab_, .ref be_, .long ca_, .long cb_, .long oc_, .long st_, .int bs_, .int tr_, .int sp_, .ref rr_])), (rr_, .inl (cI, 152, .inl g_))] H := hP
      have hD : va_D A [(m_, .inr (4, [.int (nI 1), .int (nI n_), .long (lN w_), .int (nI h_), .ref ab_, .ref be_, .long ca_, .long cb_, .long oc_, .long st_, .int bs_, .int tr_, .int sp_, .ref rr_])), (rr_, .inl (cI, 152, .inl g_))] := hD
      refine lv_aload_n hx hb dX4_nearest_23 rfl (lv_at hl 0 rfl) ?_
      refine va_get (D := D) (ci := 4) (v := .int (nI 1)) (C := RX4) (T := TX4) (N := 14) hx hb hts nX4_nearest_4 hown hK hP 0 rfl rfl 0 (by decide) (zh (w := .fieldLink RX4 47 "FretRootsModel" "thrown" "I") hts 1 rfl) (fun _ h9 => h9) rfl dX4_nearest_24 ?_
      refine lv_if_gt (tgt := 35) hx hb dX4_nearest_27 (by decide) (fun c_27 => ?_) (fun c_27 => ?_)
      · skip
        have c_27 := zji_lt (a := 0) (b := 1) (by omega) (by omega) c_27
        refine lv_iconst (v := nI 0) hx hb dX4_nearest_35 (by decide) ?_
        subst hQ
        exact ze_i hx hb hr hlocks (nI 1, g_) (⟨by rw [hcd], by first | exact fun q => absurd q (by omega) | exact fun _ => ⟨xx, yy, 0, ex, ey, hx2, hy2, near_0 c_32, rfl, by decide⟩⟩) hP hK hD hS dX4_nearest_36
      · skip
        exact absurd c_27 (by decide)
    · skip
      have c_12 := zji_ne (a := ptI y_) (b := 0) (by omega) (by omega) c_12
      have hcd : cd2 (ptI x_) (ptI y_) = 0 := cd2_0 c_5 c_12
      obtain ⟨xx, ex, hx1, hx2⟩ := pt_ok c_5
      obtain ⟨yy, ey, hy1, hy2⟩ := pt_ok c_12
      refine lv_iconst (v := nI 0) hx hb dX4_nearest_15 (by decide) ?_
      refine lv_goto (tgt := 20) hx hb dX4_nearest_16 (by decide) ?_
      refine va_put (D := D) (ci := 4) (v := .int (nI 0)) (ty := .int) (C := RX4) (T := TX4) (N := 14) hx hb hts nX4_nearest_4 tyX4 tyX4_ok nmX4 hown hK hP hD hS 0 rfl rfl 0 (by decide) (zh (w := .fieldLink RX4 47 "FretRootsModel" "thrown" "I") hts 1 rfl) (fun _ h9 => h9) rfl (by decide +kernel) rfl rfl (Nat.le_of_ble_eq_true rfl) dX4_nearest_20 (fun H locs hP hD hS => ?_)
      have hP : va_P D cl5 [(m_, .inr (4, [.int (nI 0), .int (nI n_), .long (lN w_), .int (nI h_), .ref ab_, .ref be_, .long ca_, .long cb_, .long oc_, .long st_, .int bs_, .int tr_, .int sp_, .ref rr_])), (rr_, .inl (cI, 152, .inl g_))] H := hP
      have hD : va_D A [(m_, .inr (4, [.int (nI 0), .int (nI n_), .long (lN w_), .int (nI h_), .ref ab_, .ref be_, .long ca_, .long cb_, .long oc_, .long st_, .int bs_, .int tr_, .int sp_, .ref rr_])), (rr_, .inl (cI, 152, .inl g_))] := hD
      refine lv_aload_n hx hb dX4_nearest_23 rfl (lv_at hl 0 rfl) ?_
      refine va_get (D := D) (ci := 4) (v := .int (nI 0)) (C := RX4) (T := TX4) (N := 14) hx hb hts nX4_nearest_4 hown hK hP 0 rfl rfl 0 (by decide) (zh (w := .fieldLink RX4 47 "FretRootsModel" "thrown" "I") hts 1 rfl) (fun _ h9 => h9) rfl dX4_nearest_24 ?_
      refine lv_if_gt (tgt := 35) hx hb dX4_nearest_27 (by decide) (fun c_27 => ?_) (fun c_27 => ?_)
      · skip
        exact absurd c_27 (by decide)
      · skip
        have c_27 := zji_nlt (a := 0) (b := 0) (by omega) (by omega) c_27
        refine lv_iload_n hx hb dX4_nearest_30 rfl (lv_at hl 1 rfl) ?_
        refine zi_ (y := nI xx) (ex) ?_
        refine lv_iload_n hx hb dX4_nearest_31 rfl (lv_at hl 2 rfl) ?_
        refine zi_ (y := nI yy) (ey) ?_
        refine lv_icmp_ge (tgt := 37) hx hb dX4_nearest_32 (by decide) (fun c_32 => ?_) (fun c_32 => ?_)
        · skip
          have c_32 := zji_le (a := yy) (b := xx) (by omega) (by omega) c_32
          refine lv_iconst (v := nI 0) hx hb dX4_nearest_37 (by decide) ?_
          refine lv_istore_n (lv' := [(3, .int (nI 0)), (0, .ref m_), (1, .int x_), (2, .int y_)]) hx hb dX4_nearest_38 rfl hl (by decide) rfl (fun ls hl => ?_)
          exact lp_39 ((2 * n_ - 0) + 1) xx yy 0 g_ _ _ _ (Nat.lt_succ_self _) ex ey hx1 hx2 hy1 hy2 hcd c_32 (Nat.zero_le _) (by rw [Nat.pow_zero, Nat.mul_one]; exact Nat.pow_le_pow_left c_32 _) hP hD hS (lv_sub hl [1, 2, 3, 0] rfl)
        · skip
          have c_32 := zji_nle (a := yy) (b := xx) (by omega) (by omega) c_32
          refine lv_iconst (v := nI 0) hx hb dX4_nearest_35 (by decide) ?_
          subst hQ
          exact ze_i hx hb hr hlocks (nI 0, g_) (⟨by rw [hcd], by first | exact fun q => absurd q (by omega) | exact fun _ => ⟨xx, yy, 0, ex, ey, hx2, hy2, near_0 c_32, rfl, by decide⟩⟩) hP hK hD hS dX4_nearest_36
theorem nX4_beat_4 : ∀ w ∈ wsX40, w ∈ wsX4_beat := by decide +kernel
abbrev rm_X4_beat : Room := { frames := 2, cells := 0, slots := 0, locals := 46 }
set_option maxHeartbeats 4000000 in
set_option maxRecDepth 100000 in
/-- beat of the reference -/
theorem ct_X4_beat (l : Launch) (D : va_G) (cI cJ cD : ClassId) (m_ : Nat) (ab_ : Nat) (be_ : Nat) (rr_ : Nat) (th_ : Int32) (bs_ : Int32) (tr_ : Int32) (sp_ : Int32) (ca_ : Int64) (cb_ : Int64) (oc_ : Int64) (st_ : Int64) (n_ : Nat) (w_ : Nat) (h_ : Nat) (pa_ : Int32) (pb_ : Int32) (hz_ : Int32) (p_ : Int32) (fa_ : Nat → Int32) (fb_ : Nat → Int32) (xa_ : Nat → Nat) (xb_ : Nat → Nat) (sz : Nat) (hn1 : 1 ≤ n_) (hn : n_ ≤ 24) (hja : jOK n_ fa_ xa_) (hjb : jOK n_ fb_ xb_) : Met l yX4_beat wsX4_beat rm_X4_beat (zP D (ty3 cI cJ cD) [.ref m_, .int pa_, .int pb_, .int hz_, .int p_] sz [(m_, .inr (4, [.int th_, .int (nI n_), .long (lN w_), .int (nI h_), .ref ab_, .ref be_, .long ca_, .long cb_, .long oc_, .long st_, .int bs_, .int tr_, .int sp_, .ref rr_])), (ab_, .inl (cI, 49, .inl fa_)), (be_, .inl (cI, 49, .inl fb_))] zT) (va_Ql (fun (r : Int64) (u : Int32) => u = nI (cdBeat pa_ pb_ hz_ p_ n_) ∧ (cdBeat pa_ pb_ hz_ p_ n_ = 0 → ∃ ka kb hz, pa_ = nI ka ∧ pb_ = nI kb ∧ hz_ = nI hz ∧ ka ≤ 2 * n_ ∧ kb ≤ 2 * n_ ∧ hz ≤ 100000 ∧ r = lN ((if p_ = 0 then (xa_ ka * xb_ kb - xa_ kb * xb_ ka + (xa_ kb * xb_ ka - xa_ ka * xb_ kb)) * hz else xb_ ka * xb_ kb) / Nat.gcd ((xa_ ka * xb_ kb - xa_ kb * xb_ ka + (xa_ kb * xb_ ka - xa_ ka * xb_ kb)) * hz) (xb_ ka * xb_ kb)))) (zB D (ty3 cI cJ cD) (fun (u : Int32) => [(m_, .inr (4, [.int u, .int (nI n_), .long (lN w_), .int (nI h_), .ref ab_, .ref be_, .long ca_, .long cb_, .long oc_, .long st_, .int bs_, .int tr_, .int sp_, .ref rr_])), (ab_, .inl (cI, 49, .inl fa_)), (be_, .inl (cI, 49, .inl fb_))]) (va_A [(m_, .inr (4, [.int th_, .int (nI n_), .long (lN w_), .int (nI h_), .ref ab_, .ref be_, .long ca_, .long cb_, .long oc_, .long st_, .int bs_, .int tr_, .int sp_, .ref rr_])), (ab_, .inl (cI, 49, .inl fa_)), (be_, .inl (cI, 49, .inl fb_))] sz)) (va_A [(m_, .inr (4, [.int th_, .int (nI n_), .long (lN w_), .int (nI h_), .ref ab_, .ref be_, .long ca_, .long cb_, .long oc_, .long st_, .int bs_, .int tr_, .int sp_, .ref rr_])), (ab_, .inl (cI, 49, .inl fa_)), (be_, .inl (cI, 49, .inl fb_))] sz)) 0 0 (va_A [(m_, .inr (4, [.int th_, .int (nI n_), .long (lN w_), .int (nI h_), .ref ab_, .ref be_, .long ca_, .long cb_, .long oc_, .long st_, .int bs_, .int tr_, .int sp_, .ref rr_])), (ab_, .inl (cI, 49, .inl fa_)), (be_, .inl (cI, 49, .inl fb_))] sz) := by
  refine zMet (Qf := fun A => va_Ql (fun (r : Int64) (u : Int32) => u = nI (cdBeat pa_ pb_ hz_ p_ n_) ∧ (cdBeat pa_ pb_ hz_ p_ n_ = 0 → ∃ ka kb hz, pa_ = nI ka ∧ pb_ = nI kb ∧ hz_ = nI hz ∧ ka ≤ 2 * n_ ∧ kb ≤ 2 * n_ ∧ hz ≤ 100000 ∧ r = lN ((if p_ = 0 then (xa_ ka * xb_ kb - xa_ kb * xb_ ka + (xa_ kb * xb_ ka - xa_ ka * xb_ kb)) * hz else xb_ ka * xb_ kb) / Nat.gcd ((xa_ ka * xb_ kb - xa_ kb * xb_ ka + (xa_ kb * xb_ ka - xa_ ka * xb_ kb)) * hz) (xb_ ka * xb_ kb)))) (zB D (ty3 cI cJ cD) (fun (u : Int32) => [(m_, .inr (4, [.int u, .int (nI n_), .long (lN w_), .int (nI h_), .ref ab_, .ref be_, .long ca_, .long cb_, .long oc_, .long st_, .int bs_, .int tr_, .int sp_, .ref rr_])), (ab_, .inl (cI, 49, .inl fa_)), (be_, .inl (cI, 49, .inl fb_))]) A) A) (cc := cX4_beat) (maxL := 11) (ret := (some .long)) (by decide) rfl (Nat.le_of_ble_eq_true rfl) ?_
  intro p e s m args below meth c A ls Q H hargs hQ hHe hx hb hr hml hown hts hlocks hin hP hK hD hA hS hE hAe hl
  have hl : lv_has ls 11 [(0, .ref m_), (1, .int pa_), (2, .int pb_), (3, .int hz_), (4, .int p_)] := hl
  refine lv_aload_n hx hb dX4_beat_0 rfl (lv_at hl 0 rfl) ?_
  refine lv_aload_n hx hb dX4_beat_1 rfl (lv_at hl 0 rfl) ?_
  refine lv_iload_n hx hb dX4_beat_2 rfl (lv_at hl 1 rfl) ?_
  refine zc_i (wc := [(m_, .inr (4, [.int th_, .int (nI n_), .long (lN w_), .int (nI h_), .ref ab_, .ref be_, .long ca_, .long cb_, .long oc_, .long st_, .int bs_, .int tr_, .int sp_, .ref rr_]))]) (wr := [(ab_, .inl (cI, 49, .inl fa_)), (be_, .inl (cI, 49, .inl fb_))]) hP hD hS hA [0] [1, 2] rfl rfl (by decide) (by decide) (va_runV (As := [.int pa_]) (rest := [.ref m_]) ⟨hx, hb, hml, hown, hts⟩ (ct_X4_noPlace l D cI cJ cD m_ ab_ be_ rr_ th_ (nI h_) bs_ tr_ sp_ (lN w_) ca_ cb_ oc_ st_ n_ pa_ H.size (by omega)) (cwV 1 hts gX4_beat_X4_noPlace rfl rfl rfl (by decide +kernel) ⟨Nat.le_of_ble_eq_true rfl, Nat.le_of_ble_eq_true rfl⟩) (zPreV (wc := [(m_, .inr (4, [.int th_, .int (nI n_), .long (lN w_), .int (nI h_), .ref ab_, .ref be_, .long ca_, .long cb_, .long oc_, .long st_, .int bs_, .int tr_, .int sp_, .ref rr_]))]) hK (hP.sub [0] rfl) (hD.sub [0] (by decide) rfl) 4 0 rfl rfl zTb (fun _ _ _ => trivial)) rfl rfl hl.1 rfl (lv_room (Nat.le_of_ble_eq_true rfl)) dX4_beat_3 ⟨Nat.le_of_ble_eq_true rfl, Nat.le_of_ble_eq_true rfl⟩) (fun r_1 u9_ H locs hw hP hD hS => ?_)
  have hP : va_P D cl5 [(m_, .inr (4, [.int th_, .int (nI n_), .long (lN w_), .int (nI h_), .ref ab_, .ref be_, .long ca_, .long cb_, .long oc_, .long st_, .int bs_, .int tr_, .int sp_, .ref rr_])), (ab_, .inl (cI, 49, .inl fa_)), (be_, .inl (cI, 49, .inl fb_))] H := hP.sub [2, 0, 1] rfl
  have hD : va_D A [(m_, .inr (4, [.int th_, .int (nI n_), .long (lN w_), .int (nI h_), .ref ab_, .ref be_, .long ca_, .long cb_, .long oc_, .long st_, .int bs_, .int tr_, .int sp_, .ref rr_])), (ab_, .inl (cI, 49, .inl fa_)), (be_, .inl (cI, 49, .inl fb_))] := hD.sub [2, 0, 1] (by decide) rfl
  have hw : r_1 = nI (npI pa_ n_) ∧ npI pa_ n_ ≤ 1 := hw
  obtain ⟨rfl, hb_3⟩ := hw
  refine lv_if_ne (tgt := 28) hx hb dX4_beat_6 (by decide) (fun c_6 => ?_) (fun c_6 => ?_)
  · skip
    have c_6 := zji_ne (a := npI pa_ n_) (b := 0) (by omega) (by omega) c_6
    have hcd : cdBeat pa_ pb_ hz_ p_ n_ = 1 := if_pos (Or.inl (by omega))
    refine lv_iconst (v := nI 1) hx hb dX4_beat_28 (by decide) ?_
    refine lv_goto (tgt := 49) hx hb dX4_beat_29 (by decide) ?_
    refine va_put (D := D) (ci := 4) (v := .int (nI 1)) (ty := .int) (C := RX4) (T := TX4) (N := 14) hx hb hts nX4_beat_4 tyX4 tyX4_ok nmX4 hown hK hP hD hS 0 rfl rfl 0 (by decide) (zh (w := .fieldLink RX4 47 "FretRootsModel" "thrown" "I") hts 2 rfl) (fun _ h9 => h9) rfl (by decide +kernel) rfl rfl (Nat.le_of_ble_eq_true rfl) dX4_beat_49 (fun H locs hP hD hS => ?_)
    have hP : va_P D cl5 [(m_, .inr (4, [.int (nI 1), .int (nI n_), .long (lN w_), .int (nI h_), .ref ab_, .ref be_, .long ca_, .long cb_, .long oc_, .long st_, .int bs_, .int tr_, .int sp_, .ref rr_])), (ab_, .inl (cI, 49, .inl fa_)), (be_, .inl (cI, 49, .inl fb_))] H := hP
    have hD : va_D A [(m_, .inr (4, [.int (nI 1), .int (nI n_), .long (lN w_), .int (nI h_), .ref ab_, .ref be_, .long ca_, .long cb_, .long oc_, .long st_, .int bs_, .int tr_, .int sp_, .ref rr_])), (ab_, .inl (cI, 49, .inl fa_)), (be_, .inl (cI, 49, .inl fb_))] := hD
    refine lv_aload_n hx hb dX4_beat_52 rfl (lv_at hl 0 rfl) ?_
    refine va_get (D := D) (ci := 4) (v := .int (nI 1)) (C := RX4) (T := TX4) (N := 14) hx hb hts nX4_beat_4 hown hK hP 0 rfl rfl 0 (by decide) (zh (w := .fieldLink RX4 47 "FretRootsModel" "thrown" "I") hts 2 rfl) (fun _ h9 => h9) rfl dX4_beat_53 ?_
    refine lv_if_le (tgt := 61) hx hb dX4_beat_56 (by decide) (fun c_56 => ?_) (fun c_56 => ?_)
    · skip
      exact absurd c_56 (by decide)
    · skip
      have c_56 := zji_nle (a := 1) (b := 0) (by omega) (by omega) c_56
      refine lv_lconst (v := lN 0) hx hb dX4_beat_59 rfl ?_
      subst hQ
      exact ze_l hx hb hr hlocks (nI 1) (⟨by rw [hcd], fun q => absurd q (by omega)⟩) hP hK hD hS dX4_beat_60
  · skip
    have c_6 := zji_eq (a := npI pa_ n_) (b := 0) (by omega) (by omega) c_6
    refine lv_aload_n hx hb dX4_beat_9 rfl (lv_at hl 0 rfl) ?_
    refine lv_iload_n hx hb dX4_beat_10 rfl (lv_at hl 2 rfl) ?_
    refine zc_i (wc := [(m_, .inr (4, [.int th_, .int (nI n_), .long (lN w_), .int (nI h_), .ref ab_, .ref be_, .long ca_, .long cb_, .long oc_, .long st_, .int bs_, .int tr_, .int sp_, .ref rr_]))]) (wr := [(ab_, .inl (cI, 49, .inl fa_)), (be_, .inl (cI, 49, .inl fb_))]) hP hD hS hA [0] [1, 2] rfl rfl (by decide) (by decide) (va_runV (As := [.int pb_]) (rest := [.ref m_]) ⟨hx, hb, hml, hown, hts⟩ (ct_X4_noPlace l D cI cJ cD m_ ab_ be_ rr_ th_ (nI h_) bs_ tr_ sp_ (lN w_) ca_ cb_ oc_ st_ n_ pb_ H.size (by omega)) (cwV 1 hts gX4_beat_X4_noPlace rfl rfl rfl (by decide +kernel) ⟨Nat.le_of_ble_eq_true rfl, Nat.le_of_ble_eq_true rfl⟩) (zPreV (wc := [(m_, .inr (4, [.int th_, .int (nI n_), .long (lN w_), .int (nI h_), .ref ab_, .ref be_, .long ca_, .long cb_, .long oc_, .long st_, .int bs_, .int tr_, .int sp_, .ref rr_]))]) hK (hP.sub [0] rfl) (hD.sub [0] (by decide) rfl) 4 0 rfl rfl zTb (fun _ _ _ => trivial)) rfl rfl hl.1 rfl (lv_room (Nat.le_of_ble_eq_true rfl)) dX4_beat_11 ⟨Nat.le_of_ble_eq_true rfl, Nat.le_of_ble_eq_true rfl⟩) (fun r_2 u9_ H locs hw hP hD hS => ?_)
    have hP : va_P D cl5 [(m_, .inr (4, [.int th_, .int (nI n_), .long (lN w_), .int (nI h_), .ref ab_, .ref be_, .long ca_, .long cb_, .long oc_, .long st_, .int bs_, .int tr_, .int sp_, .ref rr_])), (ab_, .inl (cI, 49, .inl fa_)), (be_, .inl (cI, 49, .inl fb_))] H := hP.sub [2, 0, 1] rfl
    have hD : va_D A [(m_, .inr (4, [.int th_, .int (nI n_), .long (lN w_), .int (nI h_), .ref ab_, .ref be_, .long ca_, .long cb_, .long oc_, .long st_, .int bs_, .int tr_, .int sp_, .ref rr_])), (ab_, .inl (cI, 49, .inl fa_)), (be_, .inl (cI, 49, .inl fb_))] := hD.sub [2, 0, 1] (by decide) rfl
    have hw : r_2 = nI (npI pb_ n_) ∧ npI pb_ n_ ≤ 1 := hw
    obtain ⟨rfl, hb_11⟩ := hw
    refine lv_if_ne (tgt := 28) hx hb dX4_beat_14 (by decide) (fun c_14 => ?_) (fun c_14 => ?_)
    · skip
      have c_14 := zji_ne (a := npI pb_ n_) (b := 0) (by omega) (by omega) c_14
      have hcd : cdBeat pa_ pb_ hz_ p_ n_ = 1 := if_pos (Or.inr (Or.inl (by omega)))
      refine lv_iconst (v := nI 1) hx hb dX4_beat_28 (by decide) ?_
      refine lv_goto (tgt := 49) hx hb dX4_beat_29 (by decide) ?_
      refine va_put (D := D) (ci := 4) (v := .int (nI 1)) (ty := .int) (C := RX4) (T := TX4) (N := 14) hx hb hts nX4_beat_4 tyX4 tyX4_ok nmX4 hown hK hP hD hS 0 rfl rfl 0 (by decide) (zh (w := .fieldLink RX4 47 "FretRootsModel" "thrown" "I") hts 2 rfl) (fun _ h9 => h9) rfl (by decide +kernel) rfl rfl (Nat.le_of_ble_eq_true rfl) dX4_beat_49 (fun H locs hP hD hS => ?_)
      have hP : va_P D cl5 [(m_, .inr (4, [.int (nI 1), .int (nI n_), .long (lN w_), .int (nI h_), .ref ab_, .ref be_, .long ca_, .long cb_, .long oc_, .long st_, .int bs_, .int tr_, .int sp_, .ref rr_])), (ab_, .inl (cI, 49, .inl fa_)), (be_, .inl (cI, 49, .inl fb_))] H := hP
      have hD : va_D A [(m_, .inr (4, [.int (nI 1), .int (nI n_), .long (lN w_), .int (nI h_), .ref ab_, .ref be_, .long ca_, .long cb_, .long oc_, .long st_, .int bs_, .int tr_, .int sp_, .ref rr_])), (ab_, .inl (cI, 49, .inl fa_)), (be_, .inl (cI, 49, .inl fb_))] := hD
      refine lv_aload_n hx hb dX4_beat_52 rfl (lv_at hl 0 rfl) ?_
      refine va_get (D := D) (ci := 4) (v := .int (nI 1)) (C := RX4) (T := TX4) (N := 14) hx hb hts nX4_beat_4 hown hK hP 0 rfl rfl 0 (by decide) (zh (w := .fieldLink RX4 47 "FretRootsModel" "thrown" "I") hts 2 rfl) (fun _ h9 => h9) rfl dX4_beat_53 ?_
      refine lv_if_le (tgt := 61) hx hb dX4_beat_56 (by decide) (fun c_56 => ?_) (fun c_56 => ?_)
      · skip
        exact absurd c_56 (by decide)
      · skip
        have c_56 := zji_nle (a := 1) (b := 0) (by omega) (by omega) c_56
        refine lv_lconst (v := lN 0) hx hb dX4_beat_59 rfl ?_
        subst hQ
        exact ze_l hx hb hr hlocks (nI 1) (⟨by rw [hcd], fun q => absurd q (by omega)⟩) hP hK hD hS dX4_beat_60
    · skip
      have c_14 := zji_eq (a := npI pb_ n_) (b := 0) (by omega) (by omega) c_14
      refine lv_iload hx hb dX4_beat_17 (lv_at hl 4 rfl) ?_
      refine lv_i2l (v := p_.toInt64) hx hb dX4_beat_19 rfl ?_
      refine lv_lconst (v := lN 0) hx hb dX4_beat_20 rfl ?_
      refine lv_lconst (v := lN 1) hx hb dX4_beat_21 rfl ?_
      refine zc_i (wc := []) (wr := [(m_, .inr (4, [.int th_, .int (nI n_), .long (lN w_), .int (nI h_), .ref ab_, .ref be_, .long ca_, .long cb_, .long oc_, .long st_, .int bs_, .int tr_, .int sp_, .ref rr_])), (ab_, .inl (cI, 49, .inl fa_)), (be_, .inl (cI, 49, .inl fb_))]) hP hD hS hA [] [0, 1, 2] rfl rfl (by decide) (by decide) (va_runS (As := [.long p_.toInt64, .long (lN 0), .long (lN 1)]) (rest := [.ref m_]) ⟨hx, hb, hml, hown, hts⟩ (ct_X4_isIn l D cI cJ cD p_.toInt64 (lN 0) (lN 1) H.size ) (va_cwS 3 hts gX4_beat_X4_isIn rfl rfl rfl (by decide +kernel) ⟨Nat.le_of_ble_eq_true rfl, Nat.le_of_ble_eq_true rfl⟩) (zPreS (wc := []) hK (hP.sub [] rfl) (hD.sub [] (by decide) rfl) zTb (fun _ _ _ => trivial)) rfl rfl hl.1 rfl (lv_room (Nat.le_of_ble_eq_true rfl)) dX4_beat_22 ⟨Nat.le_of_ble_eq_true rfl, Nat.le_of_ble_eq_true rfl⟩) (fun r_3 u9_ H locs hw hP hD hS => ?_)
      have hP : va_P D cl5 [(m_, .inr (4, [.int th_, .int (nI n_), .long (lN w_), .int (nI h_), .ref ab_, .ref be_, .long ca_, .long cb_, .long oc_, .long st_, .int bs_, .int tr_, .int sp_, .ref rr_])), (ab_, .inl (cI, 49, .inl fa_)), (be_, .inl (cI, 49, .inl fb_))] H := hP.sub [0, 1, 2] rfl
      have hD : va_D A [(m_, .inr (4, [.int th_, .int (nI n_), .long (lN w_), .int (nI h_), .ref ab_, .ref be_, .long ca_, .long cb_, .long oc_, .long st_, .int bs_, .int tr_, .int sp_, .ref rr_])), (ab_, .inl (cI, 49, .inl fa_)), (be_, .inl (cI, 49, .inl fb_))] := hD.sub [0, 1, 2] (by decide) rfl
      have hw : r_3 = nI (inI p_.toInt64 (lN 0) (lN 1)) ∧ inI p_.toInt64 (lN 0) (lN 1) ≤ 1 := hw
      obtain ⟨rfl, hb_22⟩ := hw
      refine lv_if_ne (tgt := 32) hx hb dX4_beat_25 (by decide) (fun c_25 => ?_) (fun c_25 => ?_)
      · skip
        have c_25 := zji_ne (a := inI p_.toInt64 (lN 0) (lN 1)) (b := 0) (by omega) (by omega) c_25
        have hno : ¬ (npI pa_ n_ = 1 ∨ npI pb_ n_ = 1 ∨ prI p_ 1 = 0) := fun q => by rcases q with q | q | q; omega; omega; exact c_25 q
        refine lv_iload_n hx hb dX4_beat_32 rfl (lv_at hl 3 rfl) ?_
        refine lv_i2l (v := hz_.toInt64) hx hb dX4_beat_33 rfl ?_
        refine lv_lconst (v := lN 1) hx hb dX4_beat_34 rfl ?_
        refine lv_ldc2 (v := 100000) hx hb hown (zh (w := .constantLong RX4 133 (100000)) hts 1 rfl) dX4_beat_35 ?_
        refine zl_ (y := lN 100000) rfl ?_
        refine zc_i (wc := []) (wr := [(m_, .inr (4, [.int th_, .int (nI n_), .long (lN w_), .int (nI h_), .ref ab_, .ref be_, .long ca_, .long cb_, .long oc_, .long st_, .int bs_, .int tr_, .int sp_, .ref rr_])), (ab_, .inl (cI, 49, .inl fa_)), (be_, .inl (cI, 49, .inl fb_))]) hP hD hS hA [] [0, 1, 2] rfl rfl (by decide) (by decide) (va_runS (As := [.long hz_.toInt64, .long (lN 1), .long (lN 100000)]) (rest := [.ref m_]) ⟨hx, hb, hml, hown, hts⟩ (ct_X4_isIn l D cI cJ cD hz_.toInt64 (lN 1) (lN 100000) H.size ) (va_cwS 3 hts gX4_beat_X4_isIn rfl rfl rfl (by decide +kernel) ⟨Nat.le_of_ble_eq_true rfl, Nat.le_of_ble_eq_true rfl⟩) (zPreS (wc := []) hK (hP.sub [] rfl) (hD.sub [] (by decide) rfl) zTb (fun _ _ _ => trivial)) rfl rfl hl.1 rfl (lv_room (Nat.le_of_ble_eq_true rfl)) dX4_beat_38 ⟨Nat.le_of_ble_eq_true rfl, Nat.le_of_ble_eq_true rfl⟩) (fun r_4 u9_ H locs hw hP hD hS => ?_)
        have hP : va_P D cl5 [(m_, .inr (4, [.int th_, .int (nI n_), .long (lN w_), .int (nI h_), .ref ab_, .ref be_, .long ca_, .long cb_, .long oc_, .long st_, .int bs_, .int tr_, .int sp_, .ref rr_])), (ab_, .inl (cI, 49, .inl fa_)), (be_, .inl (cI, 49, .inl fb_))] H := hP.sub [0, 1, 2] rfl
        have hD : va_D A [(m_, .inr (4, [.int th_, .int (nI n_), .long (lN w_), .int (nI h_), .ref ab_, .ref be_, .long ca_, .long cb_, .long oc_, .long st_, .int bs_, .int tr_, .int sp_, .ref rr_])), (ab_, .inl (cI, 49, .inl fa_)), (be_, .inl (cI, 49, .inl fb_))] := hD.sub [0, 1, 2] (by decide) rfl
        have hw : r_4 = nI (inI hz_.toInt64 (lN 1) (lN 100000)) ∧ inI hz_.toInt64 (lN 1) (lN 100000) ≤ 1 := hw
        obtain ⟨rfl, hb_38⟩ := hw
        refine lv_if_eq (tgt := 48) hx hb dX4_beat_41 (by decide) (fun c_41 => ?_) (fun c_41 => ?_)
        · skip
          have c_41 := zji_eq (a := inI hz_.toInt64 (lN 1) (lN 100000)) (b := 0) (by omega) (by omega) c_41
          have hcd : cdBeat pa_ pb_ hz_ p_ n_ = 2 := by unfold cdBeat inH; rw [if_neg hno, if_pos c_41]
          refine lv_iconst (v := nI 2) hx hb dX4_beat_48 (by decide) ?_
          refine va_put (D := D) (ci := 4) (v := .int (nI 2)) (ty := .int) (C := RX4) (T := TX4) (N := 14) hx hb hts nX4_beat_4 tyX4 tyX4_ok nmX4 hown hK hP hD hS 0 rfl rfl 0 (by decide) (zh (w := .fieldLink RX4 47 "FretRootsModel" "thrown" "I") hts 2 rfl) (fun _ h9 => h9) rfl (by decide +kernel) rfl rfl (Nat.le_of_ble_eq_true rfl) dX4_beat_49 (fun H locs hP hD hS => ?_)
          have hP : va_P D cl5 [(m_, .inr (4, [.int (nI 2), .int (nI n_), .long (lN w_), .int (nI h_), .ref ab_, .ref be_, .long ca_, .long cb_, .long oc_, .long st_, .int bs_, .int tr_, .int sp_, .ref rr_])), (ab_, .inl (cI, 49, .inl fa_)), (be_, .inl (cI, 49, .inl fb_))] H := hP
          have hD : va_D A [(m_, .inr (4, [.int (nI 2), .int (nI n_), .long (lN w_), .int (nI h_), .ref ab_, .ref be_, .long ca_, .long cb_, .long oc_, .long st_, .int bs_, .int tr_, .int sp_, .ref rr_])), (ab_, .inl (cI, 49, .inl fa_)), (be_, .inl (cI, 49, .inl fb_))] := hD
          refine lv_aload_n hx hb dX4_beat_52 rfl (lv_at hl 0 rfl) ?_
          refine va_get (D := D) (ci := 4) (v := .int (nI 2)) (C := RX4) (T := TX4) (N := 14) hx hb hts nX4_beat_4 hown hK hP 0 rfl rfl 0 (by decide) (zh (w := .fieldLink RX4 47 "FretRootsModel" "thrown" "I") hts 2 rfl) (fun _ h9 => h9) rfl dX4_beat_53 ?_
          refine lv_if_le (tgt := 61) hx hb dX4_beat_56 (by decide) (fun c_56 => ?_) (fun c_56 => ?_)
          · skip
            exact absurd c_56 (by decide)
          · skip
            have c_56 := zji_nle (a := 2) (b := 0) (by omega) (by omega) c_56
            refine lv_lconst (v := lN 0) hx hb dX4_beat_59 rfl ?_
            subst hQ
            exact ze_l hx hb hr hlocks (nI 2) (⟨by rw [hcd], fun q => absurd q (by omega)⟩) hP hK hD hS dX4_beat_60
        · skip
          have c_41 := zji_ne (a := inI hz_.toInt64 (lN 1) (lN 100000)) (b := 0) (by omega) (by omega) c_41
          have hcd : cdBeat pa_ pb_ hz_ p_ n_ = 0 := by unfold cdBeat inH; rw [if_neg hno, if_neg c_41]
          obtain ⟨ka, ea, hka⟩ := np_ok hn c_6
          obtain ⟨kb, eb, hkb⟩ := np_ok hn c_14
          obtain ⟨hz, eh, hh1, hh2⟩ := inI_okI (by decide) (by decide) c_41
          have ja1 := (hja ka hka).2
          have ja2 := (hja kb hkb).2
          have jb1 := (hjb ka hka).2
          have jb2 := (hjb kb hkb).2
          have hA1 : xa_ ka * xb_ kb ≤ 1000000 * 1000000 := Nat.mul_le_mul ja1.2 jb2.2
          have hB1 : xa_ kb * xb_ ka ≤ 1000000 * 1000000 := Nat.mul_le_mul ja2.2 jb1.2
          have hQ1 : xb_ ka * xb_ kb ≤ 1000000 * 1000000 := Nat.mul_le_mul jb1.2 jb2.2
          have hQ0 : 0 < xb_ ka * xb_ kb := Nat.mul_pos jb1.1 jb2.1
          have hP1 : (xa_ ka * xb_ kb - xa_ kb * xb_ ka + (xa_ kb * xb_ ka - xa_ ka * xb_ kb)) * hz ≤ 1000000000000 * 100000 := Nat.mul_le_mul (by omega) hh2
          have hg1 := Nat.gcd_pos_of_pos_right ((xa_ ka * xb_ kb - xa_ kb * xb_ ka + (xa_ kb * xb_ ka - xa_ ka * xb_ kb)) * hz) hQ0
          have hg2 := Nat.gcd_le_right ((xa_ ka * xb_ kb - xa_ kb * xb_ ka + (xa_ kb * xb_ ka - xa_ ka * xb_ kb)) * hz) hQ0
          refine lv_iconst (v := nI 0) hx hb dX4_beat_44 (by decide) ?_
          refine lv_goto (tgt := 49) hx hb dX4_beat_45 (by decide) ?_
          refine va_put (D := D) (ci := 4) (v := .int (nI 0)) (ty := .int) (C := RX4) (T := TX4) (N := 14) hx hb hts nX4_beat_4 tyX4 tyX4_ok nmX4 hown hK hP hD hS 0 rfl rfl 0 (by decide) (zh (w := .fieldLink RX4 47 "FretRootsModel" "thrown" "I") hts 2 rfl) (fun _ h9 => h9) rfl (by decide +kernel) rfl rfl (Nat.le_of_ble_eq_true rfl) dX4_beat_49 (fun H locs hP hD hS => ?_)
          have hP : va_P D cl5 [(m_, .inr (4, [.int (nI 0), .int (nI n_), .long (lN w_), .int (nI h_), .ref ab_, .ref be_, .long ca_, .long cb_, .long oc_, .long st_, .int bs_, .int tr_, .int sp_, .ref rr_])), (ab_, .inl (cI, 49, .inl fa_)), (be_, .inl (cI, 49, .inl fb_))] H := hP
          have hD : va_D A [(m_, .inr (4, [.int (nI 0), .int (nI n_), .long (lN w_), .int (nI h_), .ref ab_, .ref be_, .long ca_, .long cb_, .long oc_, .long st_, .int bs_, .int tr_, .int sp_, .ref rr_])), (ab_, .inl (cI, 49, .inl fa_)), (be_, .inl (cI, 49, .inl fb_))] := hD
          refine lv_aload_n hx hb dX4_beat_52 rfl (lv_at hl 0 rfl) ?_
          refine va_get (D := D) (ci := 4) (v := .int (nI 0)) (C := RX4) (T := TX4) (N := 14) hx hb hts nX4_beat_4 hown hK hP 0 rfl rfl 0 (by decide) (zh (w := .fieldLink RX4 47 "FretRootsModel" "thrown" "I") hts 2 rfl) (fun _ h9 => h9) rfl dX4_beat_53 ?_
          refine lv_if_le (tgt := 61) hx hb dX4_beat_56 (by decide) (fun c_56 => ?_) (fun c_56 => ?_)
          · skip
            have c_56 := zji_le (a := 0) (b := 0) (by omega) (by omega) c_56
            refine lv_aload_n hx hb dX4_beat_61 rfl (lv_at hl 0 rfl) ?_
            refine va_get (D := D) (ci := 4) (v := .ref ab_) (C := RX4) (T := TX4) (N := 14) hx hb hts nX4_beat_4 hown hK hP 0 rfl rfl 4 (by decide) (zh (w := .fieldLink RX4 19 "FretRootsModel" "aboves" "[I") hts 3 rfl) (fun _ h9 => h9) rfl dX4_beat_62 ?_
            refine lv_iload_n hx hb dX4_beat_65 rfl (lv_at hl 1 rfl) ?_
            refine zi_ (y := nI ka) (ea) ?_
            refine z_iald (j := ka) hx hb hK hP 1 0 rfl rfl (by omega) (by omega) dX4_beat_66 ?_
            refine zi_ (y := nI (xa_ ka)) ((hja ka hka).1) ?_
            refine lv_i2l (v := lN (xa_ ka)) hx hb dX4_beat_67 (nI_l (by omega)) ?_
            refine lv_aload_n hx hb dX4_beat_68 rfl (lv_at hl 0 rfl) ?_
            refine va_get (D := D) (ci := 4) (v := .ref be_) (C := RX4) (T := TX4) (N := 14) hx hb hts nX4_beat_4 hown hK hP 0 rfl rfl 5 (by decide) (zh (w := .fieldLink RX4 23 "FretRootsModel" "belows" "[I") hts 4 rfl) (fun _ h9 => h9) rfl dX4_beat_69 ?_
            refine lv_iload_n hx hb dX4_beat_72 rfl (lv_at hl 2 rfl) ?_
            refine zi_ (y := nI kb) (eb) ?_
            refine z_iald (j := kb) hx hb hK hP 2 0 rfl rfl (by omega) (by omega) dX4_beat_73 ?_
            refine zi_ (y := nI (xb_ kb)) ((hjb kb hkb).1) ?_
            refine lv_i2l (v := lN (xb_ kb)) hx hb dX4_beat_74 (nI_l (by omega)) ?_
            refine lv_lmul hx hb dX4_beat_75 ?_
            refine zl_ (y := lN ((xa_ ka) * (xb_ kb))) (lN_mul (xa_ ka) (xb_ kb)) ?_
            refine lv_aload_n hx hb dX4_beat_76 rfl (lv_at hl 0 rfl) ?_
            refine va_get (D := D) (ci := 4) (v := .ref ab_) (C := RX4) (T := TX4) (N := 14) hx hb hts nX4_beat_4 hown hK hP 0 rfl rfl 4 (by decide) (zh (w := .fieldLink RX4 19 "FretRootsModel" "aboves" "[I") hts 3 rfl) (fun _ h9 => h9) rfl dX4_beat_77 ?_
            refine lv_iload_n hx hb dX4_beat_80 rfl (lv_at hl 2 rfl) ?_
            refine zi_ (y := nI kb) (eb) ?_
            refine z_iald (j := kb) hx hb hK hP 1 0 rfl rfl (by omega) (by omega) dX4_beat_81 ?_
            refine zi_ (y := nI (xa_ kb)) ((hja kb hkb).1) ?_
            refine lv_i2l (v := lN (xa_ kb)) hx hb dX4_beat_82 (nI_l (by omega)) ?_
            refine lv_aload_n hx hb dX4_beat_83 rfl (lv_at hl 0 rfl) ?_
            refine va_get (D := D) (ci := 4) (v := .ref be_) (C := RX4) (T := TX4) (N := 14) hx hb hts nX4_beat_4 hown hK hP 0 rfl rfl 5 (by decide) (zh (w := .fieldLink RX4 23 "FretRootsModel" "belows" "[I") hts 4 rfl) (fun _ h9 => h9) rfl dX4_beat_84 ?_
            refine lv_iload_n hx hb dX4_beat_87 rfl (lv_at hl 1 rfl) ?_
            refine zi_ (y := nI ka) (ea) ?_
            refine z_iald (j := ka) hx hb hK hP 2 0 rfl rfl (by omega) (by omega) dX4_beat_88 ?_
            refine zi_ (y := nI (xb_ ka)) ((hjb ka hka).1) ?_
            refine lv_i2l (v := lN (xb_ ka)) hx hb dX4_beat_89 (nI_l (by omega)) ?_
            refine lv_lmul hx hb dX4_beat_90 ?_
            refine zl_ (y := lN ((xa_ kb) * (xb_ ka))) (lN_mul (xa_ kb) (xb_ ka)) ?_
            refine lv_lsub hx hb dX4_beat_91 ?_
            refine lv_lstore (lv' := [(5, .long ((lN ((xa_ ka) * (xb_ kb))) - (lN ((xa_ kb) * (xb_ ka))))), (0, .ref m_), (1, .int pa_), (2, .int pb_), (3, .int hz_), (4, .int p_)]) hx hb dX4_beat_92 hl (by decide) rfl (fun ls hl => ?_)
            refine lv_lload hx hb dX4_beat_94 (lv_at hl 0 rfl) ?_
            refine lv_lconst (v := lN 0) hx hb dX4_beat_96 rfl ?_
            refine zl_ge (tgt := 107) hx hb dX4_beat_97 dX4_beat_98 (by decide) (fun c_98 => ?_) (fun c_98 => ?_)
            · skip
              refine lv_lload hx hb dX4_beat_107 (lv_at hl 0 rfl) ?_
              refine zl_ (y := lN (xa_ ka * xb_ kb - xa_ kb * xb_ ka + (xa_ kb * xb_ ka - xa_ ka * xb_ kb))) (z_absp (by omega) (by omega) c_98) ?_
              refine lv_iload_n hx hb dX4_beat_109 rfl (lv_at hl 4 rfl) ?_
              refine zi_ (y := nI hz) (eh) ?_
              refine lv_i2l (v := lN hz) hx hb dX4_beat_110 (nI_l (by omega)) ?_
              refine lv_lmul hx hb dX4_beat_111 ?_
              refine zl_ (y := lN ((xa_ ka * xb_ kb - xa_ kb * xb_ ka + (xa_ kb * xb_ ka - xa_ ka * xb_ kb)) * hz)) (lN_mul (xa_ ka * xb_ kb - xa_ kb * xb_ ka + (xa_ kb * xb_ ka - xa_ ka * xb_ kb)) hz) ?_
              refine lv_lstore (lv' := [(5, .long (lN ((xa_ ka * xb_ kb - xa_ kb * xb_ ka + (xa_ kb * xb_ ka - xa_ ka * xb_ kb)) * hz))), (0, .ref m_), (1, .int pa_), (2, .int pb_), (3, .int hz_), (4, .int p_)]) hx hb dX4_beat_112 hl (by decide) rfl (fun ls hl => ?_)
              refine lv_aload_n hx hb dX4_beat_114 rfl (lv_at hl 1 rfl) ?_
              refine va_get (D := D) (ci := 4) (v := .ref be_) (C := RX4) (T := TX4) (N := 14) hx hb hts nX4_beat_4 hown hK hP 0 rfl rfl 5 (by decide) (zh (w := .fieldLink RX4 23 "FretRootsModel" "belows" "[I") hts 4 rfl) (fun _ h9 => h9) rfl dX4_beat_115 ?_
              refine lv_iload_n hx hb dX4_beat_118 rfl (lv_at hl 2 rfl) ?_
              refine zi_ (y := nI ka) (ea) ?_
              refine z_iald (j := ka) hx hb hK hP 2 0 rfl rfl (by omega) (by omega) dX4_beat_119 ?_
              refine zi_ (y := nI (xb_ ka)) ((hjb ka hka).1) ?_
              refine lv_i2l (v := lN (xb_ ka)) hx hb dX4_beat_120 (nI_l (by omega)) ?_
              refine lv_aload_n hx hb dX4_beat_121 rfl (lv_at hl 1 rfl) ?_
              refine va_get (D := D) (ci := 4) (v := .ref be_) (C := RX4) (T := TX4) (N := 14) hx hb hts nX4_beat_4 hown hK hP 0 rfl rfl 5 (by decide) (zh (w := .fieldLink RX4 23 "FretRootsModel" "belows" "[I") hts 4 rfl) (fun _ h9 => h9) rfl dX4_beat_122 ?_
              refine lv_iload_n hx hb dX4_beat_125 rfl (lv_at hl 3 rfl) ?_
              refine zi_ (y := nI kb) (eb) ?_
              refine z_iald (j := kb) hx hb hK hP 2 0 rfl rfl (by omega) (by omega) dX4_beat_126 ?_
              refine zi_ (y := nI (xb_ kb)) ((hjb kb hkb).1) ?_
              refine lv_i2l (v := lN (xb_ kb)) hx hb dX4_beat_127 (nI_l (by omega)) ?_
              refine lv_lmul hx hb dX4_beat_128 ?_
              refine zl_ (y := lN ((xb_ ka) * (xb_ kb))) (lN_mul (xb_ ka) (xb_ kb)) ?_
              refine lv_lstore (lv' := [(7, .long (lN ((xb_ ka) * (xb_ kb)))), (5, .long (lN ((xa_ ka * xb_ kb - xa_ kb * xb_ ka + (xa_ kb * xb_ ka - xa_ ka * xb_ kb)) * hz))), (0, .ref m_), (1, .int pa_), (2, .int pb_), (3, .int hz_), (4, .int p_)]) hx hb dX4_beat_129 hl (by decide) rfl (fun ls hl => ?_)
              refine lv_lload hx hb dX4_beat_131 (lv_at hl 1 rfl) ?_
              refine lv_lload hx hb dX4_beat_133 (lv_at hl 0 rfl) ?_
              refine zc_l (wc := []) (wr := [(m_, .inr (4, [.int (nI 0), .int (nI n_), .long (lN w_), .int (nI h_), .ref ab_, .ref be_, .long ca_, .long cb_, .long oc_, .long st_, .int bs_, .int tr_, .int sp_, .ref rr_])), (ab_, .inl (cI, 49, .inl fa_)), (be_, .inl (cI, 49, .inl fb_))]) hP hD hS hA [] [0, 1, 2] rfl rfl (by decide) (by decide) (va_runS (As := [.long (lN ((xa_ ka * xb_ kb - xa_ kb * xb_ ka + (xa_ kb * xb_ ka - xa_ ka * xb_ kb)) * hz)), .long (lN ((xb_ ka) * (xb_ kb)))]) (rest := []) ⟨hx, hb, hml, hown, hts⟩ (ct_X4_divisor l D cI cJ cD ((xa_ ka * xb_ kb - xa_ kb * xb_ ka + (xa_ kb * xb_ ka - xa_ ka * xb_ kb)) * hz) ((xb_ ka) * (xb_ kb)) H.size (by omega) (by omega)) (va_cwS 2 hts gX4_beat_X4_divisor rfl rfl rfl (by decide +kernel) ⟨Nat.le_of_ble_eq_true rfl, Nat.le_of_ble_eq_true rfl⟩) (zPreS (wc := []) hK (hP.sub [] rfl) (hD.sub [] (by decide) rfl) zTb (fun _ _ _ => trivial)) rfl rfl hl.1 rfl (lv_room (Nat.le_of_ble_eq_true rfl)) dX4_beat_135 ⟨Nat.le_of_ble_eq_true rfl, Nat.le_of_ble_eq_true rfl⟩) (fun r_5 u9_ H locs hw hP hD hS => ?_)
              have hP : va_P D cl5 [(m_, .inr (4, [.int (nI 0), .int (nI n_), .long (lN w_), .int (nI h_), .ref ab_, .ref be_, .long ca_, .long cb_, .long oc_, .long st_, .int bs_, .int tr_, .int sp_, .ref rr_])), (ab_, .inl (cI, 49, .inl fa_)), (be_, .inl (cI, 49, .inl fb_))] H := hP.sub [0, 1, 2] rfl
              have hD : va_D A [(m_, .inr (4, [.int (nI 0), .int (nI n_), .long (lN w_), .int (nI h_), .ref ab_, .ref be_, .long ca_, .long cb_, .long oc_, .long st_, .int bs_, .int tr_, .int sp_, .ref rr_])), (ab_, .inl (cI, 49, .inl fa_)), (be_, .inl (cI, 49, .inl fb_))] := hD.sub [0, 1, 2] (by decide) rfl
              have hw : r_5 = lN (Nat.gcd ((xa_ ka * xb_ kb - xa_ kb * xb_ ka + (xa_ kb * xb_ ka - xa_ ka * xb_ kb)) * hz) ((xb_ ka) * (xb_ kb))) := hw
              subst hw
              refine lv_lstore (lv' := [(9, .long (lN (Nat.gcd ((xa_ ka * xb_ kb - xa_ kb * xb_ ka + (xa_ kb * xb_ ka - xa_ ka * xb_ kb)) * hz) ((xb_ ka) * (xb_ kb))))), (7, .long (lN ((xb_ ka) * (xb_ kb)))), (5, .long (lN ((xa_ ka * xb_ kb - xa_ kb * xb_ ka + (xa_ kb * xb_ ka - xa_ ka * xb_ kb)) * hz))), (0, .ref m_), (1, .int pa_), (2, .int pb_), (3, .int hz_), (4, .int p_)]) hx hb dX4_beat_138 hl (by decide) rfl (fun ls hl => ?_)
              refine lv_iload hx hb dX4_beat_140 (lv_at hl 7 rfl) ?_
              refine lv_if_ne (tgt := 153) hx hb dX4_beat_142 (by decide) (fun c_142 => ?_) (fun c_142 => ?_)
              · skip
                refine lv_lload hx hb dX4_beat_153 (lv_at hl 1 rfl) ?_
                refine lv_lload hx hb dX4_beat_155 (lv_at hl 0 rfl) ?_
                refine lv_ldiv hx hb dX4_beat_157 (zlne0 (by omega) (by omega)) ?_
                refine zl_ (y := lN (((xb_ ka) * (xb_ kb)) / (Nat.gcd ((xa_ ka * xb_ kb - xa_ kb * xb_ ka + (xa_ kb * xb_ ka - xa_ ka * xb_ kb)) * hz) ((xb_ ka) * (xb_ kb))))) (pk_lDiv (by omega) (by omega) (by omega)) ?_
                subst hQ
                exact ze_l hx hb hr hlocks (nI 0) (⟨by rw [hcd], fun _ => ⟨ka, kb, hz, ea, eb, eh, hka, hkb, hh2, by first | rw [if_pos c_142] | rw [if_neg c_142]⟩⟩) hP hK hD hS dX4_beat_158
              · skip
                refine lv_lload hx hb dX4_beat_145 (lv_at hl 2 rfl) ?_
                refine lv_lload hx hb dX4_beat_147 (lv_at hl 0 rfl) ?_
                refine lv_ldiv hx hb dX4_beat_149 (zlne0 (by omega) (by omega)) ?_
                refine zl_ (y := lN (((xa_ ka * xb_ kb - xa_ kb * xb_ ka + (xa_ kb * xb_ ka - xa_ ka * xb_ kb)) * hz) / (Nat.gcd ((xa_ ka * xb_ kb - xa_ kb * xb_ ka + (xa_ kb * xb_ ka - xa_ ka * xb_ kb)) * hz) ((xb_ ka) * (xb_ kb))))) (pk_lDiv (by omega) (by omega) (by omega)) ?_
                refine lv_goto (tgt := 158) hx hb dX4_beat_150 (by decide) ?_
                subst hQ
                exact ze_l hx hb hr hlocks (nI 0) (⟨by rw [hcd], fun _ => ⟨ka, kb, hz, ea, eb, eh, hka, hkb, hh2, by first | rw [if_pos c_142] | rw [if_neg c_142]⟩⟩) hP hK hD hS dX4_beat_158
            · skip
              refine lv_lload hx hb dX4_beat_101 (lv_at hl 0 rfl) ?_
              refine lv_lneg hx hb dX4_beat_103 ?_
              refine zl_ (y := lN (xa_ ka * xb_ kb - xa_ kb * xb_ ka + (xa_ kb * xb_ ka - xa_ ka * xb_ kb))) (z_absn (by omega) (by omega) c_98) ?_
              refine lv_goto (tgt := 109) hx hb dX4_beat_104 (by decide) ?_
              refine lv_iload_n hx hb dX4_beat_109 rfl (lv_at hl 4 rfl) ?_
              refine zi_ (y := nI hz) (eh) ?_
              refine lv_i2l (v := lN hz) hx hb dX4_beat_110 (nI_l (by omega)) ?_
              refine lv_lmul hx hb dX4_beat_111 ?_
              refine zl_ (y := lN ((xa_ ka * xb_ kb - xa_ kb * xb_ ka + (xa_ kb * xb_ ka - xa_ ka * xb_ kb)) * hz)) (lN_mul (xa_ ka * xb_ kb - xa_ kb * xb_ ka + (xa_ kb * xb_ ka - xa_ ka * xb_ kb)) hz) ?_
              refine lv_lstore (lv' := [(5, .long (lN ((xa_ ka * xb_ kb - xa_ kb * xb_ ka + (xa_ kb * xb_ ka - xa_ ka * xb_ kb)) * hz))), (0, .ref m_), (1, .int pa_), (2, .int pb_), (3, .int hz_), (4, .int p_)]) hx hb dX4_beat_112 hl (by decide) rfl (fun ls hl => ?_)
              refine lv_aload_n hx hb dX4_beat_114 rfl (lv_at hl 1 rfl) ?_
              refine va_get (D := D) (ci := 4) (v := .ref be_) (C := RX4) (T := TX4) (N := 14) hx hb hts nX4_beat_4 hown hK hP 0 rfl rfl 5 (by decide) (zh (w := .fieldLink RX4 23 "FretRootsModel" "belows" "[I") hts 4 rfl) (fun _ h9 => h9) rfl dX4_beat_115 ?_
              refine lv_iload_n hx hb dX4_beat_118 rfl (lv_at hl 2 rfl) ?_
              refine zi_ (y := nI ka) (ea) ?_
              refine z_iald (j := ka) hx hb hK hP 2 0 rfl rfl (by omega) (by omega) dX4_beat_119 ?_
              refine zi_ (y := nI (xb_ ka)) ((hjb ka hka).1) ?_
              refine lv_i2l (v := lN (xb_ ka)) hx hb dX4_beat_120 (nI_l (by omega)) ?_
              refine lv_aload_n hx hb dX4_beat_121 rfl (lv_at hl 1 rfl) ?_
              refine va_get (D := D) (ci := 4) (v := .ref be_) (C := RX4) (T := TX4) (N := 14) hx hb hts nX4_beat_4 hown hK hP 0 rfl rfl 5 (by decide) (zh (w := .fieldLink RX4 23 "FretRootsModel" "belows" "[I") hts 4 rfl) (fun _ h9 => h9) rfl dX4_beat_122 ?_
              refine lv_iload_n hx hb dX4_beat_125 rfl (lv_at hl 3 rfl) ?_
              refine zi_ (y := nI kb) (eb) ?_
              refine z_iald (j := kb) hx hb hK hP 2 0 rfl rfl (by omega) (by omega) dX4_beat_126 ?_
              refine zi_ (y := nI (xb_ kb)) ((hjb kb hkb).1) ?_
              refine lv_i2l (v := lN (xb_ kb)) hx hb dX4_beat_127 (nI_l (by omega)) ?_
              refine lv_lmul hx hb dX4_beat_128 ?_
              refine zl_ (y := lN ((xb_ ka) * (xb_ kb))) (lN_mul (xb_ ka) (xb_ kb)) ?_
              refine lv_lstore (lv' := [(7, .long (lN ((xb_ ka) * (xb_ kb)))), (5, .long (lN ((xa_ ka * xb_ kb - xa_ kb * xb_ ka + (xa_ kb * xb_ ka - xa_ ka * xb_ kb)) * hz))), (0, .ref m_), (1, .int pa_), (2, .int pb_), (3, .int hz_), (4, .int p_)]) hx hb dX4_beat_129 hl (by decide) rfl (fun ls hl => ?_)
              refine lv_lload hx hb dX4_beat_131 (lv_at hl 1 rfl) ?_
              refine lv_lload hx hb dX4_beat_133 (lv_at hl 0 rfl) ?_
              refine zc_l (wc := []) (wr := [(m_, .inr (4, [.int (nI 0), .int (nI n_), .long (lN w_), .int (nI h_), .ref ab_, .ref be_, .long ca_, .long cb_, .long oc_, .long st_, .int bs_, .int tr_, .int sp_, .ref rr_])), (ab_, .inl (cI, 49, .inl fa_)), (be_, .inl (cI, 49, .inl fb_))]) hP hD hS hA [] [0, 1, 2] rfl rfl (by decide) (by decide) (va_runS (As := [.long (lN ((xa_ ka * xb_ kb - xa_ kb * xb_ ka + (xa_ kb * xb_ ka - xa_ ka * xb_ kb)) * hz)), .long (lN ((xb_ ka) * (xb_ kb)))]) (rest := []) ⟨hx, hb, hml, hown, hts⟩ (ct_X4_divisor l D cI cJ cD ((xa_ ka * xb_ kb - xa_ kb * xb_ ka + (xa_ kb * xb_ ka - xa_ ka * xb_ kb)) * hz) ((xb_ ka) * (xb_ kb)) H.size (by omega) (by omega)) (va_cwS 2 hts gX4_beat_X4_divisor rfl rfl rfl (by decide +kernel) ⟨Nat.le_of_ble_eq_true rfl, Nat.le_of_ble_eq_true rfl⟩) (zPreS (wc := []) hK (hP.sub [] rfl) (hD.sub [] (by decide) rfl) zTb (fun _ _ _ => trivial)) rfl rfl hl.1 rfl (lv_room (Nat.le_of_ble_eq_true rfl)) dX4_beat_135 ⟨Nat.le_of_ble_eq_true rfl, Nat.le_of_ble_eq_true rfl⟩) (fun r_6 u9_ H locs hw hP hD hS => ?_)
              have hP : va_P D cl5 [(m_, .inr (4, [.int (nI 0), .int (nI n_), .long (lN w_), .int (nI h_), .ref ab_, .ref be_, .long ca_, .long cb_, .long oc_, .long st_, .int bs_, .int tr_, .int sp_, .ref rr_])), (ab_, .inl (cI, 49, .inl fa_)), (be_, .inl (cI, 49, .inl fb_))] H := hP.sub [0, 1, 2] rfl
              have hD : va_D A [(m_, .inr (4, [.int (nI 0), .int (nI n_), .long (lN w_), .int (nI h_), .ref ab_, .ref be_, .long ca_, .long cb_, .long oc_, .long st_, .int bs_, .int tr_, .int sp_, .ref rr_])), (ab_, .inl (cI, 49, .inl fa_)), (be_, .inl (cI, 49, .inl fb_))] := hD.sub [0, 1, 2] (by decide) rfl
              have hw : r_6 = lN (Nat.gcd ((xa_ ka * xb_ kb - xa_ kb * xb_ ka + (xa_ kb * xb_ ka - xa_ ka * xb_ kb)) * hz) ((xb_ ka) * (xb_ kb))) := hw
              subst hw
              refine lv_lstore (lv' := [(9, .long (lN (Nat.gcd ((xa_ ka * xb_ kb - xa_ kb * xb_ ka + (xa_ kb * xb_ ka - xa_ ka * xb_ kb)) * hz) ((xb_ ka) * (xb_ kb))))), (7, .long (lN ((xb_ ka) * (xb_ kb)))), (5, .long (lN ((xa_ ka * xb_ kb - xa_ kb * xb_ ka + (xa_ kb * xb_ ka - xa_ ka * xb_ kb)) * hz))), (0, .ref m_), (1, .int pa_), (2, .int pb_), (3, .int hz_), (4, .int p_)]) hx hb dX4_beat_138 hl (by decide) rfl (fun ls hl => ?_)
              refine lv_iload hx hb dX4_beat_140 (lv_at hl 7 rfl) ?_
              refine lv_if_ne (tgt := 153) hx hb dX4_beat_142 (by decide) (fun c_142 => ?_) (fun c_142 => ?_)
              · skip
                refine lv_lload hx hb dX4_beat_153 (lv_at hl 1 rfl) ?_
                refine lv_lload hx hb dX4_beat_155 (lv_at hl 0 rfl) ?_
                refine lv_ldiv hx hb dX4_beat_157 (zlne0 (by omega) (by omega)) ?_
                refine zl_ (y := lN (((xb_ ka) * (xb_ kb)) / (Nat.gcd ((xa_ ka * xb_ kb - xa_ kb * xb_ ka + (xa_ kb * xb_ ka - xa_ ka * xb_ kb)) * hz) ((xb_ ka) * (xb_ kb))))) (pk_lDiv (by omega) (by omega) (by omega)) ?_
                subst hQ
                exact ze_l hx hb hr hlocks (nI 0) (⟨by rw [hcd], fun _ => ⟨ka, kb, hz, ea, eb, eh, hka, hkb, hh2, by first | rw [if_pos c_142] | rw [if_neg c_142]⟩⟩) hP hK hD hS dX4_beat_158
              · skip
                refine lv_lload hx hb dX4_beat_145 (lv_at hl 2 rfl) ?_
                refine lv_lload hx hb dX4_beat_147 (lv_at hl 0 rfl) ?_
                refine lv_ldiv hx hb dX4_beat_149 (zlne0 (by omega) (by omega)) ?_
                refine zl_ (y := lN (((xa_ ka * xb_ kb - xa_ kb * xb_ ka + (xa_ kb * xb_ ka - xa_ ka * xb_ kb)) * hz) / (Nat.gcd ((xa_ ka * xb_ kb - xa_ kb * xb_ ka + (xa_ kb * xb_ ka - xa_ ka * xb_ kb)) * hz) ((xb_ ka) * (xb_ kb))))) (pk_lDiv (by omega) (by omega) (by omega)) ?_
                refine lv_goto (tgt := 158) hx hb dX4_beat_150 (by decide) ?_
                subst hQ
                exact ze_l hx hb hr hlocks (nI 0) (⟨by rw [hcd], fun _ => ⟨ka, kb, hz, ea, eb, eh, hka, hkb, hh2, by first | rw [if_pos c_142] | rw [if_neg c_142]⟩⟩) hP hK hD hS dX4_beat_158
          · skip
            exact absurd c_56 (by decide)
      · skip
        have c_25 := zji_eq (a := inI p_.toInt64 (lN 0) (lN 1)) (b := 0) (by omega) (by omega) c_25
        have hcd : cdBeat pa_ pb_ hz_ p_ n_ = 1 := if_pos (Or.inr (Or.inr c_25))
        refine lv_iconst (v := nI 1) hx hb dX4_beat_28 (by decide) ?_
        refine lv_goto (tgt := 49) hx hb dX4_beat_29 (by decide) ?_
        refine va_put (D := D) (ci := 4) (v := .int (nI 1)) (ty := .int) (C := RX4) (T := TX4) (N := 14) hx hb hts nX4_beat_4 tyX4 tyX4_ok nmX4 hown hK hP hD hS 0 rfl rfl 0 (by decide) (zh (w := .fieldLink RX4 47 "FretRootsModel" "thrown" "I") hts 2 rfl) (fun _ h9 => h9) rfl (by decide +kernel) rfl rfl (Nat.le_of_ble_eq_true rfl) dX4_beat_49 (fun H locs hP hD hS => ?_)
        have hP : va_P D cl5 [(m_, .inr (4, [.int (nI 1), .int (nI n_), .long (lN w_), .int (nI h_), .ref ab_, .ref be_, .long ca_, .long cb_, .long oc_, .long st_, .int bs_, .int tr_, .int sp_, .ref rr_])), (ab_, .inl (cI, 49, .inl fa_)), (be_, .inl (cI, 49, .inl fb_))] H := hP
        have hD : va_D A [(m_, .inr (4, [.int (nI 1), .int (nI n_), .long (lN w_), .int (nI h_), .ref ab_, .ref be_, .long ca_, .long cb_, .long oc_, .long st_, .int bs_, .int tr_, .int sp_, .ref rr_])), (ab_, .inl (cI, 49, .inl fa_)), (be_, .inl (cI, 49, .inl fb_))] := hD
        refine lv_aload_n hx hb dX4_beat_52 rfl (lv_at hl 0 rfl) ?_
        refine va_get (D := D) (ci := 4) (v := .int (nI 1)) (C := RX4) (T := TX4) (N := 14) hx hb hts nX4_beat_4 hown hK hP 0 rfl rfl 0 (by decide) (zh (w := .fieldLink RX4 47 "FretRootsModel" "thrown" "I") hts 2 rfl) (fun _ h9 => h9) rfl dX4_beat_53 ?_
        refine lv_if_le (tgt := 61) hx hb dX4_beat_56 (by decide) (fun c_56 => ?_) (fun c_56 => ?_)
        · skip
          exact absurd c_56 (by decide)
        · skip
          have c_56 := zji_nle (a := 1) (b := 0) (by omega) (by omega) c_56
          refine lv_lconst (v := lN 0) hx hb dX4_beat_59 rfl ?_
          subst hQ
          exact ze_l hx hb hr hlocks (nI 1) (⟨by rw [hcd], fun q => absurd q (by omega)⟩) hP hK hD hS dX4_beat_60
theorem nX4_fan_4 : ∀ w ∈ wsX40, w ∈ wsX4_fan := by decide +kernel
abbrev rm_X4_fan : Room := { frames := 2, cells := 0, slots := 0, locals := 45 }
set_option maxHeartbeats 4000000 in
set_option maxRecDepth 100000 in
/-- fan of the reference -/
theorem ct_X4_fan (l : Launch) (D : va_G) (cI cJ cD : ClassId) (m_ : Nat) (ab_ : Nat) (be_ : Nat) (rr_ : Nat) (th_ : Int32) (nn_ : Int32) (sh_ : Int32) (bs_ : Int32) (tr_ : Int32) (sp_ : Int32) (le_ : Int64) (ca_ : Int64) (cb_ : Int64) (oc_ : Int64) (st_ : Int64) (b_ : Int32) (t_ : Int32) (s_ : Int32) (sz : Nat) : Met l yX4_fan wsX4_fan rm_X4_fan (zP D (ty3 cI cJ cD) [.ref m_, .int b_, .int t_, .int s_] sz [(m_, .inr (4, [.int th_, .int nn_, .long le_, .int sh_, .ref ab_, .ref be_, .long ca_, .long cb_, .long oc_, .long st_, .int bs_, .int tr_, .int sp_, .ref rr_]))] zT) (va_Qv (fun (u : Int32 × Int32 × Int32 × Int32) => (u.1) = nI (cdFan b_ t_ s_) ∧ (cdFan b_ t_ s_ = 0 → (u.2.1) = b_ ∧ (u.2.2.1) = t_ ∧ (u.2.2.2) = s_) ∧ (cdFan b_ t_ s_ ≠ 0 → (u.2.1) = bs_ ∧ (u.2.2.1) = tr_ ∧ (u.2.2.2) = sp_)) (zB D (ty3 cI cJ cD) (fun (u : Int32 × Int32 × Int32 × Int32) => [(m_, .inr (4, [.int (u.1), .int nn_, .long le_, .int sh_, .ref ab_, .ref be_, .long ca_, .long cb_, .long oc_, .long st_, .int (u.2.1), .int (u.2.2.1), .int (u.2.2.2), .ref rr_]))]) (va_A [(m_, .inr (4, [.int th_, .int nn_, .long le_, .int sh_, .ref ab_, .ref be_, .long ca_, .long cb_, .long oc_, .long st_, .int bs_, .int tr_, .int sp_, .ref rr_]))] sz)) (va_A [(m_, .inr (4, [.int th_, .int nn_, .long le_, .int sh_, .ref ab_, .ref be_, .long ca_, .long cb_, .long oc_, .long st_, .int bs_, .int tr_, .int sp_, .ref rr_]))] sz)) 0 0 (va_A [(m_, .inr (4, [.int th_, .int nn_, .long le_, .int sh_, .ref ab_, .ref be_, .long ca_, .long cb_, .long oc_, .long st_, .int bs_, .int tr_, .int sp_, .ref rr_]))] sz) := by
  refine zMet (Qf := fun A => va_Qv (fun (u : Int32 × Int32 × Int32 × Int32) => (u.1) = nI (cdFan b_ t_ s_) ∧ (cdFan b_ t_ s_ = 0 → (u.2.1) = b_ ∧ (u.2.2.1) = t_ ∧ (u.2.2.2) = s_) ∧ (cdFan b_ t_ s_ ≠ 0 → (u.2.1) = bs_ ∧ (u.2.2.1) = tr_ ∧ (u.2.2.2) = sp_)) (zB D (ty3 cI cJ cD) (fun (u : Int32 × Int32 × Int32 × Int32) => [(m_, .inr (4, [.int (u.1), .int nn_, .long le_, .int sh_, .ref ab_, .ref be_, .long ca_, .long cb_, .long oc_, .long st_, .int (u.2.1), .int (u.2.2.1), .int (u.2.2.2), .ref rr_]))]) A) A) (cc := cX4_fan) (maxL := 4) (ret := none) (by decide) rfl (Nat.le_of_ble_eq_true rfl) ?_
  intro p e s m args below meth c A ls Q H hargs hQ hHe hx hb hr hml hown hts hlocks hin hP hK hD hA hS hE hAe hl
  have hl : lv_has ls 4 [(0, .ref m_), (1, .int b_), (2, .int t_), (3, .int s_)] := hl
  refine lv_aload_n hx hb dX4_fan_0 rfl (lv_at hl 0 rfl) ?_
  refine lv_iload_n hx hb dX4_fan_1 rfl (lv_at hl 1 rfl) ?_
  refine zc_i (wc := []) (wr := [(m_, .inr (4, [.int th_, .int nn_, .long le_, .int sh_, .ref ab_, .ref be_, .long ca_, .long cb_, .long oc_, .long st_, .int bs_, .int tr_, .int sp_, .ref rr_]))]) hP hD hS hA [] [0] rfl rfl (by decide) (by decide) (va_runS (As := [.int b_]) (rest := [.ref m_]) ⟨hx, hb, hml, hown, hts⟩ (ct_X4_isPart l D cI cJ cD b_ H.size ) (va_cwS 1 hts gX4_fan_X4_isPart rfl rfl rfl (by decide +kernel) ⟨Nat.le_of_ble_eq_true rfl, Nat.le_of_ble_eq_true rfl⟩) (zPreS (wc := []) hK (hP.sub [] rfl) (hD.sub [] (by decide) rfl) zTb (fun _ _ _ => trivial)) rfl rfl hl.1 rfl (lv_room (Nat.le_of_ble_eq_true rfl)) dX4_fan_2 ⟨Nat.le_of_ble_eq_true rfl, Nat.le_of_ble_eq_true rfl⟩) (fun r_1 u9_ H locs hw hP hD hS => ?_)
  have hP : va_P D cl5 [(m_, .inr (4, [.int th_, .int nn_, .long le_, .int sh_, .ref ab_, .ref be_, .long ca_, .long cb_, .long oc_, .long st_, .int bs_, .int tr_, .int sp_, .ref rr_]))] H := hP.sub [0] rfl
  have hD : va_D A [(m_, .inr (4, [.int th_, .int nn_, .long le_, .int sh_, .ref ab_, .ref be_, .long ca_, .long cb_, .long oc_, .long st_, .int bs_, .int tr_, .int sp_, .ref rr_]))] := hD.sub [0] (by decide) rfl
  have hw : r_1 = nI (ptI b_) ∧ ptI b_ ≤ 1 := hw
  obtain ⟨rfl, hb_2⟩ := hw
  refine lv_if_eq (tgt := 31) hx hb dX4_fan_5 (by decide) (fun c_5 => ?_) (fun c_5 => ?_)
  · skip
    have c_5 := zji_eq (a := ptI b_) (b := 0) (by omega) (by omega) c_5
    have hcd : cdFan b_ t_ s_ = 1 := if_pos (Or.inl c_5)
    refine lv_iconst (v := nI 1) hx hb dX4_fan_31 (by decide) ?_
    refine va_put (D := D) (ci := 4) (v := .int (nI 1)) (ty := .int) (C := RX4) (T := TX4) (N := 14) hx hb hts nX4_fan_4 tyX4 tyX4_ok nmX4 hown hK hP hD hS 0 rfl rfl 0 (by decide) (zh (w := .fieldLink RX4 47 "FretRootsModel" "thrown" "I") hts 2 rfl) (fun _ h9 => h9) rfl (by decide +kernel) rfl rfl (Nat.le_of_ble_eq_true rfl) dX4_fan_32 (fun H locs hP hD hS => ?_)
    have hP : va_P D cl5 [(m_, .inr (4, [.int (nI 1), .int nn_, .long le_, .int sh_, .ref ab_, .ref be_, .long ca_, .long cb_, .long oc_, .long st_, .int bs_, .int tr_, .int sp_, .ref rr_]))] H := hP
    have hD : va_D A [(m_, .inr (4, [.int (nI 1), .int nn_, .long le_, .int sh_, .ref ab_, .ref be_, .long ca_, .long cb_, .long oc_, .long st_, .int bs_, .int tr_, .int sp_, .ref rr_]))] := hD
    refine lv_aload_n hx hb dX4_fan_35 rfl (lv_at hl 0 rfl) ?_
    refine va_get (D := D) (ci := 4) (v := .int (nI 1)) (C := RX4) (T := TX4) (N := 14) hx hb hts nX4_fan_4 hown hK hP 0 rfl rfl 0 (by decide) (zh (w := .fieldLink RX4 47 "FretRootsModel" "thrown" "I") hts 2 rfl) (fun _ h9 => h9) rfl dX4_fan_36 ?_
    refine lv_if_ne (tgt := 57) hx hb dX4_fan_39 (by decide) (fun c_39 => ?_) (fun c_39 => ?_)
    · skip
      have c_39 := zji_ne (a := 1) (b := 0) (by omega) (by omega) c_39
      subst hQ
      exact ze_v hx hb hr hlocks (nI 1, bs_, tr_, sp_) (⟨by rw [hcd], by first | exact fun _ => ⟨rfl, rfl, rfl⟩ | exact fun q => absurd q (by omega), by first | exact fun _ => ⟨rfl, rfl, rfl⟩ | exact fun q => absurd hcd q⟩) hP hK hD hS dX4_fan_57
    · skip
      exact absurd c_39 (by decide)
  · skip
    have c_5 := zji_ne (a := ptI b_) (b := 0) (by omega) (by omega) c_5
    refine lv_iload_n hx hb dX4_fan_8 rfl (lv_at hl 2 rfl) ?_
    refine zc_i (wc := []) (wr := [(m_, .inr (4, [.int th_, .int nn_, .long le_, .int sh_, .ref ab_, .ref be_, .long ca_, .long cb_, .long oc_, .long st_, .int bs_, .int tr_, .int sp_, .ref rr_]))]) hP hD hS hA [] [0] rfl rfl (by decide) (by decide) (va_runS (As := [.int t_]) (rest := [.ref m_]) ⟨hx, hb, hml, hown, hts⟩ (ct_X4_isPart l D cI cJ cD t_ H.size ) (va_cwS 1 hts gX4_fan_X4_isPart rfl rfl rfl (by decide +kernel) ⟨Nat.le_of_ble_eq_true rfl, Nat.le_of_ble_eq_true rfl⟩) (zPreS (wc := []) hK (hP.sub [] rfl) (hD.sub [] (by decide) rfl) zTb (fun _ _ _ => trivial)) rfl rfl hl.1 rfl (lv_room (Nat.le_of_ble_eq_true rfl)) dX4_fan_9 ⟨Nat.le_of_ble_eq_true rfl, Nat.le_of_ble_eq_true rfl⟩) (fun r_2 u9_ H locs hw hP hD hS => ?_)
    have hP : va_P D cl5 [(m_, .inr (4, [.int th_, .int nn_, .long le_, .int sh_, .ref ab_, .ref be_, .long ca_, .long cb_, .long oc_, .long st_, .int bs_, .int tr_, .int sp_, .ref rr_]))] H := hP.sub [0] rfl
    have hD : va_D A [(m_, .inr (4, [.int th_, .int nn_, .long le_, .int sh_, .ref ab_, .ref be_, .long ca_, .long cb_, .long oc_, .long st_, .int bs_, .int tr_, .int sp_, .ref rr_]))] := hD.sub [0] (by decide) rfl
    have hw : r_2 = nI (ptI t_) ∧ ptI t_ ≤ 1 := hw
    obtain ⟨rfl, hb_9⟩ := hw
    refine lv_if_eq (tgt := 31) hx hb dX4_fan_12 (by decide) (fun c_12 => ?_) (fun c_12 => ?_)
    · skip
      have c_12 := zji_eq (a := ptI t_) (b := 0) (by omega) (by omega) c_12
      have hcd : cdFan b_ t_ s_ = 1 := if_pos (Or.inr (Or.inl c_12))
      refine lv_iconst (v := nI 1) hx hb dX4_fan_31 (by decide) ?_
      refine va_put (D := D) (ci := 4) (v := .int (nI 1)) (ty := .int) (C := RX4) (T := TX4) (N := 14) hx hb hts nX4_fan_4 tyX4 tyX4_ok nmX4 hown hK hP hD hS 0 rfl rfl 0 (by decide) (zh (w := .fieldLink RX4 47 "FretRootsModel" "thrown" "I") hts 2 rfl) (fun _ h9 => h9) rfl (by decide +kernel) rfl rfl (Nat.le_of_ble_eq_true rfl) dX4_fan_32 (fun H locs hP hD hS => ?_)
      have hP : va_P D cl5 [(m_, .inr (4, [.int (nI 1), .int nn_, .long le_, .int sh_, .ref ab_, .ref be_, .long ca_, .long cb_, .long oc_, .long st_, .int bs_, .int tr_, .int sp_, .ref rr_]))] H := hP
      have hD : va_D A [(m_, .inr (4, [.int (nI 1), .int nn_, .long le_, .int sh_, .ref ab_, .ref be_, .long ca_, .long cb_, .long oc_, .long st_, .int bs_, .int tr_, .int sp_, .ref rr_]))] := hD
      refine lv_aload_n hx hb dX4_fan_35 rfl (lv_at hl 0 rfl) ?_
      refine va_get (D := D) (ci := 4) (v := .int (nI 1)) (C := RX4) (T := TX4) (N := 14) hx hb hts nX4_fan_4 hown hK hP 0 rfl rfl 0 (by decide) (zh (w := .fieldLink RX4 47 "FretRootsModel" "thrown" "I") hts 2 rfl) (fun _ h9 => h9) rfl dX4_fan_36 ?_
      refine lv_if_ne (tgt := 57) hx hb dX4_fan_39 (by decide) (fun c_39 => ?_) (fun c_39 => ?_)
      · skip
        have c_39 := zji_ne (a := 1) (b := 0) (by omega) (by omega) c_39
        subst hQ
        exact ze_v hx hb hr hlocks (nI 1, bs_, tr_, sp_) (⟨by rw [hcd], by first | exact fun _ => ⟨rfl, rfl, rfl⟩ | exact fun q => absurd q (by omega), by first | exact fun _ => ⟨rfl, rfl, rfl⟩ | exact fun q => absurd hcd q⟩) hP hK hD hS dX4_fan_57
      · skip
        exact absurd c_39 (by decide)
    · skip
      have c_12 := zji_ne (a := ptI t_) (b := 0) (by omega) (by omega) c_12
      refine lv_iload_n hx hb dX4_fan_15 rfl (lv_at hl 3 rfl) ?_
      refine lv_i2l (v := s_.toInt64) hx hb dX4_fan_16 rfl ?_
      refine lv_lconst (v := lN 1) hx hb dX4_fan_17 rfl ?_
      refine lv_ldc2 (v := 1000) hx hb hown (zh (w := .constantLong RX4 7 (1000)) hts 1 rfl) dX4_fan_18 ?_
      refine zl_ (y := lN 1000) rfl ?_
      refine zc_i (wc := []) (wr := [(m_, .inr (4, [.int th_, .int nn_, .long le_, .int sh_, .ref ab_, .ref be_, .long ca_, .long cb_, .long oc_, .long st_, .int bs_, .int tr_, .int sp_, .ref rr_]))]) hP hD hS hA [] [0] rfl rfl (by decide) (by decide) (va_runS (As := [.long s_.toInt64, .long (lN 1), .long (lN 1000)]) (rest := [.ref m_]) ⟨hx, hb, hml, hown, hts⟩ (ct_X4_isIn l D cI cJ cD s_.toInt64 (lN 1) (lN 1000) H.size ) (va_cwS 3 hts gX4_fan_X4_isIn rfl rfl rfl (by decide +kernel) ⟨Nat.le_of_ble_eq_true rfl, Nat.le_of_ble_eq_true rfl⟩) (zPreS (wc := []) hK (hP.sub [] rfl) (hD.sub [] (by decide) rfl) zTb (fun _ _ _ => trivial)) rfl rfl hl.1 rfl (lv_room (Nat.le_of_ble_eq_true rfl)) dX4_fan_21 ⟨Nat.le_of_ble_eq_true rfl, Nat.le_of_ble_eq_true rfl⟩) (fun r_3 u9_ H locs hw hP hD hS => ?_)
      have hP : va_P D cl5 [(m_, .inr (4, [.int th_, .int nn_, .long le_, .int sh_, .ref ab_, .ref be_, .long ca_, .long cb_, .long oc_, .long st_, .int bs_, .int tr_, .int sp_, .ref rr_]))] H := hP.sub [0] rfl
      have hD : va_D A [(m_, .inr (4, [.int th_, .int nn_, .long le_, .int sh_, .ref ab_, .ref be_, .long ca_, .long cb_, .long oc_, .long st_, .int bs_, .int tr_, .int sp_, .ref rr_]))] := hD.sub [0] (by decide) rfl
      have hw : r_3 = nI (inI s_.toInt64 (lN 1) (lN 1000)) ∧ inI s_.toInt64 (lN 1) (lN 1000) ≤ 1 := hw
      obtain ⟨rfl, hb_21⟩ := hw
      refine lv_if_eq (tgt := 31) hx hb dX4_fan_24 (by decide) (fun c_24 => ?_) (fun c_24 => ?_)
      · skip
        have c_24 := zji_eq (a := inI s_.toInt64 (lN 1) (lN 1000)) (b := 0) (by omega) (by omega) c_24
        have hcd : cdFan b_ t_ s_ = 1 := if_pos (Or.inr (Or.inr c_24))
        refine lv_iconst (v := nI 1) hx hb dX4_fan_31 (by decide) ?_
        refine va_put (D := D) (ci := 4) (v := .int (nI 1)) (ty := .int) (C := RX4) (T := TX4) (N := 14) hx hb hts nX4_fan_4 tyX4 tyX4_ok nmX4 hown hK hP hD hS 0 rfl rfl 0 (by decide) (zh (w := .fieldLink RX4 47 "FretRootsModel" "thrown" "I") hts 2 rfl) (fun _ h9 => h9) rfl (by decide +kernel) rfl rfl (Nat.le_of_ble_eq_true rfl) dX4_fan_32 (fun H locs hP hD hS => ?_)
        have hP : va_P D cl5 [(m_, .inr (4, [.int (nI 1), .int nn_, .long le_, .int sh_, .ref ab_, .ref be_, .long ca_, .long cb_, .long oc_, .long st_, .int bs_, .int tr_, .int sp_, .ref rr_]))] H := hP
        have hD : va_D A [(m_, .inr (4, [.int (nI 1), .int nn_, .long le_, .int sh_, .ref ab_, .ref be_, .long ca_, .long cb_, .long oc_, .long st_, .int bs_, .int tr_, .int sp_, .ref rr_]))] := hD
        refine lv_aload_n hx hb dX4_fan_35 rfl (lv_at hl 0 rfl) ?_
        refine va_get (D := D) (ci := 4) (v := .int (nI 1)) (C := RX4) (T := TX4) (N := 14) hx hb hts nX4_fan_4 hown hK hP 0 rfl rfl 0 (by decide) (zh (w := .fieldLink RX4 47 "FretRootsModel" "thrown" "I") hts 2 rfl) (fun _ h9 => h9) rfl dX4_fan_36 ?_
        refine lv_if_ne (tgt := 57) hx hb dX4_fan_39 (by decide) (fun c_39 => ?_) (fun c_39 => ?_)
        · skip
          have c_39 := zji_ne (a := 1) (b := 0) (by omega) (by omega) c_39
          subst hQ
          exact ze_v hx hb hr hlocks (nI 1, bs_, tr_, sp_) (⟨by rw [hcd], by first | exact fun _ => ⟨rfl, rfl, rfl⟩ | exact fun q => absurd q (by omega), by first | exact fun _ => ⟨rfl, rfl, rfl⟩ | exact fun q => absurd hcd q⟩) hP hK hD hS dX4_fan_57
        · skip
          exact absurd c_39 (by decide)
      · skip
        have c_24 := zji_ne (a := inI s_.toInt64 (lN 1) (lN 1000)) (b := 0) (by omega) (by omega) c_24
        have hcd : cdFan b_ t_ s_ = 0 := if_neg (fun q => by rcases q with q | q | q; exact c_5 q; exact c_12 q; exact c_24 q)
        refine lv_iconst (v := nI 0) hx hb dX4_fan_27 (by decide) ?_
        refine lv_goto (tgt := 32) hx hb dX4_fan_28 (by decide) ?_
        refine va_put (D := D) (ci := 4) (v := .int (nI 0)) (ty := .int) (C := RX4) (T := TX4) (N := 14) hx hb hts nX4_fan_4 tyX4 tyX4_ok nmX4 hown hK hP hD hS 0 rfl rfl 0 (by decide) (zh (w := .fieldLink RX4 47 "FretRootsModel" "thrown" "I") hts 2 rfl) (fun _ h9 => h9) rfl (by decide +kernel) rfl rfl (Nat.le_of_ble_eq_true rfl) dX4_fan_32 (fun H locs hP hD hS => ?_)
        have hP : va_P D cl5 [(m_, .inr (4, [.int (nI 0), .int nn_, .long le_, .int sh_, .ref ab_, .ref be_, .long ca_, .long cb_, .long oc_, .long st_, .int bs_, .int tr_, .int sp_, .ref rr_]))] H := hP
        have hD : va_D A [(m_, .inr (4, [.int (nI 0), .int nn_, .long le_, .int sh_, .ref ab_, .ref be_, .long ca_, .long cb_, .long oc_, .long st_, .int bs_, .int tr_, .int sp_, .ref rr_]))] := hD
        refine lv_aload_n hx hb dX4_fan_35 rfl (lv_at hl 0 rfl) ?_
        refine va_get (D := D) (ci := 4) (v := .int (nI 0)) (C := RX4) (T := TX4) (N := 14) hx hb hts nX4_fan_4 hown hK hP 0 rfl rfl 0 (by decide) (zh (w := .fieldLink RX4 47 "FretRootsModel" "thrown" "I") hts 2 rfl) (fun _ h9 => h9) rfl dX4_fan_36 ?_
        refine lv_if_ne (tgt := 57) hx hb dX4_fan_39 (by decide) (fun c_39 => ?_) (fun c_39 => ?_)
        · skip
          exact absurd c_39 (by decide)
        · skip
          have c_39 := zji_eq (a := 0) (b := 0) (by omega) (by omega) c_39
          refine lv_aload_n hx hb dX4_fan_42 rfl (lv_at hl 0 rfl) ?_
          refine lv_iload_n hx hb dX4_fan_43 rfl (lv_at hl 1 rfl) ?_
          refine va_put (D := D) (ci := 4) (v := .int b_) (ty := .int) (C := RX4) (T := TX4) (N := 14) hx hb hts nX4_fan_4 tyX4 tyX4_ok nmX4 hown hK hP hD hS 0 rfl rfl 10 (by decide) (zh (w := .fieldLink RX4 32 "FretRootsModel" "bass" "I") hts 3 rfl) (fun _ h9 => h9) rfl (by decide +kernel) rfl rfl (Nat.le_of_ble_eq_true rfl) dX4_fan_44 (fun H locs hP hD hS => ?_)
          have hP : va_P D cl5 [(m_, .inr (4, [.int (nI 0), .int nn_, .long le_, .int sh_, .ref ab_, .ref be_, .long ca_, .long cb_, .long oc_, .long st_, .int b_, .int tr_, .int sp_, .ref rr_]))] H := hP
          have hD : va_D A [(m_, .inr (4, [.int (nI 0), .int nn_, .long le_, .int sh_, .ref ab_, .ref be_, .long ca_, .long cb_, .long oc_, .long st_, .int b_, .int tr_, .int sp_, .ref rr_]))] := hD
          refine lv_aload_n hx hb dX4_fan_47 rfl (lv_at hl 0 rfl) ?_
          refine lv_iload_n hx hb dX4_fan_48 rfl (lv_at hl 2 rfl) ?_
          refine va_put (D := D) (ci := 4) (v := .int t_) (ty := .int) (C := RX4) (T := TX4) (N := 14) hx hb hts nX4_fan_4 tyX4 tyX4_ok nmX4 hown hK hP hD hS 0 rfl rfl 11 (by decide) (zh (w := .fieldLink RX4 35 "FretRootsModel" "treble" "I") hts 4 rfl) (fun _ h9 => h9) rfl (by decide +kernel) rfl rfl (Nat.le_of_ble_eq_true rfl) dX4_fan_49 (fun H locs hP hD hS => ?_)
          have hP : va_P D cl5 [(m_, .inr (4, [.int (nI 0), .int nn_, .long le_, .int sh_, .ref ab_, .ref be_, .long ca_, .long cb_, .long oc_, .long st_, .int b_, .int t_, .int sp_, .ref rr_]))] H := hP
          have hD : va_D A [(m_, .inr (4, [.int (nI 0), .int nn_, .long le_, .int sh_, .ref ab_, .ref be_, .long ca_, .long cb_, .long oc_, .long st_, .int b_, .int t_, .int sp_, .ref rr_]))] := hD
          refine lv_aload_n hx hb dX4_fan_52 rfl (lv_at hl 0 rfl) ?_
          refine lv_iload_n hx hb dX4_fan_53 rfl (lv_at hl 3 rfl) ?_
          refine va_put (D := D) (ci := 4) (v := .int s_) (ty := .int) (C := RX4) (T := TX4) (N := 14) hx hb hts nX4_fan_4 tyX4 tyX4_ok nmX4 hown hK hP hD hS 0 rfl rfl 12 (by decide) (zh (w := .fieldLink RX4 38 "FretRootsModel" "span" "I") hts 5 rfl) (fun _ h9 => h9) rfl (by decide +kernel) rfl rfl (Nat.le_of_ble_eq_true rfl) dX4_fan_54 (fun H locs hP hD hS => ?_)
          have hP : va_P D cl5 [(m_, .inr (4, [.int (nI 0), .int nn_, .long le_, .int sh_, .ref ab_, .ref be_, .long ca_, .long cb_, .long oc_, .long st_, .int b_, .int t_, .int s_, .ref rr_]))] H := hP
          have hD : va_D A [(m_, .inr (4, [.int (nI 0), .int nn_, .long le_, .int sh_, .ref ab_, .ref be_, .long ca_, .long cb_, .long oc_, .long st_, .int b_, .int t_, .int s_, .ref rr_]))] := hD
          subst hQ
          exact ze_v hx hb hr hlocks (nI 0, b_, t_, s_) (⟨by rw [hcd], by first | exact fun _ => ⟨rfl, rfl, rfl⟩ | exact fun q => absurd q (by omega), by first | exact fun _ => ⟨rfl, rfl, rfl⟩ | exact fun q => absurd hcd q⟩) hP hK hD hS dX4_fan_57
theorem nX4_cross_4 : ∀ w ∈ wsX40, w ∈ wsX4_cross := by decide +kernel
abbrev rm_X4_cross : Room := { frames := 4, cells := 0, slots := 0, locals := 121 }
set_option maxHeartbeats 4000000 in
set_option maxRecDepth 100000 in
/-- cross of the reference -/
theorem ct_X4_cross (l : Launch) (D : va_G) (cI cJ cD : ClassId) (m_ : Nat) (ab_ : Nat) (be_ : Nat) (rr_ : Nat) (th_ : Int32) (ca_ : Int64) (cb_ : Int64) (oc_ : Int64) (st_ : Int64) (n_ : Nat) (w_ : Nat) (h_ : Nat) (bs_ : Nat) (tr_ : Nat) (sp_ : Nat) (g_ : Nat → Int32) (k_ : Int32) (a_ : Int32) (p_ : Int32) (sz : Nat) (hn1 : 1 ≤ n_) (hn : n_ ≤ 24) (hh : h_ ≤ 16) (hbs : bs_ ≤ 1000000) (htr : tr_ ≤ 1000000) (hsp1 : 1 ≤ sp_) (hsp : sp_ ≤ 1000) : Met l yX4_cross wsX4_cross rm_X4_cross (zP D (ty3 cI cJ cD) [.ref m_, .int k_, .int a_, .int p_] sz [(m_, .inr (4, [.int th_, .int (nI n_), .long (lN w_), .int (nI h_), .ref ab_, .ref be_, .long ca_, .long cb_, .long oc_, .long st_, .int (nI bs_), .int (nI tr_), .int (nI sp_), .ref rr_])), (rr_, .inl (cI, 152, .inl g_))] zT) (va_Ql (fun (r : Int64) (u : Int32 × (Nat → Int32)) => (u.1) = nI (cdCross k_ a_ p_ n_ sp_) ∧ (cdCross k_ a_ p_ n_ sp_ = 0 → ∃ kk aa w v, k_ = nI kk ∧ a_ = nI aa ∧ kk ≤ 2 * n_ ∧ aa ≤ sp_ ∧ rootI n_ kk (bs_ * 2 ^ h_) w ∧ rootI n_ kk (tr_ * 2 ^ h_) v ∧ r = lN (if p_ = 0 then (w * (sp_ - aa) + v * aa) / sp_ else (w * (sp_ - aa) + v * aa) % sp_))) (zB D (ty3 cI cJ cD) (fun (u : Int32 × (Nat → Int32)) => [(m_, .inr (4, [.int (u.1), .int (nI n_), .long (lN w_), .int (nI h_), .ref ab_, .ref be_, .long ca_, .long cb_, .long oc_, .long st_, .int (nI bs_), .int (nI tr_), .int (nI sp_), .ref rr_])), (rr_, .inl (cI, 152, .inl (u.2)))]) (va_A [(m_, .inr (4, [.int th_, .int (nI n_), .long (lN w_), .int (nI h_), .ref ab_, .ref be_, .long ca_, .long cb_, .long oc_, .long st_, .int (nI bs_), .int (nI tr_), .int (nI sp_), .ref rr_])), (rr_, .inl (cI, 152, .inl g_))] sz)) (va_A [(m_, .inr (4, [.int th_, .int (nI n_), .long (lN w_), .int (nI h_), .ref ab_, .ref be_, .long ca_, .long cb_, .long oc_, .long st_, .int (nI bs_), .int (nI tr_), .int (nI sp_), .ref rr_])), (rr_, .inl (cI, 152, .inl g_))] sz)) 0 0 (va_A [(m_, .inr (4, [.int th_, .int (nI n_), .long (lN w_), .int (nI h_), .ref ab_, .ref be_, .long ca_, .long cb_, .long oc_, .long st_, .int (nI bs_), .int (nI tr_), .int (nI sp_), .ref rr_])), (rr_, .inl (cI, 152, .inl g_))] sz) := by
  refine zMet (Qf := fun A => va_Ql (fun (r : Int64) (u : Int32 × (Nat → Int32)) => (u.1) = nI (cdCross k_ a_ p_ n_ sp_) ∧ (cdCross k_ a_ p_ n_ sp_ = 0 → ∃ kk aa w v, k_ = nI kk ∧ a_ = nI aa ∧ kk ≤ 2 * n_ ∧ aa ≤ sp_ ∧ rootI n_ kk (bs_ * 2 ^ h_) w ∧ rootI n_ kk (tr_ * 2 ^ h_) v ∧ r = lN (if p_ = 0 then (w * (sp_ - aa) + v * aa) / sp_ else (w * (sp_ - aa) + v * aa) % sp_))) (zB D (ty3 cI cJ cD) (fun (u : Int32 × (Nat → Int32)) => [(m_, .inr (4, [.int (u.1), .int (nI n_), .long (lN w_), .int (nI h_), .ref ab_, .ref be_, .long ca_, .long cb_, .long oc_, .long st_, .int (nI bs_), .int (nI tr_), .int (nI sp_), .ref rr_])), (rr_, .inl (cI, 152, .inl (u.2)))]) A) A) (cc := cX4_cross) (maxL := 6) (ret := (some .long)) (by decide) rfl (Nat.le_of_ble_eq_true rfl) ?_
  intro p e s m args below meth c A ls Q H hargs hQ hHe hx hb hr hml hown hts hlocks hin hP hK hD hA hS hE hAe hl
  have hl : lv_has ls 6 [(0, .ref m_), (1, .int k_), (2, .int a_), (3, .int p_)] := hl
  have hb6 := own_le hbs hh
  have ht6 := own_le htr hh
  refine lv_aload_n hx hb dX4_cross_0 rfl (lv_at hl 0 rfl) ?_
  refine lv_aload_n hx hb dX4_cross_1 rfl (lv_at hl 0 rfl) ?_
  refine lv_iload_n hx hb dX4_cross_2 rfl (lv_at hl 1 rfl) ?_
  refine zc_i (wc := [(m_, .inr (4, [.int th_, .int (nI n_), .long (lN w_), .int (nI h_), .ref ab_, .ref be_, .long ca_, .long cb_, .long oc_, .long st_, .int (nI bs_), .int (nI tr_), .int (nI sp_), .ref rr_]))]) (wr := [(rr_, .inl (cI, 152, .inl g_))]) hP hD hS hA [0] [1] rfl rfl (by decide) (by decide) (va_runV (As := [.int k_]) (rest := [.ref m_]) ⟨hx, hb, hml, hown, hts⟩ (ct_X4_noPlace l D cI cJ cD m_ ab_ be_ rr_ th_ (nI h_) (nI bs_) (nI tr_) (nI sp_) (lN w_) ca_ cb_ oc_ st_ n_ k_ H.size (by omega)) (cwV 1 hts gX4_cross_X4_noPlace rfl rfl rfl (by decide +kernel) ⟨Nat.le_of_ble_eq_true rfl, Nat.le_of_ble_eq_true rfl⟩) (zPreV (wc := [(m_, .inr (4, [.int th_, .int (nI n_), .long (lN w_), .int (nI h_), .ref ab_, .ref be_, .long ca_, .long cb_, .long oc_, .long st_, .int (nI bs_), .int (nI tr_), .int (nI sp_), .ref rr_]))]) hK (hP.sub [0] rfl) (hD.sub [0] (by decide) rfl) 4 0 rfl rfl zTb (fun _ _ _ => trivial)) rfl rfl hl.1 rfl (lv_room (Nat.le_of_ble_eq_true rfl)) dX4_cross_3 ⟨Nat.le_of_ble_eq_true rfl, Nat.le_of_ble_eq_true rfl⟩) (fun r_1 u9_ H locs hw hP hD hS => ?_)
  have hP : va_P D cl5 [(m_, .inr (4, [.int th_, .int (nI n_), .long (lN w_), .int (nI h_), .ref ab_, .ref be_, .long ca_, .long cb_, .long oc_, .long st_, .int (nI bs_), .int (nI tr_), .int (nI sp_), .ref rr_])), (rr_, .inl (cI, 152, .inl g_))] H := hP.sub [1, 0] rfl
  have hD : va_D A [(m_, .inr (4, [.int th_, .int (nI n_), .long (lN w_), .int (nI h_), .ref ab_, .ref be_, .long ca_, .long cb_, .long oc_, .long st_, .int (nI bs_), .int (nI tr_), .int (nI sp_), .ref rr_])), (rr_, .inl (cI, 152, .inl g_))] := hD.sub [1, 0] (by decide) rfl
  have hw : r_1 = nI (npI k_ n_) ∧ npI k_ n_ ≤ 1 := hw
  obtain ⟨rfl, hb_3⟩ := hw
  refine lv_if_ne (tgt := 19) hx hb dX4_cross_6 (by decide) (fun c_6 => ?_) (fun c_6 => ?_)
  · skip
    have c_6 := zji_ne (a := npI k_ n_) (b := 0) (by omega) (by omega) c_6
    have hcd : cdCross k_ a_ p_ n_ sp_ = 1 := if_pos (Or.inl (by omega))
    refine lv_iconst (v := nI 1) hx hb dX4_cross_19 (by decide) ?_
    refine lv_goto (tgt := 42) hx hb dX4_cross_20 (by decide) ?_
    refine va_put (D := D) (ci := 4) (v := .int (nI 1)) (ty := .int) (C := RX4) (T := TX4) (N := 14) hx hb hts nX4_cross_4 tyX4 tyX4_ok nmX4 hown hK hP hD hS 0 rfl rfl 0 (by decide) (zh (w := .fieldLink RX4 47 "FretRootsModel" "thrown" "I") hts 2 rfl) (fun _ h9 => h9) rfl (by decide +kernel) rfl rfl (Nat.le_of_ble_eq_true rfl) dX4_cross_42 (fun H locs hP hD hS => ?_)
    have hP : va_P D cl5 [(m_, .inr (4, [.int (nI 1), .int (nI n_), .long (lN w_), .int (nI h_), .ref ab_, .ref be_, .long ca_, .long cb_, .long oc_, .long st_, .int (nI bs_), .int (nI tr_), .int (nI sp_), .ref rr_])), (rr_, .inl (cI, 152, .inl g_))] H := hP
    have hD : va_D A [(m_, .inr (4, [.int (nI 1), .int (nI n_), .long (lN w_), .int (nI h_), .ref ab_, .ref be_, .long ca_, .long cb_, .long oc_, .long st_, .int (nI bs_), .int (nI tr_), .int (nI sp_), .ref rr_])), (rr_, .inl (cI, 152, .inl g_))] := hD
    refine lv_aload_n hx hb dX4_cross_45 rfl (lv_at hl 0 rfl) ?_
    refine va_get (D := D) (ci := 4) (v := .int (nI 1)) (C := RX4) (T := TX4) (N := 14) hx hb hts nX4_cross_4 hown hK hP 0 rfl rfl 0 (by decide) (zh (w := .fieldLink RX4 47 "FretRootsModel" "thrown" "I") hts 2 rfl) (fun _ h9 => h9) rfl dX4_cross_46 ?_
    refine lv_if_le (tgt := 54) hx hb dX4_cross_49 (by decide) (fun c_49 => ?_) (fun c_49 => ?_)
    · skip
      exact absurd c_49 (by decide)
    · skip
      have c_49 := zji_nle (a := 1) (b := 0) (by omega) (by omega) c_49
      refine lv_lconst (v := lN 0) hx hb dX4_cross_52 rfl ?_
      subst hQ
      exact ze_l hx hb hr hlocks (nI 1, g_) (⟨by rw [hcd], fun q => absurd q (by omega)⟩) hP hK hD hS dX4_cross_53
  · skip
    have c_6 := zji_eq (a := npI k_ n_) (b := 0) (by omega) (by omega) c_6
    refine lv_iload_n hx hb dX4_cross_9 rfl (lv_at hl 3 rfl) ?_
    refine lv_i2l (v := p_.toInt64) hx hb dX4_cross_10 rfl ?_
    refine lv_lconst (v := lN 0) hx hb dX4_cross_11 rfl ?_
    refine lv_lconst (v := lN 1) hx hb dX4_cross_12 rfl ?_
    refine zc_i (wc := []) (wr := [(m_, .inr (4, [.int th_, .int (nI n_), .long (lN w_), .int (nI h_), .ref ab_, .ref be_, .long ca_, .long cb_, .long oc_, .long st_, .int (nI bs_), .int (nI tr_), .int (nI sp_), .ref rr_])), (rr_, .inl (cI, 152, .inl g_))]) hP hD hS hA [] [0, 1] rfl rfl (by decide) (by decide) (va_runS (As := [.long p_.toInt64, .long (lN 0), .long (lN 1)]) (rest := [.ref m_]) ⟨hx, hb, hml, hown, hts⟩ (ct_X4_isIn l D cI cJ cD p_.toInt64 (lN 0) (lN 1) H.size ) (va_cwS 3 hts gX4_cross_X4_isIn rfl rfl rfl (by decide +kernel) ⟨Nat.le_of_ble_eq_true rfl, Nat.le_of_ble_eq_true rfl⟩) (zPreS (wc := []) hK (hP.sub [] rfl) (hD.sub [] (by decide) rfl) zTb (fun _ _ _ => trivial)) rfl rfl hl.1 rfl (lv_room (Nat.le_of_ble_eq_true rfl)) dX4_cross_13 ⟨Nat.le_of_ble_eq_true rfl, Nat.le_of_ble_eq_true rfl⟩) (fun r_2 u9_ H locs hw hP hD hS => ?_)
    have hP : va_P D cl5 [(m_, .inr (4, [.int th_, .int (nI n_), .long (lN w_), .int (nI h_), .ref ab_, .ref be_, .long ca_, .long cb_, .long oc_, .long st_, .int (nI bs_), .int (nI tr_), .int (nI sp_), .ref rr_])), (rr_, .inl (cI, 152, .inl g_))] H := hP.sub [0, 1] rfl
    have hD : va_D A [(m_, .inr (4, [.int th_, .int (nI n_), .long (lN w_), .int (nI h_), .ref ab_, .ref be_, .long ca_, .long cb_, .long oc_, .long st_, .int (nI bs_), .int (nI tr_), .int (nI sp_), .ref rr_])), (rr_, .inl (cI, 152, .inl g_))] := hD.sub [0, 1] (by decide) rfl
    have hw : r_2 = nI (inI p_.toInt64 (lN 0) (lN 1)) ∧ inI p_.toInt64 (lN 0) (lN 1) ≤ 1 := hw
    obtain ⟨rfl, hb_13⟩ := hw
    refine lv_if_ne (tgt := 23) hx hb dX4_cross_16 (by decide) (fun c_16 => ?_) (fun c_16 => ?_)
    · skip
      have c_16 := zji_ne (a := inI p_.toInt64 (lN 0) (lN 1)) (b := 0) (by omega) (by omega) c_16
      have hno : ¬ (npI k_ n_ = 1 ∨ prI p_ 1 = 0) := fun q => by rcases q with q | q; omega; exact c_16 q
      refine lv_iload_n hx hb dX4_cross_23 rfl (lv_at hl 2 rfl) ?_
      refine lv_i2l (v := a_.toInt64) hx hb dX4_cross_24 rfl ?_
      refine lv_lconst (v := lN 0) hx hb dX4_cross_25 rfl ?_
      refine lv_aload_n hx hb dX4_cross_26 rfl (lv_at hl 0 rfl) ?_
      refine va_get (D := D) (ci := 4) (v := .int (nI sp_)) (C := RX4) (T := TX4) (N := 14) hx hb hts nX4_cross_4 hown hK hP 0 rfl rfl 12 (by decide) (zh (w := .fieldLink RX4 38 "FretRootsModel" "span" "I") hts 1 rfl) (fun _ h9 => h9) rfl dX4_cross_27 ?_
      refine lv_i2l (v := lN sp_) hx hb dX4_cross_30 (nI_l (by omega)) ?_
      refine zc_i (wc := []) (wr := [(m_, .inr (4, [.int th_, .int (nI n_), .long (lN w_), .int (nI h_), .ref ab_, .ref be_, .long ca_, .long cb_, .long oc_, .long st_, .int (nI bs_), .int (nI tr_), .int (nI sp_), .ref rr_])), (rr_, .inl (cI, 152, .inl g_))]) hP hD hS hA [] [0, 1] rfl rfl (by decide) (by decide) (va_runS (As := [.long a_.toInt64, .long (lN 0), .long (lN sp_)]) (rest := [.ref m_]) ⟨hx, hb, hml, hown, hts⟩ (ct_X4_isIn l D cI cJ cD a_.toInt64 (lN 0) (lN sp_) H.size ) (va_cwS 3 hts gX4_cross_X4_isIn rfl rfl rfl (by decide +kernel) ⟨Nat.le_of_ble_eq_true rfl, Nat.le_of_ble_eq_true rfl⟩) (zPreS (wc := []) hK (hP.sub [] rfl) (hD.sub [] (by decide) rfl) zTb (fun _ _ _ => trivial)) rfl rfl hl.1 rfl (lv_room (Nat.le_of_ble_eq_true rfl)) dX4_cross_31 ⟨Nat.le_of_ble_eq_true rfl, Nat.le_of_ble_eq_true rfl⟩) (fun r_3 u9_ H locs hw hP hD hS => ?_)
      have hP : va_P D cl5 [(m_, .inr (4, [.int th_, .int (nI n_), .long (lN w_), .int (nI h_), .ref ab_, .ref be_, .long ca_, .long cb_, .long oc_, .long st_, .int (nI bs_), .int (nI tr_), .int (nI sp_), .ref rr_])), (rr_, .inl (cI, 152, .inl g_))] H := hP.sub [0, 1] rfl
      have hD : va_D A [(m_, .inr (4, [.int th_, .int (nI n_), .long (lN w_), .int (nI h_), .ref ab_, .ref be_, .long ca_, .long cb_, .long oc_, .long st_, .int (nI bs_), .int (nI tr_), .int (nI sp_), .ref rr_])), (rr_, .inl (cI, 152, .inl g_))] := hD.sub [0, 1] (by decide) rfl
      have hw : r_3 = nI (inI a_.toInt64 (lN 0) (lN sp_)) ∧ inI a_.toInt64 (lN 0) (lN sp_) ≤ 1 := hw
      obtain ⟨rfl, hb_31⟩ := hw
      refine lv_if_eq (tgt := 41) hx hb dX4_cross_34 (by decide) (fun c_34 => ?_) (fun c_34 => ?_)
      · skip
        have c_34 := zji_eq (a := inI a_.toInt64 (lN 0) (lN sp_)) (b := 0) (by omega) (by omega) c_34
        have hcd : cdCross k_ a_ p_ n_ sp_ = 2 := by unfold cdCross; rw [if_neg hno, if_pos c_34]
        refine lv_iconst (v := nI 2) hx hb dX4_cross_41 (by decide) ?_
        refine va_put (D := D) (ci := 4) (v := .int (nI 2)) (ty := .int) (C := RX4) (T := TX4) (N := 14) hx hb hts nX4_cross_4 tyX4 tyX4_ok nmX4 hown hK hP hD hS 0 rfl rfl 0 (by decide) (zh (w := .fieldLink RX4 47 "FretRootsModel" "thrown" "I") hts 2 rfl) (fun _ h9 => h9) rfl (by decide +kernel) rfl rfl (Nat.le_of_ble_eq_true rfl) dX4_cross_42 (fun H locs hP hD hS => ?_)
        have hP : va_P D cl5 [(m_, .inr (4, [.int (nI 2), .int (nI n_), .long (lN w_), .int (nI h_), .ref ab_, .ref be_, .long ca_, .long cb_, .long oc_, .long st_, .int (nI bs_), .int (nI tr_), .int (nI sp_), .ref rr_])), (rr_, .inl (cI, 152, .inl g_))] H := hP
        have hD : va_D A [(m_, .inr (4, [.int (nI 2), .int (nI n_), .long (lN w_), .int (nI h_), .ref ab_, .ref be_, .long ca_, .long cb_, .long oc_, .long st_, .int (nI bs_), .int (nI tr_), .int (nI sp_), .ref rr_])), (rr_, .inl (cI, 152, .inl g_))] := hD
        refine lv_aload_n hx hb dX4_cross_45 rfl (lv_at hl 0 rfl) ?_
        refine va_get (D := D) (ci := 4) (v := .int (nI 2)) (C := RX4) (T := TX4) (N := 14) hx hb hts nX4_cross_4 hown hK hP 0 rfl rfl 0 (by decide) (zh (w := .fieldLink RX4 47 "FretRootsModel" "thrown" "I") hts 2 rfl) (fun _ h9 => h9) rfl dX4_cross_46 ?_
        refine lv_if_le (tgt := 54) hx hb dX4_cross_49 (by decide) (fun c_49 => ?_) (fun c_49 => ?_)
        · skip
          exact absurd c_49 (by decide)
        · skip
          have c_49 := zji_nle (a := 2) (b := 0) (by omega) (by omega) c_49
          refine lv_lconst (v := lN 0) hx hb dX4_cross_52 rfl ?_
          subst hQ
          exact ze_l hx hb hr hlocks (nI 2, g_) (⟨by rw [hcd], fun q => absurd q (by omega)⟩) hP hK hD hS dX4_cross_53
      · skip
        have c_34 := zji_ne (a := inI a_.toInt64 (lN 0) (lN sp_)) (b := 0) (by omega) (by omega) c_34
        have hcd : cdCross k_ a_ p_ n_ sp_ = 0 := by unfold cdCross; rw [if_neg hno, if_neg c_34]
        obtain ⟨kk, ek, hkk⟩ := np_ok hn c_6
        obtain ⟨aa, ea, haa1, haa⟩ := inI_okI (by decide) (by omega) c_34
        refine lv_iconst (v := nI 0) hx hb dX4_cross_37 (by decide) ?_
        refine lv_goto (tgt := 42) hx hb dX4_cross_38 (by decide) ?_
        refine va_put (D := D) (ci := 4) (v := .int (nI 0)) (ty := .int) (C := RX4) (T := TX4) (N := 14) hx hb hts nX4_cross_4 tyX4 tyX4_ok nmX4 hown hK hP hD hS 0 rfl rfl 0 (by decide) (zh (w := .fieldLink RX4 47 "FretRootsModel" "thrown" "I") hts 2 rfl) (fun _ h9 => h9) rfl (by decide +kernel) rfl rfl (Nat.le_of_ble_eq_true rfl) dX4_cross_42 (fun H locs hP hD hS => ?_)
        have hP : va_P D cl5 [(m_, .inr (4, [.int (nI 0), .int (nI n_), .long (lN w_), .int (nI h_), .ref ab_, .ref be_, .long ca_, .long cb_, .long oc_, .long st_, .int (nI bs_), .int (nI tr_), .int (nI sp_), .ref rr_])), (rr_, .inl (cI, 152, .inl g_))] H := hP
        have hD : va_D A [(m_, .inr (4, [.int (nI 0), .int (nI n_), .long (lN w_), .int (nI h_), .ref ab_, .ref be_, .long ca_, .long cb_, .long oc_, .long st_, .int (nI bs_), .int (nI tr_), .int (nI sp_), .ref rr_])), (rr_, .inl (cI, 152, .inl g_))] := hD
        refine lv_aload_n hx hb dX4_cross_45 rfl (lv_at hl 0 rfl) ?_
        refine va_get (D := D) (ci := 4) (v := .int (nI 0)) (C := RX4) (T := TX4) (N := 14) hx hb hts nX4_cross_4 hown hK hP 0 rfl rfl 0 (by decide) (zh (w := .fieldLink RX4 47 "FretRootsModel" "thrown" "I") hts 2 rfl) (fun _ h9 => h9) rfl dX4_cross_46 ?_
        refine lv_if_le (tgt := 54) hx hb dX4_cross_49 (by decide) (fun c_49 => ?_) (fun c_49 => ?_)
        · skip
          have c_49 := zji_le (a := 0) (b := 0) (by omega) (by omega) c_49
          refine lv_aload_n hx hb dX4_cross_54 rfl (lv_at hl 0 rfl) ?_
          refine lv_iload_n hx hb dX4_cross_55 rfl (lv_at hl 1 rfl) ?_
          refine zi_ (y := nI kk) (ek) ?_
          refine lv_aload_n hx hb dX4_cross_56 rfl (lv_at hl 0 rfl) ?_
          refine va_get (D := D) (ci := 4) (v := .int (nI bs_)) (C := RX4) (T := TX4) (N := 14) hx hb hts nX4_cross_4 hown hK hP 0 rfl rfl 10 (by decide) (zh (w := .fieldLink RX4 32 "FretRootsModel" "bass" "I") hts 3 rfl) (fun _ h9 => h9) rfl dX4_cross_57 ?_
          refine lv_i2l (v := lN bs_) hx hb dX4_cross_60 (nI_l (by omega)) ?_
          refine zc_l (wc := [(m_, .inr (4, [.int (nI 0), .int (nI n_), .long (lN w_), .int (nI h_), .ref ab_, .ref be_, .long ca_, .long cb_, .long oc_, .long st_, .int (nI bs_), .int (nI tr_), .int (nI sp_), .ref rr_])), (rr_, .inl (cI, 152, .inl g_))]) (wr := []) hP hD hS hA [0, 1] [] rfl rfl (by decide) (by decide) (va_runV (As := [.int (nI kk), .long (lN bs_)]) (rest := []) ⟨hx, hb, hml, hown, hts⟩ (ct_X4_lower l D cI cJ cD m_ ab_ be_ rr_ (nI 0) (nI bs_) (nI tr_) (nI sp_) (lN w_) ca_ cb_ oc_ st_ n_ kk bs_ h_ g_ H.size (by omega) (by omega) (by omega) (by omega) (by omega)) (cwV 2 hts gX4_cross_X4_lower rfl rfl rfl (by decide +kernel) ⟨Nat.le_of_ble_eq_true rfl, Nat.le_of_ble_eq_true rfl⟩) (zPreV (wc := [(m_, .inr (4, [.int (nI 0), .int (nI n_), .long (lN w_), .int (nI h_), .ref ab_, .ref be_, .long ca_, .long cb_, .long oc_, .long st_, .int (nI bs_), .int (nI tr_), .int (nI sp_), .ref rr_])), (rr_, .inl (cI, 152, .inl g_))]) hK hP hD 4 0 rfl rfl zTb (fun _ _ _ => trivial)) rfl rfl hl.1 rfl (lv_room (Nat.le_of_ble_eq_true rfl)) dX4_cross_61 ⟨Nat.le_of_ble_eq_true rfl, Nat.le_of_ble_eq_true rfl⟩) (fun r_4 u9_ H locs hw hP hD hS => ?_)
          obtain ⟨w9, g2_5⟩ := u9_
          have hP : va_P D cl5 [(m_, .inr (4, [.int (nI 0), .int (nI n_), .long (lN w_), .int (nI h_), .ref ab_, .ref be_, .long ca_, .long cb_, .long oc_, .long st_, .int (nI bs_), .int (nI tr_), .int (nI sp_), .ref rr_])), (rr_, .inl (cI, 152, .inl g2_5))] H := hP.sub [0, 1] rfl
          have hD : va_D A [(m_, .inr (4, [.int (nI 0), .int (nI n_), .long (lN w_), .int (nI h_), .ref ab_, .ref be_, .long ca_, .long cb_, .long oc_, .long st_, .int (nI bs_), .int (nI tr_), .int (nI sp_), .ref rr_])), (rr_, .inl (cI, 152, .inl g2_5))] := hD.sub [0, 1] (by decide) rfl
          have hw : r_4 = lN w9 ∧ rootI n_ kk (bs_ * 2 ^ h_) w9 := hw
          obtain ⟨rfl, hR_61⟩ := hw
          have hw9 := root_le hn1 hR_61
          refine lv_aload_n hx hb dX4_cross_64 rfl (lv_at hl 0 rfl) ?_
          refine va_get (D := D) (ci := 4) (v := .int (nI sp_)) (C := RX4) (T := TX4) (N := 14) hx hb hts nX4_cross_4 hown hK hP 0 rfl rfl 12 (by decide) (zh (w := .fieldLink RX4 38 "FretRootsModel" "span" "I") hts 1 rfl) (fun _ h9 => h9) rfl dX4_cross_65 ?_
          refine lv_iload_n hx hb dX4_cross_68 rfl (lv_at hl 2 rfl) ?_
          refine zi_ (y := nI aa) (ea) ?_
          refine lv_isub hx hb dX4_cross_69 ?_
          refine zi_ (y := nI (sp_ - aa)) (pk_sub (by omega)) ?_
          refine lv_i2l (v := lN (sp_ - aa)) hx hb dX4_cross_70 (nI_l (by omega)) ?_
          refine lv_lmul hx hb dX4_cross_71 ?_
          refine zl_ (y := lN (w9 * (sp_ - aa))) (lN_mul w9 (sp_ - aa)) ?_
          refine lv_aload_n hx hb dX4_cross_72 rfl (lv_at hl 0 rfl) ?_
          refine lv_iload_n hx hb dX4_cross_73 rfl (lv_at hl 1 rfl) ?_
          refine zi_ (y := nI kk) (ek) ?_
          refine lv_aload_n hx hb dX4_cross_74 rfl (lv_at hl 0 rfl) ?_
          refine va_get (D := D) (ci := 4) (v := .int (nI tr_)) (C := RX4) (T := TX4) (N := 14) hx hb hts nX4_cross_4 hown hK hP 0 rfl rfl 11 (by decide) (zh (w := .fieldLink RX4 35 "FretRootsModel" "treble" "I") hts 4 rfl) (fun _ h9 => h9) rfl dX4_cross_75 ?_
          refine lv_i2l (v := lN tr_) hx hb dX4_cross_78 (nI_l (by omega)) ?_
          refine zc_l (wc := [(m_, .inr (4, [.int (nI 0), .int (nI n_), .long (lN w_), .int (nI h_), .ref ab_, .ref be_, .long ca_, .long cb_, .long oc_, .long st_, .int (nI bs_), .int (nI tr_), .int (nI sp_), .ref rr_])), (rr_, .inl (cI, 152, .inl g2_5))]) (wr := []) hP hD hS hA [0, 1] [] rfl rfl (by decide) (by decide) (va_runV (As := [.int (nI kk), .long (lN tr_)]) (rest := [.long (lN (w9 * (sp_ - aa)))]) ⟨hx, hb, hml, hown, hts⟩ (ct_X4_lower l D cI cJ cD m_ ab_ be_ rr_ (nI 0) (nI bs_) (nI tr_) (nI sp_) (lN w_) ca_ cb_ oc_ st_ n_ kk tr_ h_ g2_5 H.size (by omega) (by omega) (by omega) (by omega) (by omega)) (cwV 2 hts gX4_cross_X4_lower rfl rfl rfl (by decide +kernel) ⟨Nat.le_of_ble_eq_true rfl, Nat.le_of_ble_eq_true rfl⟩) (zPreV (wc := [(m_, .inr (4, [.int (nI 0), .int (nI n_), .long (lN w_), .int (nI h_), .ref ab_, .ref be_, .long ca_, .long cb_, .long oc_, .long st_, .int (nI bs_), .int (nI tr_), .int (nI sp_), .ref rr_])), (rr_, .inl (cI, 152, .inl g2_5))]) hK hP hD 4 0 rfl rfl zTb (fun _ _ _ => trivial)) rfl rfl hl.1 rfl (lv_room (Nat.le_of_ble_eq_true rfl)) dX4_cross_79 ⟨Nat.le_of_ble_eq_true rfl, Nat.le_of_ble_eq_true rfl⟩) (fun r_6 u9_ H locs hw hP hD hS => ?_)
          obtain ⟨v9, g2_7⟩ := u9_
          have hP : va_P D cl5 [(m_, .inr (4, [.int (nI 0), .int (nI n_), .long (lN w_), .int (nI h_), .ref ab_, .ref be_, .long ca_, .long cb_, .long oc_, .long st_, .int (nI bs_), .int (nI tr_), .int (nI sp_), .ref rr_])), (rr_, .inl (cI, 152, .inl g2_7))] H := hP.sub [0, 1] rfl
          have hD : va_D A [(m_, .inr (4, [.int (nI 0), .int (nI n_), .long (lN w_), .int (nI h_), .ref ab_, .ref be_, .long ca_, .long cb_, .long oc_, .long st_, .int (nI bs_), .int (nI tr_), .int (nI sp_), .ref rr_])), (rr_, .inl (cI, 152, .inl g2_7))] := hD.sub [0, 1] (by decide) rfl
          have hw : r_6 = lN v9 ∧ rootI n_ kk (tr_ * 2 ^ h_) v9 := hw
          obtain ⟨rfl, hR_79⟩ := hw
          have hv9 := root_le hn1 hR_79
          have hs1 : w9 * (sp_ - aa) ≤ 65536000000 * 1000 := Nat.mul_le_mul (by omega) (by omega)
          have hs2 : v9 * aa ≤ 65536000000 * 1000 := Nat.mul_le_mul (by omega) (by omega)
          refine lv_iload_n hx hb dX4_cross_82 rfl (lv_at hl 2 rfl) ?_
          refine zi_ (y := nI aa) (ea) ?_
          refine lv_i2l (v := lN aa) hx hb dX4_cross_83 (nI_l (by omega)) ?_
          refine lv_lmul hx hb dX4_cross_84 ?_
          refine zl_ (y := lN (v9 * aa)) (lN_mul v9 aa) ?_
          refine lv_ladd hx hb dX4_cross_85 ?_
          refine zl_ (y := lN (w9 * (sp_ - aa) + (v9 * aa))) (lN_add (w9 * (sp_ - aa)) (v9 * aa)) ?_
          refine lv_lstore (lv' := [(4, .long (lN (w9 * (sp_ - aa) + (v9 * aa)))), (0, .ref m_), (1, .int k_), (2, .int a_), (3, .int p_)]) hx hb dX4_cross_86 hl (by decide) rfl (fun ls hl => ?_)
          refine lv_iload_n hx hb dX4_cross_88 rfl (lv_at hl 4 rfl) ?_
          refine lv_if_ne (tgt := 103) hx hb dX4_cross_89 (by decide) (fun c_89 => ?_) (fun c_89 => ?_)
          · skip
            refine lv_lload hx hb dX4_cross_103 (lv_at hl 0 rfl) ?_
            refine lv_aload_n hx hb dX4_cross_105 rfl (lv_at hl 1 rfl) ?_
            refine va_get (D := D) (ci := 4) (v := .int (nI sp_)) (C := RX4) (T := TX4) (N := 14) hx hb hts nX4_cross_4 hown hK hP 0 rfl rfl 12 (by decide) (zh (w := .fieldLink RX4 38 "FretRootsModel" "span" "I") hts 1 rfl) (fun _ h9 => h9) rfl dX4_cross_106 ?_
            refine lv_i2l (v := lN sp_) hx hb dX4_cross_109 (nI_l (by omega)) ?_
            refine lv_lrem hx hb dX4_cross_110 (zlne0 (by omega) (by omega)) ?_
            refine zl_ (y := lN ((w9 * (sp_ - aa) + (v9 * aa)) % sp_)) (pk_lRem (by omega) (by omega) (by omega)) ?_
            subst hQ
            exact ze_l hx hb hr hlocks (nI 0, g2_7) (⟨by rw [hcd], fun _ => ⟨kk, aa, w9, v9, ek, ea, hkk, haa, hR_61, hR_79, by first | rw [if_pos c_89] | rw [if_neg c_89]⟩⟩) hP hK hD hS dX4_cross_111
          · skip
            refine lv_lload hx hb dX4_cross_92 (lv_at hl 0 rfl) ?_
            refine lv_aload_n hx hb dX4_cross_94 rfl (lv_at hl 1 rfl) ?_
            refine va_get (D := D) (ci := 4) (v := .int (nI sp_)) (C := RX4) (T := TX4) (N := 14) hx hb hts nX4_cross_4 hown hK hP 0 rfl rfl 12 (by decide) (zh (w := .fieldLink RX4 38 "FretRootsModel" "span" "I") hts 1 rfl) (fun _ h9 => h9) rfl dX4_cross_95 ?_
            refine lv_i2l (v := lN sp_) hx hb dX4_cross_98 (nI_l (by omega)) ?_
            refine lv_ldiv hx hb dX4_cross_99 (zlne0 (by omega) (by omega)) ?_
            refine zl_ (y := lN ((w9 * (sp_ - aa) + (v9 * aa)) / sp_)) (pk_lDiv (by omega) (by omega) (by omega)) ?_
            refine lv_goto (tgt := 111) hx hb dX4_cross_100 (by decide) ?_
            subst hQ
            exact ze_l hx hb hr hlocks (nI 0, g2_7) (⟨by rw [hcd], fun _ => ⟨kk, aa, w9, v9, ek, ea, hkk, haa, hR_61, hR_79, by first | rw [if_pos c_89] | rw [if_neg c_89]⟩⟩) hP hK hD hS dX4_cross_111
        · skip
          exact absurd c_49 (by decide)
    · skip
      have c_16 := zji_eq (a := inI p_.toInt64 (lN 0) (lN 1)) (b := 0) (by omega) (by omega) c_16
      have hcd : cdCross k_ a_ p_ n_ sp_ = 1 := if_pos (Or.inr c_16)
      refine lv_iconst (v := nI 1) hx hb dX4_cross_19 (by decide) ?_
      refine lv_goto (tgt := 42) hx hb dX4_cross_20 (by decide) ?_
      refine va_put (D := D) (ci := 4) (v := .int (nI 1)) (ty := .int) (C := RX4) (T := TX4) (N := 14) hx hb hts nX4_cross_4 tyX4 tyX4_ok nmX4 hown hK hP hD hS 0 rfl rfl 0 (by decide) (zh (w := .fieldLink RX4 47 "FretRootsModel" "thrown" "I") hts 2 rfl) (fun _ h9 => h9) rfl (by decide +kernel) rfl rfl (Nat.le_of_ble_eq_true rfl) dX4_cross_42 (fun H locs hP hD hS => ?_)
      have hP : va_P D cl5 [(m_, .inr (4, [.int (nI 1), .int (nI n_), .long (lN w_), .int (nI h_), .ref ab_, .ref be_, .long ca_, .long cb_, .long oc_, .long st_, .int (nI bs_), .int (nI tr_), .int (nI sp_), .ref rr_])), (rr_, .inl (cI, 152, .inl g_))] H := hP
      have hD : va_D A [(m_, .inr (4, [.int (nI 1), .int (nI n_), .long (lN w_), .int (nI h_), .ref ab_, .ref be_, .long ca_, .long cb_, .long oc_, .long st_, .int (nI bs_), .int (nI tr_), .int (nI sp_), .ref rr_])), (rr_, .inl (cI, 152, .inl g_))] := hD
      refine lv_aload_n hx hb dX4_cross_45 rfl (lv_at hl 0 rfl) ?_
      refine va_get (D := D) (ci := 4) (v := .int (nI 1)) (C := RX4) (T := TX4) (N := 14) hx hb hts nX4_cross_4 hown hK hP 0 rfl rfl 0 (by decide) (zh (w := .fieldLink RX4 47 "FretRootsModel" "thrown" "I") hts 2 rfl) (fun _ h9 => h9) rfl dX4_cross_46 ?_
      refine lv_if_le (tgt := 54) hx hb dX4_cross_49 (by decide) (fun c_49 => ?_) (fun c_49 => ?_)
      · skip
        exact absurd c_49 (by decide)
      · skip
        have c_49 := zji_nle (a := 1) (b := 0) (by omega) (by omega) c_49
        refine lv_lconst (v := lN 0) hx hb dX4_cross_52 rfl ?_
        subst hQ
        exact ze_l hx hb hr hlocks (nI 1, g_) (⟨by rw [hcd], fun q => absurd q (by omega)⟩) hP hK hD hS dX4_cross_53
theorem nX4_upright_4 : ∀ w ∈ wsX40, w ∈ wsX4_upright := by decide +kernel
abbrev rm_X4_upright : Room := { frames := 4, cells := 0, slots := 0, locals := 121 }
set_option maxHeartbeats 4000000 in
set_option maxRecDepth 100000 in
/-- upright of the reference -/
theorem ct_X4_upright (l : Launch) (D : va_G) (cI cJ cD : ClassId) (m_ : Nat) (ab_ : Nat) (be_ : Nat) (rr_ : Nat) (th_ : Int32) (sp_ : Int32) (ca_ : Int64) (cb_ : Int64) (oc_ : Int64) (st_ : Int64) (n_ : Nat) (w_ : Nat) (h_ : Nat) (bs_ : Nat) (tr_ : Nat) (g_ : Nat → Int32) (sz : Nat) (hn1 : 1 ≤ n_) (hn : n_ ≤ 24) (hh : h_ ≤ 16) (hbs : bs_ ≤ 1000000) (htr : tr_ ≤ 1000000) : Met l yX4_upright wsX4_upright rm_X4_upright (zP D (ty3 cI cJ cD) [.ref m_] sz [(m_, .inr (4, [.int th_, .int (nI n_), .long (lN w_), .int (nI h_), .ref ab_, .ref be_, .long ca_, .long cb_, .long oc_, .long st_, .int (nI bs_), .int (nI tr_), .int sp_, .ref rr_])), (rr_, .inl (cI, 152, .inl g_))] zT) (va_Qi (fun (r : Int32) (u : Nat × (Nat → Int32)) => r = nI (u.1) ∧ upN n_ (bs_ * 2 ^ h_) (tr_ * 2 ^ h_) (u.1)) (zB D (ty3 cI cJ cD) (fun (u : Nat × (Nat → Int32)) => [(m_, .inr (4, [.int (nI 0), .int (nI n_), .long (lN w_), .int (nI h_), .ref ab_, .ref be_, .long ca_, .long cb_, .long oc_, .long st_, .int (nI bs_), .int (nI tr_), .int sp_, .ref rr_])), (rr_, .inl (cI, 152, .inl (u.2)))]) (va_A [(m_, .inr (4, [.int th_, .int (nI n_), .long (lN w_), .int (nI h_), .ref ab_, .ref be_, .long ca_, .long cb_, .long oc_, .long st_, .int (nI bs_), .int (nI tr_), .int sp_, .ref rr_])), (rr_, .inl (cI, 152, .inl g_))] sz)) (va_A [(m_, .inr (4, [.int th_, .int (nI n_), .long (lN w_), .int (nI h_), .ref ab_, .ref be_, .long ca_, .long cb_, .long oc_, .long st_, .int (nI bs_), .int (nI tr_), .int sp_, .ref rr_])), (rr_, .inl (cI, 152, .inl g_))] sz)) 0 0 (va_A [(m_, .inr (4, [.int th_, .int (nI n_), .long (lN w_), .int (nI h_), .ref ab_, .ref be_, .long ca_, .long cb_, .long oc_, .long st_, .int (nI bs_), .int (nI tr_), .int sp_, .ref rr_])), (rr_, .inl (cI, 152, .inl g_))] sz) := by
  refine zMet (Qf := fun A => va_Qi (fun (r : Int32) (u : Nat × (Nat → Int32)) => r = nI (u.1) ∧ upN n_ (bs_ * 2 ^ h_) (tr_ * 2 ^ h_) (u.1)) (zB D (ty3 cI cJ cD) (fun (u : Nat × (Nat → Int32)) => [(m_, .inr (4, [.int (nI 0), .int (nI n_), .long (lN w_), .int (nI h_), .ref ab_, .ref be_, .long ca_, .long cb_, .long oc_, .long st_, .int (nI bs_), .int (nI tr_), .int sp_, .ref rr_])), (rr_, .inl (cI, 152, .inl (u.2)))]) A) A) (cc := cX4_upright) (maxL := 7) (ret := (some .int)) (by decide) rfl (Nat.le_of_ble_eq_true rfl) ?_
  intro p e s m args below meth c A ls Q H hargs hQ hHe hx hb hr hml hown hts hlocks hin hP hK hD hA hS hE hAe hl
  have hl : lv_has ls 7 [(0, .ref m_)] := hl
  have hb6 := own_le hbs hh
  have ht6 := own_le htr hh
  have lp_12 : ∀ (k9_ : Nat) (k : Nat) (t : Nat) (lt : Nat) (g : Nat → Int32) (H : Heap) (locs : List Loc) (ls : Array Slot), 2 * n_ + 1 - k < k9_ → k ≤ 2 * n_ + 1 → k = 0 ∨ upK n_ (bs_ * 2 ^ h_) (tr_ * 2 ^ h_) k t lt → lt < 2 ^ 62 →  va_P D cl5 [(m_, .inr (4, [.int (nI 0), .int (nI n_), .long (lN w_), .int (nI h_), .ref ab_, .ref be_, .long ca_, .long cb_, .long oc_, .long st_, .int (nI bs_), .int (nI tr_), .int sp_, .ref rr_])), (rr_, .inl (cI, 152, .inl g))] H → va_D A [(m_, .inr (4, [.int (nI 0), .int (nI n_), .long (lN w_), .int (nI h_), .ref ab_, .ref be_, .long ca_, .long cb_, .long oc_, .long st_, .int (nI bs_), .int (nI tr_), .int sp_, .ref rr_])), (rr_, .inl (cI, 152, .inl g))] → va_S A s.heap H locs → lv_has ls 7 [(0, .ref m_), (1, .int (nI t)), (2, .long (lN lt)), (4, .int (nI k))] → W p l e rm_X4_upright s m args below meth c H locs 0 0 Q (F0 m 12 ls []) := by
    intro k9_
    induction k9_ with
    | zero => intro k t lt g H locs ls hm; exact absurd hm (Nat.not_lt_zero _)
    | succ k9_ ih_12 =>
      intro k t lt g H locs ls hm  h1 h2 h3 hP hD hS hl
      refine lv_iload hx hb dX4_upright_12 (lv_at hl 3 rfl) ?_
      refine lv_iconst (v := nI 2) hx hb dX4_upright_14 (by decide) ?_
      refine lv_aload_n hx hb dX4_upright_15 rfl (lv_at hl 0 rfl) ?_
      refine va_get (D := D) (ci := 4) (v := .int (nI n_)) (C := RX4) (T := TX4) (N := 14) hx hb hts nX4_upright_4 hown hK hP 0 rfl rfl 1 (by decide) (zh (w := .fieldLink RX4 44 "FretRootsModel" "notes" "I") hts 2 rfl) (fun _ h9 => h9) rfl dX4_upright_16 ?_
      refine lv_imul hx hb dX4_upright_19 ?_
      refine zi_ (y := nI (2 * n_)) (pk_mul 2 n_) ?_
      refine lv_icmp_gt (tgt := 89) hx hb dX4_upright_20 (by decide) (fun c_20 => ?_) (fun c_20 => ?_)
      · skip
        have c_20 := zji_lt (a := 2 * n_) (b := k) (by omega) (by omega) c_20
        have hk9 : k = 2 * n_ + 1 := by omega
        subst hk9
        refine lv_iload_n hx hb dX4_upright_89 rfl (lv_at hl 1 rfl) ?_
        subst hQ
        exact ze_i hx hb hr hlocks (t, g) (⟨rfl, up_end (h2.resolve_left (by omega))⟩) hP hK hD hS dX4_upright_90
      · skip
        have c_20 := zji_nlt (a := 2 * n_) (b := k) (by omega) (by omega) c_20
        refine lv_aload_n hx hb dX4_upright_23 rfl (lv_at hl 0 rfl) ?_
        refine lv_iload hx hb dX4_upright_24 (lv_at hl 3 rfl) ?_
        refine lv_aload_n hx hb dX4_upright_26 rfl (lv_at hl 0 rfl) ?_
        refine va_get (D := D) (ci := 4) (v := .int (nI bs_)) (C := RX4) (T := TX4) (N := 14) hx hb hts nX4_upright_4 hown hK hP 0 rfl rfl 10 (by decide) (zh (w := .fieldLink RX4 32 "FretRootsModel" "bass" "I") hts 3 rfl) (fun _ h9 => h9) rfl dX4_upright_27 ?_
        refine lv_i2l (v := lN bs_) hx hb dX4_upright_30 (nI_l (by omega)) ?_
        refine zc_l (wc := [(m_, .inr (4, [.int (nI 0), .int (nI n_), .long (lN w_), .int (nI h_), .ref ab_, .ref be_, .long ca_, .long cb_, .long oc_, .long st_, .int (nI bs_), .int (nI tr_), .int sp_, .ref rr_])), (rr_, .inl (cI, 152, .inl g))]) (wr := []) hP hD hS hA [0, 1] [] rfl rfl (by decide) (by decide) (va_runV (As := [.int (nI k), .long (lN bs_)]) (rest := []) ⟨hx, hb, hml, hown, hts⟩ (ct_X4_lower l D cI cJ cD m_ ab_ be_ rr_ (nI 0) (nI bs_) (nI tr_) sp_ (lN w_) ca_ cb_ oc_ st_ n_ k bs_ h_ g H.size (by omega) (by omega) (by omega) (by omega) (by omega)) (cwV 2 hts gX4_upright_X4_lower rfl rfl rfl (by decide +kernel) ⟨Nat.le_of_ble_eq_true rfl, Nat.le_of_ble_eq_true rfl⟩) (zPreV (wc := [(m_, .inr (4, [.int (nI 0), .int (nI n_), .long (lN w_), .int (nI h_), .ref ab_, .ref be_, .long ca_, .long cb_, .long oc_, .long st_, .int (nI bs_), .int (nI tr_), .int sp_, .ref rr_])), (rr_, .inl (cI, 152, .inl g))]) hK hP hD 4 0 rfl rfl zTb (fun _ _ _ => trivial)) rfl rfl hl.1 rfl (lv_room (Nat.le_of_ble_eq_true rfl)) dX4_upright_31 ⟨Nat.le_of_ble_eq_true rfl, Nat.le_of_ble_eq_true rfl⟩) (fun r_1 u9_ H locs hw hP hD hS => ?_)
        obtain ⟨w9, g2_2⟩ := u9_
        have hP : va_P D cl5 [(m_, .inr (4, [.int (nI 0), .int (nI n_), .long (lN w_), .int (nI h_), .ref ab_, .ref be_, .long ca_, .long cb_, .long oc_, .long st_, .int (nI bs_), .int (nI tr_), .int sp_, .ref rr_])), (rr_, .inl (cI, 152, .inl g2_2))] H := hP.sub [0, 1] rfl
        have hD : va_D A [(m_, .inr (4, [.int (nI 0), .int (nI n_), .long (lN w_), .int (nI h_), .ref ab_, .ref be_, .long ca_, .long cb_, .long oc_, .long st_, .int (nI bs_), .int (nI tr_), .int sp_, .ref rr_])), (rr_, .inl (cI, 152, .inl g2_2))] := hD.sub [0, 1] (by decide) rfl
        have hw : r_1 = lN w9 ∧ rootI n_ k (bs_ * 2 ^ h_) w9 := hw
        obtain ⟨rfl, hR_31⟩ := hw
        have hw9 := root_le hn1 hR_31
        have ew9 := root_eq hn1 hR_31
        refine lv_aload_n hx hb dX4_upright_34 rfl (lv_at hl 0 rfl) ?_
        refine lv_iload hx hb dX4_upright_35 (lv_at hl 3 rfl) ?_
        refine lv_aload_n hx hb dX4_upright_37 rfl (lv_at hl 0 rfl) ?_
        refine va_get (D := D) (ci := 4) (v := .int (nI tr_)) (C := RX4) (T := TX4) (N := 14) hx hb hts nX4_upright_4 hown hK hP 0 rfl rfl 11 (by decide) (zh (w := .fieldLink RX4 35 "FretRootsModel" "treble" "I") hts 4 rfl) (fun _ h9 => h9) rfl dX4_upright_38 ?_
        refine lv_i2l (v := lN tr_) hx hb dX4_upright_41 (nI_l (by omega)) ?_
        refine zc_l (wc := [(m_, .inr (4, [.int (nI 0), .int (nI n_), .long (lN w_), .int (nI h_), .ref ab_, .ref be_, .long ca_, .long cb_, .long oc_, .long st_, .int (nI bs_), .int (nI tr_), .int sp_, .ref rr_])), (rr_, .inl (cI, 152, .inl g2_2))]) (wr := []) hP hD hS hA [0, 1] [] rfl rfl (by decide) (by decide) (va_runV (As := [.int (nI k), .long (lN tr_)]) (rest := [.long (lN w9)]) ⟨hx, hb, hml, hown, hts⟩ (ct_X4_lower l D cI cJ cD m_ ab_ be_ rr_ (nI 0) (nI bs_) (nI tr_) sp_ (lN w_) ca_ cb_ oc_ st_ n_ k tr_ h_ g2_2 H.size (by omega) (by omega) (by omega) (by omega) (by omega)) (cwV 2 hts gX4_upright_X4_lower rfl rfl rfl (by decide +kernel) ⟨Nat.le_of_ble_eq_true rfl, Nat.le_of_ble_eq_true rfl⟩) (zPreV (wc := [(m_, .inr (4, [.int (nI 0), .int (nI n_), .long (lN w_), .int (nI h_), .ref ab_, .ref be_, .long ca_, .long cb_, .long oc_, .long st_, .int (nI bs_), .int (nI tr_), .int sp_, .ref rr_])), (rr_, .inl (cI, 152, .inl g2_2))]) hK hP hD 4 0 rfl rfl zTb (fun _ _ _ => trivial)) rfl rfl hl.1 rfl (lv_room (Nat.le_of_ble_eq_true rfl)) dX4_upright_42 ⟨Nat.le_of_ble_eq_true rfl, Nat.le_of_ble_eq_true rfl⟩) (fun r_3 u9_ H locs hw hP hD hS => ?_)
        obtain ⟨v9, g2_4⟩ := u9_
        have hP : va_P D cl5 [(m_, .inr (4, [.int (nI 0), .int (nI n_), .long (lN w_), .int (nI h_), .ref ab_, .ref be_, .long ca_, .long cb_, .long oc_, .long st_, .int (nI bs_), .int (nI tr_), .int sp_, .ref rr_])), (rr_, .inl (cI, 152, .inl g2_4))] H := hP.sub [0, 1] rfl
        have hD : va_D A [(m_, .inr (4, [.int (nI 0), .int (nI n_), .long (lN w_), .int (nI h_), .ref ab_, .ref be_, .long ca_, .long cb_, .long oc_, .long st_, .int (nI bs_), .int (nI tr_), .int sp_, .ref rr_])), (rr_, .inl (cI, 152, .inl g2_4))] := hD.sub [0, 1] (by decide) rfl
        have hw : r_3 = lN v9 ∧ rootI n_ k (tr_ * 2 ^ h_) v9 := hw
        obtain ⟨rfl, hR_42⟩ := hw
        have hv9 := root_le hn1 hR_42
        have ev9 := root_eq hn1 hR_42
        obtain ⟨df, hdf⟩ : ∃ df, df = upF n_ (bs_ * 2 ^ h_) (tr_ * 2 ^ h_) k := ⟨_, rfl⟩
        have hdf2 : w9 - v9 + (v9 - w9) = df := by rw [hdf]; unfold upF; rw [← ew9, ← ev9]
        refine lv_lsub hx hb dX4_upright_45 ?_
        refine lv_lstore (lv' := [(5, .long ((lN w9) - (lN v9))), (0, .ref m_), (1, .int (nI t)), (2, .long (lN lt)), (4, .int (nI k))]) hx hb dX4_upright_46 hl (by decide) rfl (fun ls hl => ?_)
        refine lv_lload hx hb dX4_upright_48 (lv_at hl 0 rfl) ?_
        refine lv_lconst (v := lN 0) hx hb dX4_upright_50 rfl ?_
        refine zl_ge (tgt := 61) hx hb dX4_upright_51 dX4_upright_52 (by decide) (fun c_52 => ?_) (fun c_52 => ?_)
        · skip
          refine lv_lload hx hb dX4_upright_61 (lv_at hl 0 rfl) ?_
          refine zl_ (y := lN (upF n_ (bs_ * 2 ^ h_) (tr_ * 2 ^ h_) k)) ((z_absp (by omega) (by omega) c_52).trans (congrArg lN (hdf2.trans hdf))) ?_
          refine lv_lstore (lv' := [(5, .long (lN (upF n_ (bs_ * 2 ^ h_) (tr_ * 2 ^ h_) k))), (0, .ref m_), (1, .int (nI t)), (2, .long (lN lt)), (4, .int (nI k))]) hx hb dX4_upright_63 hl (by decide) rfl (fun ls hl => ?_)
          refine lv_iload hx hb dX4_upright_65 (lv_at hl 4 rfl) ?_
          refine lv_if_eq (tgt := 77) hx hb dX4_upright_67 (by decide) (fun c_67 => ?_) (fun c_67 => ?_)
          · skip
            have c_67 := zji_eq (a := k) (b := 0) (by omega) (by omega) c_67
            refine lv_lload hx hb dX4_upright_77 (lv_at hl 0 rfl) ?_
            refine lv_lstore_n (lv' := [(2, .long (lN (upF n_ (bs_ * 2 ^ h_) (tr_ * 2 ^ h_) k))), (5, .long (lN (upF n_ (bs_ * 2 ^ h_) (tr_ * 2 ^ h_) k))), (0, .ref m_), (1, .int (nI t)), (4, .int (nI k))]) hx hb dX4_upright_79 rfl hl (by decide) rfl (fun ls hl => ?_)
            refine lv_iload hx hb dX4_upright_80 (lv_at hl 4 rfl) ?_
            refine lv_istore_n (lv' := [(1, .int (nI k)), (2, .long (lN (upF n_ (bs_ * 2 ^ h_) (tr_ * 2 ^ h_) k))), (5, .long (lN (upF n_ (bs_ * 2 ^ h_) (tr_ * 2 ^ h_) k))), (0, .ref m_), (4, .int (nI k))]) hx hb dX4_upright_82 rfl hl (by decide) rfl (fun ls hl => ?_)
            refine lv_iinc (v := nI (k + 1)) (lv' := [(4, .int (nI (k + 1))), (1, .int (nI k)), (2, .long (lN (upF n_ (bs_ * 2 ^ h_) (tr_ * 2 ^ h_) k))), (5, .long (lN (upF n_ (bs_ * 2 ^ h_) (tr_ * 2 ^ h_) k))), (0, .ref m_)]) hx hb dX4_upright_83 hl (k := 4) rfl (z_inc k 1) (by decide) rfl (fun ls hl => ?_)
            refine lv_goto (tgt := 12) hx hb dX4_upright_86 (by decide) ?_
            exact ih_12 (k + 1) k (upF n_ (bs_ * 2 ^ h_) (tr_ * 2 ^ h_) k) g2_4 _ _ _ (by omega) (by omega) (by first | exact Or.inr (up_ge (h2.resolve_left c_67) (by omega)) | exact Or.inr (by rw [c_67]; exact up_0 _ _ _) | exact Or.inr (up_lt (h2.resolve_left c_67) (by omega))) (by omega) hP hD hS (lv_sub hl [4, 1, 2, 0] rfl)
          · skip
            have c_67 := zji_ne (a := k) (b := 0) (by omega) (by omega) c_67
            refine lv_lload hx hb dX4_upright_70 (lv_at hl 0 rfl) ?_
            refine lv_lload_n hx hb dX4_upright_72 rfl (lv_at hl 3 rfl) ?_
            refine zl_ge (tgt := 83) hx hb dX4_upright_73 dX4_upright_74 (by decide) (fun c_74 => ?_) (fun c_74 => ?_)
            · skip
              have c_74 := zjl_le (a := lt) (b := upF n_ (bs_ * 2 ^ h_) (tr_ * 2 ^ h_) k) (by omega) (by omega) c_74
              refine lv_iinc (v := nI (k + 1)) (lv' := [(4, .int (nI (k + 1))), (5, .long (lN (upF n_ (bs_ * 2 ^ h_) (tr_ * 2 ^ h_) k))), (0, .ref m_), (1, .int (nI t)), (2, .long (lN lt))]) hx hb dX4_upright_83 hl (k := 4) rfl (z_inc k 1) (by decide) rfl (fun ls hl => ?_)
              refine lv_goto (tgt := 12) hx hb dX4_upright_86 (by decide) ?_
              exact ih_12 (k + 1) t lt g2_4 _ _ _ (by omega) (by omega) (by first | exact Or.inr (up_ge (h2.resolve_left c_67) (by omega)) | exact Or.inr (by rw [c_67]; exact up_0 _ _ _) | exact Or.inr (up_lt (h2.resolve_left c_67) (by omega))) (by omega) hP hD hS (lv_sub hl [2, 3, 4, 0] rfl)
            · skip
              have c_74 := zjl_nle (a := lt) (b := upF n_ (bs_ * 2 ^ h_) (tr_ * 2 ^ h_) k) (by omega) (by omega) c_74
              refine lv_lload hx hb dX4_upright_77 (lv_at hl 0 rfl) ?_
              refine lv_lstore_n (lv' := [(2, .long (lN (upF n_ (bs_ * 2 ^ h_) (tr_ * 2 ^ h_) k))), (5, .long (lN (upF n_ (bs_ * 2 ^ h_) (tr_ * 2 ^ h_) k))), (0, .ref m_), (1, .int (nI t)), (4, .int (nI k))]) hx hb dX4_upright_79 rfl hl (by decide) rfl (fun ls hl => ?_)
              refine lv_iload hx hb dX4_upright_80 (lv_at hl 4 rfl) ?_
              refine lv_istore_n (lv' := [(1, .int (nI k)), (2, .long (lN (upF n_ (bs_ * 2 ^ h_) (tr_ * 2 ^ h_) k))), (5, .long (lN (upF n_ (bs_ * 2 ^ h_) (tr_ * 2 ^ h_) k))), (0, .ref m_), (4, .int (nI k))]) hx hb dX4_upright_82 rfl hl (by decide) rfl (fun ls hl => ?_)
              refine lv_iinc (v := nI (k + 1)) (lv' := [(4, .int (nI (k + 1))), (1, .int (nI k)), (2, .long (lN (upF n_ (bs_ * 2 ^ h_) (tr_ * 2 ^ h_) k))), (5, .long (lN (upF n_ (bs_ * 2 ^ h_) (tr_ * 2 ^ h_) k))), (0, .ref m_)]) hx hb dX4_upright_83 hl (k := 4) rfl (z_inc k 1) (by decide) rfl (fun ls hl => ?_)
              refine lv_goto (tgt := 12) hx hb dX4_upright_86 (by decide) ?_
              exact ih_12 (k + 1) k (upF n_ (bs_ * 2 ^ h_) (tr_ * 2 ^ h_) k) g2_4 _ _ _ (by omega) (by omega) (by first | exact Or.inr (up_ge (h2.resolve_left c_67) (by omega)) | exact Or.inr (by rw [c_67]; exact up_0 _ _ _) | exact Or.inr (up_lt (h2.resolve_left c_67) (by omega))) (by omega) hP hD hS (lv_sub hl [4, 1, 2, 0] rfl)
        · skip
          refine lv_lload hx hb dX4_upright_55 (lv_at hl 0 rfl) ?_
          refine lv_lneg hx hb dX4_upright_57 ?_
          refine zl_ (y := lN (upF n_ (bs_ * 2 ^ h_) (tr_ * 2 ^ h_) k)) ((z_absn (by omega) (by omega) c_52).trans (congrArg lN (hdf2.trans hdf))) ?_
          refine lv_goto (tgt := 63) hx hb dX4_upright_58 (by decide) ?_
          refine lv_lstore (lv' := [(5, .long (lN (upF n_ (bs_ * 2 ^ h_) (tr_ * 2 ^ h_) k))), (0, .ref m_), (1, .int (nI t)), (2, .long (lN lt)), (4, .int (nI k))]) hx hb dX4_upright_63 hl (by decide) rfl (fun ls hl => ?_)
          refine lv_iload hx hb dX4_upright_65 (lv_at hl 4 rfl) ?_
          refine lv_if_eq (tgt := 77) hx hb dX4_upright_67 (by decide) (fun c_67 => ?_) (fun c_67 => ?_)
          · skip
            have c_67 := zji_eq (a := k) (b := 0) (by omega) (by omega) c_67
            refine lv_lload hx hb dX4_upright_77 (lv_at hl 0 rfl) ?_
            refine lv_lstore_n (lv' := [(2, .long (lN (upF n_ (bs_ * 2 ^ h_) (tr_ * 2 ^ h_) k))), (5, .long (lN (upF n_ (bs_ * 2 ^ h_) (tr_ * 2 ^ h_) k))), (0, .ref m_), (1, .int (nI t)), (4, .int (nI k))]) hx hb dX4_upright_79 rfl hl (by decide) rfl (fun ls hl => ?_)
            refine lv_iload hx hb dX4_upright_80 (lv_at hl 4 rfl) ?_
            refine lv_istore_n (lv' := [(1, .int (nI k)), (2, .long (lN (upF n_ (bs_ * 2 ^ h_) (tr_ * 2 ^ h_) k))), (5, .long (lN (upF n_ (bs_ * 2 ^ h_) (tr_ * 2 ^ h_) k))), (0, .ref m_), (4, .int (nI k))]) hx hb dX4_upright_82 rfl hl (by decide) rfl (fun ls hl => ?_)
            refine lv_iinc (v := nI (k + 1)) (lv' := [(4, .int (nI (k + 1))), (1, .int (nI k)), (2, .long (lN (upF n_ (bs_ * 2 ^ h_) (tr_ * 2 ^ h_) k))), (5, .long (lN (upF n_ (bs_ * 2 ^ h_) (tr_ * 2 ^ h_) k))), (0, .ref m_)]) hx hb dX4_upright_83 hl (k := 4) rfl (z_inc k 1) (by decide) rfl (fun ls hl => ?_)
            refine lv_goto (tgt := 12) hx hb dX4_upright_86 (by decide) ?_
            exact ih_12 (k + 1) k (upF n_ (bs_ * 2 ^ h_) (tr_ * 2 ^ h_) k) g2_4 _ _ _ (by omega) (by omega) (by first | exact Or.inr (up_ge (h2.resolve_left c_67) (by omega)) | exact Or.inr (by rw [c_67]; exact up_0 _ _ _) | exact Or.inr (up_lt (h2.resolve_left c_67) (by omega))) (by omega) hP hD hS (lv_sub hl [4, 1, 2, 0] rfl)
          · skip
            have c_67 := zji_ne (a := k) (b := 0) (by omega) (by omega) c_67
            refine lv_lload hx hb dX4_upright_70 (lv_at hl 0 rfl) ?_
            refine lv_lload_n hx hb dX4_upright_72 rfl (lv_at hl 3 rfl) ?_
            refine zl_ge (tgt := 83) hx hb dX4_upright_73 dX4_upright_74 (by decide) (fun c_74 => ?_) (fun c_74 => ?_)
            · skip
              have c_74 := zjl_le (a := lt) (b := upF n_ (bs_ * 2 ^ h_) (tr_ * 2 ^ h_) k) (by omega) (by omega) c_74
              refine lv_iinc (v := nI (k + 1)) (lv' := [(4, .int (nI (k + 1))), (5, .long (lN (upF n_ (bs_ * 2 ^ h_) (tr_ * 2 ^ h_) k))), (0, .ref m_), (1, .int (nI t)), (2, .long (lN lt))]) hx hb dX4_upright_83 hl (k := 4) rfl (z_inc k 1) (by decide) rfl (fun ls hl => ?_)
              refine lv_goto (tgt := 12) hx hb dX4_upright_86 (by decide) ?_
              exact ih_12 (k + 1) t lt g2_4 _ _ _ (by omega) (by omega) (by first | exact Or.inr (up_ge (h2.resolve_left c_67) (by omega)) | exact Or.inr (by rw [c_67]; exact up_0 _ _ _) | exact Or.inr (up_lt (h2.resolve_left c_67) (by omega))) (by omega) hP hD hS (lv_sub hl [2, 3, 4, 0] rfl)
            · skip
              have c_74 := zjl_nle (a := lt) (b := upF n_ (bs_ * 2 ^ h_) (tr_ * 2 ^ h_) k) (by omega) (by omega) c_74
              refine lv_lload hx hb dX4_upright_77 (lv_at hl 0 rfl) ?_
              refine lv_lstore_n (lv' := [(2, .long (lN (upF n_ (bs_ * 2 ^ h_) (tr_ * 2 ^ h_) k))), (5, .long (lN (upF n_ (bs_ * 2 ^ h_) (tr_ * 2 ^ h_) k))), (0, .ref m_), (1, .int (nI t)), (4, .int (nI k))]) hx hb dX4_upright_79 rfl hl (by decide) rfl (fun ls hl => ?_)
              refine lv_iload hx hb dX4_upright_80 (lv_at hl 4 rfl) ?_
              refine lv_istore_n (lv' := [(1, .int (nI k)), (2, .long (lN (upF n_ (bs_ * 2 ^ h_) (tr_ * 2 ^ h_) k))), (5, .long (lN (upF n_ (bs_ * 2 ^ h_) (tr_ * 2 ^ h_) k))), (0, .ref m_), (4, .int (nI k))]) hx hb dX4_upright_82 rfl hl (by decide) rfl (fun ls hl => ?_)
              refine lv_iinc (v := nI (k + 1)) (lv' := [(4, .int (nI (k + 1))), (1, .int (nI k)), (2, .long (lN (upF n_ (bs_ * 2 ^ h_) (tr_ * 2 ^ h_) k))), (5, .long (lN (upF n_ (bs_ * 2 ^ h_) (tr_ * 2 ^ h_) k))), (0, .ref m_)]) hx hb dX4_upright_83 hl (k := 4) rfl (z_inc k 1) (by decide) rfl (fun ls hl => ?_)
              refine lv_goto (tgt := 12) hx hb dX4_upright_86 (by decide) ?_
              exact ih_12 (k + 1) k (upF n_ (bs_ * 2 ^ h_) (tr_ * 2 ^ h_) k) g2_4 _ _ _ (by omega) (by omega) (by first | exact Or.inr (up_ge (h2.resolve_left c_67) (by omega)) | exact Or.inr (by rw [c_67]; exact up_0 _ _ _) | exact Or.inr (up_lt (h2.resolve_left c_67) (by omega))) (by omega) hP hD hS (lv_sub hl [4, 1, 2, 0] rfl)
  refine lv_aload_n hx hb dX4_upright_0 rfl (lv_at hl 0 rfl) ?_
  refine lv_iconst (v := nI 0) hx hb dX4_upright_1 (by decide) ?_
  refine va_put (D := D) (ci := 4) (v := .int (nI 0)) (ty := .int) (C := RX4) (T := TX4) (N := 14) hx hb hts nX4_upright_4 tyX4 tyX4_ok nmX4 hown hK hP hD hS 0 rfl rfl 0 (by decide) (zh (w := .fieldLink RX4 47 "FretRootsModel" "thrown" "I") hts 1 rfl) (fun _ h9 => h9) rfl (by decide +kernel) rfl rfl (Nat.le_of_ble_eq_true rfl) dX4_upright_2 (fun H locs hP hD hS => ?_)
  have hP : va_P D cl5 [(m_, .inr (4, [.int (nI 0), .int (nI n_), .long (lN w_), .int (nI h_), .ref ab_, .ref be_, .long ca_, .long cb_, .long oc_, .long st_, .int (nI bs_), .int (nI tr_), .int sp_, .ref rr_])), (rr_, .inl (cI, 152, .inl g_))] H := hP
  have hD : va_D A [(m_, .inr (4, [.int (nI 0), .int (nI n_), .long (lN w_), .int (nI h_), .ref ab_, .ref be_, .long ca_, .long cb_, .long oc_, .long st_, .int (nI bs_), .int (nI tr_), .int sp_, .ref rr_])), (rr_, .inl (cI, 152, .inl g_))] := hD
  refine lv_iconst (v := nI 0) hx hb dX4_upright_5 (by decide) ?_
  refine lv_istore_n (lv' := [(1, .int (nI 0)), (0, .ref m_)]) hx hb dX4_upright_6 rfl hl (by decide) rfl (fun ls hl => ?_)
  refine lv_lconst (v := lN 0) hx hb dX4_upright_7 rfl ?_
  refine lv_lstore_n (lv' := [(2, .long (lN 0)), (1, .int (nI 0)), (0, .ref m_)]) hx hb dX4_upright_8 rfl hl (by decide) rfl (fun ls hl => ?_)
  refine lv_iconst (v := nI 0) hx hb dX4_upright_9 (by decide) ?_
  refine lv_istore (lv' := [(4, .int (nI 0)), (2, .long (lN 0)), (1, .int (nI 0)), (0, .ref m_)]) hx hb dX4_upright_10 hl (by decide) rfl (fun ls hl => ?_)
  exact lp_12 ((2 * n_ + 1 - 0) + 1) 0 0 0 g_ _ _ _ (Nat.lt_succ_self _) (Nat.zero_le _) (Or.inl rfl) (by decide) hP hD hS (lv_sub hl [3, 2, 1, 0] rfl)
theorem nX4_scale_4 : ∀ w ∈ wsX40, w ∈ wsX4_scale := by decide +kernel
abbrev rm_X4_scale : Room := { frames := 1, cells := 0, slots := 0, locals := 25 }
set_option maxHeartbeats 4000000 in
set_option maxRecDepth 100000 in
/-- scale of the reference -/
theorem ct_X4_scale (l : Launch) (D : va_G) (cI cJ cD : ClassId) (m_ : Nat) (ab_ : Nat) (be_ : Nat) (rr_ : Nat) (th_ : Int32) (nn_ : Int32) (sh_ : Int32) (bs_ : Int32) (tr_ : Int32) (sp_ : Int32) (le_ : Int64) (ca_ : Int64) (cb_ : Int64) (oc_ : Int64) (st_ : Int64) (x_ : Int64) (y_ : Int32) (sz : Nat) : Met l yX4_scale wsX4_scale rm_X4_scale (zP D (ty3 cI cJ cD) [.ref m_, .long x_, .int y_] sz [(m_, .inr (4, [.int th_, .int nn_, .long le_, .int sh_, .ref ab_, .ref be_, .long ca_, .long cb_, .long oc_, .long st_, .int bs_, .int tr_, .int sp_, .ref rr_]))] zT) (va_Qv (fun (u : Int32 × Int64 × Int32) => (u.1) = nI (cdScale x_ y_) ∧ (cdScale x_ y_ = 0 → (u.2.1) = x_ ∧ (u.2.2) = y_) ∧ (cdScale x_ y_ ≠ 0 → (u.2.1) = le_ ∧ (u.2.2) = sh_)) (zB D (ty3 cI cJ cD) (fun (u : Int32 × Int64 × Int32) => [(m_, .inr (4, [.int (u.1), .int nn_, .long (u.2.1), .int (u.2.2), .ref ab_, .ref be_, .long ca_, .long cb_, .long oc_, .long st_, .int bs_, .int tr_, .int sp_, .ref rr_]))]) (va_A [(m_, .inr (4, [.int th_, .int nn_, .long le_, .int sh_, .ref ab_, .ref be_, .long ca_, .long cb_, .long oc_, .long st_, .int bs_, .int tr_, .int sp_, .ref rr_]))] sz)) (va_A [(m_, .inr (4, [.int th_, .int nn_, .long le_, .int sh_, .ref ab_, .ref be_, .long ca_, .long cb_, .long oc_, .long st_, .int bs_, .int tr_, .int sp_, .ref rr_]))] sz)) 0 0 (va_A [(m_, .inr (4, [.int th_, .int nn_, .long le_, .int sh_, .ref ab_, .ref be_, .long ca_, .long cb_, .long oc_, .long st_, .int bs_, .int tr_, .int sp_, .ref rr_]))] sz) := by
  refine zMet (Qf := fun A => va_Qv (fun (u : Int32 × Int64 × Int32) => (u.1) = nI (cdScale x_ y_) ∧ (cdScale x_ y_ = 0 → (u.2.1) = x_ ∧ (u.2.2) = y_) ∧ (cdScale x_ y_ ≠ 0 → (u.2.1) = le_ ∧ (u.2.2) = sh_)) (zB D (ty3 cI cJ cD) (fun (u : Int32 × Int64 × Int32) => [(m_, .inr (4, [.int (u.1), .int nn_, .long (u.2.1), .int (u.2.2), .ref ab_, .ref be_, .long ca_, .long cb_, .long oc_, .long st_, .int bs_, .int tr_, .int sp_, .ref rr_]))]) A) A) (cc := cX4_scale) (maxL := 4) (ret := none) (by decide) rfl (Nat.le_of_ble_eq_true rfl) ?_
  intro p e s m args below meth c A ls Q H hargs hQ hHe hx hb hr hml hown hts hlocks hin hP hK hD hA hS hE hAe hl
  have hl : lv_has ls 4 [(0, .ref m_), (1, .long x_), (3, .int y_)] := hl
  refine lv_aload_n hx hb dX4_scale_0 rfl (lv_at hl 0 rfl) ?_
  refine lv_lload_n hx hb dX4_scale_1 rfl (lv_at hl 1 rfl) ?_
  refine lv_lconst (v := lN 1) hx hb dX4_scale_2 rfl ?_
  refine lv_ldc2 (v := 1000000) hx hb hown (zh (w := .constantLong RX4 65 (1000000)) hts 1 rfl) dX4_scale_3 ?_
  refine zl_ (y := lN 1000000) rfl ?_
  refine zc_i (wc := []) (wr := [(m_, .inr (4, [.int th_, .int nn_, .long le_, .int sh_, .ref ab_, .ref be_, .long ca_, .long cb_, .long oc_, .long st_, .int bs_, .int tr_, .int sp_, .ref rr_]))]) hP hD hS hA [] [0] rfl rfl (by decide) (by decide) (va_runS (As := [.long x_, .long (lN 1), .long (lN 1000000)]) (rest := [.ref m_]) ⟨hx, hb, hml, hown, hts⟩ (ct_X4_isIn l D cI cJ cD x_ (lN 1) (lN 1000000) H.size ) (va_cwS 3 hts gX4_scale_X4_isIn rfl rfl rfl (by decide +kernel) ⟨Nat.le_of_ble_eq_true rfl, Nat.le_of_ble_eq_true rfl⟩) (zPreS (wc := []) hK (hP.sub [] rfl) (hD.sub [] (by decide) rfl) zTb (fun _ _ _ => trivial)) rfl rfl hl.1 rfl (lv_room (Nat.le_of_ble_eq_true rfl)) dX4_scale_6 ⟨Nat.le_of_ble_eq_true rfl, Nat.le_of_ble_eq_true rfl⟩) (fun r_1 u9_ H locs hw hP hD hS => ?_)
  have hP : va_P D cl5 [(m_, .inr (4, [.int th_, .int nn_, .long le_, .int sh_, .ref ab_, .ref be_, .long ca_, .long cb_, .long oc_, .long st_, .int bs_, .int tr_, .int sp_, .ref rr_]))] H := hP.sub [0] rfl
  have hD : va_D A [(m_, .inr (4, [.int th_, .int nn_, .long le_, .int sh_, .ref ab_, .ref be_, .long ca_, .long cb_, .long oc_, .long st_, .int bs_, .int tr_, .int sp_, .ref rr_]))] := hD.sub [0] (by decide) rfl
  have hw : r_1 = nI (inI x_ (lN 1) (lN 1000000)) ∧ inI x_ (lN 1) (lN 1000000) ≤ 1 := hw
  obtain ⟨rfl, hb_6⟩ := hw
  refine lv_if_eq (tgt := 28) hx hb dX4_scale_9 (by decide) (fun c_9 => ?_) (fun c_9 => ?_)
  · skip
    have c_9 := zji_eq (a := inI x_ (lN 1) (lN 1000000)) (b := 0) (by omega) (by omega) c_9
    have hcd : cdScale x_ y_ = 1 := if_pos (Or.inl c_9)
    refine lv_iconst (v := nI 1) hx hb dX4_scale_28 (by decide) ?_
    refine va_put (D := D) (ci := 4) (v := .int (nI 1)) (ty := .int) (C := RX4) (T := TX4) (N := 14) hx hb hts nX4_scale_4 tyX4 tyX4_ok nmX4 hown hK hP hD hS 0 rfl rfl 0 (by decide) (zh (w := .fieldLink RX4 47 "FretRootsModel" "thrown" "I") hts 3 rfl) (fun _ h9 => h9) rfl (by decide +kernel) rfl rfl (Nat.le_of_ble_eq_true rfl) dX4_scale_29 (fun H locs hP hD hS => ?_)
    have hP : va_P D cl5 [(m_, .inr (4, [.int (nI 1), .int nn_, .long le_, .int sh_, .ref ab_, .ref be_, .long ca_, .long cb_, .long oc_, .long st_, .int bs_, .int tr_, .int sp_, .ref rr_]))] H := hP
    have hD : va_D A [(m_, .inr (4, [.int (nI 1), .int nn_, .long le_, .int sh_, .ref ab_, .ref be_, .long ca_, .long cb_, .long oc_, .long st_, .int bs_, .int tr_, .int sp_, .ref rr_]))] := hD
    refine lv_aload_n hx hb dX4_scale_32 rfl (lv_at hl 0 rfl) ?_
    refine va_get (D := D) (ci := 4) (v := .int (nI 1)) (C := RX4) (T := TX4) (N := 14) hx hb hts nX4_scale_4 hown hK hP 0 rfl rfl 0 (by decide) (zh (w := .fieldLink RX4 47 "FretRootsModel" "thrown" "I") hts 3 rfl) (fun _ h9 => h9) rfl dX4_scale_33 ?_
    refine lv_if_ne (tgt := 49) hx hb dX4_scale_36 (by decide) (fun c_36 => ?_) (fun c_36 => ?_)
    · skip
      have c_36 := zji_ne (a := 1) (b := 0) (by omega) (by omega) c_36
      subst hQ
      exact ze_v hx hb hr hlocks (nI 1, le_, sh_) (⟨by rw [hcd], by first | exact fun _ => ⟨rfl, rfl⟩ | exact fun q => absurd q (by omega), by first | exact fun _ => ⟨rfl, rfl⟩ | exact fun q => absurd hcd q⟩) hP hK hD hS dX4_scale_49
    · skip
      exact absurd c_36 (by decide)
  · skip
    have c_9 := zji_ne (a := inI x_ (lN 1) (lN 1000000)) (b := 0) (by omega) (by omega) c_9
    refine lv_iload_n hx hb dX4_scale_12 rfl (lv_at hl 2 rfl) ?_
    refine lv_i2l (v := y_.toInt64) hx hb dX4_scale_13 rfl ?_
    refine lv_lconst (v := lN 0) hx hb dX4_scale_14 rfl ?_
    refine lv_ldc2 (v := 16) hx hb hown (zh (w := .constantLong RX4 67 (16)) hts 2 rfl) dX4_scale_15 ?_
    refine zl_ (y := lN 16) rfl ?_
    refine zc_i (wc := []) (wr := [(m_, .inr (4, [.int th_, .int nn_, .long le_, .int sh_, .ref ab_, .ref be_, .long ca_, .long cb_, .long oc_, .long st_, .int bs_, .int tr_, .int sp_, .ref rr_]))]) hP hD hS hA [] [0] rfl rfl (by decide) (by decide) (va_runS (As := [.long y_.toInt64, .long (lN 0), .long (lN 16)]) (rest := [.ref m_]) ⟨hx, hb, hml, hown, hts⟩ (ct_X4_isIn l D cI cJ cD y_.toInt64 (lN 0) (lN 16) H.size ) (va_cwS 3 hts gX4_scale_X4_isIn rfl rfl rfl (by decide +kernel) ⟨Nat.le_of_ble_eq_true rfl, Nat.le_of_ble_eq_true rfl⟩) (zPreS (wc := []) hK (hP.sub [] rfl) (hD.sub [] (by decide) rfl) zTb (fun _ _ _ => trivial)) rfl rfl hl.1 rfl (lv_room (Nat.le_of_ble_eq_true rfl)) dX4_scale_18 ⟨Nat.le_of_ble_eq_true rfl, Nat.le_of_ble_eq_true rfl⟩) (fun r_2 u9_ H locs hw hP hD hS => ?_)
    have hP : va_P D cl5 [(m_, .inr (4, [.int th_, .int nn_, .long le_, .int sh_, .ref ab_, .ref be_, .long ca_, .long cb_, .long oc_, .long st_, .int bs_, .int tr_, .int sp_, .ref rr_]))] H := hP.sub [0] rfl
    have hD : va_D A [(m_, .inr (4, [.int th_, .int nn_, .long le_, .int sh_, .ref ab_, .ref be_, .long ca_, .long cb_, .long oc_, .long st_, .int bs_, .int tr_, .int sp_, .ref rr_]))] := hD.sub [0] (by decide) rfl
    have hw : r_2 = nI (inI y_.toInt64 (lN 0) (lN 16)) ∧ inI y_.toInt64 (lN 0) (lN 16) ≤ 1 := hw
    obtain ⟨rfl, hb_18⟩ := hw
    refine lv_if_eq (tgt := 28) hx hb dX4_scale_21 (by decide) (fun c_21 => ?_) (fun c_21 => ?_)
    · skip
      have c_21 := zji_eq (a := inI y_.toInt64 (lN 0) (lN 16)) (b := 0) (by omega) (by omega) c_21
      have hcd : cdScale x_ y_ = 1 := if_pos (Or.inr c_21)
      refine lv_iconst (v := nI 1) hx hb dX4_scale_28 (by decide) ?_
      refine va_put (D := D) (ci := 4) (v := .int (nI 1)) (ty := .int) (C := RX4) (T := TX4) (N := 14) hx hb hts nX4_scale_4 tyX4 tyX4_ok nmX4 hown hK hP hD hS 0 rfl rfl 0 (by decide) (zh (w := .fieldLink RX4 47 "FretRootsModel" "thrown" "I") hts 3 rfl) (fun _ h9 => h9) rfl (by decide +kernel) rfl rfl (Nat.le_of_ble_eq_true rfl) dX4_scale_29 (fun H locs hP hD hS => ?_)
      have hP : va_P D cl5 [(m_, .inr (4, [.int (nI 1), .int nn_, .long le_, .int sh_, .ref ab_, .ref be_, .long ca_, .long cb_, .long oc_, .long st_, .int bs_, .int tr_, .int sp_, .ref rr_]))] H := hP
      have hD : va_D A [(m_, .inr (4, [.int (nI 1), .int nn_, .long le_, .int sh_, .ref ab_, .ref be_, .long ca_, .long cb_, .long oc_, .long st_, .int bs_, .int tr_, .int sp_, .ref rr_]))] := hD
      refine lv_aload_n hx hb dX4_scale_32 rfl (lv_at hl 0 rfl) ?_
      refine va_get (D := D) (ci := 4) (v := .int (nI 1)) (C := RX4) (T := TX4) (N := 14) hx hb hts nX4_scale_4 hown hK hP 0 rfl rfl 0 (by decide) (zh (w := .fieldLink RX4 47 "FretRootsModel" "thrown" "I") hts 3 rfl) (fun _ h9 => h9) rfl dX4_scale_33 ?_
      refine lv_if_ne (tgt := 49) hx hb dX4_scale_36 (by decide) (fun c_36 => ?_) (fun c_36 => ?_)
      · skip
        have c_36 := zji_ne (a := 1) (b := 0) (by omega) (by omega) c_36
        subst hQ
        exact ze_v hx hb hr hlocks (nI 1, le_, sh_) (⟨by rw [hcd], by first | exact fun _ => ⟨rfl, rfl⟩ | exact fun q => absurd q (by omega), by first | exact fun _ => ⟨rfl, rfl⟩ | exact fun q => absurd hcd q⟩) hP hK hD hS dX4_scale_49
      · skip
        exact absurd c_36 (by decide)
    · skip
      have c_21 := zji_ne (a := inI y_.toInt64 (lN 0) (lN 16)) (b := 0) (by omega) (by omega) c_21
      have hcd : cdScale x_ y_ = 0 := if_neg (fun q => q.elim c_9 c_21)
      refine lv_iconst (v := nI 0) hx hb dX4_scale_24 (by decide) ?_
      refine lv_goto (tgt := 29) hx hb dX4_scale_25 (by decide) ?_
      refine va_put (D := D) (ci := 4) (v := .int (nI 0)) (ty := .int) (C := RX4) (T := TX4) (N := 14) hx hb hts nX4_scale_4 tyX4 tyX4_ok nmX4 hown hK hP hD hS 0 rfl rfl 0 (by decide) (zh (w := .fieldLink RX4 47 "FretRootsModel" "thrown" "I") hts 3 rfl) (fun _ h9 => h9) rfl (by decide +kernel) rfl rfl (Nat.le_of_ble_eq_true rfl) dX4_scale_29 (fun H locs hP hD hS => ?_)
      have hP : va_P D cl5 [(m_, .inr (4, [.int (nI 0), .int nn_, .long le_, .int sh_, .ref ab_, .ref be_, .long ca_, .long cb_, .long oc_, .long st_, .int bs_, .int tr_, .int sp_, .ref rr_]))] H := hP
      have hD : va_D A [(m_, .inr (4, [.int (nI 0), .int nn_, .long le_, .int sh_, .ref ab_, .ref be_, .long ca_, .long cb_, .long oc_, .long st_, .int bs_, .int tr_, .int sp_, .ref rr_]))] := hD
      refine lv_aload_n hx hb dX4_scale_32 rfl (lv_at hl 0 rfl) ?_
      refine va_get (D := D) (ci := 4) (v := .int (nI 0)) (C := RX4) (T := TX4) (N := 14) hx hb hts nX4_scale_4 hown hK hP 0 rfl rfl 0 (by decide) (zh (w := .fieldLink RX4 47 "FretRootsModel" "thrown" "I") hts 3 rfl) (fun _ h9 => h9) rfl dX4_scale_33 ?_
      refine lv_if_ne (tgt := 49) hx hb dX4_scale_36 (by decide) (fun c_36 => ?_) (fun c_36 => ?_)
      · skip
        exact absurd c_36 (by decide)
      · skip
        have c_36 := zji_eq (a := 0) (b := 0) (by omega) (by omega) c_36
        refine lv_aload_n hx hb dX4_scale_39 rfl (lv_at hl 0 rfl) ?_
        refine lv_lload_n hx hb dX4_scale_40 rfl (lv_at hl 1 rfl) ?_
        refine va_put (D := D) (ci := 4) (v := .long x_) (ty := .long) (C := RX4) (T := TX4) (N := 14) hx hb hts nX4_scale_4 tyX4 tyX4_ok nmX4 hown hK hP hD hS 0 rfl rfl 2 (by decide) (zh (w := .fieldLink RX4 9 "FretRootsModel" "length" "J") hts 4 rfl) (fun _ h9 => h9) rfl (by decide +kernel) rfl rfl (Nat.le_of_ble_eq_true rfl) dX4_scale_41 (fun H locs hP hD hS => ?_)
        have hP : va_P D cl5 [(m_, .inr (4, [.int (nI 0), .int nn_, .long x_, .int sh_, .ref ab_, .ref be_, .long ca_, .long cb_, .long oc_, .long st_, .int bs_, .int tr_, .int sp_, .ref rr_]))] H := hP
        have hD : va_D A [(m_, .inr (4, [.int (nI 0), .int nn_, .long x_, .int sh_, .ref ab_, .ref be_, .long ca_, .long cb_, .long oc_, .long st_, .int bs_, .int tr_, .int sp_, .ref rr_]))] := hD
        refine lv_aload_n hx hb dX4_scale_44 rfl (lv_at hl 0 rfl) ?_
        refine lv_iload_n hx hb dX4_scale_45 rfl (lv_at hl 2 rfl) ?_
        refine va_put (D := D) (ci := 4) (v := .int y_) (ty := .int) (C := RX4) (T := TX4) (N := 14) hx hb hts nX4_scale_4 tyX4 tyX4_ok nmX4 hown hK hP hD hS 0 rfl rfl 3 (by decide) (zh (w := .fieldLink RX4 15 "FretRootsModel" "shift" "I") hts 5 rfl) (fun _ h9 => h9) rfl (by decide +kernel) rfl rfl (Nat.le_of_ble_eq_true rfl) dX4_scale_46 (fun H locs hP hD hS => ?_)
        have hP : va_P D cl5 [(m_, .inr (4, [.int (nI 0), .int nn_, .long x_, .int y_, .ref ab_, .ref be_, .long ca_, .long cb_, .long oc_, .long st_, .int bs_, .int tr_, .int sp_, .ref rr_]))] H := hP
        have hD : va_D A [(m_, .inr (4, [.int (nI 0), .int nn_, .long x_, .int y_, .ref ab_, .ref be_, .long ca_, .long cb_, .long oc_, .long st_, .int bs_, .int tr_, .int sp_, .ref rr_]))] := hD
        subst hQ
        exact ze_v hx hb hr hlocks (nI 0, x_, y_) (⟨by rw [hcd], by first | exact fun _ => ⟨rfl, rfl⟩ | exact fun q => absurd q (by omega), by first | exact fun _ => ⟨rfl, rfl⟩ | exact fun q => absurd hcd q⟩) hP hK hD hS dX4_scale_49
theorem nX4_just_4 : ∀ w ∈ wsX40, w ∈ wsX4_just := by decide +kernel
abbrev rm_X4_just : Room := { frames := 2, cells := 0, slots := 0, locals := 46 }
set_option maxHeartbeats 4000000 in
set_option maxRecDepth 100000 in
/-- just of the reference -/
theorem ct_X4_just (l : Launch) (D : va_G) (cI cJ cD : ClassId) (m_ : Nat) (ab_ : Nat) (be_ : Nat) (rr_ : Nat) (th_ : Int32) (bs_ : Int32) (tr_ : Int32) (sp_ : Int32) (ca_ : Int64) (cb_ : Int64) (oc_ : Int64) (st_ : Int64) (n_ : Nat) (w_ : Nat) (h_ : Nat) (fa_ : Nat → Int32) (fb_ : Nat → Int32) (k_ : Int32) (x_ : Int32) (y_ : Int32) (sz : Nat) (hn1 : 1 ≤ n_) (hn : n_ ≤ 24) : Met l yX4_just wsX4_just rm_X4_just (zP D (ty3 cI cJ cD) [.ref m_, .int k_, .int x_, .int y_] sz [(m_, .inr (4, [.int th_, .int (nI n_), .long (lN w_), .int (nI h_), .ref ab_, .ref be_, .long ca_, .long cb_, .long oc_, .long st_, .int bs_, .int tr_, .int sp_, .ref rr_])), (ab_, .inl (cI, 49, .inl fa_)), (be_, .inl (cI, 49, .inl fb_))] zT) (va_Qv (fun (u : Int32 × (Nat → Int32) × (Nat → Int32)) => (u.1) = nI (cdJust k_ x_ y_ n_) ∧ (cdJust k_ x_ y_ n_ = 0 → ∃ kk xx yy, k_ = nI kk ∧ kk ≤ 2 * n_ ∧ x_ = nI xx ∧ y_ = nI yy ∧ 1 ≤ xx ∧ xx ≤ 1000000 ∧ 1 ≤ yy ∧ yy ≤ 1000000 ∧ (u.2.1) = upd fa_ kk (nI (xx / Nat.gcd xx yy)) ∧ (u.2.2) = upd fb_ kk (nI (yy / Nat.gcd xx yy))) ∧ (cdJust k_ x_ y_ n_ ≠ 0 → (u.2.1) = fa_ ∧ (u.2.2) = fb_)) (zB D (ty3 cI cJ cD) (fun (u : Int32 × (Nat → Int32) × (Nat → Int32)) => [(m_, .inr (4, [.int (u.1), .int (nI n_), .long (lN w_), .int (nI h_), .ref ab_, .ref be_, .long ca_, .long cb_, .long oc_, .long st_, .int bs_, .int tr_, .int sp_, .ref rr_])), (ab_, .inl (cI, 49, .inl (u.2.1))), (be_, .inl (cI, 49, .inl (u.2.2)))]) (va_A [(m_, .inr (4, [.int th_, .int (nI n_), .long (lN w_), .int (nI h_), .ref ab_, .ref be_, .long ca_, .long cb_, .long oc_, .long st_, .int bs_, .int tr_, .int sp_, .ref rr_])), (ab_, .inl (cI, 49, .inl fa_)), (be_, .inl (cI, 49, .inl fb_))] sz)) (va_A [(m_, .inr (4, [.int th_, .int (nI n_), .long (lN w_), .int (nI h_), .ref ab_, .ref be_, .long ca_, .long cb_, .long oc_, .long st_, .int bs_, .int tr_, .int sp_, .ref rr_])), (ab_, .inl (cI, 49, .inl fa_)), (be_, .inl (cI, 49, .inl fb_))] sz)) 0 0 (va_A [(m_, .inr (4, [.int th_, .int (nI n_), .long (lN w_), .int (nI h_), .ref ab_, .ref be_, .long ca_, .long cb_, .long oc_, .long st_, .int bs_, .int tr_, .int sp_, .ref rr_])), (ab_, .inl (cI, 49, .inl fa_)), (be_, .inl (cI, 49, .inl fb_))] sz) := by
  refine zMet (Qf := fun A => va_Qv (fun (u : Int32 × (Nat → Int32) × (Nat → Int32)) => (u.1) = nI (cdJust k_ x_ y_ n_) ∧ (cdJust k_ x_ y_ n_ = 0 → ∃ kk xx yy, k_ = nI kk ∧ kk ≤ 2 * n_ ∧ x_ = nI xx ∧ y_ = nI yy ∧ 1 ≤ xx ∧ xx ≤ 1000000 ∧ 1 ≤ yy ∧ yy ≤ 1000000 ∧ (u.2.1) = upd fa_ kk (nI (xx / Nat.gcd xx yy)) ∧ (u.2.2) = upd fb_ kk (nI (yy / Nat.gcd xx yy))) ∧ (cdJust k_ x_ y_ n_ ≠ 0 → (u.2.1) = fa_ ∧ (u.2.2) = fb_)) (zB D (ty3 cI cJ cD) (fun (u : Int32 × (Nat → Int32) × (Nat → Int32)) => [(m_, .inr (4, [.int (u.1), .int (nI n_), .long (lN w_), .int (nI h_), .ref ab_, .ref be_, .long ca_, .long cb_, .long oc_, .long st_, .int bs_, .int tr_, .int sp_, .ref rr_])), (ab_, .inl (cI, 49, .inl (u.2.1))), (be_, .inl (cI, 49, .inl (u.2.2)))]) A) A) (cc := cX4_just) (maxL := 5) (ret := none) (by decide) rfl (Nat.le_of_ble_eq_true rfl) ?_
  intro p e s m args below meth c A ls Q H hargs hQ hHe hx hb hr hml hown hts hlocks hin hP hK hD hA hS hE hAe hl
  have hl : lv_has ls 5 [(0, .ref m_), (1, .int k_), (2, .int x_), (3, .int y_)] := hl
  refine lv_aload_n hx hb dX4_just_0 rfl (lv_at hl 0 rfl) ?_
  refine lv_aload_n hx hb dX4_just_1 rfl (lv_at hl 0 rfl) ?_
  refine lv_iload_n hx hb dX4_just_2 rfl (lv_at hl 1 rfl) ?_
  refine zc_i (wc := [(m_, .inr (4, [.int th_, .int (nI n_), .long (lN w_), .int (nI h_), .ref ab_, .ref be_, .long ca_, .long cb_, .long oc_, .long st_, .int bs_, .int tr_, .int sp_, .ref rr_]))]) (wr := [(ab_, .inl (cI, 49, .inl fa_)), (be_, .inl (cI, 49, .inl fb_))]) hP hD hS hA [0] [1, 2] rfl rfl (by decide) (by decide) (va_runV (As := [.int k_]) (rest := [.ref m_]) ⟨hx, hb, hml, hown, hts⟩ (ct_X4_noPlace l D cI cJ cD m_ ab_ be_ rr_ th_ (nI h_) bs_ tr_ sp_ (lN w_) ca_ cb_ oc_ st_ n_ k_ H.size (by omega)) (cwV 1 hts gX4_just_X4_noPlace rfl rfl rfl (by decide +kernel) ⟨Nat.le_of_ble_eq_true rfl, Nat.le_of_ble_eq_true rfl⟩) (zPreV (wc := [(m_, .inr (4, [.int th_, .int (nI n_), .long (lN w_), .int (nI h_), .ref ab_, .ref be_, .long ca_, .long cb_, .long oc_, .long st_, .int bs_, .int tr_, .int sp_, .ref rr_]))]) hK (hP.sub [0] rfl) (hD.sub [0] (by decide) rfl) 4 0 rfl rfl zTb (fun _ _ _ => trivial)) rfl rfl hl.1 rfl (lv_room (Nat.le_of_ble_eq_true rfl)) dX4_just_3 ⟨Nat.le_of_ble_eq_true rfl, Nat.le_of_ble_eq_true rfl⟩) (fun r_1 u9_ H locs hw hP hD hS => ?_)
  have hP : va_P D cl5 [(m_, .inr (4, [.int th_, .int (nI n_), .long (lN w_), .int (nI h_), .ref ab_, .ref be_, .long ca_, .long cb_, .long oc_, .long st_, .int bs_, .int tr_, .int sp_, .ref rr_])), (ab_, .inl (cI, 49, .inl fa_)), (be_, .inl (cI, 49, .inl fb_))] H := hP.sub [2, 0, 1] rfl
  have hD : va_D A [(m_, .inr (4, [.int th_, .int (nI n_), .long (lN w_), .int (nI h_), .ref ab_, .ref be_, .long ca_, .long cb_, .long oc_, .long st_, .int bs_, .int tr_, .int sp_, .ref rr_])), (ab_, .inl (cI, 49, .inl fa_)), (be_, .inl (cI, 49, .inl fb_))] := hD.sub [2, 0, 1] (by decide) rfl
  have hw : r_1 = nI (npI k_ n_) ∧ npI k_ n_ ≤ 1 := hw
  obtain ⟨rfl, hb_3⟩ := hw
  refine lv_if_eq (tgt := 13) hx hb dX4_just_6 (by decide) (fun c_6 => ?_) (fun c_6 => ?_)
  · skip
    have c_6 := zji_eq (a := npI k_ n_) (b := 0) (by omega) (by omega) c_6
    refine lv_iload_n hx hb dX4_just_13 rfl (lv_at hl 2 rfl) ?_
    refine zc_i (wc := []) (wr := [(m_, .inr (4, [.int th_, .int (nI n_), .long (lN w_), .int (nI h_), .ref ab_, .ref be_, .long ca_, .long cb_, .long oc_, .long st_, .int bs_, .int tr_, .int sp_, .ref rr_])), (ab_, .inl (cI, 49, .inl fa_)), (be_, .inl (cI, 49, .inl fb_))]) hP hD hS hA [] [0, 1, 2] rfl rfl (by decide) (by decide) (va_runS (As := [.int x_]) (rest := [.ref m_]) ⟨hx, hb, hml, hown, hts⟩ (ct_X4_isPart l D cI cJ cD x_ H.size ) (va_cwS 1 hts gX4_just_X4_isPart rfl rfl rfl (by decide +kernel) ⟨Nat.le_of_ble_eq_true rfl, Nat.le_of_ble_eq_true rfl⟩) (zPreS (wc := []) hK (hP.sub [] rfl) (hD.sub [] (by decide) rfl) zTb (fun _ _ _ => trivial)) rfl rfl hl.1 rfl (lv_room (Nat.le_of_ble_eq_true rfl)) dX4_just_14 ⟨Nat.le_of_ble_eq_true rfl, Nat.le_of_ble_eq_true rfl⟩) (fun r_2 u9_ H locs hw hP hD hS => ?_)
    have hP : va_P D cl5 [(m_, .inr (4, [.int th_, .int (nI n_), .long (lN w_), .int (nI h_), .ref ab_, .ref be_, .long ca_, .long cb_, .long oc_, .long st_, .int bs_, .int tr_, .int sp_, .ref rr_])), (ab_, .inl (cI, 49, .inl fa_)), (be_, .inl (cI, 49, .inl fb_))] H := hP.sub [0, 1, 2] rfl
    have hD : va_D A [(m_, .inr (4, [.int th_, .int (nI n_), .long (lN w_), .int (nI h_), .ref ab_, .ref be_, .long ca_, .long cb_, .long oc_, .long st_, .int bs_, .int tr_, .int sp_, .ref rr_])), (ab_, .inl (cI, 49, .inl fa_)), (be_, .inl (cI, 49, .inl fb_))] := hD.sub [0, 1, 2] (by decide) rfl
    have hw : r_2 = nI (ptI x_) ∧ ptI x_ ≤ 1 := hw
    obtain ⟨rfl, hb_14⟩ := hw
    refine lv_if_eq (tgt := 31) hx hb dX4_just_17 (by decide) (fun c_17 => ?_) (fun c_17 => ?_)
    · skip
      have c_17 := zji_eq (a := ptI x_) (b := 0) (by omega) (by omega) c_17
      have hcd : cdJust k_ x_ y_ n_ = 2 := by unfold cdJust; rw [if_neg (by omega), if_pos (Or.inl c_17)]
      refine lv_iconst (v := nI 2) hx hb dX4_just_31 (by decide) ?_
      refine va_put (D := D) (ci := 4) (v := .int (nI 2)) (ty := .int) (C := RX4) (T := TX4) (N := 14) hx hb hts nX4_just_4 tyX4 tyX4_ok nmX4 hown hK hP hD hS 0 rfl rfl 0 (by decide) (zh (w := .fieldLink RX4 47 "FretRootsModel" "thrown" "I") hts 1 rfl) (fun _ h9 => h9) rfl (by decide +kernel) rfl rfl (Nat.le_of_ble_eq_true rfl) dX4_just_32 (fun H locs hP hD hS => ?_)
      have hP : va_P D cl5 [(m_, .inr (4, [.int (nI 2), .int (nI n_), .long (lN w_), .int (nI h_), .ref ab_, .ref be_, .long ca_, .long cb_, .long oc_, .long st_, .int bs_, .int tr_, .int sp_, .ref rr_])), (ab_, .inl (cI, 49, .inl fa_)), (be_, .inl (cI, 49, .inl fb_))] H := hP
      have hD : va_D A [(m_, .inr (4, [.int (nI 2), .int (nI n_), .long (lN w_), .int (nI h_), .ref ab_, .ref be_, .long ca_, .long cb_, .long oc_, .long st_, .int bs_, .int tr_, .int sp_, .ref rr_])), (ab_, .inl (cI, 49, .inl fa_)), (be_, .inl (cI, 49, .inl fb_))] := hD
      refine lv_aload_n hx hb dX4_just_35 rfl (lv_at hl 0 rfl) ?_
      refine va_get (D := D) (ci := 4) (v := .int (nI 2)) (C := RX4) (T := TX4) (N := 14) hx hb hts nX4_just_4 hown hK hP 0 rfl rfl 0 (by decide) (zh (w := .fieldLink RX4 47 "FretRootsModel" "thrown" "I") hts 1 rfl) (fun _ h9 => h9) rfl dX4_just_36 ?_
      refine lv_if_ne (tgt := 72) hx hb dX4_just_39 (by decide) (fun c_39 => ?_) (fun c_39 => ?_)
      · skip
        have c_39 := zji_ne (a := 2) (b := 0) (by omega) (by omega) c_39
        subst hQ
        exact ze_v hx hb hr hlocks (nI 2, fa_, fb_) (⟨by rw [hcd], by first | exact fun _ => ⟨kk, xx, yy, ek, hkk, ex, ey, hx1, hx2, hy1, hy2, rfl, rfl⟩ | exact fun q => absurd q (by omega), by first | exact fun _ => ⟨rfl, rfl⟩ | exact fun q => absurd hcd q⟩) hP hK hD hS dX4_just_72
      · skip
        exact absurd c_39 (by decide)
    · skip
      have c_17 := zji_ne (a := ptI x_) (b := 0) (by omega) (by omega) c_17
      refine lv_iload_n hx hb dX4_just_20 rfl (lv_at hl 3 rfl) ?_
      refine zc_i (wc := []) (wr := [(m_, .inr (4, [.int th_, .int (nI n_), .long (lN w_), .int (nI h_), .ref ab_, .ref be_, .long ca_, .long cb_, .long oc_, .long st_, .int bs_, .int tr_, .int sp_, .ref rr_])), (ab_, .inl (cI, 49, .inl fa_)), (be_, .inl (cI, 49, .inl fb_))]) hP hD hS hA [] [0, 1, 2] rfl rfl (by decide) (by decide) (va_runS (As := [.int y_]) (rest := [.ref m_]) ⟨hx, hb, hml, hown, hts⟩ (ct_X4_isPart l D cI cJ cD y_ H.size ) (va_cwS 1 hts gX4_just_X4_isPart rfl rfl rfl (by decide +kernel) ⟨Nat.le_of_ble_eq_true rfl, Nat.le_of_ble_eq_true rfl⟩) (zPreS (wc := []) hK (hP.sub [] rfl) (hD.sub [] (by decide) rfl) zTb (fun _ _ _ => trivial)) rfl rfl hl.1 rfl (lv_room (Nat.le_of_ble_eq_true rfl)) dX4_just_21 ⟨Nat.le_of_ble_eq_true rfl, Nat.le_of_ble_eq_true rfl⟩) (fun r_3 u9_ H locs hw hP hD hS => ?_)
      have hP : va_P D cl5 [(m_, .inr (4, [.int th_, .int (nI n_), .long (lN w_), .int (nI h_), .ref ab_, .ref be_, .long ca_, .long cb_, .long oc_, .long st_, .int bs_, .int tr_, .int sp_, .ref rr_])), (ab_, .inl (cI, 49, .inl fa_)), (be_, .inl (cI, 49, .inl fb_))] H := hP.sub [0, 1, 2] rfl
      have hD : va_D A [(m_, .inr (4, [.int th_, .int (nI n_), .long (lN w_), .int (nI h_), .ref ab_, .ref be_, .long ca_, .long cb_, .long oc_, .long st_, .int bs_, .int tr_, .int sp_, .ref rr_])), (ab_, .inl (cI, 49, .inl fa_)), (be_, .inl (cI, 49, .inl fb_))] := hD.sub [0, 1, 2] (by decide) rfl
      have hw : r_3 = nI (ptI y_) ∧ ptI y_ ≤ 1 := hw
      obtain ⟨rfl, hb_21⟩ := hw
      refine lv_if_eq (tgt := 31) hx hb dX4_just_24 (by decide) (fun c_24 => ?_) (fun c_24 => ?_)
      · skip
        have c_24 := zji_eq (a := ptI y_) (b := 0) (by omega) (by omega) c_24
        have hcd : cdJust k_ x_ y_ n_ = 2 := by unfold cdJust; rw [if_neg (by omega), if_pos (Or.inr c_24)]
        refine lv_iconst (v := nI 2) hx hb dX4_just_31 (by decide) ?_
        refine va_put (D := D) (ci := 4) (v := .int (nI 2)) (ty := .int) (C := RX4) (T := TX4) (N := 14) hx hb hts nX4_just_4 tyX4 tyX4_ok nmX4 hown hK hP hD hS 0 rfl rfl 0 (by decide) (zh (w := .fieldLink RX4 47 "FretRootsModel" "thrown" "I") hts 1 rfl) (fun _ h9 => h9) rfl (by decide +kernel) rfl rfl (Nat.le_of_ble_eq_true rfl) dX4_just_32 (fun H locs hP hD hS => ?_)
        have hP : va_P D cl5 [(m_, .inr (4, [.int (nI 2), .int (nI n_), .long (lN w_), .int (nI h_), .ref ab_, .ref be_, .long ca_, .long cb_, .long oc_, .long st_, .int bs_, .int tr_, .int sp_, .ref rr_])), (ab_, .inl (cI, 49, .inl fa_)), (be_, .inl (cI, 49, .inl fb_))] H := hP
        have hD : va_D A [(m_, .inr (4, [.int (nI 2), .int (nI n_), .long (lN w_), .int (nI h_), .ref ab_, .ref be_, .long ca_, .long cb_, .long oc_, .long st_, .int bs_, .int tr_, .int sp_, .ref rr_])), (ab_, .inl (cI, 49, .inl fa_)), (be_, .inl (cI, 49, .inl fb_))] := hD
        refine lv_aload_n hx hb dX4_just_35 rfl (lv_at hl 0 rfl) ?_
        refine va_get (D := D) (ci := 4) (v := .int (nI 2)) (C := RX4) (T := TX4) (N := 14) hx hb hts nX4_just_4 hown hK hP 0 rfl rfl 0 (by decide) (zh (w := .fieldLink RX4 47 "FretRootsModel" "thrown" "I") hts 1 rfl) (fun _ h9 => h9) rfl dX4_just_36 ?_
        refine lv_if_ne (tgt := 72) hx hb dX4_just_39 (by decide) (fun c_39 => ?_) (fun c_39 => ?_)
        · skip
          have c_39 := zji_ne (a := 2) (b := 0) (by omega) (by omega) c_39
          subst hQ
          exact ze_v hx hb hr hlocks (nI 2, fa_, fb_) (⟨by rw [hcd], by first | exact fun _ => ⟨kk, xx, yy, ek, hkk, ex, ey, hx1, hx2, hy1, hy2, rfl, rfl⟩ | exact fun q => absurd q (by omega), by first | exact fun _ => ⟨rfl, rfl⟩ | exact fun q => absurd hcd q⟩) hP hK hD hS dX4_just_72
        · skip
          exact absurd c_39 (by decide)
      · skip
        have c_24 := zji_ne (a := ptI y_) (b := 0) (by omega) (by omega) c_24
        have hcd : cdJust k_ x_ y_ n_ = 0 := by unfold cdJust; rw [if_neg (by omega), if_neg (fun q => q.elim c_17 c_24)]
        obtain ⟨kk, ek, hkk⟩ := np_ok hn c_6
        obtain ⟨xx, ex, hx1, hx2⟩ := pt_ok c_17
        obtain ⟨yy, ey, hy1, hy2⟩ := pt_ok c_24
        have hg1 := Nat.gcd_pos_of_pos_left yy hx1
        have hg2 := Nat.gcd_le_left yy hx1
        refine lv_iconst (v := nI 0) hx hb dX4_just_27 (by decide) ?_
        refine lv_goto (tgt := 32) hx hb dX4_just_28 (by decide) ?_
        refine va_put (D := D) (ci := 4) (v := .int (nI 0)) (ty := .int) (C := RX4) (T := TX4) (N := 14) hx hb hts nX4_just_4 tyX4 tyX4_ok nmX4 hown hK hP hD hS 0 rfl rfl 0 (by decide) (zh (w := .fieldLink RX4 47 "FretRootsModel" "thrown" "I") hts 1 rfl) (fun _ h9 => h9) rfl (by decide +kernel) rfl rfl (Nat.le_of_ble_eq_true rfl) dX4_just_32 (fun H locs hP hD hS => ?_)
        have hP : va_P D cl5 [(m_, .inr (4, [.int (nI 0), .int (nI n_), .long (lN w_), .int (nI h_), .ref ab_, .ref be_, .long ca_, .long cb_, .long oc_, .long st_, .int bs_, .int tr_, .int sp_, .ref rr_])), (ab_, .inl (cI, 49, .inl fa_)), (be_, .inl (cI, 49, .inl fb_))] H := hP
        have hD : va_D A [(m_, .inr (4, [.int (nI 0), .int (nI n_), .long (lN w_), .int (nI h_), .ref ab_, .ref be_, .long ca_, .long cb_, .long oc_, .long st_, .int bs_, .int tr_, .int sp_, .ref rr_])), (ab_, .inl (cI, 49, .inl fa_)), (be_, .inl (cI, 49, .inl fb_))] := hD
        refine lv_aload_n hx hb dX4_just_35 rfl (lv_at hl 0 rfl) ?_
        refine va_get (D := D) (ci := 4) (v := .int (nI 0)) (C := RX4) (T := TX4) (N := 14) hx hb hts nX4_just_4 hown hK hP 0 rfl rfl 0 (by decide) (zh (w := .fieldLink RX4 47 "FretRootsModel" "thrown" "I") hts 1 rfl) (fun _ h9 => h9) rfl dX4_just_36 ?_
        refine lv_if_ne (tgt := 72) hx hb dX4_just_39 (by decide) (fun c_39 => ?_) (fun c_39 => ?_)
        · skip
          exact absurd c_39 (by decide)
        · skip
          have c_39 := zji_eq (a := 0) (b := 0) (by omega) (by omega) c_39
          refine lv_iload_n hx hb dX4_just_42 rfl (lv_at hl 2 rfl) ?_
          refine zi_ (y := nI xx) (ex) ?_
          refine lv_i2l (v := lN xx) hx hb dX4_just_43 (nI_l (by omega)) ?_
          refine lv_iload_n hx hb dX4_just_44 rfl (lv_at hl 3 rfl) ?_
          refine zi_ (y := nI yy) (ey) ?_
          refine lv_i2l (v := lN yy) hx hb dX4_just_45 (nI_l (by omega)) ?_
          refine zc_l (wc := []) (wr := [(m_, .inr (4, [.int (nI 0), .int (nI n_), .long (lN w_), .int (nI h_), .ref ab_, .ref be_, .long ca_, .long cb_, .long oc_, .long st_, .int bs_, .int tr_, .int sp_, .ref rr_])), (ab_, .inl (cI, 49, .inl fa_)), (be_, .inl (cI, 49, .inl fb_))]) hP hD hS hA [] [0, 1, 2] rfl rfl (by decide) (by decide) (va_runS (As := [.long (lN xx), .long (lN yy)]) (rest := []) ⟨hx, hb, hml, hown, hts⟩ (ct_X4_divisor l D cI cJ cD xx yy H.size (by omega) (by omega)) (va_cwS 2 hts gX4_just_X4_divisor rfl rfl rfl (by decide +kernel) ⟨Nat.le_of_ble_eq_true rfl, Nat.le_of_ble_eq_true rfl⟩) (zPreS (wc := []) hK (hP.sub [] rfl) (hD.sub [] (by decide) rfl) zTb (fun _ _ _ => trivial)) rfl rfl hl.1 rfl (lv_room (Nat.le_of_ble_eq_true rfl)) dX4_just_46 ⟨Nat.le_of_ble_eq_true rfl, Nat.le_of_ble_eq_true rfl⟩) (fun r_4 u9_ H locs hw hP hD hS => ?_)
          have hP : va_P D cl5 [(m_, .inr (4, [.int (nI 0), .int (nI n_), .long (lN w_), .int (nI h_), .ref ab_, .ref be_, .long ca_, .long cb_, .long oc_, .long st_, .int bs_, .int tr_, .int sp_, .ref rr_])), (ab_, .inl (cI, 49, .inl fa_)), (be_, .inl (cI, 49, .inl fb_))] H := hP.sub [0, 1, 2] rfl
          have hD : va_D A [(m_, .inr (4, [.int (nI 0), .int (nI n_), .long (lN w_), .int (nI h_), .ref ab_, .ref be_, .long ca_, .long cb_, .long oc_, .long st_, .int bs_, .int tr_, .int sp_, .ref rr_])), (ab_, .inl (cI, 49, .inl fa_)), (be_, .inl (cI, 49, .inl fb_))] := hD.sub [0, 1, 2] (by decide) rfl
          have hw : r_4 = lN (Nat.gcd xx yy) := hw
          subst hw
          refine lv_l2i (v := nI (Nat.gcd xx yy)) hx hb dX4_just_49 (lN_i (Nat.gcd xx yy)) ?_
          refine lv_istore (lv' := [(4, .int (nI (Nat.gcd xx yy))), (0, .ref m_), (1, .int k_), (2, .int x_), (3, .int y_)]) hx hb dX4_just_50 hl (by decide) rfl (fun ls hl => ?_)
          refine lv_aload_n hx hb dX4_just_52 rfl (lv_at hl 1 rfl) ?_
          refine va_get (D := D) (ci := 4) (v := .ref ab_) (C := RX4) (T := TX4) (N := 14) hx hb hts nX4_just_4 hown hK hP 0 rfl rfl 4 (by decide) (zh (w := .fieldLink RX4 19 "FretRootsModel" "aboves" "[I") hts 2 rfl) (fun _ h9 => h9) rfl dX4_just_53 ?_
          refine lv_iload_n hx hb dX4_just_56 rfl (lv_at hl 2 rfl) ?_
          refine zi_ (y := nI kk) (ek) ?_
          refine lv_iload_n hx hb dX4_just_57 rfl (lv_at hl 3 rfl) ?_
          refine zi_ (y := nI xx) (ex) ?_
          refine lv_iload hx hb dX4_just_58 (lv_at hl 0 rfl) ?_
          refine lv_idiv hx hb dX4_just_60 (zine0 (by omega) (by omega)) ?_
          refine zi_ (y := nI (xx / (Nat.gcd xx yy))) (pk_div (by omega) (by omega) (by omega)) ?_
          refine z_iast (j := kk) hx hb hK hP hD hS 1 0 rfl rfl (by omega) (by omega) dX4_just_61 (fun H locs hP hD hS => ?_)
          have hP : va_P D cl5 [(m_, .inr (4, [.int (nI 0), .int (nI n_), .long (lN w_), .int (nI h_), .ref ab_, .ref be_, .long ca_, .long cb_, .long oc_, .long st_, .int bs_, .int tr_, .int sp_, .ref rr_])), (ab_, .inl (cI, 49, .inl (upd fa_ kk (nI (xx / (Nat.gcd xx yy)))))), (be_, .inl (cI, 49, .inl fb_))] H := hP
          have hD : va_D A [(m_, .inr (4, [.int (nI 0), .int (nI n_), .long (lN w_), .int (nI h_), .ref ab_, .ref be_, .long ca_, .long cb_, .long oc_, .long st_, .int bs_, .int tr_, .int sp_, .ref rr_])), (ab_, .inl (cI, 49, .inl (upd fa_ kk (nI (xx / (Nat.gcd xx yy)))))), (be_, .inl (cI, 49, .inl fb_))] := hD
          refine lv_aload_n hx hb dX4_just_62 rfl (lv_at hl 1 rfl) ?_
          refine va_get (D := D) (ci := 4) (v := .ref be_) (C := RX4) (T := TX4) (N := 14) hx hb hts nX4_just_4 hown hK hP 0 rfl rfl 5 (by decide) (zh (w := .fieldLink RX4 23 "FretRootsModel" "belows" "[I") hts 3 rfl) (fun _ h9 => h9) rfl dX4_just_63 ?_
          refine lv_iload_n hx hb dX4_just_66 rfl (lv_at hl 2 rfl) ?_
          refine zi_ (y := nI kk) (ek) ?_
          refine lv_iload_n hx hb dX4_just_67 rfl (lv_at hl 4 rfl) ?_
          refine zi_ (y := nI yy) (ey) ?_
          refine lv_iload hx hb dX4_just_68 (lv_at hl 0 rfl) ?_
          refine lv_idiv hx hb dX4_just_70 (zine0 (by omega) (by omega)) ?_
          refine zi_ (y := nI (yy / (Nat.gcd xx yy))) (pk_div (by omega) (by omega) (by omega)) ?_
          refine z_iast (j := kk) hx hb hK hP hD hS 2 0 rfl rfl (by omega) (by omega) dX4_just_71 (fun H locs hP hD hS => ?_)
          have hP : va_P D cl5 [(m_, .inr (4, [.int (nI 0), .int (nI n_), .long (lN w_), .int (nI h_), .ref ab_, .ref be_, .long ca_, .long cb_, .long oc_, .long st_, .int bs_, .int tr_, .int sp_, .ref rr_])), (ab_, .inl (cI, 49, .inl (upd fa_ kk (nI (xx / (Nat.gcd xx yy)))))), (be_, .inl (cI, 49, .inl (upd fb_ kk (nI (yy / (Nat.gcd xx yy))))))] H := hP
          have hD : va_D A [(m_, .inr (4, [.int (nI 0), .int (nI n_), .long (lN w_), .int (nI h_), .ref ab_, .ref be_, .long ca_, .long cb_, .long oc_, .long st_, .int bs_, .int tr_, .int sp_, .ref rr_])), (ab_, .inl (cI, 49, .inl (upd fa_ kk (nI (xx / (Nat.gcd xx yy)))))), (be_, .inl (cI, 49, .inl (upd fb_ kk (nI (yy / (Nat.gcd xx yy))))))] := hD
          subst hQ
          exact ze_v hx hb hr hlocks (nI 0, upd fa_ kk (nI (xx / (Nat.gcd xx yy))), upd fb_ kk (nI (yy / (Nat.gcd xx yy)))) (⟨by rw [hcd], by first | exact fun _ => ⟨kk, xx, yy, ek, hkk, ex, ey, hx1, hx2, hy1, hy2, rfl, rfl⟩ | exact fun q => absurd q (by omega), by first | exact fun _ => ⟨rfl, rfl⟩ | exact fun q => absurd hcd q⟩) hP hK hD hS dX4_just_72
  · skip
    have c_6 := zji_ne (a := npI k_ n_) (b := 0) (by omega) (by omega) c_6
    have hcd : cdJust k_ x_ y_ n_ = 1 := if_pos (by omega)
    refine lv_iconst (v := nI 1) hx hb dX4_just_9 (by decide) ?_
    refine lv_goto (tgt := 32) hx hb dX4_just_10 (by decide) ?_
    refine va_put (D := D) (ci := 4) (v := .int (nI 1)) (ty := .int) (C := RX4) (T := TX4) (N := 14) hx hb hts nX4_just_4 tyX4 tyX4_ok nmX4 hown hK hP hD hS 0 rfl rfl 0 (by decide) (zh (w := .fieldLink RX4 47 "FretRootsModel" "thrown" "I") hts 1 rfl) (fun _ h9 => h9) rfl (by decide +kernel) rfl rfl (Nat.le_of_ble_eq_true rfl) dX4_just_32 (fun H locs hP hD hS => ?_)
    have hP : va_P D cl5 [(m_, .inr (4, [.int (nI 1), .int (nI n_), .long (lN w_), .int (nI h_), .ref ab_, .ref be_, .long ca_, .long cb_, .long oc_, .long st_, .int bs_, .int tr_, .int sp_, .ref rr_])), (ab_, .inl (cI, 49, .inl fa_)), (be_, .inl (cI, 49, .inl fb_))] H := hP
    have hD : va_D A [(m_, .inr (4, [.int (nI 1), .int (nI n_), .long (lN w_), .int (nI h_), .ref ab_, .ref be_, .long ca_, .long cb_, .long oc_, .long st_, .int bs_, .int tr_, .int sp_, .ref rr_])), (ab_, .inl (cI, 49, .inl fa_)), (be_, .inl (cI, 49, .inl fb_))] := hD
    refine lv_aload_n hx hb dX4_just_35 rfl (lv_at hl 0 rfl) ?_
    refine va_get (D := D) (ci := 4) (v := .int (nI 1)) (C := RX4) (T := TX4) (N := 14) hx hb hts nX4_just_4 hown hK hP 0 rfl rfl 0 (by decide) (zh (w := .fieldLink RX4 47 "FretRootsModel" "thrown" "I") hts 1 rfl) (fun _ h9 => h9) rfl dX4_just_36 ?_
    refine lv_if_ne (tgt := 72) hx hb dX4_just_39 (by decide) (fun c_39 => ?_) (fun c_39 => ?_)
    · skip
      have c_39 := zji_ne (a := 1) (b := 0) (by omega) (by omega) c_39
      subst hQ
      exact ze_v hx hb hr hlocks (nI 1, fa_, fb_) (⟨by rw [hcd], by first | exact fun _ => ⟨kk, xx, yy, ek, hkk, ex, ey, hx1, hx2, hy1, hy2, rfl, rfl⟩ | exact fun q => absurd q (by omega), by first | exact fun _ => ⟨rfl, rfl⟩ | exact fun q => absurd hcd q⟩) hP hK hD hS dX4_just_72
    · skip
      exact absurd c_39 (by decide)
abbrev rm_X4_white : Room := { frames := 0, cells := 0, slots := 0, locals := 0 }
set_option maxHeartbeats 4000000 in
set_option maxRecDepth 100000 in
/-- white -/
theorem ct_X4_white (l : Launch) (D : va_G) (cI cJ cD : ClassId) (j_ : Nat) (sz : Nat) (hj : j_ ≤ 11) : Met l yX4_white wsX4_white rm_X4_white (zP D (ty3 cI cJ cD) [.int (nI j_)] sz [] zT) (va_Qi (fun (r : Int32) (u : Unit) => r = whI j_) (zB D (ty3 cI cJ cD) (fun (u : Unit) => []) (va_A [] sz)) (va_A [] sz)) 0 0 (va_A [] sz) := by
  refine zMet (Qf := fun A => va_Qi (fun (r : Int32) (u : Unit) => r = whI j_) (zB D (ty3 cI cJ cD) (fun (u : Unit) => []) A) A) (cc := cX4_white) (maxL := 2) (ret := (some .int)) (by decide) rfl (Nat.le_of_ble_eq_true rfl) ?_
  intro p e s m args below meth c A ls Q H hargs hQ hHe hx hb hr hml hown hts hlocks hin hP hK hD hA hS hE hAe hl
  have hl : lv_has ls 2 [(0, .int (nI j_))] := hl
  refine lv_iload_n hx hb dX4_white_0 rfl (lv_at hl 0 rfl) ?_
  refine lv_iconst (v := nI 4) hx hb dX4_white_1 (by decide) ?_
  refine lv_icmp_le (tgt := 9) hx hb dX4_white_2 (by decide) (fun c_2 => ?_) (fun c_2 => ?_)
  · skip
    have c_2 := zji_le (a := j_) (b := 4) (by omega) (by omega) c_2
    refine lv_iconst (v := nI 0) hx hb dX4_white_9 (by decide) ?_
    refine lv_istore_n (lv' := [(1, .int (nI 0)), (0, .int (nI j_))]) hx hb dX4_white_10 rfl hl (by decide) rfl (fun ls hl => ?_)
    refine lv_iload_n hx hb dX4_white_11 rfl (lv_at hl 1 rfl) ?_
    refine lv_iload_n hx hb dX4_white_12 rfl (lv_at hl 0 rfl) ?_
    refine lv_iadd hx hb dX4_white_13 ?_
    refine zi_ (y := nI (j_ + 0)) (nI_add j_ 0) ?_
    refine lv_iconst (v := nI 2) hx hb dX4_white_14 (by decide) ?_
    refine lv_irem hx hb dX4_white_15 (zine0 (by omega) (by omega)) ?_
    refine zi_ (y := nI ((j_ + 0) % 2)) (pk_rem (by omega) (by omega) (by omega)) ?_
    refine lv_if_ne (tgt := 27) hx hb dX4_white_16 (by decide) (fun c_16 => ?_) (fun c_16 => ?_)
    · skip
      have c_16 := zji_ne (a := (j_ + 0) % 2) (b := 0) (by omega) (by omega) c_16
      refine lv_iconst (v := -1) hx hb dX4_white_27 (by decide) ?_
      subst hQ
      exact ze_i hx hb hr hlocks () ((if_neg (by unfold whN; first | rw [if_pos c_2]; omega | rw [if_neg (by omega)]; omega)).symm) hP hK hD hS dX4_white_28
    · skip
      have c_16 := zji_eq (a := (j_ + 0) % 2) (b := 0) (by omega) (by omega) c_16
      refine lv_iload_n hx hb dX4_white_19 rfl (lv_at hl 1 rfl) ?_
      refine lv_iload_n hx hb dX4_white_20 rfl (lv_at hl 0 rfl) ?_
      refine lv_iadd hx hb dX4_white_21 ?_
      refine zi_ (y := nI (j_ + 0)) (nI_add j_ 0) ?_
      refine lv_iconst (v := nI 2) hx hb dX4_white_22 (by decide) ?_
      refine lv_idiv hx hb dX4_white_23 (zine0 (by omega) (by omega)) ?_
      refine zi_ (y := nI ((j_ + 0) / 2)) (pk_div (by omega) (by omega) (by omega)) ?_
      refine lv_goto (tgt := 28) hx hb dX4_white_24 (by decide) ?_
      subst hQ
      exact ze_i hx hb hr hlocks () (by unfold whI whN; first | (rw [if_pos c_2, if_pos (by omega)]) | (rw [if_neg (show ¬ 4 < j_ by omega), if_pos (by omega)])) hP hK hD hS dX4_white_28
  · skip
    have c_2 := zji_nle (a := j_) (b := 4) (by omega) (by omega) c_2
    refine lv_iconst (v := nI 1) hx hb dX4_white_5 (by decide) ?_
    refine lv_goto (tgt := 10) hx hb dX4_white_6 (by decide) ?_
    refine lv_istore_n (lv' := [(1, .int (nI 1)), (0, .int (nI j_))]) hx hb dX4_white_10 rfl hl (by decide) rfl (fun ls hl => ?_)
    refine lv_iload_n hx hb dX4_white_11 rfl (lv_at hl 1 rfl) ?_
    refine lv_iload_n hx hb dX4_white_12 rfl (lv_at hl 0 rfl) ?_
    refine lv_iadd hx hb dX4_white_13 ?_
    refine zi_ (y := nI (j_ + 1)) (nI_add j_ 1) ?_
    refine lv_iconst (v := nI 2) hx hb dX4_white_14 (by decide) ?_
    refine lv_irem hx hb dX4_white_15 (zine0 (by omega) (by omega)) ?_
    refine zi_ (y := nI ((j_ + 1) % 2)) (pk_rem (by omega) (by omega) (by omega)) ?_
    refine lv_if_ne (tgt := 27) hx hb dX4_white_16 (by decide) (fun c_16 => ?_) (fun c_16 => ?_)
    · skip
      have c_16 := zji_ne (a := (j_ + 1) % 2) (b := 0) (by omega) (by omega) c_16
      refine lv_iconst (v := -1) hx hb dX4_white_27 (by decide) ?_
      subst hQ
      exact ze_i hx hb hr hlocks () ((if_neg (by unfold whN; first | rw [if_pos c_2]; omega | rw [if_neg (by omega)]; omega)).symm) hP hK hD hS dX4_white_28
    · skip
      have c_16 := zji_eq (a := (j_ + 1) % 2) (b := 0) (by omega) (by omega) c_16
      refine lv_iload_n hx hb dX4_white_19 rfl (lv_at hl 1 rfl) ?_
      refine lv_iload_n hx hb dX4_white_20 rfl (lv_at hl 0 rfl) ?_
      refine lv_iadd hx hb dX4_white_21 ?_
      refine zi_ (y := nI (j_ + 1)) (nI_add j_ 1) ?_
      refine lv_iconst (v := nI 2) hx hb dX4_white_22 (by decide) ?_
      refine lv_idiv hx hb dX4_white_23 (zine0 (by omega) (by omega)) ?_
      refine zi_ (y := nI ((j_ + 1) / 2)) (pk_div (by omega) (by omega) (by omega)) ?_
      refine lv_goto (tgt := 28) hx hb dX4_white_24 (by decide) ?_
      subst hQ
      exact ze_i hx hb hr hlocks () (by unfold whI whN; first | (rw [if_pos c_2, if_pos (by omega)]) | (rw [if_neg (show ¬ 4 < j_ by omega), if_pos (by omega)])) hP hK hD hS dX4_white_28
theorem nX4_key_4 : ∀ w ∈ wsX40, w ∈ wsX4_key := by decide +kernel
abbrev rm_X4_key : Room := { frames := 1, cells := 0, slots := 0, locals := 25 }
set_option maxHeartbeats 4000000 in
set_option maxRecDepth 100000 in
/-- key of the reference -/
theorem ct_X4_key (l : Launch) (D : va_G) (cI cJ cD : ClassId) (m_ : Nat) (ab_ : Nat) (be_ : Nat) (rr_ : Nat) (th_ : Int32) (nn_ : Int32) (sh_ : Int32) (bs_ : Int32) (tr_ : Int32) (sp_ : Int32) (le_ : Int64) (ca_ : Int64) (cb_ : Int64) (oc_ : Int64) (st_ : Int64) (k_ : Int32) (x_ : Int64) (p_ : Int32) (sz : Nat) : Met l yX4_key wsX4_key rm_X4_key (zP D (ty3 cI cJ cD) [.ref m_, .int k_, .long x_, .int p_] sz [(m_, .inr (4, [.int th_, .int nn_, .long le_, .int sh_, .ref ab_, .ref be_, .long ca_, .long cb_, .long oc_, .long st_, .int bs_, .int tr_, .int sp_, .ref rr_]))] zT) (va_Ql (fun (r : Int64) (u : Int32) => u = nI (cdKey k_ x_ p_) ∧ (cdKey k_ x_ p_ = 0 → ∃ kk xx q, k_ = nI kk ∧ kk ≤ 11 ∧ x_ = lN xx ∧ xx ≤ 1000000 ∧ p_ = nI q ∧ q ≤ 3 ∧ r = lN (keyN kk xx q))) (zB D (ty3 cI cJ cD) (fun (u : Int32) => [(m_, .inr (4, [.int u, .int nn_, .long le_, .int sh_, .ref ab_, .ref be_, .long ca_, .long cb_, .long oc_, .long st_, .int bs_, .int tr_, .int sp_, .ref rr_]))]) (va_A [(m_, .inr (4, [.int th_, .int nn_, .long le_, .int sh_, .ref ab_, .ref be_, .long ca_, .long cb_, .long oc_, .long st_, .int bs_, .int tr_, .int sp_, .ref rr_]))] sz)) (va_A [(m_, .inr (4, [.int th_, .int nn_, .long le_, .int sh_, .ref ab_, .ref be_, .long ca_, .long cb_, .long oc_, .long st_, .int bs_, .int tr_, .int sp_, .ref rr_]))] sz)) 0 0 (va_A [(m_, .inr (4, [.int th_, .int nn_, .long le_, .int sh_, .ref ab_, .ref be_, .long ca_, .long cb_, .long oc_, .long st_, .int bs_, .int tr_, .int sp_, .ref rr_]))] sz) := by
  refine zMet (Qf := fun A => va_Ql (fun (r : Int64) (u : Int32) => u = nI (cdKey k_ x_ p_) ∧ (cdKey k_ x_ p_ = 0 → ∃ kk xx q, k_ = nI kk ∧ kk ≤ 11 ∧ x_ = lN xx ∧ xx ≤ 1000000 ∧ p_ = nI q ∧ q ≤ 3 ∧ r = lN (keyN kk xx q))) (zB D (ty3 cI cJ cD) (fun (u : Int32) => [(m_, .inr (4, [.int u, .int nn_, .long le_, .int sh_, .ref ab_, .ref be_, .long ca_, .long cb_, .long oc_, .long st_, .int bs_, .int tr_, .int sp_, .ref rr_]))]) A) A) (cc := cX4_key) (maxL := 6) (ret := (some .long)) (by decide) rfl (Nat.le_of_ble_eq_true rfl) ?_
  intro p e s m args below meth c A ls Q H hargs hQ hHe hx hb hr hml hown hts hlocks hin hP hK hD hA hS hE hAe hl
  have hl : lv_has ls 6 [(0, .ref m_), (1, .int k_), (2, .long x_), (4, .int p_)] := hl
  refine lv_aload_n hx hb dX4_key_0 rfl (lv_at hl 0 rfl) ?_
  refine lv_iload_n hx hb dX4_key_1 rfl (lv_at hl 1 rfl) ?_
  refine lv_i2l (v := k_.toInt64) hx hb dX4_key_2 rfl ?_
  refine lv_lconst (v := lN 0) hx hb dX4_key_3 rfl ?_
  refine lv_ldc2 (v := 11) hx hb hown (zh (w := .constantLong RX4 135 (11)) hts 1 rfl) dX4_key_4 ?_
  refine zl_ (y := lN 11) rfl ?_
  refine zc_i (wc := []) (wr := [(m_, .inr (4, [.int th_, .int nn_, .long le_, .int sh_, .ref ab_, .ref be_, .long ca_, .long cb_, .long oc_, .long st_, .int bs_, .int tr_, .int sp_, .ref rr_]))]) hP hD hS hA [] [0] rfl rfl (by decide) (by decide) (va_runS (As := [.long k_.toInt64, .long (lN 0), .long (lN 11)]) (rest := [.ref m_]) ⟨hx, hb, hml, hown, hts⟩ (ct_X4_isIn l D cI cJ cD k_.toInt64 (lN 0) (lN 11) H.size ) (va_cwS 3 hts gX4_key_X4_isIn rfl rfl rfl (by decide +kernel) ⟨Nat.le_of_ble_eq_true rfl, Nat.le_of_ble_eq_true rfl⟩) (zPreS (wc := []) hK (hP.sub [] rfl) (hD.sub [] (by decide) rfl) zTb (fun _ _ _ => trivial)) rfl rfl hl.1 rfl (lv_room (Nat.le_of_ble_eq_true rfl)) dX4_key_7 ⟨Nat.le_of_ble_eq_true rfl, Nat.le_of_ble_eq_true rfl⟩) (fun r_1 u9_ H locs hw hP hD hS => ?_)
  have hP : va_P D cl5 [(m_, .inr (4, [.int th_, .int nn_, .long le_, .int sh_, .ref ab_, .ref be_, .long ca_, .long cb_, .long oc_, .long st_, .int bs_, .int tr_, .int sp_, .ref rr_]))] H := hP.sub [0] rfl
  have hD : va_D A [(m_, .inr (4, [.int th_, .int nn_, .long le_, .int sh_, .ref ab_, .ref be_, .long ca_, .long cb_, .long oc_, .long st_, .int bs_, .int tr_, .int sp_, .ref rr_]))] := hD.sub [0] (by decide) rfl
  have hw : r_1 = nI (inI k_.toInt64 (lN 0) (lN 11)) ∧ inI k_.toInt64 (lN 0) (lN 11) ≤ 1 := hw
  obtain ⟨rfl, hb_7⟩ := hw
  refine lv_if_eq (tgt := 26) hx hb dX4_key_10 (by decide) (fun c_10 => ?_) (fun c_10 => ?_)
  · skip
    have c_10 := zji_eq (a := inI k_.toInt64 (lN 0) (lN 11)) (b := 0) (by omega) (by omega) c_10
    have hcd : cdKey k_ x_ p_ = 1 := if_pos (Or.inl c_10)
    refine lv_iconst (v := nI 1) hx hb dX4_key_26 (by decide) ?_
    refine lv_goto (tgt := 46) hx hb dX4_key_27 (by decide) ?_
    refine va_put (D := D) (ci := 4) (v := .int (nI 1)) (ty := .int) (C := RX4) (T := TX4) (N := 14) hx hb hts nX4_key_4 tyX4 tyX4_ok nmX4 hown hK hP hD hS 0 rfl rfl 0 (by decide) (zh (w := .fieldLink RX4 47 "FretRootsModel" "thrown" "I") hts 4 rfl) (fun _ h9 => h9) rfl (by decide +kernel) rfl rfl (Nat.le_of_ble_eq_true rfl) dX4_key_46 (fun H locs hP hD hS => ?_)
    have hP : va_P D cl5 [(m_, .inr (4, [.int (nI 1), .int nn_, .long le_, .int sh_, .ref ab_, .ref be_, .long ca_, .long cb_, .long oc_, .long st_, .int bs_, .int tr_, .int sp_, .ref rr_]))] H := hP
    have hD : va_D A [(m_, .inr (4, [.int (nI 1), .int nn_, .long le_, .int sh_, .ref ab_, .ref be_, .long ca_, .long cb_, .long oc_, .long st_, .int bs_, .int tr_, .int sp_, .ref rr_]))] := hD
    refine lv_aload_n hx hb dX4_key_49 rfl (lv_at hl 0 rfl) ?_
    refine va_get (D := D) (ci := 4) (v := .int (nI 1)) (C := RX4) (T := TX4) (N := 14) hx hb hts nX4_key_4 hown hK hP 0 rfl rfl 0 (by decide) (zh (w := .fieldLink RX4 47 "FretRootsModel" "thrown" "I") hts 4 rfl) (fun _ h9 => h9) rfl dX4_key_50 ?_
    refine lv_if_le (tgt := 58) hx hb dX4_key_53 (by decide) (fun c_53 => ?_) (fun c_53 => ?_)
    · skip
      exact absurd c_53 (by decide)
    · skip
      have c_53 := zji_nle (a := 1) (b := 0) (by omega) (by omega) c_53
      refine lv_lconst (v := lN 0) hx hb dX4_key_56 rfl ?_
      subst hQ
      exact ze_l hx hb hr hlocks (nI 1) (⟨by rw [hcd], fun q => absurd q (by omega)⟩) hP hK hD hS dX4_key_57
  · skip
    have c_10 := zji_ne (a := inI k_.toInt64 (lN 0) (lN 11)) (b := 0) (by omega) (by omega) c_10
    refine lv_iload hx hb dX4_key_13 (lv_at hl 3 rfl) ?_
    refine lv_i2l (v := p_.toInt64) hx hb dX4_key_15 rfl ?_
    refine lv_lconst (v := lN 0) hx hb dX4_key_16 rfl ?_
    refine lv_ldc2 (v := 3) hx hb hown (zh (w := .constantLong RX4 131 (3)) hts 2 rfl) dX4_key_17 ?_
    refine zl_ (y := lN 3) rfl ?_
    refine zc_i (wc := []) (wr := [(m_, .inr (4, [.int th_, .int nn_, .long le_, .int sh_, .ref ab_, .ref be_, .long ca_, .long cb_, .long oc_, .long st_, .int bs_, .int tr_, .int sp_, .ref rr_]))]) hP hD hS hA [] [0] rfl rfl (by decide) (by decide) (va_runS (As := [.long p_.toInt64, .long (lN 0), .long (lN 3)]) (rest := [.ref m_]) ⟨hx, hb, hml, hown, hts⟩ (ct_X4_isIn l D cI cJ cD p_.toInt64 (lN 0) (lN 3) H.size ) (va_cwS 3 hts gX4_key_X4_isIn rfl rfl rfl (by decide +kernel) ⟨Nat.le_of_ble_eq_true rfl, Nat.le_of_ble_eq_true rfl⟩) (zPreS (wc := []) hK (hP.sub [] rfl) (hD.sub [] (by decide) rfl) zTb (fun _ _ _ => trivial)) rfl rfl hl.1 rfl (lv_room (Nat.le_of_ble_eq_true rfl)) dX4_key_20 ⟨Nat.le_of_ble_eq_true rfl, Nat.le_of_ble_eq_true rfl⟩) (fun r_2 u9_ H locs hw hP hD hS => ?_)
    have hP : va_P D cl5 [(m_, .inr (4, [.int th_, .int nn_, .long le_, .int sh_, .ref ab_, .ref be_, .long ca_, .long cb_, .long oc_, .long st_, .int bs_, .int tr_, .int sp_, .ref rr_]))] H := hP.sub [0] rfl
    have hD : va_D A [(m_, .inr (4, [.int th_, .int nn_, .long le_, .int sh_, .ref ab_, .ref be_, .long ca_, .long cb_, .long oc_, .long st_, .int bs_, .int tr_, .int sp_, .ref rr_]))] := hD.sub [0] (by decide) rfl
    have hw : r_2 = nI (inI p_.toInt64 (lN 0) (lN 3)) ∧ inI p_.toInt64 (lN 0) (lN 3) ≤ 1 := hw
    obtain ⟨rfl, hb_20⟩ := hw
    refine lv_if_ne (tgt := 30) hx hb dX4_key_23 (by decide) (fun c_23 => ?_) (fun c_23 => ?_)
    · skip
      have c_23 := zji_ne (a := inI p_.toInt64 (lN 0) (lN 3)) (b := 0) (by omega) (by omega) c_23
      have hno : ¬ (prI k_ 11 = 0 ∨ prI p_ 3 = 0) := fun q => q.elim c_10 c_23
      refine lv_lload_n hx hb dX4_key_30 rfl (lv_at hl 2 rfl) ?_
      refine lv_lconst (v := lN 1) hx hb dX4_key_31 rfl ?_
      refine lv_ldc2 (v := 1000000) hx hb hown (zh (w := .constantLong RX4 65 (1000000)) hts 3 rfl) dX4_key_32 ?_
      refine zl_ (y := lN 1000000) rfl ?_
      refine zc_i (wc := []) (wr := [(m_, .inr (4, [.int th_, .int nn_, .long le_, .int sh_, .ref ab_, .ref be_, .long ca_, .long cb_, .long oc_, .long st_, .int bs_, .int tr_, .int sp_, .ref rr_]))]) hP hD hS hA [] [0] rfl rfl (by decide) (by decide) (va_runS (As := [.long x_, .long (lN 1), .long (lN 1000000)]) (rest := [.ref m_]) ⟨hx, hb, hml, hown, hts⟩ (ct_X4_isIn l D cI cJ cD x_ (lN 1) (lN 1000000) H.size ) (va_cwS 3 hts gX4_key_X4_isIn rfl rfl rfl (by decide +kernel) ⟨Nat.le_of_ble_eq_true rfl, Nat.le_of_ble_eq_true rfl⟩) (zPreS (wc := []) hK (hP.sub [] rfl) (hD.sub [] (by decide) rfl) zTb (fun _ _ _ => trivial)) rfl rfl hl.1 rfl (lv_room (Nat.le_of_ble_eq_true rfl)) dX4_key_35 ⟨Nat.le_of_ble_eq_true rfl, Nat.le_of_ble_eq_true rfl⟩) (fun r_3 u9_ H locs hw hP hD hS => ?_)
      have hP : va_P D cl5 [(m_, .inr (4, [.int th_, .int nn_, .long le_, .int sh_, .ref ab_, .ref be_, .long ca_, .long cb_, .long oc_, .long st_, .int bs_, .int tr_, .int sp_, .ref rr_]))] H := hP.sub [0] rfl
      have hD : va_D A [(m_, .inr (4, [.int th_, .int nn_, .long le_, .int sh_, .ref ab_, .ref be_, .long ca_, .long cb_, .long oc_, .long st_, .int bs_, .int tr_, .int sp_, .ref rr_]))] := hD.sub [0] (by decide) rfl
      have hw : r_3 = nI (inI x_ (lN 1) (lN 1000000)) ∧ inI x_ (lN 1) (lN 1000000) ≤ 1 := hw
      obtain ⟨rfl, hb_35⟩ := hw
      refine lv_if_eq (tgt := 45) hx hb dX4_key_38 (by decide) (fun c_38 => ?_) (fun c_38 => ?_)
      · skip
        have c_38 := zji_eq (a := inI x_ (lN 1) (lN 1000000)) (b := 0) (by omega) (by omega) c_38
        have hcd : cdKey k_ x_ p_ = 2 := by unfold cdKey inL; rw [if_neg hno, if_pos c_38]
        refine lv_iconst (v := nI 2) hx hb dX4_key_45 (by decide) ?_
        refine va_put (D := D) (ci := 4) (v := .int (nI 2)) (ty := .int) (C := RX4) (T := TX4) (N := 14) hx hb hts nX4_key_4 tyX4 tyX4_ok nmX4 hown hK hP hD hS 0 rfl rfl 0 (by decide) (zh (w := .fieldLink RX4 47 "FretRootsModel" "thrown" "I") hts 4 rfl) (fun _ h9 => h9) rfl (by decide +kernel) rfl rfl (Nat.le_of_ble_eq_true rfl) dX4_key_46 (fun H locs hP hD hS => ?_)
        have hP : va_P D cl5 [(m_, .inr (4, [.int (nI 2), .int nn_, .long le_, .int sh_, .ref ab_, .ref be_, .long ca_, .long cb_, .long oc_, .long st_, .int bs_, .int tr_, .int sp_, .ref rr_]))] H := hP
        have hD : va_D A [(m_, .inr (4, [.int (nI 2), .int nn_, .long le_, .int sh_, .ref ab_, .ref be_, .long ca_, .long cb_, .long oc_, .long st_, .int bs_, .int tr_, .int sp_, .ref rr_]))] := hD
        refine lv_aload_n hx hb dX4_key_49 rfl (lv_at hl 0 rfl) ?_
        refine va_get (D := D) (ci := 4) (v := .int (nI 2)) (C := RX4) (T := TX4) (N := 14) hx hb hts nX4_key_4 hown hK hP 0 rfl rfl 0 (by decide) (zh (w := .fieldLink RX4 47 "FretRootsModel" "thrown" "I") hts 4 rfl) (fun _ h9 => h9) rfl dX4_key_50 ?_
        refine lv_if_le (tgt := 58) hx hb dX4_key_53 (by decide) (fun c_53 => ?_) (fun c_53 => ?_)
        · skip
          exact absurd c_53 (by decide)
        · skip
          have c_53 := zji_nle (a := 2) (b := 0) (by omega) (by omega) c_53
          refine lv_lconst (v := lN 0) hx hb dX4_key_56 rfl ?_
          subst hQ
          exact ze_l hx hb hr hlocks (nI 2) (⟨by rw [hcd], fun q => absurd q (by omega)⟩) hP hK hD hS dX4_key_57
      · skip
        have c_38 := zji_ne (a := inI x_ (lN 1) (lN 1000000)) (b := 0) (by omega) (by omega) c_38
        have hcd : cdKey k_ x_ p_ = 0 := by unfold cdKey inL; rw [if_neg hno, if_neg c_38]
        obtain ⟨kk, ek, hkk⟩ := pr_ok (by decide) c_10
        obtain ⟨q, eq9, hq⟩ := pr_ok (by decide) c_23
        obtain ⟨xx, ex, hx1, hx2⟩ := in_okL (by decide) (by decide) c_38
        have hwl := whN_le hkk
        refine lv_iconst (v := nI 0) hx hb dX4_key_41 (by decide) ?_
        refine lv_goto (tgt := 46) hx hb dX4_key_42 (by decide) ?_
        refine va_put (D := D) (ci := 4) (v := .int (nI 0)) (ty := .int) (C := RX4) (T := TX4) (N := 14) hx hb hts nX4_key_4 tyX4 tyX4_ok nmX4 hown hK hP hD hS 0 rfl rfl 0 (by decide) (zh (w := .fieldLink RX4 47 "FretRootsModel" "thrown" "I") hts 4 rfl) (fun _ h9 => h9) rfl (by decide +kernel) rfl rfl (Nat.le_of_ble_eq_true rfl) dX4_key_46 (fun H locs hP hD hS => ?_)
        have hP : va_P D cl5 [(m_, .inr (4, [.int (nI 0), .int nn_, .long le_, .int sh_, .ref ab_, .ref be_, .long ca_, .long cb_, .long oc_, .long st_, .int bs_, .int tr_, .int sp_, .ref rr_]))] H := hP
        have hD : va_D A [(m_, .inr (4, [.int (nI 0), .int nn_, .long le_, .int sh_, .ref ab_, .ref be_, .long ca_, .long cb_, .long oc_, .long st_, .int bs_, .int tr_, .int sp_, .ref rr_]))] := hD
        refine lv_aload_n hx hb dX4_key_49 rfl (lv_at hl 0 rfl) ?_
        refine va_get (D := D) (ci := 4) (v := .int (nI 0)) (C := RX4) (T := TX4) (N := 14) hx hb hts nX4_key_4 hown hK hP 0 rfl rfl 0 (by decide) (zh (w := .fieldLink RX4 47 "FretRootsModel" "thrown" "I") hts 4 rfl) (fun _ h9 => h9) rfl dX4_key_50 ?_
        refine lv_if_le (tgt := 58) hx hb dX4_key_53 (by decide) (fun c_53 => ?_) (fun c_53 => ?_)
        · skip
          have c_53 := zji_le (a := 0) (b := 0) (by omega) (by omega) c_53
          refine lv_iload_n hx hb dX4_key_58 rfl (lv_at hl 1 rfl) ?_
          refine zi_ (y := nI kk) (ek) ?_
          refine zc_i (wc := []) (wr := [(m_, .inr (4, [.int (nI 0), .int nn_, .long le_, .int sh_, .ref ab_, .ref be_, .long ca_, .long cb_, .long oc_, .long st_, .int bs_, .int tr_, .int sp_, .ref rr_]))]) hP hD hS hA [] [0] rfl rfl (by decide) (by decide) (va_runS (As := [.int (nI kk)]) (rest := []) ⟨hx, hb, hml, hown, hts⟩ (ct_X4_white l D cI cJ cD kk H.size (by omega)) (va_cwS 1 hts gX4_key_X4_white rfl rfl rfl (by decide +kernel) ⟨Nat.le_of_ble_eq_true rfl, Nat.le_of_ble_eq_true rfl⟩) (zPreS (wc := []) hK (hP.sub [] rfl) (hD.sub [] (by decide) rfl) zTb (fun _ _ _ => trivial)) rfl rfl hl.1 rfl (lv_room (Nat.le_of_ble_eq_true rfl)) dX4_key_59 ⟨Nat.le_of_ble_eq_true rfl, Nat.le_of_ble_eq_true rfl⟩) (fun r_4 u9_ H locs hw hP hD hS => ?_)
          have hP : va_P D cl5 [(m_, .inr (4, [.int (nI 0), .int nn_, .long le_, .int sh_, .ref ab_, .ref be_, .long ca_, .long cb_, .long oc_, .long st_, .int bs_, .int tr_, .int sp_, .ref rr_]))] H := hP.sub [0] rfl
          have hD : va_D A [(m_, .inr (4, [.int (nI 0), .int nn_, .long le_, .int sh_, .ref ab_, .ref be_, .long ca_, .long cb_, .long oc_, .long st_, .int bs_, .int tr_, .int sp_, .ref rr_]))] := hD.sub [0] (by decide) rfl
          have hw : r_4 = whI kk := hw
          subst hw
          refine lv_istore (lv' := [(5, .int (whI kk)), (0, .ref m_), (1, .int k_), (2, .long x_), (4, .int p_)]) hx hb dX4_key_62 hl (by decide) rfl (fun ls hl => ?_)
          refine lv_iload hx hb dX4_key_64 (lv_at hl 4 rfl) ?_
          refine zi_ (y := nI q) (eq9) ?_
          refine lv_iconst (v := nI 1) hx hb dX4_key_66 (by decide) ?_
          refine lv_icmp_le (tgt := 106) hx hb dX4_key_67 (by decide) (fun c_67 => ?_) (fun c_67 => ?_)
          · skip
            have c_67 := zji_le (a := q) (b := 1) (by omega) (by omega) c_67
            refine lv_iload hx hb dX4_key_106 (lv_at hl 0 rfl) ?_
            refine lv_iconst (v := -1) hx hb dX4_key_108 (by decide) ?_
            refine lv_icmp_ne (tgt := 131) hx hb dX4_key_109 (by decide) (fun c_109 => ?_) (fun c_109 => ?_)
            · skip
              refine lv_lload_n hx hb dX4_key_131 rfl (lv_at hl 3 rfl) ?_
              refine zl_ (y := lN xx) (ex) ?_
              refine lv_ldc2 (v := 12) hx hb hown (zh (w := .constantLong RX4 145 (12)) hts 8 rfl) dX4_key_132 ?_
              refine zl_ (y := lN 12) rfl ?_
              refine lv_lmul hx hb dX4_key_135 ?_
              refine zl_ (y := lN (xx * 12)) (lN_mul xx 12) ?_
              refine lv_iload hx hb dX4_key_136 (lv_at hl 0 rfl) ?_
              refine zi_ (y := nI (whN kk / 2)) ((whI_w c_109).2) ?_
              refine lv_iload hx hb dX4_key_138 (lv_at hl 4 rfl) ?_
              refine zi_ (y := nI q) (eq9) ?_
              refine lv_iadd hx hb dX4_key_140 ?_
              refine zi_ (y := nI (whN kk / 2 + q)) (nI_add (whN kk / 2) q) ?_
              refine lv_i2l (v := lN (whN kk / 2 + q)) hx hb dX4_key_141 (nI_l (by omega)) ?_
              refine lv_lmul hx hb dX4_key_142 ?_
              refine zl_ (y := lN ((xx * 12) * (whN kk / 2 + q))) (lN_mul (xx * 12) (whN kk / 2 + q)) ?_
              subst hQ
              exact ze_l hx hb hr hlocks (nI 0) (⟨by rw [hcd], fun _ => ⟨kk, xx, q, ek, hkk, ex, hx2, eq9, hq, by unfold keyN; first | (rw [if_pos c_73, if_neg (by have := whI_d hkk c_79; omega)]) | (rw [if_pos c_73, if_pos (whI_w c_79).1]) | (rw [if_neg c_73, if_pos (by omega), if_neg (by have := whI_d hkk c_97; omega)]) | (rw [if_neg c_73, if_pos (by omega), if_pos (whI_w c_97).1]) | (rw [if_neg (by omega), if_neg (by omega), if_neg (by have := whI_d hkk c_109; omega)]) | (rw [if_neg (by omega), if_neg (by omega), if_pos (whI_w c_109).1])⟩⟩) hP hK hD hS dX4_key_143
            · skip
              refine lv_lload_n hx hb dX4_key_112 rfl (lv_at hl 3 rfl) ?_
              refine zl_ (y := lN xx) (ex) ?_
              refine lv_ldc2 (v := 2) hx hb hown (zh (w := .constantLong RX4 50 (2)) hts 7 rfl) dX4_key_113 ?_
              refine zl_ (y := lN 2) rfl ?_
              refine lv_iload_n hx hb dX4_key_116 rfl (lv_at hl 2 rfl) ?_
              refine zi_ (y := nI kk) (ek) ?_
              refine lv_i2l (v := lN kk) hx hb dX4_key_117 (nI_l (by omega)) ?_
              refine lv_lmul hx hb dX4_key_118 ?_
              refine zl_ (y := lN (2 * kk)) (lN_mul 2 kk) ?_
              refine lv_ldc2 (v := 2) hx hb hown (zh (w := .constantLong RX4 50 (2)) hts 7 rfl) dX4_key_119 ?_
              refine zl_ (y := lN 2) rfl ?_
              refine lv_iload hx hb dX4_key_122 (lv_at hl 4 rfl) ?_
              refine zi_ (y := nI q) (eq9) ?_
              refine lv_i2l (v := lN q) hx hb dX4_key_124 (nI_l (by omega)) ?_
              refine lv_lmul hx hb dX4_key_125 ?_
              refine zl_ (y := lN (2 * q)) (lN_mul 2 q) ?_
              refine lv_ladd hx hb dX4_key_126 ?_
              refine zl_ (y := lN (2 * kk + (2 * q))) (lN_add (2 * kk) (2 * q)) ?_
              refine lv_lmul hx hb dX4_key_127 ?_
              refine zl_ (y := lN (xx * (2 * kk + (2 * q)))) (lN_mul xx (2 * kk + (2 * q))) ?_
              refine lv_goto (tgt := 143) hx hb dX4_key_128 (by decide) ?_
              subst hQ
              exact ze_l hx hb hr hlocks (nI 0) (⟨by rw [hcd], fun _ => ⟨kk, xx, q, ek, hkk, ex, hx2, eq9, hq, by unfold keyN; first | (rw [if_pos c_73, if_neg (by have := whI_d hkk c_79; omega)]) | (rw [if_pos c_73, if_pos (whI_w c_79).1]) | (rw [if_neg c_73, if_pos (by omega), if_neg (by have := whI_d hkk c_97; omega)]) | (rw [if_neg c_73, if_pos (by omega), if_pos (whI_w c_97).1]) | (rw [if_neg (by omega), if_neg (by omega), if_neg (by have := whI_d hkk c_109; omega)]) | (rw [if_neg (by omega), if_neg (by omega), if_pos (whI_w c_109).1])⟩⟩) hP hK hD hS dX4_key_143
          · skip
            have c_67 := zji_nle (a := q) (b := 1) (by omega) (by omega) c_67
            refine lv_iload hx hb dX4_key_70 (lv_at hl 4 rfl) ?_
            refine zi_ (y := nI q) (eq9) ?_
            refine lv_iconst (v := nI 2) hx hb dX4_key_72 (by decide) ?_
            refine lv_icmp_ne (tgt := 94) hx hb dX4_key_73 (by decide) (fun c_73 => ?_) (fun c_73 => ?_)
            · skip
              have c_73 := zji_ne (a := q) (b := 2) (by omega) (by omega) c_73
              refine lv_iload hx hb dX4_key_94 (lv_at hl 0 rfl) ?_
              refine lv_iconst (v := -1) hx hb dX4_key_96 (by decide) ?_
              refine lv_icmp_ne (tgt := 104) hx hb dX4_key_97 (by decide) (fun c_97 => ?_) (fun c_97 => ?_)
              · skip
                refine lv_lconst (v := lN 0) hx hb dX4_key_104 rfl ?_
                subst hQ
                exact ze_l hx hb hr hlocks (nI 0) (⟨by rw [hcd], fun _ => ⟨kk, xx, q, ek, hkk, ex, hx2, eq9, hq, by unfold keyN; first | (rw [if_pos c_73, if_neg (by have := whI_d hkk c_79; omega)]) | (rw [if_pos c_73, if_pos (whI_w c_79).1]) | (rw [if_neg c_73, if_pos (by omega), if_neg (by have := whI_d hkk c_97; omega)]) | (rw [if_neg c_73, if_pos (by omega), if_pos (whI_w c_97).1]) | (rw [if_neg (by omega), if_neg (by omega), if_neg (by have := whI_d hkk c_109; omega)]) | (rw [if_neg (by omega), if_neg (by omega), if_pos (whI_w c_109).1])⟩⟩) hP hK hD hS dX4_key_105
              · skip
                refine lv_lconst (v := lN 1) hx hb dX4_key_100 rfl ?_
                refine lv_goto (tgt := 105) hx hb dX4_key_101 (by decide) ?_
                subst hQ
                exact ze_l hx hb hr hlocks (nI 0) (⟨by rw [hcd], fun _ => ⟨kk, xx, q, ek, hkk, ex, hx2, eq9, hq, by unfold keyN; first | (rw [if_pos c_73, if_neg (by have := whI_d hkk c_79; omega)]) | (rw [if_pos c_73, if_pos (whI_w c_79).1]) | (rw [if_neg c_73, if_pos (by omega), if_neg (by have := whI_d hkk c_97; omega)]) | (rw [if_neg c_73, if_pos (by omega), if_pos (whI_w c_97).1]) | (rw [if_neg (by omega), if_neg (by omega), if_neg (by have := whI_d hkk c_109; omega)]) | (rw [if_neg (by omega), if_neg (by omega), if_pos (whI_w c_109).1])⟩⟩) hP hK hD hS dX4_key_105
            · skip
              have c_73 := zji_eq (a := q) (b := 2) (by omega) (by omega) c_73
              refine lv_iload hx hb dX4_key_76 (lv_at hl 0 rfl) ?_
              refine lv_iconst (v := -1) hx hb dX4_key_78 (by decide) ?_
              refine lv_icmp_ne (tgt := 88) hx hb dX4_key_79 (by decide) (fun c_79 => ?_) (fun c_79 => ?_)
              · skip
                refine lv_ldc2 (v := 84) hx hb hown (zh (w := .constantLong RX4 143 (84)) hts 6 rfl) dX4_key_88 ?_
                refine zl_ (y := lN 84) rfl ?_
                refine lv_goto (tgt := 105) hx hb dX4_key_91 (by decide) ?_
                subst hQ
                exact ze_l hx hb hr hlocks (nI 0) (⟨by rw [hcd], fun _ => ⟨kk, xx, q, ek, hkk, ex, hx2, eq9, hq, by unfold keyN; first | (rw [if_pos c_73, if_neg (by have := whI_d hkk c_79; omega)]) | (rw [if_pos c_73, if_pos (whI_w c_79).1]) | (rw [if_neg c_73, if_pos (by omega), if_neg (by have := whI_d hkk c_97; omega)]) | (rw [if_neg c_73, if_pos (by omega), if_pos (whI_w c_97).1]) | (rw [if_neg (by omega), if_neg (by omega), if_neg (by have := whI_d hkk c_109; omega)]) | (rw [if_neg (by omega), if_neg (by omega), if_pos (whI_w c_109).1])⟩⟩) hP hK hD hS dX4_key_105
              · skip
                refine lv_ldc2 (v := 24) hx hb hown (zh (w := .constantLong RX4 141 (24)) hts 5 rfl) dX4_key_82 ?_
                refine zl_ (y := lN 24) rfl ?_
                refine lv_goto (tgt := 105) hx hb dX4_key_85 (by decide) ?_
                subst hQ
                exact ze_l hx hb hr hlocks (nI 0) (⟨by rw [hcd], fun _ => ⟨kk, xx, q, ek, hkk, ex, hx2, eq9, hq, by unfold keyN; first | (rw [if_pos c_73, if_neg (by have := whI_d hkk c_79; omega)]) | (rw [if_pos c_73, if_pos (whI_w c_79).1]) | (rw [if_neg c_73, if_pos (by omega), if_neg (by have := whI_d hkk c_97; omega)]) | (rw [if_neg c_73, if_pos (by omega), if_pos (whI_w c_97).1]) | (rw [if_neg (by omega), if_neg (by omega), if_neg (by have := whI_d hkk c_109; omega)]) | (rw [if_neg (by omega), if_neg (by omega), if_pos (whI_w c_109).1])⟩⟩) hP hK hD hS dX4_key_105
        · skip
          exact absurd c_53 (by decide)
    · skip
      have c_23 := zji_eq (a := inI p_.toInt64 (lN 0) (lN 3)) (b := 0) (by omega) (by omega) c_23
      have hcd : cdKey k_ x_ p_ = 1 := if_pos (Or.inr c_23)
      refine lv_iconst (v := nI 1) hx hb dX4_key_26 (by decide) ?_
      refine lv_goto (tgt := 46) hx hb dX4_key_27 (by decide) ?_
      refine va_put (D := D) (ci := 4) (v := .int (nI 1)) (ty := .int) (C := RX4) (T := TX4) (N := 14) hx hb hts nX4_key_4 tyX4 tyX4_ok nmX4 hown hK hP hD hS 0 rfl rfl 0 (by decide) (zh (w := .fieldLink RX4 47 "FretRootsModel" "thrown" "I") hts 4 rfl) (fun _ h9 => h9) rfl (by decide +kernel) rfl rfl (Nat.le_of_ble_eq_true rfl) dX4_key_46 (fun H locs hP hD hS => ?_)
      have hP : va_P D cl5 [(m_, .inr (4, [.int (nI 1), .int nn_, .long le_, .int sh_, .ref ab_, .ref be_, .long ca_, .long cb_, .long oc_, .long st_, .int bs_, .int tr_, .int sp_, .ref rr_]))] H := hP
      have hD : va_D A [(m_, .inr (4, [.int (nI 1), .int nn_, .long le_, .int sh_, .ref ab_, .ref be_, .long ca_, .long cb_, .long oc_, .long st_, .int bs_, .int tr_, .int sp_, .ref rr_]))] := hD
      refine lv_aload_n hx hb dX4_key_49 rfl (lv_at hl 0 rfl) ?_
      refine va_get (D := D) (ci := 4) (v := .int (nI 1)) (C := RX4) (T := TX4) (N := 14) hx hb hts nX4_key_4 hown hK hP 0 rfl rfl 0 (by decide) (zh (w := .fieldLink RX4 47 "FretRootsModel" "thrown" "I") hts 4 rfl) (fun _ h9 => h9) rfl dX4_key_50 ?_
      refine lv_if_le (tgt := 58) hx hb dX4_key_53 (by decide) (fun c_53 => ?_) (fun c_53 => ?_)
      · skip
        exact absurd c_53 (by decide)
      · skip
        have c_53 := zji_nle (a := 1) (b := 0) (by omega) (by omega) c_53
        refine lv_lconst (v := lN 0) hx hb dX4_key_56 rfl ?_
        subst hQ
        exact ze_l hx hb hr hlocks (nI 1) (⟨by rw [hcd], fun q => absurd q (by omega)⟩) hP hK hD hS dX4_key_57
