theorem nX4_set_4 : ∀ w ∈ wsX40, w ∈ wsX4_set := by decide +kernel
abbrev rm_X4_set : Room := { frames := 0, cells := 0, slots := 0, locals := 0 }
set_option maxHeartbeats 4000000 in
set_option maxRecDepth 100000 in
/-- set -/
theorem ct_X4_set (l : Launch) (D : va_G) (cI cJ cD : ClassId) (m_ : Nat) (ab_ : Nat) (be_ : Nat) (rr_ : Nat) (th_ : Int32) (nn_ : Int32) (sh_ : Int32) (bs_ : Int32) (tr_ : Int32) (sp_ : Int32) (le_ : Int64) (ca_ : Int64) (cb_ : Int64) (oc_ : Int64) (st_ : Int64) (x_ : Nat) (v_ : Nat) (g_ : Nat → Int32) (sz : Nat) (hx_ : x_ ≤ 1) (hv : v_ < 2 ^ 63) : Met l yX4_set wsX4_set rm_X4_set (zP D (ty3 cI cJ cD) [.ref m_, .int (nI x_), .long (lN v_)] sz [(m_, .inr (4, [.int th_, .int nn_, .long le_, .int sh_, .ref ab_, .ref be_, .long ca_, .long cb_, .long oc_, .long st_, .int bs_, .int tr_, .int sp_, .ref rr_])), (rr_, .inl (cI, 152, .inl g_))] zT) (va_Qv (fun (u : (Nat → Int32)) => modL u x_ v_ ∧ modF g_ u x_) (zB D (ty3 cI cJ cD) (fun (u : (Nat → Int32)) => [(m_, .inr (4, [.int th_, .int nn_, .long le_, .int sh_, .ref ab_, .ref be_, .long ca_, .long cb_, .long oc_, .long st_, .int bs_, .int tr_, .int sp_, .ref rr_])), (rr_, .inl (cI, 152, .inl u))]) (va_A [(m_, .inr (4, [.int th_, .int nn_, .long le_, .int sh_, .ref ab_, .ref be_, .long ca_, .long cb_, .long oc_, .long st_, .int bs_, .int tr_, .int sp_, .ref rr_])), (rr_, .inl (cI, 152, .inl g_))] sz)) (va_A [(m_, .inr (4, [.int th_, .int nn_, .long le_, .int sh_, .ref ab_, .ref be_, .long ca_, .long cb_, .long oc_, .long st_, .int bs_, .int tr_, .int sp_, .ref rr_])), (rr_, .inl (cI, 152, .inl g_))] sz)) 0 0 (va_A [(m_, .inr (4, [.int th_, .int nn_, .long le_, .int sh_, .ref ab_, .ref be_, .long ca_, .long cb_, .long oc_, .long st_, .int bs_, .int tr_, .int sp_, .ref rr_])), (rr_, .inl (cI, 152, .inl g_))] sz) := by
  refine zMet (Qf := fun A => va_Qv (fun (u : (Nat → Int32)) => modL u x_ v_ ∧ modF g_ u x_) (zB D (ty3 cI cJ cD) (fun (u : (Nat → Int32)) => [(m_, .inr (4, [.int th_, .int nn_, .long le_, .int sh_, .ref ab_, .ref be_, .long ca_, .long cb_, .long oc_, .long st_, .int bs_, .int tr_, .int sp_, .ref rr_])), (rr_, .inl (cI, 152, .inl u))]) A) A) (cc := cX4_set) (maxL := 5) (ret := none) (by decide) rfl (Nat.le_of_ble_eq_true rfl) ?_
  intro p e s m args below meth c A ls Q H hargs hQ hHe hx hb hr hml hown hts hlocks hin hP hK hD hA hS hE hAe hl
  have hl : lv_has ls 5 [(0, .ref m_), (1, .int (nI x_)), (2, .long (lN v_))] := hl
  have lp_3 : ∀ (n_ : Nat) (k : Nat) (g : Nat → Int32) (H : Heap) (locs : List Loc) (ls : Array Slot), 76 - k < n_ → k ≤ 76 → modP g x_ k v_ → modF g_ g x_ →  va_P D cl5 [(m_, .inr (4, [.int th_, .int nn_, .long le_, .int sh_, .ref ab_, .ref be_, .long ca_, .long cb_, .long oc_, .long st_, .int bs_, .int tr_, .int sp_, .ref rr_])), (rr_, .inl (cI, 152, .inl g))] H → va_D A [(m_, .inr (4, [.int th_, .int nn_, .long le_, .int sh_, .ref ab_, .ref be_, .long ca_, .long cb_, .long oc_, .long st_, .int bs_, .int tr_, .int sp_, .ref rr_])), (rr_, .inl (cI, 152, .inl g))] → va_S A s.heap H locs → lv_has ls 5 [(0, .ref m_), (1, .int (nI x_)), (2, .long (lN v_)), (4, .int (nI k))] → W p l e rm_X4_set s m args below meth c H locs 0 0 Q (F0 m 3 ls []) := by
    intro n_
    induction n_ with
    | zero => intro k g H locs ls hm; exact absurd hm (Nat.not_lt_zero _)
    | succ n_ ih =>
      intro k g H locs ls hm  h1 h2 h3 hP hD hS hl
      refine lv_iload hx hb dX4_set_3 (lv_at hl 3 rfl) ?_
      refine lv_bipush (v := nI 76) hx hb dX4_set_5 (by decide) ?_
      refine lv_icmp_ge (tgt := 50) hx hb dX4_set_7 (by decide) (fun c_7 => ?_) (fun c_7 => ?_)
      · skip
        have c_7 := zji_le (a := 76) (b := k) (by omega) (by omega) c_7
        have hk : k = 76 := by omega
        subst hk
        subst hQ
        exact ze_v hx hb hr hlocks g (⟨h2, h3⟩) hP hK hD hS dX4_set_50
      · skip
        have c_7 := zji_nle (a := 76) (b := k) (by omega) (by omega) c_7
        refine lv_aload_n hx hb dX4_set_10 rfl (lv_at hl 0 rfl) ?_
        refine va_get (D := D) (ci := 4) (v := .ref rr_) (C := RX4) (T := TX4) (N := 14) hx hb hts nX4_set_4 hown hK hP 0 rfl rfl 13 (by decide) (zh (w := .fieldLink RX4 41 "FretRootsModel" "\x72" "[I") hts 1 rfl) (fun _ h9 => h9) rfl dX4_set_11 ?_
        refine lv_bipush (v := nI 76) hx hb dX4_set_14 (by decide) ?_
        refine lv_iload_n hx hb dX4_set_16 rfl (lv_at hl 1 rfl) ?_
        refine lv_imul hx hb dX4_set_17 ?_
        refine zi_ (y := nI (76 * x_)) (pk_mul 76 x_) ?_
        refine lv_iload hx hb dX4_set_18 (lv_at hl 3 rfl) ?_
        refine lv_iadd hx hb dX4_set_20 ?_
        refine zi_ (y := nI (76 * x_ + k)) (nI_add (76 * x_) k) ?_
        refine lv_iload hx hb dX4_set_21 (lv_at hl 3 rfl) ?_
        refine lv_iconst (v := nI 5) hx hb dX4_set_23 (by decide) ?_
        refine lv_icmp_ge (tgt := 42) hx hb dX4_set_24 (by decide) (fun c_24 => ?_) (fun c_24 => ?_)
        · skip
          have c_24 := zji_le (a := 5) (b := k) (by omega) (by omega) c_24
          refine lv_iconst (v := nI 0) hx hb dX4_set_42 (by decide) ?_
          refine zi_ (y := nI (v_ / 32768 ^ k % 32768)) (set_zero hv (by omega)) ?_
          refine z_iast (j := (76 * x_ + k)) hx hb hK hP hD hS 1 0 rfl rfl (by omega) (by omega) dX4_set_43 (fun H locs hP hD hS => ?_)
          obtain ⟨gA, egA⟩ : ∃ f9, f9 = upd g (76 * x_ + k) (nI (v_ / 32768 ^ k % 32768)) := ⟨_, rfl⟩
          have hP : va_P D cl5 [(m_, .inr (4, [.int th_, .int nn_, .long le_, .int sh_, .ref ab_, .ref be_, .long ca_, .long cb_, .long oc_, .long st_, .int bs_, .int tr_, .int sp_, .ref rr_])), (rr_, .inl (cI, 152, .inl gA))] H := by rw [egA]; exact hP
          have hD : va_D A [(m_, .inr (4, [.int th_, .int nn_, .long le_, .int sh_, .ref ab_, .ref be_, .long ca_, .long cb_, .long oc_, .long st_, .int bs_, .int tr_, .int sp_, .ref rr_])), (rr_, .inl (cI, 152, .inl gA))] := by rw [egA]; exact hD
          refine lv_iinc (v := nI (k + 1)) (lv' := [(4, .int (nI (k + 1))), (0, .ref m_), (1, .int (nI x_)), (2, .long (lN v_))]) hx hb dX4_set_44 hl (k := 3) rfl (z_inc k 1) (by decide) rfl (fun ls hl => ?_)
          refine lv_goto (tgt := 3) hx hb dX4_set_47 (by decide) ?_
          exact ih (k + 1) gA _ _ _ (by omega) (by omega) (by rw [egA]; exact modP_snoc h2) (by rw [egA]; exact modF_upd h3 c_7) hP hD hS (lv_sub hl [1, 2, 3, 0] rfl)
        · skip
          have c_24 := zji_nle (a := 5) (b := k) (by omega) (by omega) c_24
          refine lv_lload_n hx hb dX4_set_27 rfl (lv_at hl 2 rfl) ?_
          refine lv_bipush (v := nI 15) hx hb dX4_set_28 (by decide) ?_
          refine lv_iload hx hb dX4_set_30 (lv_at hl 3 rfl) ?_
          refine lv_imul hx hb dX4_set_32 ?_
          refine zi_ (y := nI (15 * k)) (pk_mul 15 k) ?_
          refine lv_lshr (v := lN (v_ / 2 ^ (15 * k))) hx hb dX4_set_33 (z_shr (by omega) (by omega)) ?_
          refine lv_l2i (v := nI (v_ / 2 ^ (15 * k))) hx hb dX4_set_34 (lN_i (v_ / 2 ^ (15 * k))) ?_
          refine lv_sipush (v := nI 32767) hx hb dX4_set_35 (by decide) ?_
          refine lv_iand hx hb dX4_set_38 ?_
          refine zi_ (y := nI (v_ / 32768 ^ k % 32768)) (set_digit v_ k) ?_
          refine lv_goto (tgt := 43) hx hb dX4_set_39 (by decide) ?_
          refine z_iast (j := (76 * x_ + k)) hx hb hK hP hD hS 1 0 rfl rfl (by omega) (by omega) dX4_set_43 (fun H locs hP hD hS => ?_)
          obtain ⟨gA, egA⟩ : ∃ f9, f9 = upd g (76 * x_ + k) (nI (v_ / 32768 ^ k % 32768)) := ⟨_, rfl⟩
          have hP : va_P D cl5 [(m_, .inr (4, [.int th_, .int nn_, .long le_, .int sh_, .ref ab_, .ref be_, .long ca_, .long cb_, .long oc_, .long st_, .int bs_, .int tr_, .int sp_, .ref rr_])), (rr_, .inl (cI, 152, .inl gA))] H := by rw [egA]; exact hP
          have hD : va_D A [(m_, .inr (4, [.int th_, .int nn_, .long le_, .int sh_, .ref ab_, .ref be_, .long ca_, .long cb_, .long oc_, .long st_, .int bs_, .int tr_, .int sp_, .ref rr_])), (rr_, .inl (cI, 152, .inl gA))] := by rw [egA]; exact hD
          refine lv_iinc (v := nI (k + 1)) (lv' := [(4, .int (nI (k + 1))), (0, .ref m_), (1, .int (nI x_)), (2, .long (lN v_))]) hx hb dX4_set_44 hl (k := 3) rfl (z_inc k 1) (by decide) rfl (fun ls hl => ?_)
          refine lv_goto (tgt := 3) hx hb dX4_set_47 (by decide) ?_
          exact ih (k + 1) gA _ _ _ (by omega) (by omega) (by rw [egA]; exact modP_snoc h2) (by rw [egA]; exact modF_upd h3 c_7) hP hD hS (lv_sub hl [1, 2, 3, 0] rfl)
  refine lv_iconst (v := nI 0) hx hb dX4_set_0 (by decide) ?_
  refine lv_istore (lv' := [(4, .int (nI 0)), (0, .ref m_), (1, .int (nI x_)), (2, .long (lN v_))]) hx hb dX4_set_1 hl (by decide) rfl (fun ls hl => ?_)
  exact lp_3 ((76 - 0) + 1) 0 g_ _ _ _ (Nat.lt_succ_self _) (Nat.zero_le _) (fun j h => absurd h (Nat.not_lt_zero _)) (modF_rf _ _) hP hD hS (lv_sub hl [1, 2, 3, 0] rfl)
theorem nX4_times_4 : ∀ w ∈ wsX40, w ∈ wsX4_times := by decide +kernel
abbrev rm_X4_times : Room := { frames := 0, cells := 0, slots := 0, locals := 0 }
set_option maxHeartbeats 4000000 in
set_option maxRecDepth 100000 in
/-- times -/
theorem ct_X4_times (l : Launch) (D : va_G) (cI cJ cD : ClassId) (m_ : Nat) (ab_ : Nat) (be_ : Nat) (rr_ : Nat) (th_ : Int32) (nn_ : Int32) (sh_ : Int32) (bs_ : Int32) (tr_ : Int32) (sp_ : Int32) (le_ : Int64) (ca_ : Int64) (cb_ : Int64) (oc_ : Int64) (st_ : Int64) (x_ : Nat) (N_ : Nat) (f_ : Nat) (g_ : Nat → Int32) (sz : Nat) (hx_ : x_ ≤ 1) (hf : f_ < 2 ^ 45) (hL : modL g_ x_ N_) : Met l yX4_times wsX4_times rm_X4_times (zP D (ty3 cI cJ cD) [.ref m_, .int (nI x_), .long (lN f_)] sz [(m_, .inr (4, [.int th_, .int nn_, .long le_, .int sh_, .ref ab_, .ref be_, .long ca_, .long cb_, .long oc_, .long st_, .int bs_, .int tr_, .int sp_, .ref rr_])), (rr_, .inl (cI, 152, .inl g_))] zT) (va_Qv (fun (u : (Nat → Int32)) => modL u x_ (N_ * f_) ∧ modF g_ u x_) (zB D (ty3 cI cJ cD) (fun (u : (Nat → Int32)) => [(m_, .inr (4, [.int th_, .int nn_, .long le_, .int sh_, .ref ab_, .ref be_, .long ca_, .long cb_, .long oc_, .long st_, .int bs_, .int tr_, .int sp_, .ref rr_])), (rr_, .inl (cI, 152, .inl u))]) (va_A [(m_, .inr (4, [.int th_, .int nn_, .long le_, .int sh_, .ref ab_, .ref be_, .long ca_, .long cb_, .long oc_, .long st_, .int bs_, .int tr_, .int sp_, .ref rr_])), (rr_, .inl (cI, 152, .inl g_))] sz)) (va_A [(m_, .inr (4, [.int th_, .int nn_, .long le_, .int sh_, .ref ab_, .ref be_, .long ca_, .long cb_, .long oc_, .long st_, .int bs_, .int tr_, .int sp_, .ref rr_])), (rr_, .inl (cI, 152, .inl g_))] sz)) 0 0 (va_A [(m_, .inr (4, [.int th_, .int nn_, .long le_, .int sh_, .ref ab_, .ref be_, .long ca_, .long cb_, .long oc_, .long st_, .int bs_, .int tr_, .int sp_, .ref rr_])), (rr_, .inl (cI, 152, .inl g_))] sz) := by
  refine zMet (Qf := fun A => va_Qv (fun (u : (Nat → Int32)) => modL u x_ (N_ * f_) ∧ modF g_ u x_) (zB D (ty3 cI cJ cD) (fun (u : (Nat → Int32)) => [(m_, .inr (4, [.int th_, .int nn_, .long le_, .int sh_, .ref ab_, .ref be_, .long ca_, .long cb_, .long oc_, .long st_, .int bs_, .int tr_, .int sp_, .ref rr_])), (rr_, .inl (cI, 152, .inl u))]) A) A) (cc := cX4_times) (maxL := 21) (ret := none) (by decide) rfl (Nat.le_of_ble_eq_true rfl) ?_
  intro p e s m args below meth c A ls Q H hargs hQ hHe hx hb hr hml hown hts hlocks hin hP hK hD hA hS hE hAe hl
  have hl : lv_has ls 21 [(0, .ref m_), (1, .int (nI x_)), (2, .long (lN f_))] := hl
  have lp_35 : ∀ (n_ : Nat) (k : Nat) (cy : Nat) (o : Nat) (t : Nat) (g : Nat → Int32) (H : Heap) (locs : List Loc) (ls : Array Slot), 76 - k < n_ → k ≤ 76 → cy < 2 ^ 18 → o < 32768 → t < 32768 → f_ * (N_ % 32768 ^ k) = N_ * f_ % 32768 ^ k + 32768 ^ k * (cy + f_ / 32768 % 32768 * o + f_ / 1073741824 * t) + 32768 ^ (k + 1) * (f_ / 1073741824 * o) → modP g x_ k (N_ * f_) → modR g x_ k N_ → modF g_ g x_ →  va_P D cl5 [(m_, .inr (4, [.int th_, .int nn_, .long le_, .int sh_, .ref ab_, .ref be_, .long ca_, .long cb_, .long oc_, .long st_, .int bs_, .int tr_, .int sp_, .ref rr_])), (rr_, .inl (cI, 152, .inl g))] H → va_D A [(m_, .inr (4, [.int th_, .int nn_, .long le_, .int sh_, .ref ab_, .ref be_, .long ca_, .long cb_, .long oc_, .long st_, .int bs_, .int tr_, .int sp_, .ref rr_])), (rr_, .inl (cI, 152, .inl g))] → va_S A s.heap H locs → lv_has ls 21 [(0, .ref m_), (1, .int (nI x_)), (4, .long (lN (f_ % 32768))), (6, .long (lN (f_ / 32768 % 32768))), (8, .long (lN (f_ / 1073741824))), (10, .long (lN cy)), (12, .long (lN o)), (14, .long (lN t)), (16, .int (nI k))] → W p l e rm_X4_times s m args below meth c H locs 0 0 Q (F0 m 35 ls []) := by
    intro n_
    induction n_ with
    | zero => intro k cy o t g H locs ls hm; exact absurd hm (Nat.not_lt_zero _)
    | succ n_ ih =>
      intro k cy o t g H locs ls hm  h1 hc ho ht hE1 h2 h4 h3 hP hD hS hl
      refine lv_iload hx hb dX4_times_35 (lv_at hl 8 rfl) ?_
      refine lv_bipush (v := nI 76) hx hb dX4_times_37 (by decide) ?_
      refine lv_icmp_ge (tgt := 119) hx hb dX4_times_39 (by decide) (fun c_39 => ?_) (fun c_39 => ?_)
      · skip
        have c_39 := zji_le (a := 76) (b := k) (by omega) (by omega) c_39
        have hk : k = 76 := by omega
        subst hk
        subst hQ
        exact ze_v hx hb hr hlocks g (⟨h2, h3⟩) hP hK hD hS dX4_times_119
      · skip
        have c_39 := zji_nle (a := 76) (b := k) (by omega) (by omega) c_39
        refine lv_aload_n hx hb dX4_times_42 rfl (lv_at hl 0 rfl) ?_
        refine va_get (D := D) (ci := 4) (v := .ref rr_) (C := RX4) (T := TX4) (N := 14) hx hb hts nX4_times_4 hown hK hP 0 rfl rfl 13 (by decide) (zh (w := .fieldLink RX4 41 "FretRootsModel" "\x72" "[I") hts 2 rfl) (fun _ h9 => h9) rfl dX4_times_43 ?_
        refine lv_bipush (v := nI 76) hx hb dX4_times_46 (by decide) ?_
        refine lv_iload_n hx hb dX4_times_48 rfl (lv_at hl 1 rfl) ?_
        refine lv_imul hx hb dX4_times_49 ?_
        refine zi_ (y := nI (76 * x_)) (pk_mul 76 x_) ?_
        refine lv_iload hx hb dX4_times_50 (lv_at hl 8 rfl) ?_
        refine lv_iadd hx hb dX4_times_52 ?_
        refine zi_ (y := nI (76 * x_ + k)) (nI_add (76 * x_) k) ?_
        refine z_iald (j := (76 * x_ + k)) hx hb hK hP 1 0 rfl rfl (by omega) (by omega) dX4_times_53 ?_
        refine zi_ (y := nI (N_ / 32768 ^ k % 32768)) (h4 _ (Nat.le_refl _) c_39) ?_
        refine lv_i2l (v := lN (N_ / 32768 ^ k % 32768)) hx hb dX4_times_54 (nI_l (by omega)) ?_
        refine lv_lstore (lv' := [(17, .long (lN (N_ / 32768 ^ k % 32768))), (0, .ref m_), (1, .int (nI x_)), (4, .long (lN (f_ % 32768))), (6, .long (lN (f_ / 32768 % 32768))), (8, .long (lN (f_ / 1073741824))), (10, .long (lN cy)), (12, .long (lN o)), (14, .long (lN t)), (16, .int (nI k))]) hx hb dX4_times_55 hl (by decide) rfl (fun ls hl => ?_)
        refine lv_lload hx hb dX4_times_57 (lv_at hl 0 rfl) ?_
        refine lv_lload hx hb dX4_times_59 (lv_at hl 3 rfl) ?_
        refine lv_lmul hx hb dX4_times_61 ?_
        refine zl_ (y := lN ((N_ / 32768 ^ k % 32768) * (f_ % 32768))) (lN_mul (N_ / 32768 ^ k % 32768) (f_ % 32768)) ?_
        refine lv_lload hx hb dX4_times_62 (lv_at hl 7 rfl) ?_
        refine lv_lload hx hb dX4_times_64 (lv_at hl 4 rfl) ?_
        refine lv_lmul hx hb dX4_times_66 ?_
        refine zl_ (y := lN (o * (f_ / 32768 % 32768))) (lN_mul o (f_ / 32768 % 32768)) ?_
        refine lv_ladd hx hb dX4_times_67 ?_
        refine zl_ (y := lN ((N_ / 32768 ^ k % 32768) * (f_ % 32768) + (o * (f_ / 32768 % 32768)))) (lN_add ((N_ / 32768 ^ k % 32768) * (f_ % 32768)) (o * (f_ / 32768 % 32768))) ?_
        refine lv_lload hx hb dX4_times_68 (lv_at hl 8 rfl) ?_
        refine lv_lload hx hb dX4_times_70 (lv_at hl 5 rfl) ?_
        refine lv_lmul hx hb dX4_times_72 ?_
        refine zl_ (y := lN (t * (f_ / 1073741824))) (lN_mul t (f_ / 1073741824)) ?_
        refine lv_ladd hx hb dX4_times_73 ?_
        refine zl_ (y := lN ((N_ / 32768 ^ k % 32768) * (f_ % 32768) + (o * (f_ / 32768 % 32768)) + (t * (f_ / 1073741824)))) (lN_add ((N_ / 32768 ^ k % 32768) * (f_ % 32768) + (o * (f_ / 32768 % 32768))) (t * (f_ / 1073741824))) ?_
        refine lv_lload hx hb dX4_times_74 (lv_at hl 6 rfl) ?_
        obtain ⟨q, hq⟩ : ∃ q, q = N_ / 32768 ^ k % 32768 * (f_ % 32768) + o * (f_ / 32768 % 32768) + t * (f_ / 1073741824) + cy := ⟨_, rfl⟩
        have hst := t_step hE1 hq
        have hqb : q < 2 ^ 32 := by rw [hq]; exact t_bound (Nat.mod_lt _ (by decide)) (Nat.mod_lt _ (by decide)) ho (Nat.mod_lt _ (by decide)) ht (by omega) hc
        refine lv_ladd hx hb dX4_times_76 ?_
        refine zl_ (y := lN ((N_ / 32768 ^ k % 32768) * (f_ % 32768) + (o * (f_ / 32768 % 32768)) + (t * (f_ / 1073741824)) + cy)) (lN_add ((N_ / 32768 ^ k % 32768) * (f_ % 32768) + (o * (f_ / 32768 % 32768)) + (t * (f_ / 1073741824))) cy) ?_
        refine zl_ (y := lN q) (by rw [hq]) ?_
        refine lv_lstore (lv' := [(19, .long (lN q)), (17, .long (lN (N_ / 32768 ^ k % 32768))), (0, .ref m_), (1, .int (nI x_)), (4, .long (lN (f_ % 32768))), (6, .long (lN (f_ / 32768 % 32768))), (8, .long (lN (f_ / 1073741824))), (10, .long (lN cy)), (12, .long (lN o)), (14, .long (lN t)), (16, .int (nI k))]) hx hb dX4_times_77 hl (by decide) rfl (fun ls hl => ?_)
        refine lv_aload_n hx hb dX4_times_79 rfl (lv_at hl 2 rfl) ?_
        refine va_get (D := D) (ci := 4) (v := .ref rr_) (C := RX4) (T := TX4) (N := 14) hx hb hts nX4_times_4 hown hK hP 0 rfl rfl 13 (by decide) (zh (w := .fieldLink RX4 41 "FretRootsModel" "\x72" "[I") hts 2 rfl) (fun _ h9 => h9) rfl dX4_times_80 ?_
        refine lv_bipush (v := nI 76) hx hb dX4_times_83 (by decide) ?_
        refine lv_iload_n hx hb dX4_times_85 rfl (lv_at hl 3 rfl) ?_
        refine lv_imul hx hb dX4_times_86 ?_
        refine zi_ (y := nI (76 * x_)) (pk_mul 76 x_) ?_
        refine lv_iload hx hb dX4_times_87 (lv_at hl 10 rfl) ?_
        refine lv_iadd hx hb dX4_times_89 ?_
        refine zi_ (y := nI (76 * x_ + k)) (nI_add (76 * x_) k) ?_
        refine lv_lload hx hb dX4_times_90 (lv_at hl 0 rfl) ?_
        refine lv_ldc2 (v := 32767) hx hb hown (zh (w := .constantLong RX4 56 (32767)) hts 1 rfl) dX4_times_92 ?_
        refine zl_ (y := lN 32767) rfl ?_
        refine lv_land hx hb dX4_times_95 ?_
        refine zl_ (y := lN (N_ * f_ / 32768 ^ k % 32768)) ((z_and15l (by omega)).trans (congrArg lN hst.1)) ?_
        refine lv_l2i (v := nI (N_ * f_ / 32768 ^ k % 32768)) hx hb dX4_times_96 (lN_i (N_ * f_ / 32768 ^ k % 32768)) ?_
        refine z_iast (j := (76 * x_ + k)) hx hb hK hP hD hS 1 0 rfl rfl (by omega) (by omega) dX4_times_97 (fun H locs hP hD hS => ?_)
        obtain ⟨gA, egA⟩ : ∃ f9, f9 = upd g (76 * x_ + k) (nI (N_ * f_ / 32768 ^ k % 32768)) := ⟨_, rfl⟩
        have hP : va_P D cl5 [(m_, .inr (4, [.int th_, .int nn_, .long le_, .int sh_, .ref ab_, .ref be_, .long ca_, .long cb_, .long oc_, .long st_, .int bs_, .int tr_, .int sp_, .ref rr_])), (rr_, .inl (cI, 152, .inl gA))] H := by rw [egA]; exact hP
        have hD : va_D A [(m_, .inr (4, [.int th_, .int nn_, .long le_, .int sh_, .ref ab_, .ref be_, .long ca_, .long cb_, .long oc_, .long st_, .int bs_, .int tr_, .int sp_, .ref rr_])), (rr_, .inl (cI, 152, .inl gA))] := by rw [egA]; exact hD
        refine lv_lload hx hb dX4_times_98 (lv_at hl 0 rfl) ?_
        refine lv_bipush (v := nI 15) hx hb dX4_times_100 (by decide) ?_
        refine lv_lshr (v := lN (q / 2 ^ 15)) hx hb dX4_times_102 (z_shr (by omega) (by omega)) ?_
        refine zl_ (y := lN (q / 32768)) (rfl) ?_
        refine lv_lstore (lv' := [(10, .long (lN (q / 32768))), (19, .long (lN q)), (17, .long (lN (N_ / 32768 ^ k % 32768))), (0, .ref m_), (1, .int (nI x_)), (4, .long (lN (f_ % 32768))), (6, .long (lN (f_ / 32768 % 32768))), (8, .long (lN (f_ / 1073741824))), (12, .long (lN o)), (14, .long (lN t)), (16, .int (nI k))]) hx hb dX4_times_103 hl (by decide) rfl (fun ls hl => ?_)
        refine lv_lload hx hb dX4_times_105 (lv_at hl 8 rfl) ?_
        refine lv_lstore (lv' := [(14, .long (lN o)), (10, .long (lN (q / 32768))), (19, .long (lN q)), (17, .long (lN (N_ / 32768 ^ k % 32768))), (0, .ref m_), (1, .int (nI x_)), (4, .long (lN (f_ % 32768))), (6, .long (lN (f_ / 32768 % 32768))), (8, .long (lN (f_ / 1073741824))), (12, .long (lN o)), (16, .int (nI k))]) hx hb dX4_times_107 hl (by decide) rfl (fun ls hl => ?_)
        refine lv_lload hx hb dX4_times_109 (lv_at hl 3 rfl) ?_
        refine lv_lstore (lv' := [(12, .long (lN (N_ / 32768 ^ k % 32768))), (14, .long (lN o)), (10, .long (lN (q / 32768))), (19, .long (lN q)), (17, .long (lN (N_ / 32768 ^ k % 32768))), (0, .ref m_), (1, .int (nI x_)), (4, .long (lN (f_ % 32768))), (6, .long (lN (f_ / 32768 % 32768))), (8, .long (lN (f_ / 1073741824))), (16, .int (nI k))]) hx hb dX4_times_111 hl (by decide) rfl (fun ls hl => ?_)
        refine lv_iinc (v := nI (k + 1)) (lv' := [(16, .int (nI (k + 1))), (12, .long (lN (N_ / 32768 ^ k % 32768))), (14, .long (lN o)), (10, .long (lN (q / 32768))), (19, .long (lN q)), (17, .long (lN (N_ / 32768 ^ k % 32768))), (0, .ref m_), (1, .int (nI x_)), (4, .long (lN (f_ % 32768))), (6, .long (lN (f_ / 32768 % 32768))), (8, .long (lN (f_ / 1073741824)))]) hx hb dX4_times_113 hl (k := 10) rfl (z_inc k 1) (by decide) rfl (fun ls hl => ?_)
        refine lv_goto (tgt := 35) hx hb dX4_times_116 (by decide) ?_
        exact ih (k + 1) (q / 32768) (N_ / 32768 ^ k % 32768) o gA _ _ _ (by omega) (by omega) (by omega) (Nat.mod_lt _ (by decide)) ho hst.2 (by rw [egA]; exact modP_snoc h2) (by rw [egA]; exact modR_snoc h4) (by rw [egA]; exact modF_upd h3 c_39) hP hD hS (lv_sub hl [6, 7, 8, 9, 10, 3, 1, 2, 0] rfl)
  refine lv_lload_n hx hb dX4_times_0 rfl (lv_at hl 2 rfl) ?_
  refine lv_ldc2 (v := 32767) hx hb hown (zh (w := .constantLong RX4 56 (32767)) hts 1 rfl) dX4_times_1 ?_
  refine zl_ (y := lN 32767) rfl ?_
  refine lv_land hx hb dX4_times_4 ?_
  refine zl_ (y := lN (f_ % 32768)) (z_and15l (by omega)) ?_
  refine lv_lstore (lv' := [(4, .long (lN (f_ % 32768))), (0, .ref m_), (1, .int (nI x_)), (2, .long (lN f_))]) hx hb dX4_times_5 hl (by decide) rfl (fun ls hl => ?_)
  refine lv_lload_n hx hb dX4_times_7 rfl (lv_at hl 3 rfl) ?_
  refine lv_bipush (v := nI 15) hx hb dX4_times_8 (by decide) ?_
  refine lv_lshr (v := lN (f_ / 2 ^ 15)) hx hb dX4_times_10 (z_shr (by omega) (by omega)) ?_
  refine lv_ldc2 (v := 32767) hx hb hown (zh (w := .constantLong RX4 56 (32767)) hts 1 rfl) dX4_times_11 ?_
  refine zl_ (y := lN 32767) rfl ?_
  refine lv_land hx hb dX4_times_14 ?_
  refine zl_ (y := lN (f_ / 32768 % 32768)) (z_and15l (by omega)) ?_
  refine lv_lstore (lv' := [(6, .long (lN (f_ / 32768 % 32768))), (4, .long (lN (f_ % 32768))), (0, .ref m_), (1, .int (nI x_)), (2, .long (lN f_))]) hx hb dX4_times_15 hl (by decide) rfl (fun ls hl => ?_)
  refine lv_lload_n hx hb dX4_times_17 rfl (lv_at hl 4 rfl) ?_
  refine lv_bipush (v := nI 30) hx hb dX4_times_18 (by decide) ?_
  refine lv_lshr (v := lN (f_ / 2 ^ 30)) hx hb dX4_times_20 (z_shr (by omega) (by omega)) ?_
  refine zl_ (y := lN (f_ / 1073741824)) (rfl) ?_
  refine lv_lstore (lv' := [(8, .long (lN (f_ / 1073741824))), (6, .long (lN (f_ / 32768 % 32768))), (4, .long (lN (f_ % 32768))), (0, .ref m_), (1, .int (nI x_)), (2, .long (lN f_))]) hx hb dX4_times_21 hl (by decide) rfl (fun ls hl => ?_)
  refine lv_lconst (v := lN 0) hx hb dX4_times_23 rfl ?_
  refine lv_lstore (lv' := [(10, .long (lN 0)), (8, .long (lN (f_ / 1073741824))), (6, .long (lN (f_ / 32768 % 32768))), (4, .long (lN (f_ % 32768))), (0, .ref m_), (1, .int (nI x_)), (2, .long (lN f_))]) hx hb dX4_times_24 hl (by decide) rfl (fun ls hl => ?_)
  refine lv_lconst (v := lN 0) hx hb dX4_times_26 rfl ?_
  refine lv_lstore (lv' := [(12, .long (lN 0)), (10, .long (lN 0)), (8, .long (lN (f_ / 1073741824))), (6, .long (lN (f_ / 32768 % 32768))), (4, .long (lN (f_ % 32768))), (0, .ref m_), (1, .int (nI x_)), (2, .long (lN f_))]) hx hb dX4_times_27 hl (by decide) rfl (fun ls hl => ?_)
  refine lv_lconst (v := lN 0) hx hb dX4_times_29 rfl ?_
  refine lv_lstore (lv' := [(14, .long (lN 0)), (12, .long (lN 0)), (10, .long (lN 0)), (8, .long (lN (f_ / 1073741824))), (6, .long (lN (f_ / 32768 % 32768))), (4, .long (lN (f_ % 32768))), (0, .ref m_), (1, .int (nI x_)), (2, .long (lN f_))]) hx hb dX4_times_30 hl (by decide) rfl (fun ls hl => ?_)
  refine lv_iconst (v := nI 0) hx hb dX4_times_32 (by decide) ?_
  refine lv_istore (lv' := [(16, .int (nI 0)), (14, .long (lN 0)), (12, .long (lN 0)), (10, .long (lN 0)), (8, .long (lN (f_ / 1073741824))), (6, .long (lN (f_ / 32768 % 32768))), (4, .long (lN (f_ % 32768))), (0, .ref m_), (1, .int (nI x_)), (2, .long (lN f_))]) hx hb dX4_times_33 hl (by decide) rfl (fun ls hl => ?_)
  exact lp_35 ((76 - 0) + 1) 0 0 0 0 g_ _ _ _ (Nat.lt_succ_self _) (Nat.zero_le _) (by decide) (by decide) (by decide) (t_init f_ N_) (fun j h => absurd h (Nat.not_lt_zero _)) (modL_R hL) (modF_rf _ _) hP hD hS (lv_sub hl [7, 8, 6, 5, 4, 3, 2, 1, 0] rfl)
abbrev rm_X4_power : Room := { frames := 1, cells := 0, slots := 0, locals := 40 }
set_option maxHeartbeats 4000000 in
set_option maxRecDepth 100000 in
/-- power -/
theorem ct_X4_power (l : Launch) (D : va_G) (cI cJ cD : ClassId) (m_ : Nat) (ab_ : Nat) (be_ : Nat) (rr_ : Nat) (th_ : Int32) (nn_ : Int32) (sh_ : Int32) (bs_ : Int32) (tr_ : Int32) (sp_ : Int32) (le_ : Int64) (ca_ : Int64) (cb_ : Int64) (oc_ : Int64) (st_ : Int64) (x_ : Nat) (b_ : Nat) (e_ : Nat) (g_ : Nat → Int32) (sz : Nat) (hx_ : x_ ≤ 1) (hb_ : b_ < 2 ^ 45) (he : e_ < 2 ^ 31) : Met l yX4_power wsX4_power rm_X4_power (zP D (ty3 cI cJ cD) [.ref m_, .int (nI x_), .long (lN b_), .int (nI e_)] sz [(m_, .inr (4, [.int th_, .int nn_, .long le_, .int sh_, .ref ab_, .ref be_, .long ca_, .long cb_, .long oc_, .long st_, .int bs_, .int tr_, .int sp_, .ref rr_])), (rr_, .inl (cI, 152, .inl g_))] zT) (va_Qv (fun (u : (Nat → Int32)) => modL u x_ (b_ ^ e_) ∧ modF g_ u x_) (zB D (ty3 cI cJ cD) (fun (u : (Nat → Int32)) => [(m_, .inr (4, [.int th_, .int nn_, .long le_, .int sh_, .ref ab_, .ref be_, .long ca_, .long cb_, .long oc_, .long st_, .int bs_, .int tr_, .int sp_, .ref rr_])), (rr_, .inl (cI, 152, .inl u))]) (va_A [(m_, .inr (4, [.int th_, .int nn_, .long le_, .int sh_, .ref ab_, .ref be_, .long ca_, .long cb_, .long oc_, .long st_, .int bs_, .int tr_, .int sp_, .ref rr_])), (rr_, .inl (cI, 152, .inl g_))] sz)) (va_A [(m_, .inr (4, [.int th_, .int nn_, .long le_, .int sh_, .ref ab_, .ref be_, .long ca_, .long cb_, .long oc_, .long st_, .int bs_, .int tr_, .int sp_, .ref rr_])), (rr_, .inl (cI, 152, .inl g_))] sz)) 0 0 (va_A [(m_, .inr (4, [.int th_, .int nn_, .long le_, .int sh_, .ref ab_, .ref be_, .long ca_, .long cb_, .long oc_, .long st_, .int bs_, .int tr_, .int sp_, .ref rr_])), (rr_, .inl (cI, 152, .inl g_))] sz) := by
  refine zMet (Qf := fun A => va_Qv (fun (u : (Nat → Int32)) => modL u x_ (b_ ^ e_) ∧ modF g_ u x_) (zB D (ty3 cI cJ cD) (fun (u : (Nat → Int32)) => [(m_, .inr (4, [.int th_, .int nn_, .long le_, .int sh_, .ref ab_, .ref be_, .long ca_, .long cb_, .long oc_, .long st_, .int bs_, .int tr_, .int sp_, .ref rr_])), (rr_, .inl (cI, 152, .inl u))]) A) A) (cc := cX4_power) (maxL := 6) (ret := none) (by decide) rfl (Nat.le_of_ble_eq_true rfl) ?_
  intro p e s m args below meth c A ls Q H hargs hQ hHe hx hb hr hml hown hts hlocks hin hP hK hD hA hS hE hAe hl
  have hl : lv_has ls 6 [(0, .ref m_), (1, .int (nI x_)), (2, .long (lN b_)), (4, .int (nI e_))] := hl
  have lp_9 : ∀ (n_ : Nat) (i : Nat) (g : Nat → Int32) (H : Heap) (locs : List Loc) (ls : Array Slot), e_ - i < n_ → i ≤ e_ → modL g x_ (b_ ^ i) → modF g_ g x_ →  va_P D cl5 [(m_, .inr (4, [.int th_, .int nn_, .long le_, .int sh_, .ref ab_, .ref be_, .long ca_, .long cb_, .long oc_, .long st_, .int bs_, .int tr_, .int sp_, .ref rr_])), (rr_, .inl (cI, 152, .inl g))] H → va_D A [(m_, .inr (4, [.int th_, .int nn_, .long le_, .int sh_, .ref ab_, .ref be_, .long ca_, .long cb_, .long oc_, .long st_, .int bs_, .int tr_, .int sp_, .ref rr_])), (rr_, .inl (cI, 152, .inl g))] → va_S A s.heap H locs → lv_has ls 6 [(0, .ref m_), (1, .int (nI x_)), (2, .long (lN b_)), (4, .int (nI e_)), (5, .int (nI i))] → W p l e rm_X4_power s m args below meth c H locs 0 0 Q (F0 m 9 ls []) := by
    intro n_
    induction n_ with
    | zero => intro i g H locs ls hm; exact absurd hm (Nat.not_lt_zero _)
    | succ n_ ih =>
      intro i g H locs ls hm  h1 h2 h3 hP hD hS hl
      refine lv_iload hx hb dX4_power_9 (lv_at hl 4 rfl) ?_
      refine lv_iload hx hb dX4_power_11 (lv_at hl 3 rfl) ?_
      refine lv_icmp_ge (tgt := 28) hx hb dX4_power_13 (by decide) (fun c_13 => ?_) (fun c_13 => ?_)
      · skip
        have c_13 := zji_le (a := e_) (b := i) (by omega) (by omega) c_13
        have hk : e_ = i := by omega
        subst hk
        subst hQ
        exact ze_v hx hb hr hlocks g (⟨h2, h3⟩) hP hK hD hS dX4_power_28
      · skip
        have c_13 := zji_nle (a := e_) (b := i) (by omega) (by omega) c_13
        refine lv_aload_n hx hb dX4_power_16 rfl (lv_at hl 0 rfl) ?_
        refine lv_iload_n hx hb dX4_power_17 rfl (lv_at hl 1 rfl) ?_
        refine lv_lload_n hx hb dX4_power_18 rfl (lv_at hl 2 rfl) ?_
        refine zc_v (wc := [(m_, .inr (4, [.int th_, .int nn_, .long le_, .int sh_, .ref ab_, .ref be_, .long ca_, .long cb_, .long oc_, .long st_, .int bs_, .int tr_, .int sp_, .ref rr_])), (rr_, .inl (cI, 152, .inl g))]) (wr := []) hP hD hS hA [0, 1] [] rfl rfl (by decide) (by decide) (va_runV (As := [.int (nI x_), .long (lN b_)]) (rest := []) ⟨hx, hb, hml, hown, hts⟩ (ct_X4_times l D cI cJ cD m_ ab_ be_ rr_ th_ nn_ sh_ bs_ tr_ sp_ le_ ca_ cb_ oc_ st_ x_ (b_ ^ i) b_ g H.size hx_ hb_ h2) (cwV 2 hts gX4_power_X4_times rfl rfl rfl (by decide +kernel) ⟨Nat.le_of_ble_eq_true rfl, Nat.le_of_ble_eq_true rfl⟩) (zPreV (wc := [(m_, .inr (4, [.int th_, .int nn_, .long le_, .int sh_, .ref ab_, .ref be_, .long ca_, .long cb_, .long oc_, .long st_, .int bs_, .int tr_, .int sp_, .ref rr_])), (rr_, .inl (cI, 152, .inl g))]) hK hP hD 4 0 rfl rfl zTb (fun _ _ _ => trivial)) rfl rfl hl.1 rfl (lv_room (Nat.le_of_ble_eq_true rfl)) dX4_power_19 ⟨Nat.le_of_ble_eq_true rfl, Nat.le_of_ble_eq_true rfl⟩) (fun u H locs hw hP hD hS => ?_)
        obtain ⟨g2_2, rfl⟩ : ∃ z, z = u := ⟨_, rfl⟩
        have hP : va_P D cl5 [(m_, .inr (4, [.int th_, .int nn_, .long le_, .int sh_, .ref ab_, .ref be_, .long ca_, .long cb_, .long oc_, .long st_, .int bs_, .int tr_, .int sp_, .ref rr_])), (rr_, .inl (cI, 152, .inl g2_2))] H := hP.sub [0, 1] rfl
        have hD : va_D A [(m_, .inr (4, [.int th_, .int nn_, .long le_, .int sh_, .ref ab_, .ref be_, .long ca_, .long cb_, .long oc_, .long st_, .int bs_, .int tr_, .int sp_, .ref rr_])), (rr_, .inl (cI, 152, .inl g2_2))] := hD.sub [0, 1] (by decide) rfl
        have hw : modL g2_2 x_ ((b_ ^ i) * b_) ∧ modF g g2_2 x_ := hw
        obtain ⟨hL_19, hF_19⟩ := hw
        refine lv_iinc (v := nI (i + 1)) (lv' := [(5, .int (nI (i + 1))), (0, .ref m_), (1, .int (nI x_)), (2, .long (lN b_)), (4, .int (nI e_))]) hx hb dX4_power_22 hl (k := 4) rfl (z_inc i 1) (by decide) rfl (fun ls hl => ?_)
        refine lv_goto (tgt := 9) hx hb dX4_power_25 (by decide) ?_
        exact ih (i + 1) g2_2 _ _ _ (by omega) (by omega) hL_19 (modF_tr h3 hF_19) hP hD hS (lv_sub hl [1, 2, 3, 4, 0] rfl)
  refine lv_aload_n hx hb dX4_power_0 rfl (lv_at hl 0 rfl) ?_
  refine lv_iload_n hx hb dX4_power_1 rfl (lv_at hl 1 rfl) ?_
  refine lv_lconst (v := lN 1) hx hb dX4_power_2 rfl ?_
  refine zc_v (wc := [(m_, .inr (4, [.int th_, .int nn_, .long le_, .int sh_, .ref ab_, .ref be_, .long ca_, .long cb_, .long oc_, .long st_, .int bs_, .int tr_, .int sp_, .ref rr_])), (rr_, .inl (cI, 152, .inl g_))]) (wr := []) hP hD hS hA [0, 1] [] rfl rfl (by decide) (by decide) (va_runV (As := [.int (nI x_), .long (lN 1)]) (rest := []) ⟨hx, hb, hml, hown, hts⟩ (ct_X4_set l D cI cJ cD m_ ab_ be_ rr_ th_ nn_ sh_ bs_ tr_ sp_ le_ ca_ cb_ oc_ st_ x_ 1 g_ H.size hx_ (by decide)) (cwV 2 hts gX4_power_X4_set rfl rfl rfl (by decide +kernel) ⟨Nat.le_of_ble_eq_true rfl, Nat.le_of_ble_eq_true rfl⟩) (zPreV (wc := [(m_, .inr (4, [.int th_, .int nn_, .long le_, .int sh_, .ref ab_, .ref be_, .long ca_, .long cb_, .long oc_, .long st_, .int bs_, .int tr_, .int sp_, .ref rr_])), (rr_, .inl (cI, 152, .inl g_))]) hK hP hD 4 0 rfl rfl zTb (fun _ _ _ => trivial)) rfl rfl hl.1 rfl (lv_room (Nat.le_of_ble_eq_true rfl)) dX4_power_3 ⟨Nat.le_of_ble_eq_true rfl, Nat.le_of_ble_eq_true rfl⟩) (fun u H locs hw hP hD hS => ?_)
  obtain ⟨g2_4, rfl⟩ : ∃ z, z = u := ⟨_, rfl⟩
  have hP : va_P D cl5 [(m_, .inr (4, [.int th_, .int nn_, .long le_, .int sh_, .ref ab_, .ref be_, .long ca_, .long cb_, .long oc_, .long st_, .int bs_, .int tr_, .int sp_, .ref rr_])), (rr_, .inl (cI, 152, .inl g2_4))] H := hP.sub [0, 1] rfl
  have hD : va_D A [(m_, .inr (4, [.int th_, .int nn_, .long le_, .int sh_, .ref ab_, .ref be_, .long ca_, .long cb_, .long oc_, .long st_, .int bs_, .int tr_, .int sp_, .ref rr_])), (rr_, .inl (cI, 152, .inl g2_4))] := hD.sub [0, 1] (by decide) rfl
  have hw : modL g2_4 x_ 1 ∧ modF g_ g2_4 x_ := hw
  obtain ⟨hL_3, hF_3⟩ := hw
  refine lv_iconst (v := nI 0) hx hb dX4_power_6 (by decide) ?_
  refine lv_istore (lv' := [(5, .int (nI 0)), (0, .ref m_), (1, .int (nI x_)), (2, .long (lN b_)), (4, .int (nI e_))]) hx hb dX4_power_7 hl (by decide) rfl (fun ls hl => ?_)
  exact lp_9 ((e_ - 0) + 1) 0 g2_4 _ _ _ (Nat.lt_succ_self _) (Nat.zero_le _) hL_3 hF_3 hP hD hS (lv_sub hl [1, 2, 3, 4, 0] rfl)
abbrev rm_X4_twice : Room := { frames := 1, cells := 0, slots := 0, locals := 40 }
set_option maxHeartbeats 4000000 in
set_option maxRecDepth 100000 in
/-- twice -/
theorem ct_X4_twice (l : Launch) (D : va_G) (cI cJ cD : ClassId) (m_ : Nat) (ab_ : Nat) (be_ : Nat) (rr_ : Nat) (th_ : Int32) (nn_ : Int32) (sh_ : Int32) (bs_ : Int32) (tr_ : Int32) (sp_ : Int32) (le_ : Int64) (ca_ : Int64) (cb_ : Int64) (oc_ : Int64) (st_ : Int64) (x_ : Nat) (N_ : Nat) (e_ : Nat) (g_ : Nat → Int32) (sz : Nat) (hx_ : x_ ≤ 1) (he : e_ < 2 ^ 31) (hL : modL g_ x_ N_) : Met l yX4_twice wsX4_twice rm_X4_twice (zP D (ty3 cI cJ cD) [.ref m_, .int (nI x_), .int (nI e_)] sz [(m_, .inr (4, [.int th_, .int nn_, .long le_, .int sh_, .ref ab_, .ref be_, .long ca_, .long cb_, .long oc_, .long st_, .int bs_, .int tr_, .int sp_, .ref rr_])), (rr_, .inl (cI, 152, .inl g_))] zT) (va_Qv (fun (u : (Nat → Int32)) => modL u x_ (N_ * 2 ^ e_) ∧ modF g_ u x_) (zB D (ty3 cI cJ cD) (fun (u : (Nat → Int32)) => [(m_, .inr (4, [.int th_, .int nn_, .long le_, .int sh_, .ref ab_, .ref be_, .long ca_, .long cb_, .long oc_, .long st_, .int bs_, .int tr_, .int sp_, .ref rr_])), (rr_, .inl (cI, 152, .inl u))]) (va_A [(m_, .inr (4, [.int th_, .int nn_, .long le_, .int sh_, .ref ab_, .ref be_, .long ca_, .long cb_, .long oc_, .long st_, .int bs_, .int tr_, .int sp_, .ref rr_])), (rr_, .inl (cI, 152, .inl g_))] sz)) (va_A [(m_, .inr (4, [.int th_, .int nn_, .long le_, .int sh_, .ref ab_, .ref be_, .long ca_, .long cb_, .long oc_, .long st_, .int bs_, .int tr_, .int sp_, .ref rr_])), (rr_, .inl (cI, 152, .inl g_))] sz)) 0 0 (va_A [(m_, .inr (4, [.int th_, .int nn_, .long le_, .int sh_, .ref ab_, .ref be_, .long ca_, .long cb_, .long oc_, .long st_, .int bs_, .int tr_, .int sp_, .ref rr_])), (rr_, .inl (cI, 152, .inl g_))] sz) := by
  refine zMet (Qf := fun A => va_Qv (fun (u : (Nat → Int32)) => modL u x_ (N_ * 2 ^ e_) ∧ modF g_ u x_) (zB D (ty3 cI cJ cD) (fun (u : (Nat → Int32)) => [(m_, .inr (4, [.int th_, .int nn_, .long le_, .int sh_, .ref ab_, .ref be_, .long ca_, .long cb_, .long oc_, .long st_, .int bs_, .int tr_, .int sp_, .ref rr_])), (rr_, .inl (cI, 152, .inl u))]) A) A) (cc := cX4_twice) (maxL := 4) (ret := none) (by decide) rfl (Nat.le_of_ble_eq_true rfl) ?_
  intro p e s m args below meth c A ls Q H hargs hQ hHe hx hb hr hml hown hts hlocks hin hP hK hD hA hS hE hAe hl
  have hl : lv_has ls 4 [(0, .ref m_), (1, .int (nI x_)), (2, .int (nI e_))] := hl
  have lp_2 : ∀ (n_ : Nat) (i : Nat) (g : Nat → Int32) (H : Heap) (locs : List Loc) (ls : Array Slot), e_ - i < n_ → i ≤ e_ → modL g x_ (N_ * 2 ^ i) → modF g_ g x_ →  va_P D cl5 [(m_, .inr (4, [.int th_, .int nn_, .long le_, .int sh_, .ref ab_, .ref be_, .long ca_, .long cb_, .long oc_, .long st_, .int bs_, .int tr_, .int sp_, .ref rr_])), (rr_, .inl (cI, 152, .inl g))] H → va_D A [(m_, .inr (4, [.int th_, .int nn_, .long le_, .int sh_, .ref ab_, .ref be_, .long ca_, .long cb_, .long oc_, .long st_, .int bs_, .int tr_, .int sp_, .ref rr_])), (rr_, .inl (cI, 152, .inl g))] → va_S A s.heap H locs → lv_has ls 4 [(0, .ref m_), (1, .int (nI x_)), (2, .int (nI e_)), (3, .int (nI i))] → W p l e rm_X4_twice s m args below meth c H locs 0 0 Q (F0 m 2 ls []) := by
    intro n_
    induction n_ with
    | zero => intro i g H locs ls hm; exact absurd hm (Nat.not_lt_zero _)
    | succ n_ ih =>
      intro i g H locs ls hm  h1 h2 h3 hP hD hS hl
      refine lv_iload_n hx hb dX4_twice_2 rfl (lv_at hl 3 rfl) ?_
      refine lv_iload_n hx hb dX4_twice_3 rfl (lv_at hl 2 rfl) ?_
      refine lv_icmp_ge (tgt := 21) hx hb dX4_twice_4 (by decide) (fun c_4 => ?_) (fun c_4 => ?_)
      · skip
        have c_4 := zji_le (a := e_) (b := i) (by omega) (by omega) c_4
        have hk : e_ = i := by omega
        subst hk
        subst hQ
        exact ze_v hx hb hr hlocks g (⟨h2, h3⟩) hP hK hD hS dX4_twice_21
      · skip
        have c_4 := zji_nle (a := e_) (b := i) (by omega) (by omega) c_4
        refine lv_aload_n hx hb dX4_twice_7 rfl (lv_at hl 0 rfl) ?_
        refine lv_iload_n hx hb dX4_twice_8 rfl (lv_at hl 1 rfl) ?_
        refine lv_ldc2 (v := 2) hx hb hown (zh (w := .constantLong RX4 50 (2)) hts 1 rfl) dX4_twice_9 ?_
        refine zl_ (y := lN 2) rfl ?_
        refine zc_v (wc := [(m_, .inr (4, [.int th_, .int nn_, .long le_, .int sh_, .ref ab_, .ref be_, .long ca_, .long cb_, .long oc_, .long st_, .int bs_, .int tr_, .int sp_, .ref rr_])), (rr_, .inl (cI, 152, .inl g))]) (wr := []) hP hD hS hA [0, 1] [] rfl rfl (by decide) (by decide) (va_runV (As := [.int (nI x_), .long (lN 2)]) (rest := []) ⟨hx, hb, hml, hown, hts⟩ (ct_X4_times l D cI cJ cD m_ ab_ be_ rr_ th_ nn_ sh_ bs_ tr_ sp_ le_ ca_ cb_ oc_ st_ x_ (N_ * 2 ^ i) 2 g H.size hx_ (by decide) h2) (cwV 2 hts gX4_twice_X4_times rfl rfl rfl (by decide +kernel) ⟨Nat.le_of_ble_eq_true rfl, Nat.le_of_ble_eq_true rfl⟩) (zPreV (wc := [(m_, .inr (4, [.int th_, .int nn_, .long le_, .int sh_, .ref ab_, .ref be_, .long ca_, .long cb_, .long oc_, .long st_, .int bs_, .int tr_, .int sp_, .ref rr_])), (rr_, .inl (cI, 152, .inl g))]) hK hP hD 4 0 rfl rfl zTb (fun _ _ _ => trivial)) rfl rfl hl.1 rfl (lv_room (Nat.le_of_ble_eq_true rfl)) dX4_twice_12 ⟨Nat.le_of_ble_eq_true rfl, Nat.le_of_ble_eq_true rfl⟩) (fun u H locs hw hP hD hS => ?_)
        obtain ⟨g2_2, rfl⟩ : ∃ z, z = u := ⟨_, rfl⟩
        have hP : va_P D cl5 [(m_, .inr (4, [.int th_, .int nn_, .long le_, .int sh_, .ref ab_, .ref be_, .long ca_, .long cb_, .long oc_, .long st_, .int bs_, .int tr_, .int sp_, .ref rr_])), (rr_, .inl (cI, 152, .inl g2_2))] H := hP.sub [0, 1] rfl
        have hD : va_D A [(m_, .inr (4, [.int th_, .int nn_, .long le_, .int sh_, .ref ab_, .ref be_, .long ca_, .long cb_, .long oc_, .long st_, .int bs_, .int tr_, .int sp_, .ref rr_])), (rr_, .inl (cI, 152, .inl g2_2))] := hD.sub [0, 1] (by decide) rfl
        have hw : modL g2_2 x_ ((N_ * 2 ^ i) * 2) ∧ modF g g2_2 x_ := hw
        obtain ⟨hL_12, hF_12⟩ := hw
        refine lv_iinc (v := nI (i + 1)) (lv' := [(3, .int (nI (i + 1))), (0, .ref m_), (1, .int (nI x_)), (2, .int (nI e_))]) hx hb dX4_twice_15 hl (k := 3) rfl (z_inc i 1) (by decide) rfl (fun ls hl => ?_)
        refine lv_goto (tgt := 2) hx hb dX4_twice_18 (by decide) ?_
        exact ih (i + 1) g2_2 _ _ _ (by omega) (by omega) (by rw [Nat.pow_succ, ← Nat.mul_assoc]; exact hL_12) (modF_tr h3 hF_12) hP hD hS (lv_sub hl [1, 2, 3, 0] rfl)
  refine lv_iconst (v := nI 0) hx hb dX4_twice_0 (by decide) ?_
  refine lv_istore_n (lv' := [(3, .int (nI 0)), (0, .ref m_), (1, .int (nI x_)), (2, .int (nI e_))]) hx hb dX4_twice_1 rfl hl (by decide) rfl (fun ls hl => ?_)
  exact lp_2 ((e_ - 0) + 1) 0 g_ _ _ _ (Nat.lt_succ_self _) (Nat.zero_le _) (by rw [Nat.pow_zero, Nat.mul_one]; exact hL) (modF_rf _ _) hP hD hS (lv_sub hl [1, 2, 3, 0] rfl)
theorem nX4_compare_4 : ∀ w ∈ wsX40, w ∈ wsX4_compare := by decide +kernel
abbrev rm_X4_compare : Room := { frames := 0, cells := 0, slots := 0, locals := 0 }
set_option maxHeartbeats 4000000 in
set_option maxRecDepth 100000 in
/-- compare -/
theorem ct_X4_compare (l : Launch) (D : va_G) (cI cJ cD : ClassId) (m_ : Nat) (ab_ : Nat) (be_ : Nat) (rr_ : Nat) (th_ : Int32) (nn_ : Int32) (sh_ : Int32) (bs_ : Int32) (tr_ : Int32) (sp_ : Int32) (le_ : Int64) (ca_ : Int64) (cb_ : Int64) (oc_ : Int64) (st_ : Int64) (N_ : Nat) (K_ : Nat) (g_ : Nat → Int32) (sz : Nat) (hA_ : modL g_ 0 N_) (hB_ : modL g_ 1 K_) (hN : N_ < 32768 ^ 76) (hK_ : K_ < 32768 ^ 76) : Met l yX4_compare wsX4_compare rm_X4_compare (zP D (ty3 cI cJ cD) [.ref m_] sz [(m_, .inr (4, [.int th_, .int nn_, .long le_, .int sh_, .ref ab_, .ref be_, .long ca_, .long cb_, .long oc_, .long st_, .int bs_, .int tr_, .int sp_, .ref rr_])), (rr_, .inl (cI, 152, .inl g_))] zT) (va_Qi (fun (r : Int32) (u : Unit) => r = cmpI N_ K_) (zB D (ty3 cI cJ cD) (fun (u : Unit) => [(m_, .inr (4, [.int th_, .int nn_, .long le_, .int sh_, .ref ab_, .ref be_, .long ca_, .long cb_, .long oc_, .long st_, .int bs_, .int tr_, .int sp_, .ref rr_])), (rr_, .inl (cI, 152, .inl g_))]) (va_A [(m_, .inr (4, [.int th_, .int nn_, .long le_, .int sh_, .ref ab_, .ref be_, .long ca_, .long cb_, .long oc_, .long st_, .int bs_, .int tr_, .int sp_, .ref rr_])), (rr_, .inl (cI, 152, .inl g_))] sz)) (va_A [(m_, .inr (4, [.int th_, .int nn_, .long le_, .int sh_, .ref ab_, .ref be_, .long ca_, .long cb_, .long oc_, .long st_, .int bs_, .int tr_, .int sp_, .ref rr_])), (rr_, .inl (cI, 152, .inl g_))] sz)) 0 0 (va_A [(m_, .inr (4, [.int th_, .int nn_, .long le_, .int sh_, .ref ab_, .ref be_, .long ca_, .long cb_, .long oc_, .long st_, .int bs_, .int tr_, .int sp_, .ref rr_])), (rr_, .inl (cI, 152, .inl g_))] sz) := by
  refine zMet (Qf := fun A => va_Qi (fun (r : Int32) (u : Unit) => r = cmpI N_ K_) (zB D (ty3 cI cJ cD) (fun (u : Unit) => [(m_, .inr (4, [.int th_, .int nn_, .long le_, .int sh_, .ref ab_, .ref be_, .long ca_, .long cb_, .long oc_, .long st_, .int bs_, .int tr_, .int sp_, .ref rr_])), (rr_, .inl (cI, 152, .inl g_))]) A) A) (cc := cX4_compare) (maxL := 3) (ret := (some .int)) (by decide) rfl (Nat.le_of_ble_eq_true rfl) ?_
  intro p e s m args below meth c A ls Q H hargs hQ hHe hx hb hr hml hown hts hlocks hin hP hK hD hA hS hE hAe hl
  have hl : lv_has ls 3 [(0, .ref m_)] := hl
  have lp_3 : ∀ (n_ : Nat) (j : Nat) (H : Heap) (locs : List Loc) (ls : Array Slot), j < n_ → j ≤ 76 → N_ / 32768 ^ j = K_ / 32768 ^ j →  va_P D cl5 [(m_, .inr (4, [.int th_, .int nn_, .long le_, .int sh_, .ref ab_, .ref be_, .long ca_, .long cb_, .long oc_, .long st_, .int bs_, .int tr_, .int sp_, .ref rr_])), (rr_, .inl (cI, 152, .inl g_))] H → va_D A [(m_, .inr (4, [.int th_, .int nn_, .long le_, .int sh_, .ref ab_, .ref be_, .long ca_, .long cb_, .long oc_, .long st_, .int bs_, .int tr_, .int sp_, .ref rr_])), (rr_, .inl (cI, 152, .inl g_))] → va_S A s.heap H locs → lv_has ls 3 [(0, .ref m_), (1, .int (nI j - nI 1))] → W p l e rm_X4_compare s m args below meth c H locs 0 0 Q (F0 m 3 ls []) := by
    intro n_
    induction n_ with
    | zero => intro j H locs ls hm; exact absurd hm (Nat.not_lt_zero _)
    | succ n_ ih =>
      intro j H locs ls hm  h1 h2 hP hD hS hl
      refine lv_iload_n hx hb dX4_compare_3 rfl (lv_at hl 1 rfl) ?_
      refine lv_if_lt (tgt := 44) hx hb dX4_compare_4 (by decide) (fun c_4 => ?_) (fun c_4 => ?_)
      · skip
        have hj : j = 0 := Nat.eq_zero_of_not_pos (fun q => absurd c_4 (by rw [pk_sub q]; exact nI_pos (by omega)))
        subst hj
        rw [Nat.pow_zero, Nat.div_one, Nat.div_one] at h2
        refine lv_iconst (v := nI 0) hx hb dX4_compare_44 (by decide) ?_
        subst hQ
        exact ze_i hx hb hr hlocks () ((cmpI_eq h2).symm) hP hK hD hS dX4_compare_45
      · skip
        have hj : 1 ≤ j := Nat.pos_of_ne_zero (fun q => c_4 (by subst q; decide))
        have ex : nI j - nI 1 = nI (j - 1) := pk_sub hj
        have eN := e_top (N := N_) hj
        have eK := e_top (N := K_) hj
        have l1 : N_ / 32768 ^ (j - 1) % 32768 < 32768 := Nat.mod_lt _ (by decide)
        have l2 : K_ / 32768 ^ (j - 1) % 32768 < 32768 := Nat.mod_lt _ (by decide)
        refine lv_aload_n hx hb dX4_compare_7 rfl (lv_at hl 0 rfl) ?_
        refine va_get (D := D) (ci := 4) (v := .ref rr_) (C := RX4) (T := TX4) (N := 14) hx hb hts nX4_compare_4 hown hK hP 0 rfl rfl 13 (by decide) (zh (w := .fieldLink RX4 41 "FretRootsModel" "\x72" "[I") hts 1 rfl) (fun _ h9 => h9) rfl dX4_compare_8 ?_
        refine lv_iload_n hx hb dX4_compare_11 rfl (lv_at hl 1 rfl) ?_
        refine zi_ (y := nI (j - 1)) (ex) ?_
        refine z_iald (j := (j - 1)) hx hb hK hP 1 0 rfl rfl (by omega) (by omega) dX4_compare_12 ?_
        refine zi_ (y := nI (N_ / 32768 ^ (j - 1) % 32768)) (by have := hA_ (j - 1) (by omega); simpa using this) ?_
        refine lv_aload_n hx hb dX4_compare_13 rfl (lv_at hl 0 rfl) ?_
        refine va_get (D := D) (ci := 4) (v := .ref rr_) (C := RX4) (T := TX4) (N := 14) hx hb hts nX4_compare_4 hown hK hP 0 rfl rfl 13 (by decide) (zh (w := .fieldLink RX4 41 "FretRootsModel" "\x72" "[I") hts 1 rfl) (fun _ h9 => h9) rfl dX4_compare_14 ?_
        refine lv_bipush (v := nI 76) hx hb dX4_compare_17 (by decide) ?_
        refine lv_iload_n hx hb dX4_compare_19 rfl (lv_at hl 1 rfl) ?_
        refine zi_ (y := nI (j - 1)) (ex) ?_
        refine lv_iadd hx hb dX4_compare_20 ?_
        refine zi_ (y := nI (76 + (j - 1))) (nI_add 76 (j - 1)) ?_
        refine z_iald (j := (76 + (j - 1))) hx hb hK hP 1 0 rfl rfl (by omega) (by omega) dX4_compare_21 ?_
        refine zi_ (y := nI (K_ / 32768 ^ (j - 1) % 32768)) (by have := hB_ (j - 1) (by omega); simpa using this) ?_
        refine lv_isub hx hb dX4_compare_22 ?_
        refine lv_topi (fun y ey => ?_)
        refine lv_istore_n (lv' := [(2, .int y), (0, .ref m_), (1, .int (nI j - nI 1))]) hx hb dX4_compare_23 rfl hl (by decide) rfl (fun ls hl => ?_)
        refine lv_iload_n hx hb dX4_compare_24 rfl (lv_at hl 0 rfl) ?_
        refine lv_if_eq (tgt := 38) hx hb dX4_compare_25 (by decide) (fun c_25 => ?_) (fun c_25 => ?_)
        · skip
          have hd1 := z_sub0 (a := N_ / 32768 ^ (j - 1) % 32768) (b := K_ / 32768 ^ (j - 1) % 32768) (by omega) (by omega) (ey.symm.trans c_25)
          refine lv_iinc (v := nI (j - 1) - nI 1) (lv' := [(1, .int (nI (j - 1) - nI 1)), (2, .int y), (0, .ref m_)]) hx hb dX4_compare_38 hl (k := 2) rfl (by rw [ex]; exact z_m1 _) (by decide) rfl (fun ls hl => ?_)
          refine lv_goto (tgt := 3) hx hb dX4_compare_41 (by decide) ?_
          exact ih (j - 1) _ _ _ (by omega) (by omega) (by rw [e_top hj, e_top (N := K_) hj, h2, hd1]) hP hD hS (lv_sub hl [2, 0] rfl)
        · skip
          have hd1 := z_subn (a := N_ / 32768 ^ (j - 1) % 32768) (b := K_ / 32768 ^ (j - 1) % 32768) (by omega) (by omega) (fun q => c_25 (ey.trans q))
          refine lv_iload_n hx hb dX4_compare_28 rfl (lv_at hl 0 rfl) ?_
          refine lv_if_ge (tgt := 36) hx hb dX4_compare_29 (by decide) (fun c_29 => ?_) (fun c_29 => ?_)
          · skip
            have hd2 := z_subge (a := N_ / 32768 ^ (j - 1) % 32768) (b := K_ / 32768 ^ (j - 1) % 32768) (by omega) (by omega) (by rw [← ey]; exact c_29)
            refine lv_iconst (v := nI 1) hx hb dX4_compare_36 (by decide) ?_
            subst hQ
            exact ze_i hx hb hr hlocks () ((cmpI_gt (e_cmp (i := j - 1) (by omega))).symm) hP hK hD hS dX4_compare_37
          · skip
            have hd2 := z_sublt (a := N_ / 32768 ^ (j - 1) % 32768) (b := K_ / 32768 ^ (j - 1) % 32768) (by omega) (by omega) (by rw [← ey]; exact c_29)
            refine lv_iconst (v := -1) hx hb dX4_compare_32 (by decide) ?_
            refine lv_goto (tgt := 37) hx hb dX4_compare_33 (by decide) ?_
            subst hQ
            exact ze_i hx hb hr hlocks () ((cmpI_lt (e_cmp (i := j - 1) (by omega))).symm) hP hK hD hS dX4_compare_37
  refine lv_bipush (v := nI 75) hx hb dX4_compare_0 (by decide) ?_
  refine zi_ (y := nI 76 - nI 1) (by decide) ?_
  refine lv_istore_n (lv' := [(1, .int (nI 76 - nI 1)), (0, .ref m_)]) hx hb dX4_compare_2 rfl hl (by decide) rfl (fun ls hl => ?_)
  exact lp_3 (76 + 1) 76 _ _ _ (Nat.lt_succ_self _) (Nat.le_refl _) (by rw [Nat.div_eq_of_lt hN, Nat.div_eq_of_lt hK_]) hP hD hS (lv_sub hl [1, 0] rfl)
theorem nX4_side_4 : ∀ w ∈ wsX40, w ∈ wsX4_side := by decide +kernel
abbrev rm_X4_side : Room := { frames := 2, cells := 0, slots := 0, locals := 65 }
set_option maxHeartbeats 4000000 in
set_option maxRecDepth 100000 in
/-- side -/
theorem ct_X4_side (l : Launch) (D : va_G) (cI cJ cD : ClassId) (m_ : Nat) (ab_ : Nat) (be_ : Nat) (rr_ : Nat) (th_ : Int32) (sh_ : Int32) (bs_ : Int32) (tr_ : Int32) (sp_ : Int32) (le_ : Int64) (ca_ : Int64) (cb_ : Int64) (oc_ : Int64) (st_ : Int64) (n_ : Nat) (w_ : Nat) (k_ : Nat) (a_ : Nat) (g_ : Nat → Int32) (sz : Nat) (hn : n_ ≤ 24) (hw_ : w_ < 2 ^ 37) (hk : k_ ≤ 48) (ha : a_ < 2 ^ 37) : Met l yX4_side wsX4_side rm_X4_side (zP D (ty3 cI cJ cD) [.ref m_, .long (lN w_), .int (nI k_), .long (lN a_)] sz [(m_, .inr (4, [.int th_, .int (nI n_), .long le_, .int sh_, .ref ab_, .ref be_, .long ca_, .long cb_, .long oc_, .long st_, .int bs_, .int tr_, .int sp_, .ref rr_])), (rr_, .inl (cI, 152, .inl g_))] zT) (va_Qi (fun (r : Int32) (u : (Nat → Int32)) => r = cmpI (w_ ^ n_ * 2 ^ k_) (a_ ^ n_)) (zB D (ty3 cI cJ cD) (fun (u : (Nat → Int32)) => [(m_, .inr (4, [.int th_, .int (nI n_), .long le_, .int sh_, .ref ab_, .ref be_, .long ca_, .long cb_, .long oc_, .long st_, .int bs_, .int tr_, .int sp_, .ref rr_])), (rr_, .inl (cI, 152, .inl u))]) (va_A [(m_, .inr (4, [.int th_, .int (nI n_), .long le_, .int sh_, .ref ab_, .ref be_, .long ca_, .long cb_, .long oc_, .long st_, .int bs_, .int tr_, .int sp_, .ref rr_])), (rr_, .inl (cI, 152, .inl g_))] sz)) (va_A [(m_, .inr (4, [.int th_, .int (nI n_), .long le_, .int sh_, .ref ab_, .ref be_, .long ca_, .long cb_, .long oc_, .long st_, .int bs_, .int tr_, .int sp_, .ref rr_])), (rr_, .inl (cI, 152, .inl g_))] sz)) 0 0 (va_A [(m_, .inr (4, [.int th_, .int (nI n_), .long le_, .int sh_, .ref ab_, .ref be_, .long ca_, .long cb_, .long oc_, .long st_, .int bs_, .int tr_, .int sp_, .ref rr_])), (rr_, .inl (cI, 152, .inl g_))] sz) := by
  refine zMet (Qf := fun A => va_Qi (fun (r : Int32) (u : (Nat → Int32)) => r = cmpI (w_ ^ n_ * 2 ^ k_) (a_ ^ n_)) (zB D (ty3 cI cJ cD) (fun (u : (Nat → Int32)) => [(m_, .inr (4, [.int th_, .int (nI n_), .long le_, .int sh_, .ref ab_, .ref be_, .long ca_, .long cb_, .long oc_, .long st_, .int bs_, .int tr_, .int sp_, .ref rr_])), (rr_, .inl (cI, 152, .inl u))]) A) A) (cc := cX4_side) (maxL := 6) (ret := (some .int)) (by decide) rfl (Nat.le_of_ble_eq_true rfl) ?_
  intro p e s m args below meth c A ls Q H hargs hQ hHe hx hb hr hml hown hts hlocks hin hP hK hD hA hS hE hAe hl
  have hl : lv_has ls 6 [(0, .ref m_), (1, .long (lN w_)), (3, .int (nI k_)), (4, .long (lN a_))] := hl
  refine lv_aload_n hx hb dX4_side_0 rfl (lv_at hl 0 rfl) ?_
  refine lv_iconst (v := nI 0) hx hb dX4_side_1 (by decide) ?_
  refine lv_lload_n hx hb dX4_side_2 rfl (lv_at hl 1 rfl) ?_
  refine lv_aload_n hx hb dX4_side_3 rfl (lv_at hl 0 rfl) ?_
  refine va_get (D := D) (ci := 4) (v := .int (nI n_)) (C := RX4) (T := TX4) (N := 14) hx hb hts nX4_side_4 hown hK hP 0 rfl rfl 1 (by decide) (zh (w := .fieldLink RX4 44 "FretRootsModel" "notes" "I") hts 1 rfl) (fun _ h9 => h9) rfl dX4_side_4 ?_
  refine zc_v (wc := [(m_, .inr (4, [.int th_, .int (nI n_), .long le_, .int sh_, .ref ab_, .ref be_, .long ca_, .long cb_, .long oc_, .long st_, .int bs_, .int tr_, .int sp_, .ref rr_])), (rr_, .inl (cI, 152, .inl g_))]) (wr := []) hP hD hS hA [0, 1] [] rfl rfl (by decide) (by decide) (va_runV (As := [.int (nI 0), .long (lN w_), .int (nI n_)]) (rest := []) ⟨hx, hb, hml, hown, hts⟩ (ct_X4_power l D cI cJ cD m_ ab_ be_ rr_ th_ (nI n_) sh_ bs_ tr_ sp_ le_ ca_ cb_ oc_ st_ 0 w_ n_ g_ H.size (by decide) (by omega) (by omega)) (cwV 3 hts gX4_side_X4_power rfl rfl rfl (by decide +kernel) ⟨Nat.le_of_ble_eq_true rfl, Nat.le_of_ble_eq_true rfl⟩) (zPreV (wc := [(m_, .inr (4, [.int th_, .int (nI n_), .long le_, .int sh_, .ref ab_, .ref be_, .long ca_, .long cb_, .long oc_, .long st_, .int bs_, .int tr_, .int sp_, .ref rr_])), (rr_, .inl (cI, 152, .inl g_))]) hK hP hD 4 0 rfl rfl zTb (fun _ _ _ => trivial)) rfl rfl hl.1 rfl (lv_room (Nat.le_of_ble_eq_true rfl)) dX4_side_7 ⟨Nat.le_of_ble_eq_true rfl, Nat.le_of_ble_eq_true rfl⟩) (fun u H locs hw hP hD hS => ?_)
  obtain ⟨g2_2, rfl⟩ : ∃ z, z = u := ⟨_, rfl⟩
  have hP : va_P D cl5 [(m_, .inr (4, [.int th_, .int (nI n_), .long le_, .int sh_, .ref ab_, .ref be_, .long ca_, .long cb_, .long oc_, .long st_, .int bs_, .int tr_, .int sp_, .ref rr_])), (rr_, .inl (cI, 152, .inl g2_2))] H := hP.sub [0, 1] rfl
  have hD : va_D A [(m_, .inr (4, [.int th_, .int (nI n_), .long le_, .int sh_, .ref ab_, .ref be_, .long ca_, .long cb_, .long oc_, .long st_, .int bs_, .int tr_, .int sp_, .ref rr_])), (rr_, .inl (cI, 152, .inl g2_2))] := hD.sub [0, 1] (by decide) rfl
  have hw : modL g2_2 0 (w_ ^ n_) ∧ modF g_ g2_2 0 := hw
  obtain ⟨hL_7, hF_7⟩ := hw
  refine lv_aload_n hx hb dX4_side_10 rfl (lv_at hl 0 rfl) ?_
  refine lv_iconst (v := nI 0) hx hb dX4_side_11 (by decide) ?_
  refine lv_iload_n hx hb dX4_side_12 rfl (lv_at hl 2 rfl) ?_
  refine zc_v (wc := [(m_, .inr (4, [.int th_, .int (nI n_), .long le_, .int sh_, .ref ab_, .ref be_, .long ca_, .long cb_, .long oc_, .long st_, .int bs_, .int tr_, .int sp_, .ref rr_])), (rr_, .inl (cI, 152, .inl g2_2))]) (wr := []) hP hD hS hA [0, 1] [] rfl rfl (by decide) (by decide) (va_runV (As := [.int (nI 0), .int (nI k_)]) (rest := []) ⟨hx, hb, hml, hown, hts⟩ (ct_X4_twice l D cI cJ cD m_ ab_ be_ rr_ th_ (nI n_) sh_ bs_ tr_ sp_ le_ ca_ cb_ oc_ st_ 0 (w_ ^ n_) k_ g2_2 H.size (by decide) (by omega) hL_7) (cwV 2 hts gX4_side_X4_twice rfl rfl rfl (by decide +kernel) ⟨Nat.le_of_ble_eq_true rfl, Nat.le_of_ble_eq_true rfl⟩) (zPreV (wc := [(m_, .inr (4, [.int th_, .int (nI n_), .long le_, .int sh_, .ref ab_, .ref be_, .long ca_, .long cb_, .long oc_, .long st_, .int bs_, .int tr_, .int sp_, .ref rr_])), (rr_, .inl (cI, 152, .inl g2_2))]) hK hP hD 4 0 rfl rfl zTb (fun _ _ _ => trivial)) rfl rfl hl.1 rfl (lv_room (Nat.le_of_ble_eq_true rfl)) dX4_side_13 ⟨Nat.le_of_ble_eq_true rfl, Nat.le_of_ble_eq_true rfl⟩) (fun u H locs hw hP hD hS => ?_)
  obtain ⟨g2_4, rfl⟩ : ∃ z, z = u := ⟨_, rfl⟩
  have hP : va_P D cl5 [(m_, .inr (4, [.int th_, .int (nI n_), .long le_, .int sh_, .ref ab_, .ref be_, .long ca_, .long cb_, .long oc_, .long st_, .int bs_, .int tr_, .int sp_, .ref rr_])), (rr_, .inl (cI, 152, .inl g2_4))] H := hP.sub [0, 1] rfl
  have hD : va_D A [(m_, .inr (4, [.int th_, .int (nI n_), .long le_, .int sh_, .ref ab_, .ref be_, .long ca_, .long cb_, .long oc_, .long st_, .int bs_, .int tr_, .int sp_, .ref rr_])), (rr_, .inl (cI, 152, .inl g2_4))] := hD.sub [0, 1] (by decide) rfl
  have hw : modL g2_4 0 ((w_ ^ n_) * 2 ^ k_) ∧ modF g2_2 g2_4 0 := hw
  obtain ⟨hL_13, hF_13⟩ := hw
  refine lv_aload_n hx hb dX4_side_16 rfl (lv_at hl 0 rfl) ?_
  refine lv_iconst (v := nI 1) hx hb dX4_side_17 (by decide) ?_
  refine lv_lload hx hb dX4_side_18 (lv_at hl 3 rfl) ?_
  refine lv_aload_n hx hb dX4_side_20 rfl (lv_at hl 0 rfl) ?_
  refine va_get (D := D) (ci := 4) (v := .int (nI n_)) (C := RX4) (T := TX4) (N := 14) hx hb hts nX4_side_4 hown hK hP 0 rfl rfl 1 (by decide) (zh (w := .fieldLink RX4 44 "FretRootsModel" "notes" "I") hts 1 rfl) (fun _ h9 => h9) rfl dX4_side_21 ?_
  refine zc_v (wc := [(m_, .inr (4, [.int th_, .int (nI n_), .long le_, .int sh_, .ref ab_, .ref be_, .long ca_, .long cb_, .long oc_, .long st_, .int bs_, .int tr_, .int sp_, .ref rr_])), (rr_, .inl (cI, 152, .inl g2_4))]) (wr := []) hP hD hS hA [0, 1] [] rfl rfl (by decide) (by decide) (va_runV (As := [.int (nI 1), .long (lN a_), .int (nI n_)]) (rest := []) ⟨hx, hb, hml, hown, hts⟩ (ct_X4_power l D cI cJ cD m_ ab_ be_ rr_ th_ (nI n_) sh_ bs_ tr_ sp_ le_ ca_ cb_ oc_ st_ 1 a_ n_ g2_4 H.size (by decide) (by omega) (by omega)) (cwV 3 hts gX4_side_X4_power rfl rfl rfl (by decide +kernel) ⟨Nat.le_of_ble_eq_true rfl, Nat.le_of_ble_eq_true rfl⟩) (zPreV (wc := [(m_, .inr (4, [.int th_, .int (nI n_), .long le_, .int sh_, .ref ab_, .ref be_, .long ca_, .long cb_, .long oc_, .long st_, .int bs_, .int tr_, .int sp_, .ref rr_])), (rr_, .inl (cI, 152, .inl g2_4))]) hK hP hD 4 0 rfl rfl zTb (fun _ _ _ => trivial)) rfl rfl hl.1 rfl (lv_room (Nat.le_of_ble_eq_true rfl)) dX4_side_24 ⟨Nat.le_of_ble_eq_true rfl, Nat.le_of_ble_eq_true rfl⟩) (fun u H locs hw hP hD hS => ?_)
  obtain ⟨g2_6, rfl⟩ : ∃ z, z = u := ⟨_, rfl⟩
  have hP : va_P D cl5 [(m_, .inr (4, [.int th_, .int (nI n_), .long le_, .int sh_, .ref ab_, .ref be_, .long ca_, .long cb_, .long oc_, .long st_, .int bs_, .int tr_, .int sp_, .ref rr_])), (rr_, .inl (cI, 152, .inl g2_6))] H := hP.sub [0, 1] rfl
  have hD : va_D A [(m_, .inr (4, [.int th_, .int (nI n_), .long le_, .int sh_, .ref ab_, .ref be_, .long ca_, .long cb_, .long oc_, .long st_, .int bs_, .int tr_, .int sp_, .ref rr_])), (rr_, .inl (cI, 152, .inl g2_6))] := hD.sub [0, 1] (by decide) rfl
  have hw : modL g2_6 1 (a_ ^ n_) ∧ modF g2_4 g2_6 1 := hw
  obtain ⟨hL_24, hF_24⟩ := hw
  refine lv_aload_n hx hb dX4_side_27 rfl (lv_at hl 0 rfl) ?_
  refine zc_i (wc := [(m_, .inr (4, [.int th_, .int (nI n_), .long le_, .int sh_, .ref ab_, .ref be_, .long ca_, .long cb_, .long oc_, .long st_, .int bs_, .int tr_, .int sp_, .ref rr_])), (rr_, .inl (cI, 152, .inl g2_6))]) (wr := []) hP hD hS hA [0, 1] [] rfl rfl (by decide) (by decide) (va_runV (As := []) (rest := []) ⟨hx, hb, hml, hown, hts⟩ (ct_X4_compare l D cI cJ cD m_ ab_ be_ rr_ th_ (nI n_) sh_ bs_ tr_ sp_ le_ ca_ cb_ oc_ st_ (w_ ^ n_ * 2 ^ k_) (a_ ^ n_) g2_6 H.size (modL_keep hF_24 (by decide) hL_13) hL_24 (e_bound hw_ (by omega)) (e_bound0 ha (by omega))) (cwV 0 hts gX4_side_X4_compare rfl rfl rfl (by decide +kernel) ⟨Nat.le_of_ble_eq_true rfl, Nat.le_of_ble_eq_true rfl⟩) (zPreV (wc := [(m_, .inr (4, [.int th_, .int (nI n_), .long le_, .int sh_, .ref ab_, .ref be_, .long ca_, .long cb_, .long oc_, .long st_, .int bs_, .int tr_, .int sp_, .ref rr_])), (rr_, .inl (cI, 152, .inl g2_6))]) hK hP hD 4 0 rfl rfl zTb (fun _ _ _ => trivial)) rfl rfl hl.1 rfl (lv_room (Nat.le_of_ble_eq_true rfl)) dX4_side_28 ⟨Nat.le_of_ble_eq_true rfl, Nat.le_of_ble_eq_true rfl⟩) (fun r_7 u H locs hw hP hD hS => ?_)
  have hP : va_P D cl5 [(m_, .inr (4, [.int th_, .int (nI n_), .long le_, .int sh_, .ref ab_, .ref be_, .long ca_, .long cb_, .long oc_, .long st_, .int bs_, .int tr_, .int sp_, .ref rr_])), (rr_, .inl (cI, 152, .inl g2_6))] H := hP.sub [0, 1] rfl
  have hD : va_D A [(m_, .inr (4, [.int th_, .int (nI n_), .long le_, .int sh_, .ref ab_, .ref be_, .long ca_, .long cb_, .long oc_, .long st_, .int bs_, .int tr_, .int sp_, .ref rr_])), (rr_, .inl (cI, 152, .inl g2_6))] := hD.sub [0, 1] (by decide) rfl
  have hw : r_7 = cmpI (w_ ^ n_ * 2 ^ k_) (a_ ^ n_) := hw
  subst hw
  subst hQ
  exact ze_i hx hb hr hlocks g2_6 (rfl) hP hK hD hS dX4_side_31
abbrev rm_X4_side_ : Room := { frames := 2, cells := 0, slots := 0, locals := 65 }
set_option maxHeartbeats 4000000 in
set_option maxRecDepth 100000 in
/-- side of a fraction -/
theorem ct_X4_side_ (l : Launch) (D : va_G) (cI cJ cD : ClassId) (m_ : Nat) (ab_ : Nat) (be_ : Nat) (rr_ : Nat) (th_ : Int32) (nn_ : Int32) (sh_ : Int32) (bs_ : Int32) (tr_ : Int32) (sp_ : Int32) (le_ : Int64) (ca_ : Int64) (cb_ : Int64) (oc_ : Int64) (st_ : Int64) (a_ : Nat) (b_ : Nat) (e_ : Nat) (t_ : Nat) (g_ : Nat → Int32) (sz : Nat) (he : e_ ≤ 48) (ha : a_ < 2 ^ 20) (hb_ : b_ < 2 ^ 20) (ht : t_ ≤ 97) : Met l yX4_side_ wsX4_side_ rm_X4_side_ (zP D (ty3 cI cJ cD) [.ref m_, .int (nI a_), .int (nI b_), .int (nI e_), .int (nI t_)] sz [(m_, .inr (4, [.int th_, .int nn_, .long le_, .int sh_, .ref ab_, .ref be_, .long ca_, .long cb_, .long oc_, .long st_, .int bs_, .int tr_, .int sp_, .ref rr_])), (rr_, .inl (cI, 152, .inl g_))] zT) (va_Qi (fun (r : Int32) (u : (Nat → Int32)) => r = cmpI (a_ ^ e_) (b_ ^ e_ * 2 ^ t_)) (zB D (ty3 cI cJ cD) (fun (u : (Nat → Int32)) => [(m_, .inr (4, [.int th_, .int nn_, .long le_, .int sh_, .ref ab_, .ref be_, .long ca_, .long cb_, .long oc_, .long st_, .int bs_, .int tr_, .int sp_, .ref rr_])), (rr_, .inl (cI, 152, .inl u))]) (va_A [(m_, .inr (4, [.int th_, .int nn_, .long le_, .int sh_, .ref ab_, .ref be_, .long ca_, .long cb_, .long oc_, .long st_, .int bs_, .int tr_, .int sp_, .ref rr_])), (rr_, .inl (cI, 152, .inl g_))] sz)) (va_A [(m_, .inr (4, [.int th_, .int nn_, .long le_, .int sh_, .ref ab_, .ref be_, .long ca_, .long cb_, .long oc_, .long st_, .int bs_, .int tr_, .int sp_, .ref rr_])), (rr_, .inl (cI, 152, .inl g_))] sz)) 0 0 (va_A [(m_, .inr (4, [.int th_, .int nn_, .long le_, .int sh_, .ref ab_, .ref be_, .long ca_, .long cb_, .long oc_, .long st_, .int bs_, .int tr_, .int sp_, .ref rr_])), (rr_, .inl (cI, 152, .inl g_))] sz) := by
  refine zMet (Qf := fun A => va_Qi (fun (r : Int32) (u : (Nat → Int32)) => r = cmpI (a_ ^ e_) (b_ ^ e_ * 2 ^ t_)) (zB D (ty3 cI cJ cD) (fun (u : (Nat → Int32)) => [(m_, .inr (4, [.int th_, .int nn_, .long le_, .int sh_, .ref ab_, .ref be_, .long ca_, .long cb_, .long oc_, .long st_, .int bs_, .int tr_, .int sp_, .ref rr_])), (rr_, .inl (cI, 152, .inl u))]) A) A) (cc := cX4_side_) (maxL := 5) (ret := (some .int)) (by decide) rfl (Nat.le_of_ble_eq_true rfl) ?_
  intro p e s m args below meth c A ls Q H hargs hQ hHe hx hb hr hml hown hts hlocks hin hP hK hD hA hS hE hAe hl
  have hl : lv_has ls 5 [(0, .ref m_), (1, .int (nI a_)), (2, .int (nI b_)), (3, .int (nI e_)), (4, .int (nI t_))] := hl
  refine lv_aload_n hx hb dX4_side__0 rfl (lv_at hl 0 rfl) ?_
  refine lv_iconst (v := nI 0) hx hb dX4_side__1 (by decide) ?_
  refine lv_iload_n hx hb dX4_side__2 rfl (lv_at hl 1 rfl) ?_
  refine lv_i2l (v := lN a_) hx hb dX4_side__3 (nI_l (by omega)) ?_
  refine lv_iload_n hx hb dX4_side__4 rfl (lv_at hl 3 rfl) ?_
  refine zc_v (wc := [(m_, .inr (4, [.int th_, .int nn_, .long le_, .int sh_, .ref ab_, .ref be_, .long ca_, .long cb_, .long oc_, .long st_, .int bs_, .int tr_, .int sp_, .ref rr_])), (rr_, .inl (cI, 152, .inl g_))]) (wr := []) hP hD hS hA [0, 1] [] rfl rfl (by decide) (by decide) (va_runV (As := [.int (nI 0), .long (lN a_), .int (nI e_)]) (rest := []) ⟨hx, hb, hml, hown, hts⟩ (ct_X4_power l D cI cJ cD m_ ab_ be_ rr_ th_ nn_ sh_ bs_ tr_ sp_ le_ ca_ cb_ oc_ st_ 0 a_ e_ g_ H.size (by decide) (by omega) (by omega)) (cwV 3 hts gX4_side__X4_power rfl rfl rfl (by decide +kernel) ⟨Nat.le_of_ble_eq_true rfl, Nat.le_of_ble_eq_true rfl⟩) (zPreV (wc := [(m_, .inr (4, [.int th_, .int nn_, .long le_, .int sh_, .ref ab_, .ref be_, .long ca_, .long cb_, .long oc_, .long st_, .int bs_, .int tr_, .int sp_, .ref rr_])), (rr_, .inl (cI, 152, .inl g_))]) hK hP hD 4 0 rfl rfl zTb (fun _ _ _ => trivial)) rfl rfl hl.1 rfl (lv_room (Nat.le_of_ble_eq_true rfl)) dX4_side__5 ⟨Nat.le_of_ble_eq_true rfl, Nat.le_of_ble_eq_true rfl⟩) (fun u H locs hw hP hD hS => ?_)
  obtain ⟨g2_2, rfl⟩ : ∃ z, z = u := ⟨_, rfl⟩
  have hP : va_P D cl5 [(m_, .inr (4, [.int th_, .int nn_, .long le_, .int sh_, .ref ab_, .ref be_, .long ca_, .long cb_, .long oc_, .long st_, .int bs_, .int tr_, .int sp_, .ref rr_])), (rr_, .inl (cI, 152, .inl g2_2))] H := hP.sub [0, 1] rfl
  have hD : va_D A [(m_, .inr (4, [.int th_, .int nn_, .long le_, .int sh_, .ref ab_, .ref be_, .long ca_, .long cb_, .long oc_, .long st_, .int bs_, .int tr_, .int sp_, .ref rr_])), (rr_, .inl (cI, 152, .inl g2_2))] := hD.sub [0, 1] (by decide) rfl
  have hw : modL g2_2 0 (a_ ^ e_) ∧ modF g_ g2_2 0 := hw
  obtain ⟨hL_5, hF_5⟩ := hw
  refine lv_aload_n hx hb dX4_side__8 rfl (lv_at hl 0 rfl) ?_
  refine lv_iconst (v := nI 1) hx hb dX4_side__9 (by decide) ?_
  refine lv_iload_n hx hb dX4_side__10 rfl (lv_at hl 2 rfl) ?_
  refine lv_i2l (v := lN b_) hx hb dX4_side__11 (nI_l (by omega)) ?_
  refine lv_iload_n hx hb dX4_side__12 rfl (lv_at hl 3 rfl) ?_
  refine zc_v (wc := [(m_, .inr (4, [.int th_, .int nn_, .long le_, .int sh_, .ref ab_, .ref be_, .long ca_, .long cb_, .long oc_, .long st_, .int bs_, .int tr_, .int sp_, .ref rr_])), (rr_, .inl (cI, 152, .inl g2_2))]) (wr := []) hP hD hS hA [0, 1] [] rfl rfl (by decide) (by decide) (va_runV (As := [.int (nI 1), .long (lN b_), .int (nI e_)]) (rest := []) ⟨hx, hb, hml, hown, hts⟩ (ct_X4_power l D cI cJ cD m_ ab_ be_ rr_ th_ nn_ sh_ bs_ tr_ sp_ le_ ca_ cb_ oc_ st_ 1 b_ e_ g2_2 H.size (by decide) (by omega) (by omega)) (cwV 3 hts gX4_side__X4_power rfl rfl rfl (by decide +kernel) ⟨Nat.le_of_ble_eq_true rfl, Nat.le_of_ble_eq_true rfl⟩) (zPreV (wc := [(m_, .inr (4, [.int th_, .int nn_, .long le_, .int sh_, .ref ab_, .ref be_, .long ca_, .long cb_, .long oc_, .long st_, .int bs_, .int tr_, .int sp_, .ref rr_])), (rr_, .inl (cI, 152, .inl g2_2))]) hK hP hD 4 0 rfl rfl zTb (fun _ _ _ => trivial)) rfl rfl hl.1 rfl (lv_room (Nat.le_of_ble_eq_true rfl)) dX4_side__13 ⟨Nat.le_of_ble_eq_true rfl, Nat.le_of_ble_eq_true rfl⟩) (fun u H locs hw hP hD hS => ?_)
  obtain ⟨g2_4, rfl⟩ : ∃ z, z = u := ⟨_, rfl⟩
  have hP : va_P D cl5 [(m_, .inr (4, [.int th_, .int nn_, .long le_, .int sh_, .ref ab_, .ref be_, .long ca_, .long cb_, .long oc_, .long st_, .int bs_, .int tr_, .int sp_, .ref rr_])), (rr_, .inl (cI, 152, .inl g2_4))] H := hP.sub [0, 1] rfl
  have hD : va_D A [(m_, .inr (4, [.int th_, .int nn_, .long le_, .int sh_, .ref ab_, .ref be_, .long ca_, .long cb_, .long oc_, .long st_, .int bs_, .int tr_, .int sp_, .ref rr_])), (rr_, .inl (cI, 152, .inl g2_4))] := hD.sub [0, 1] (by decide) rfl
  have hw : modL g2_4 1 (b_ ^ e_) ∧ modF g2_2 g2_4 1 := hw
  obtain ⟨hL_13, hF_13⟩ := hw
  refine lv_aload_n hx hb dX4_side__16 rfl (lv_at hl 0 rfl) ?_
  refine lv_iconst (v := nI 1) hx hb dX4_side__17 (by decide) ?_
  refine lv_iload hx hb dX4_side__18 (lv_at hl 4 rfl) ?_
  refine zc_v (wc := [(m_, .inr (4, [.int th_, .int nn_, .long le_, .int sh_, .ref ab_, .ref be_, .long ca_, .long cb_, .long oc_, .long st_, .int bs_, .int tr_, .int sp_, .ref rr_])), (rr_, .inl (cI, 152, .inl g2_4))]) (wr := []) hP hD hS hA [0, 1] [] rfl rfl (by decide) (by decide) (va_runV (As := [.int (nI 1), .int (nI t_)]) (rest := []) ⟨hx, hb, hml, hown, hts⟩ (ct_X4_twice l D cI cJ cD m_ ab_ be_ rr_ th_ nn_ sh_ bs_ tr_ sp_ le_ ca_ cb_ oc_ st_ 1 (b_ ^ e_) t_ g2_4 H.size (by decide) (by omega) hL_13) (cwV 2 hts gX4_side__X4_twice rfl rfl rfl (by decide +kernel) ⟨Nat.le_of_ble_eq_true rfl, Nat.le_of_ble_eq_true rfl⟩) (zPreV (wc := [(m_, .inr (4, [.int th_, .int nn_, .long le_, .int sh_, .ref ab_, .ref be_, .long ca_, .long cb_, .long oc_, .long st_, .int bs_, .int tr_, .int sp_, .ref rr_])), (rr_, .inl (cI, 152, .inl g2_4))]) hK hP hD 4 0 rfl rfl zTb (fun _ _ _ => trivial)) rfl rfl hl.1 rfl (lv_room (Nat.le_of_ble_eq_true rfl)) dX4_side__20 ⟨Nat.le_of_ble_eq_true rfl, Nat.le_of_ble_eq_true rfl⟩) (fun u H locs hw hP hD hS => ?_)
  obtain ⟨g2_6, rfl⟩ : ∃ z, z = u := ⟨_, rfl⟩
  have hP : va_P D cl5 [(m_, .inr (4, [.int th_, .int nn_, .long le_, .int sh_, .ref ab_, .ref be_, .long ca_, .long cb_, .long oc_, .long st_, .int bs_, .int tr_, .int sp_, .ref rr_])), (rr_, .inl (cI, 152, .inl g2_6))] H := hP.sub [0, 1] rfl
  have hD : va_D A [(m_, .inr (4, [.int th_, .int nn_, .long le_, .int sh_, .ref ab_, .ref be_, .long ca_, .long cb_, .long oc_, .long st_, .int bs_, .int tr_, .int sp_, .ref rr_])), (rr_, .inl (cI, 152, .inl g2_6))] := hD.sub [0, 1] (by decide) rfl
  have hw : modL g2_6 1 ((b_ ^ e_) * 2 ^ t_) ∧ modF g2_4 g2_6 1 := hw
  obtain ⟨hL_20, hF_20⟩ := hw
  refine lv_aload_n hx hb dX4_side__23 rfl (lv_at hl 0 rfl) ?_
  refine zc_i (wc := [(m_, .inr (4, [.int th_, .int nn_, .long le_, .int sh_, .ref ab_, .ref be_, .long ca_, .long cb_, .long oc_, .long st_, .int bs_, .int tr_, .int sp_, .ref rr_])), (rr_, .inl (cI, 152, .inl g2_6))]) (wr := []) hP hD hS hA [0, 1] [] rfl rfl (by decide) (by decide) (va_runV (As := []) (rest := []) ⟨hx, hb, hml, hown, hts⟩ (ct_X4_compare l D cI cJ cD m_ ab_ be_ rr_ th_ nn_ sh_ bs_ tr_ sp_ le_ ca_ cb_ oc_ st_ (a_ ^ e_) (b_ ^ e_ * 2 ^ t_) g2_6 H.size (modL_keep hF_20 (by decide) (modL_keep hF_13 (by decide) hL_5)) hL_20 (e_bound0 ha (by omega)) (e_bound hb_ (by omega))) (cwV 0 hts gX4_side__X4_compare rfl rfl rfl (by decide +kernel) ⟨Nat.le_of_ble_eq_true rfl, Nat.le_of_ble_eq_true rfl⟩) (zPreV (wc := [(m_, .inr (4, [.int th_, .int nn_, .long le_, .int sh_, .ref ab_, .ref be_, .long ca_, .long cb_, .long oc_, .long st_, .int bs_, .int tr_, .int sp_, .ref rr_])), (rr_, .inl (cI, 152, .inl g2_6))]) hK hP hD 4 0 rfl rfl zTb (fun _ _ _ => trivial)) rfl rfl hl.1 rfl (lv_room (Nat.le_of_ble_eq_true rfl)) dX4_side__24 ⟨Nat.le_of_ble_eq_true rfl, Nat.le_of_ble_eq_true rfl⟩) (fun r_7 u H locs hw hP hD hS => ?_)
  have hP : va_P D cl5 [(m_, .inr (4, [.int th_, .int nn_, .long le_, .int sh_, .ref ab_, .ref be_, .long ca_, .long cb_, .long oc_, .long st_, .int bs_, .int tr_, .int sp_, .ref rr_])), (rr_, .inl (cI, 152, .inl g2_6))] H := hP.sub [0, 1] rfl
  have hD : va_D A [(m_, .inr (4, [.int th_, .int nn_, .long le_, .int sh_, .ref ab_, .ref be_, .long ca_, .long cb_, .long oc_, .long st_, .int bs_, .int tr_, .int sp_, .ref rr_])), (rr_, .inl (cI, 152, .inl g2_6))] := hD.sub [0, 1] (by decide) rfl
  have hw : r_7 = cmpI (a_ ^ e_) (b_ ^ e_ * 2 ^ t_) := hw
  subst hw
  subst hQ
  exact ze_i hx hb hr hlocks g2_6 (rfl) hP hK hD hS dX4_side__27
