theorem gcd_step (x y : Nat) : Nat.gcd y (x % y) = Nat.gcd x y := by rw [Nat.gcd_comm x y, Nat.gcd_rec y x, Nat.gcd_comm]
theorem nX4_isEven_4 : ∀ w ∈ wsX40, w ∈ wsX4_isEven := by decide +kernel
abbrev rm_X4_isEven : Room := { frames := 0, cells := 0, slots := 0, locals := 0 }
set_option maxHeartbeats 4000000 in
set_option maxRecDepth 100000 in
/-- isEven -/
theorem ct_X4_isEven (l : Launch) (D : va_G) (cI cJ cD : ClassId) (m_ : Nat) (ab_ : Nat) (be_ : Nat) (rr_ : Nat) (th_ : Int32) (nn_ : Int32) (sh_ : Int32) (bs_ : Int32) (tr_ : Int32) (sp_ : Int32) (le_ : Int64) (ca_ : Int64) (cb_ : Int64) (oc_ : Int64) (st_ : Int64) (x_ : Nat) (N_ : Nat) (g_ : Nat → Int32) (sz : Nat) (hx_ : x_ ≤ 1) (hL : modL g_ x_ N_) : Met l yX4_isEven wsX4_isEven rm_X4_isEven (zP D (ty3 cI cJ cD) [.ref m_, .int (nI x_)] sz [(m_, .inr (4, [.int th_, .int nn_, .long le_, .int sh_, .ref ab_, .ref be_, .long ca_, .long cb_, .long oc_, .long st_, .int bs_, .int tr_, .int sp_, .ref rr_])), (rr_, .inl (cI, 152, .inl g_))] zT) (va_Qi (fun (r : Int32) (u : Unit) => r = nI (1 - N_ % 2)) (zB D (ty3 cI cJ cD) (fun (u : Unit) => [(m_, .inr (4, [.int th_, .int nn_, .long le_, .int sh_, .ref ab_, .ref be_, .long ca_, .long cb_, .long oc_, .long st_, .int bs_, .int tr_, .int sp_, .ref rr_])), (rr_, .inl (cI, 152, .inl g_))]) (va_A [(m_, .inr (4, [.int th_, .int nn_, .long le_, .int sh_, .ref ab_, .ref be_, .long ca_, .long cb_, .long oc_, .long st_, .int bs_, .int tr_, .int sp_, .ref rr_])), (rr_, .inl (cI, 152, .inl g_))] sz)) (va_A [(m_, .inr (4, [.int th_, .int nn_, .long le_, .int sh_, .ref ab_, .ref be_, .long ca_, .long cb_, .long oc_, .long st_, .int bs_, .int tr_, .int sp_, .ref rr_])), (rr_, .inl (cI, 152, .inl g_))] sz)) 0 0 (va_A [(m_, .inr (4, [.int th_, .int nn_, .long le_, .int sh_, .ref ab_, .ref be_, .long ca_, .long cb_, .long oc_, .long st_, .int bs_, .int tr_, .int sp_, .ref rr_])), (rr_, .inl (cI, 152, .inl g_))] sz) := by
  refine zMet (Qf := fun A => va_Qi (fun (r : Int32) (u : Unit) => r = nI (1 - N_ % 2)) (zB D (ty3 cI cJ cD) (fun (u : Unit) => [(m_, .inr (4, [.int th_, .int nn_, .long le_, .int sh_, .ref ab_, .ref be_, .long ca_, .long cb_, .long oc_, .long st_, .int bs_, .int tr_, .int sp_, .ref rr_])), (rr_, .inl (cI, 152, .inl g_))]) A) A) (cc := cX4_isEven) (maxL := 2) (ret := (some .boolean)) (by decide) rfl (Nat.le_of_ble_eq_true rfl) ?_
  intro p e s m args below meth c A ls Q H hargs hQ hHe hx hb hr hml hown hts hlocks hin hP hK hD hA hS hE hAe hl
  have hl : lv_has ls 2 [(0, .ref m_), (1, .int (nI x_))] := hl
  refine lv_aload_n hx hb dX4_isEven_0 rfl (lv_at hl 0 rfl) ?_
  refine va_get (D := D) (ci := 4) (v := .ref rr_) (C := RX4) (T := TX4) (N := 14) hx hb hts nX4_isEven_4 hown hK hP 0 rfl rfl 13 (by decide) (zh (w := .fieldLink RX4 41 "FretRootsModel" "\x72" "[I") hts 1 rfl) (fun _ h9 => h9) rfl dX4_isEven_1 ?_
  refine lv_bipush (v := nI 76) hx hb dX4_isEven_4 (by decide) ?_
  refine lv_iload_n hx hb dX4_isEven_6 rfl (lv_at hl 1 rfl) ?_
  refine lv_imul hx hb dX4_isEven_7 ?_
  refine zi_ (y := nI (76 * x_)) (pk_mul 76 x_) ?_
  refine z_iald (j := (76 * x_)) hx hb hK hP 1 0 rfl rfl (by omega) (by omega) dX4_isEven_8 ?_
  refine zi_ (y := nI (N_ % 32768)) (by have := hL 0 (by decide); simpa using this) ?_
  refine lv_iconst (v := nI 1) hx hb dX4_isEven_9 (by decide) ?_
  refine lv_iand hx hb dX4_isEven_10 ?_
  refine zi_ (y := nI (N_ % 2)) ((z_and1 _).trans (congrArg nI (by omega))) ?_
  refine lv_if_ne (tgt := 18) hx hb dX4_isEven_11 (by decide) (fun c_11 => ?_) (fun c_11 => ?_)
  · skip
    have c_11 := zji_ne (a := N_ % 2) (b := 0) (by omega) (by omega) c_11
    refine lv_iconst (v := nI 0) hx hb dX4_isEven_18 (by decide) ?_
    subst hQ
    exact ze_z hx hb hr hlocks () (by first | exact Or.inl rfl | exact Or.inr rfl | omega) (congrArg nI (by omega)) hP hK hD hS dX4_isEven_19
  · skip
    have c_11 := zji_eq (a := N_ % 2) (b := 0) (by omega) (by omega) c_11
    refine lv_iconst (v := nI 1) hx hb dX4_isEven_14 (by decide) ?_
    refine lv_goto (tgt := 19) hx hb dX4_isEven_15 (by decide) ?_
    subst hQ
    exact ze_z hx hb hr hlocks () (by first | exact Or.inl rfl | exact Or.inr rfl | omega) (congrArg nI (by omega)) hP hK hD hS dX4_isEven_19
theorem nX4_half_4 : ∀ w ∈ wsX40, w ∈ wsX4_half := by decide +kernel
abbrev rm_X4_half : Room := { frames := 0, cells := 0, slots := 0, locals := 0 }
set_option maxHeartbeats 4000000 in
set_option maxRecDepth 100000 in
/-- half -/
theorem ct_X4_half (l : Launch) (D : va_G) (cI cJ cD : ClassId) (m_ : Nat) (ab_ : Nat) (be_ : Nat) (rr_ : Nat) (th_ : Int32) (nn_ : Int32) (sh_ : Int32) (bs_ : Int32) (tr_ : Int32) (sp_ : Int32) (le_ : Int64) (ca_ : Int64) (cb_ : Int64) (oc_ : Int64) (st_ : Int64) (x_ : Nat) (N_ : Nat) (g_ : Nat → Int32) (sz : Nat) (hx_ : x_ ≤ 1) (hL : modL g_ x_ N_) (hN : N_ < 32768 ^ 76) : Met l yX4_half wsX4_half rm_X4_half (zP D (ty3 cI cJ cD) [.ref m_, .int (nI x_)] sz [(m_, .inr (4, [.int th_, .int nn_, .long le_, .int sh_, .ref ab_, .ref be_, .long ca_, .long cb_, .long oc_, .long st_, .int bs_, .int tr_, .int sp_, .ref rr_])), (rr_, .inl (cI, 152, .inl g_))] zT) (va_Qv (fun (u : (Nat → Int32)) => modL u x_ (N_ / 2) ∧ modF g_ u x_) (zB D (ty3 cI cJ cD) (fun (u : (Nat → Int32)) => [(m_, .inr (4, [.int th_, .int nn_, .long le_, .int sh_, .ref ab_, .ref be_, .long ca_, .long cb_, .long oc_, .long st_, .int bs_, .int tr_, .int sp_, .ref rr_])), (rr_, .inl (cI, 152, .inl u))]) (va_A [(m_, .inr (4, [.int th_, .int nn_, .long le_, .int sh_, .ref ab_, .ref be_, .long ca_, .long cb_, .long oc_, .long st_, .int bs_, .int tr_, .int sp_, .ref rr_])), (rr_, .inl (cI, 152, .inl g_))] sz)) (va_A [(m_, .inr (4, [.int th_, .int nn_, .long le_, .int sh_, .ref ab_, .ref be_, .long ca_, .long cb_, .long oc_, .long st_, .int bs_, .int tr_, .int sp_, .ref rr_])), (rr_, .inl (cI, 152, .inl g_))] sz)) 0 0 (va_A [(m_, .inr (4, [.int th_, .int nn_, .long le_, .int sh_, .ref ab_, .ref be_, .long ca_, .long cb_, .long oc_, .long st_, .int bs_, .int tr_, .int sp_, .ref rr_])), (rr_, .inl (cI, 152, .inl g_))] sz) := by
  refine zMet (Qf := fun A => va_Qv (fun (u : (Nat → Int32)) => modL u x_ (N_ / 2) ∧ modF g_ u x_) (zB D (ty3 cI cJ cD) (fun (u : (Nat → Int32)) => [(m_, .inr (4, [.int th_, .int nn_, .long le_, .int sh_, .ref ab_, .ref be_, .long ca_, .long cb_, .long oc_, .long st_, .int bs_, .int tr_, .int sp_, .ref rr_])), (rr_, .inl (cI, 152, .inl u))]) A) A) (cc := cX4_half) (maxL := 4) (ret := none) (by decide) rfl (Nat.le_of_ble_eq_true rfl) ?_
  intro p e s m args below meth c A ls Q H hargs hQ hHe hx hb hr hml hown hts hlocks hin hP hK hD hA hS hE hAe hl
  have hl : lv_has ls 4 [(0, .ref m_), (1, .int (nI x_))] := hl
  have lp_2 : ∀ (k9_ : Nat) (k : Nat) (g : Nat → Int32) (H : Heap) (locs : List Loc) (ls : Array Slot), 76 - k < k9_ → k ≤ 76 → modP g x_ k (N_ / 2) → modR g x_ k N_ → modF g_ g x_ →  va_P D cl5 [(m_, .inr (4, [.int th_, .int nn_, .long le_, .int sh_, .ref ab_, .ref be_, .long ca_, .long cb_, .long oc_, .long st_, .int bs_, .int tr_, .int sp_, .ref rr_])), (rr_, .inl (cI, 152, .inl g))] H → va_D A [(m_, .inr (4, [.int th_, .int nn_, .long le_, .int sh_, .ref ab_, .ref be_, .long ca_, .long cb_, .long oc_, .long st_, .int bs_, .int tr_, .int sp_, .ref rr_])), (rr_, .inl (cI, 152, .inl g))] → va_S A s.heap H locs → lv_has ls 4 [(0, .ref m_), (1, .int (nI x_)), (2, .int (nI k))] → W p l e rm_X4_half s m args below meth c H locs 0 0 Q (F0 m 2 ls []) := by
    intro k9_
    induction k9_ with
    | zero => intro k g H locs ls hm; exact absurd hm (Nat.not_lt_zero _)
    | succ k9_ ih =>
      intro k g H locs ls hm  h1 h2 h4 h3 hP hD hS hl
      refine lv_iload_n hx hb dX4_half_2 rfl (lv_at hl 2 rfl) ?_
      refine lv_bipush (v := nI 76) hx hb dX4_half_3 (by decide) ?_
      refine lv_icmp_ge (tgt := 71) hx hb dX4_half_5 (by decide) (fun c_5 => ?_) (fun c_5 => ?_)
      · skip
        have c_5 := zji_le (a := 76) (b := k) (by omega) (by omega) c_5
        have hk : k = 76 := by omega
        subst hk
        subst hQ
        exact ze_v hx hb hr hlocks g (⟨h2, h3⟩) hP hK hD hS dX4_half_71
      · skip
        have c_5 := zji_nle (a := 76) (b := k) (by omega) (by omega) c_5
        refine lv_iload_n hx hb dX4_half_8 rfl (lv_at hl 2 rfl) ?_
        refine lv_iconst (v := nI 1) hx hb dX4_half_9 (by decide) ?_
        refine lv_iadd hx hb dX4_half_10 ?_
        refine zi_ (y := nI (k + 1)) (nI_add k 1) ?_
        refine lv_bipush (v := nI 76) hx hb dX4_half_11 (by decide) ?_
        refine lv_icmp_ge (tgt := 34) hx hb dX4_half_13 (by decide) (fun c_13 => ?_) (fun c_13 => ?_)
        · skip
          have c_13 := zji_le (a := 76) (b := k + 1) (by omega) (by omega) c_13
          refine lv_iconst (v := nI 0) hx hb dX4_half_34 (by decide) ?_
          refine zi_ (y := nI (N_ / 32768 ^ (k + 1) % 2)) (by rw [show k + 1 = 76 by omega, Nat.div_eq_of_lt hN]) ?_
          refine lv_istore_n (lv' := [(3, .int (nI (N_ / 32768 ^ (k + 1) % 2))), (0, .ref m_), (1, .int (nI x_)), (2, .int (nI k))]) hx hb dX4_half_35 rfl hl (by decide) rfl (fun ls hl => ?_)
          refine lv_aload_n hx hb dX4_half_36 rfl (lv_at hl 1 rfl) ?_
          refine va_get (D := D) (ci := 4) (v := .ref rr_) (C := RX4) (T := TX4) (N := 14) hx hb hts nX4_half_4 hown hK hP 0 rfl rfl 13 (by decide) (zh (w := .fieldLink RX4 41 "FretRootsModel" "\x72" "[I") hts 1 rfl) (fun _ h9 => h9) rfl dX4_half_37 ?_
          refine lv_bipush (v := nI 76) hx hb dX4_half_40 (by decide) ?_
          refine lv_iload_n hx hb dX4_half_42 rfl (lv_at hl 2 rfl) ?_
          refine lv_imul hx hb dX4_half_43 ?_
          refine zi_ (y := nI (76 * x_)) (pk_mul 76 x_) ?_
          refine lv_iload_n hx hb dX4_half_44 rfl (lv_at hl 3 rfl) ?_
          refine lv_iadd hx hb dX4_half_45 ?_
          refine zi_ (y := nI (76 * x_ + k)) (nI_add (76 * x_) k) ?_
          refine lv_aload_n hx hb dX4_half_46 rfl (lv_at hl 1 rfl) ?_
          refine va_get (D := D) (ci := 4) (v := .ref rr_) (C := RX4) (T := TX4) (N := 14) hx hb hts nX4_half_4 hown hK hP 0 rfl rfl 13 (by decide) (zh (w := .fieldLink RX4 41 "FretRootsModel" "\x72" "[I") hts 1 rfl) (fun _ h9 => h9) rfl dX4_half_47 ?_
          refine lv_bipush (v := nI 76) hx hb dX4_half_50 (by decide) ?_
          refine lv_iload_n hx hb dX4_half_52 rfl (lv_at hl 2 rfl) ?_
          refine lv_imul hx hb dX4_half_53 ?_
          refine zi_ (y := nI (76 * x_)) (pk_mul 76 x_) ?_
          refine lv_iload_n hx hb dX4_half_54 rfl (lv_at hl 3 rfl) ?_
          refine lv_iadd hx hb dX4_half_55 ?_
          refine zi_ (y := nI (76 * x_ + k)) (nI_add (76 * x_) k) ?_
          refine z_iald (j := (76 * x_ + k)) hx hb hK hP 1 0 rfl rfl (by omega) (by omega) dX4_half_56 ?_
          refine zi_ (y := nI (N_ / 32768 ^ k % 32768)) (h4 k (Nat.le_refl _) c_5) ?_
          refine lv_iconst (v := nI 1) hx hb dX4_half_57 (by decide) ?_
          refine lv_ishr hx hb dX4_half_58 ?_
          refine zi_ (y := nI (N_ / 32768 ^ k % 32768 / 2)) (pk_shrN (by omega) _ 1 rfl) ?_
          refine lv_iload_n hx hb dX4_half_59 rfl (lv_at hl 0 rfl) ?_
          refine lv_bipush (v := nI 14) hx hb dX4_half_60 (by decide) ?_
          refine lv_ishl hx hb dX4_half_62 ?_
          refine zi_ (y := nI (N_ / 32768 ^ (k + 1) % 2 * 16384)) (pk_shlN _ 14 rfl (by omega)) ?_
          refine lv_ior hx hb dX4_half_63 ?_
          refine zi_ (y := nI (N_ / 2 / 32768 ^ k % 32768)) (half_digit N_ k) ?_
          refine z_iast (j := (76 * x_ + k)) hx hb hK hP hD hS 1 0 rfl rfl (by omega) (by omega) dX4_half_64 (fun H locs hP hD hS => ?_)
          obtain ⟨gA, egA⟩ : ∃ f9, f9 = upd g (76 * x_ + k) (nI (N_ / 2 / 32768 ^ k % 32768)) := ⟨_, rfl⟩
          have hP : va_P D cl5 [(m_, .inr (4, [.int th_, .int nn_, .long le_, .int sh_, .ref ab_, .ref be_, .long ca_, .long cb_, .long oc_, .long st_, .int bs_, .int tr_, .int sp_, .ref rr_])), (rr_, .inl (cI, 152, .inl gA))] H := by rw [egA]; exact hP
          have hD : va_D A [(m_, .inr (4, [.int th_, .int nn_, .long le_, .int sh_, .ref ab_, .ref be_, .long ca_, .long cb_, .long oc_, .long st_, .int bs_, .int tr_, .int sp_, .ref rr_])), (rr_, .inl (cI, 152, .inl gA))] := by rw [egA]; exact hD
          refine lv_iinc (v := nI (k + 1)) (lv' := [(2, .int (nI (k + 1))), (3, .int (nI (N_ / 32768 ^ (k + 1) % 2))), (0, .ref m_), (1, .int (nI x_))]) hx hb dX4_half_65 hl (k := 3) rfl (z_inc k 1) (by decide) rfl (fun ls hl => ?_)
          refine lv_goto (tgt := 2) hx hb dX4_half_68 (by decide) ?_
          exact ih (k + 1) gA _ _ _ (by omega) (by omega) (by rw [egA]; exact modP_snoc h2) (by rw [egA]; exact modR_snoc h4) (by rw [egA]; exact modF_upd h3 c_5) hP hD hS (lv_sub hl [2, 3, 0] rfl)
        · skip
          have c_13 := zji_nle (a := 76) (b := k + 1) (by omega) (by omega) c_13
          refine lv_aload_n hx hb dX4_half_16 rfl (lv_at hl 0 rfl) ?_
          refine va_get (D := D) (ci := 4) (v := .ref rr_) (C := RX4) (T := TX4) (N := 14) hx hb hts nX4_half_4 hown hK hP 0 rfl rfl 13 (by decide) (zh (w := .fieldLink RX4 41 "FretRootsModel" "\x72" "[I") hts 1 rfl) (fun _ h9 => h9) rfl dX4_half_17 ?_
          refine lv_bipush (v := nI 76) hx hb dX4_half_20 (by decide) ?_
          refine lv_iload_n hx hb dX4_half_22 rfl (lv_at hl 1 rfl) ?_
          refine lv_imul hx hb dX4_half_23 ?_
          refine zi_ (y := nI (76 * x_)) (pk_mul 76 x_) ?_
          refine lv_iload_n hx hb dX4_half_24 rfl (lv_at hl 2 rfl) ?_
          refine lv_iadd hx hb dX4_half_25 ?_
          refine zi_ (y := nI (76 * x_ + k)) (nI_add (76 * x_) k) ?_
          refine lv_iconst (v := nI 1) hx hb dX4_half_26 (by decide) ?_
          refine lv_iadd hx hb dX4_half_27 ?_
          refine zi_ (y := nI (76 * x_ + k + 1)) (nI_add (76 * x_ + k) 1) ?_
          refine z_iald (j := (76 * x_ + k + 1)) hx hb hK hP 1 0 rfl rfl (by omega) (by omega) dX4_half_28 ?_
          refine zi_ (y := nI (N_ / 32768 ^ (k + 1) % 32768)) (h4 (k + 1) (by omega) (by omega)) ?_
          refine lv_iconst (v := nI 1) hx hb dX4_half_29 (by decide) ?_
          refine lv_iand hx hb dX4_half_30 ?_
          refine zi_ (y := nI (N_ / 32768 ^ (k + 1) % 2)) ((z_and1 _).trans (congrArg nI (by omega))) ?_
          refine lv_goto (tgt := 35) hx hb dX4_half_31 (by decide) ?_
          refine lv_istore_n (lv' := [(3, .int (nI (N_ / 32768 ^ (k + 1) % 2))), (0, .ref m_), (1, .int (nI x_)), (2, .int (nI k))]) hx hb dX4_half_35 rfl hl (by decide) rfl (fun ls hl => ?_)
          refine lv_aload_n hx hb dX4_half_36 rfl (lv_at hl 1 rfl) ?_
          refine va_get (D := D) (ci := 4) (v := .ref rr_) (C := RX4) (T := TX4) (N := 14) hx hb hts nX4_half_4 hown hK hP 0 rfl rfl 13 (by decide) (zh (w := .fieldLink RX4 41 "FretRootsModel" "\x72" "[I") hts 1 rfl) (fun _ h9 => h9) rfl dX4_half_37 ?_
          refine lv_bipush (v := nI 76) hx hb dX4_half_40 (by decide) ?_
          refine lv_iload_n hx hb dX4_half_42 rfl (lv_at hl 2 rfl) ?_
          refine lv_imul hx hb dX4_half_43 ?_
          refine zi_ (y := nI (76 * x_)) (pk_mul 76 x_) ?_
          refine lv_iload_n hx hb dX4_half_44 rfl (lv_at hl 3 rfl) ?_
          refine lv_iadd hx hb dX4_half_45 ?_
          refine zi_ (y := nI (76 * x_ + k)) (nI_add (76 * x_) k) ?_
          refine lv_aload_n hx hb dX4_half_46 rfl (lv_at hl 1 rfl) ?_
          refine va_get (D := D) (ci := 4) (v := .ref rr_) (C := RX4) (T := TX4) (N := 14) hx hb hts nX4_half_4 hown hK hP 0 rfl rfl 13 (by decide) (zh (w := .fieldLink RX4 41 "FretRootsModel" "\x72" "[I") hts 1 rfl) (fun _ h9 => h9) rfl dX4_half_47 ?_
          refine lv_bipush (v := nI 76) hx hb dX4_half_50 (by decide) ?_
          refine lv_iload_n hx hb dX4_half_52 rfl (lv_at hl 2 rfl) ?_
          refine lv_imul hx hb dX4_half_53 ?_
          refine zi_ (y := nI (76 * x_)) (pk_mul 76 x_) ?_
          refine lv_iload_n hx hb dX4_half_54 rfl (lv_at hl 3 rfl) ?_
          refine lv_iadd hx hb dX4_half_55 ?_
          refine zi_ (y := nI (76 * x_ + k)) (nI_add (76 * x_) k) ?_
          refine z_iald (j := (76 * x_ + k)) hx hb hK hP 1 0 rfl rfl (by omega) (by omega) dX4_half_56 ?_
          refine zi_ (y := nI (N_ / 32768 ^ k % 32768)) (h4 k (Nat.le_refl _) c_5) ?_
          refine lv_iconst (v := nI 1) hx hb dX4_half_57 (by decide) ?_
          refine lv_ishr hx hb dX4_half_58 ?_
          refine zi_ (y := nI (N_ / 32768 ^ k % 32768 / 2)) (pk_shrN (by omega) _ 1 rfl) ?_
          refine lv_iload_n hx hb dX4_half_59 rfl (lv_at hl 0 rfl) ?_
          refine lv_bipush (v := nI 14) hx hb dX4_half_60 (by decide) ?_
          refine lv_ishl hx hb dX4_half_62 ?_
          refine zi_ (y := nI (N_ / 32768 ^ (k + 1) % 2 * 16384)) (pk_shlN _ 14 rfl (by omega)) ?_
          refine lv_ior hx hb dX4_half_63 ?_
          refine zi_ (y := nI (N_ / 2 / 32768 ^ k % 32768)) (half_digit N_ k) ?_
          refine z_iast (j := (76 * x_ + k)) hx hb hK hP hD hS 1 0 rfl rfl (by omega) (by omega) dX4_half_64 (fun H locs hP hD hS => ?_)
          obtain ⟨gA, egA⟩ : ∃ f9, f9 = upd g (76 * x_ + k) (nI (N_ / 2 / 32768 ^ k % 32768)) := ⟨_, rfl⟩
          have hP : va_P D cl5 [(m_, .inr (4, [.int th_, .int nn_, .long le_, .int sh_, .ref ab_, .ref be_, .long ca_, .long cb_, .long oc_, .long st_, .int bs_, .int tr_, .int sp_, .ref rr_])), (rr_, .inl (cI, 152, .inl gA))] H := by rw [egA]; exact hP
          have hD : va_D A [(m_, .inr (4, [.int th_, .int nn_, .long le_, .int sh_, .ref ab_, .ref be_, .long ca_, .long cb_, .long oc_, .long st_, .int bs_, .int tr_, .int sp_, .ref rr_])), (rr_, .inl (cI, 152, .inl gA))] := by rw [egA]; exact hD
          refine lv_iinc (v := nI (k + 1)) (lv' := [(2, .int (nI (k + 1))), (3, .int (nI (N_ / 32768 ^ (k + 1) % 2))), (0, .ref m_), (1, .int (nI x_))]) hx hb dX4_half_65 hl (k := 3) rfl (z_inc k 1) (by decide) rfl (fun ls hl => ?_)
          refine lv_goto (tgt := 2) hx hb dX4_half_68 (by decide) ?_
          exact ih (k + 1) gA _ _ _ (by omega) (by omega) (by rw [egA]; exact modP_snoc h2) (by rw [egA]; exact modR_snoc h4) (by rw [egA]; exact modF_upd h3 c_5) hP hD hS (lv_sub hl [2, 3, 0] rfl)
  refine lv_iconst (v := nI 0) hx hb dX4_half_0 (by decide) ?_
  refine lv_istore_n (lv' := [(2, .int (nI 0)), (0, .ref m_), (1, .int (nI x_))]) hx hb dX4_half_1 rfl hl (by decide) rfl (fun ls hl => ?_)
  exact lp_2 ((76 - 0) + 1) 0 g_ _ _ _ (Nat.lt_succ_self _) (Nat.zero_le _) (fun j h => absurd h (Nat.not_lt_zero _)) (modL_R hL) (modF_rf _ _) hP hD hS (lv_sub hl [1, 2, 0] rfl)
theorem nX4_told_4 : ∀ w ∈ wsX40, w ∈ wsX4_told := by decide +kernel
abbrev rm_X4_told : Room := { frames := 0, cells := 0, slots := 0, locals := 0 }
set_option maxHeartbeats 4000000 in
set_option maxRecDepth 100000 in
/-- told -/
theorem ct_X4_told (l : Launch) (D : va_G) (cI cJ cD : ClassId) (m_ : Nat) (ab_ : Nat) (be_ : Nat) (rr_ : Nat) (th_ : Int32) (nn_ : Int32) (sh_ : Int32) (bs_ : Int32) (tr_ : Int32) (sp_ : Int32) (le_ : Int64) (ca_ : Int64) (cb_ : Int64) (oc_ : Int64) (st_ : Int64) (x_ : Nat) (N_ : Nat) (g_ : Nat → Int32) (sz : Nat) (hx_ : x_ ≤ 1) (hL : modL g_ x_ N_) (hN : N_ < 32768 ^ 76) : Met l yX4_told wsX4_told rm_X4_told (zP D (ty3 cI cJ cD) [.ref m_, .int (nI x_)] sz [(m_, .inr (4, [.int th_, .int nn_, .long le_, .int sh_, .ref ab_, .ref be_, .long ca_, .long cb_, .long oc_, .long st_, .int bs_, .int tr_, .int sp_, .ref rr_])), (rr_, .inl (cI, 152, .inl g_))] zT) (va_Ql (fun (r : Int64) (u : Unit) => r = toldL N_) (zB D (ty3 cI cJ cD) (fun (u : Unit) => [(m_, .inr (4, [.int th_, .int nn_, .long le_, .int sh_, .ref ab_, .ref be_, .long ca_, .long cb_, .long oc_, .long st_, .int bs_, .int tr_, .int sp_, .ref rr_])), (rr_, .inl (cI, 152, .inl g_))]) (va_A [(m_, .inr (4, [.int th_, .int nn_, .long le_, .int sh_, .ref ab_, .ref be_, .long ca_, .long cb_, .long oc_, .long st_, .int bs_, .int tr_, .int sp_, .ref rr_])), (rr_, .inl (cI, 152, .inl g_))] sz)) (va_A [(m_, .inr (4, [.int th_, .int nn_, .long le_, .int sh_, .ref ab_, .ref be_, .long ca_, .long cb_, .long oc_, .long st_, .int bs_, .int tr_, .int sp_, .ref rr_])), (rr_, .inl (cI, 152, .inl g_))] sz)) 0 0 (va_A [(m_, .inr (4, [.int th_, .int nn_, .long le_, .int sh_, .ref ab_, .ref be_, .long ca_, .long cb_, .long oc_, .long st_, .int bs_, .int tr_, .int sp_, .ref rr_])), (rr_, .inl (cI, 152, .inl g_))] sz) := by
  refine zMet (Qf := fun A => va_Ql (fun (r : Int64) (u : Unit) => r = toldL N_) (zB D (ty3 cI cJ cD) (fun (u : Unit) => [(m_, .inr (4, [.int th_, .int nn_, .long le_, .int sh_, .ref ab_, .ref be_, .long ca_, .long cb_, .long oc_, .long st_, .int bs_, .int tr_, .int sp_, .ref rr_])), (rr_, .inl (cI, 152, .inl g_))]) A) A) (cc := cX4_told) (maxL := 5) (ret := (some .long)) (by decide) rfl (Nat.le_of_ble_eq_true rfl) ?_
  intro p e s m args below meth c A ls Q H hargs hQ hHe hx hb hr hml hown hts hlocks hin hP hK hD hA hS hE hAe hl
  have hl : lv_has ls 5 [(0, .ref m_), (1, .int (nI x_))] := hl
  have lp_6 : ∀ (k9_ : Nat) (j : Nat) (v : Nat) (H : Heap) (locs : List Loc) (ls : Array Slot), j < k9_ → j ≤ 76 → v = N_ / 32768 ^ j ∨ (1000000000000000 < N_ / 32768 ^ j ∧ 1000000000000000 < v) → v ≤ 1000000000032767 →  va_P D cl5 [(m_, .inr (4, [.int th_, .int nn_, .long le_, .int sh_, .ref ab_, .ref be_, .long ca_, .long cb_, .long oc_, .long st_, .int bs_, .int tr_, .int sp_, .ref rr_])), (rr_, .inl (cI, 152, .inl g_))] H → va_D A [(m_, .inr (4, [.int th_, .int nn_, .long le_, .int sh_, .ref ab_, .ref be_, .long ca_, .long cb_, .long oc_, .long st_, .int bs_, .int tr_, .int sp_, .ref rr_])), (rr_, .inl (cI, 152, .inl g_))] → va_S A s.heap H locs → lv_has ls 5 [(0, .ref m_), (1, .int (nI x_)), (2, .long (lN v)), (4, .int (nI j - nI 1))] → W p l e rm_X4_told s m args below meth c H locs 0 0 Q (F0 m 6 ls []) := by
    intro k9_
    induction k9_ with
    | zero => intro j v H locs ls hm; exact absurd hm (Nat.not_lt_zero _)
    | succ k9_ ih =>
      intro j v H locs ls hm  h1 h2 h3 hP hD hS hl
      refine lv_iload hx hb dX4_told_6 (lv_at hl 3 rfl) ?_
      refine lv_if_lt (tgt := 51) hx hb dX4_told_8 (by decide) (fun c_8 => ?_) (fun c_8 => ?_)
      · skip
        have hj : j = 0 := Nat.eq_zero_of_not_pos (fun q => absurd c_8 (by rw [pk_sub q]; exact nI_pos (by omega)))
        subst hj
        rw [Nat.pow_zero, Nat.div_one] at h2
        refine lv_lload_n hx hb dX4_told_51 rfl (lv_at hl 2 rfl) ?_
        refine lv_ldc2 (v := 1000000000000000) hx hb hown (zh (w := .constantLong RX4 109 (1000000000000000)) hts 5 rfl) dX4_told_52 ?_
        refine zl_ (y := lN 1000000000000000) rfl ?_
        refine zl_le (tgt := 65) hx hb dX4_told_55 dX4_told_56 (by decide) (fun c_56 => ?_) (fun c_56 => ?_)
        · skip
          have c_56 := zjl_le (a := v) (b := 1000000000000000) (by omega) (by omega) c_56
          refine lv_lload_n hx hb dX4_told_65 rfl (lv_at hl 2 rfl) ?_
          subst hQ
          exact ze_l hx hb hr hlocks () ((by rw [toldL, if_pos (by omega)]; exact congrArg lN (by omega))) hP hK hD hS dX4_told_66
        · skip
          have c_56 := zjl_nle (a := v) (b := 1000000000000000) (by omega) (by omega) c_56
          refine lv_ldc2 (v := 1000000000000001) hx hb hown (zh (w := .constantLong RX4 105 (1000000000000001)) hts 2 rfl) dX4_told_59 ?_
          refine zl_ (y := lN 1000000000000001) rfl ?_
          refine lv_goto (tgt := 66) hx hb dX4_told_62 (by decide) ?_
          subst hQ
          exact ze_l hx hb hr hlocks () ((if_neg (by omega)).symm) hP hK hD hS dX4_told_66
      · skip
        have hj : 1 ≤ j := Nat.pos_of_ne_zero (fun q => c_8 (by subst q; decide))
        have ex : nI j - nI 1 = nI (j - 1) := pk_sub hj
        have l1 : N_ / 32768 ^ (j - 1) % 32768 < 32768 := Nat.mod_lt _ (by decide)
        refine lv_lload_n hx hb dX4_told_11 rfl (lv_at hl 2 rfl) ?_
        refine lv_ldc2 (v := 30517578125) hx hb hown (zh (w := .constantLong RX4 103 (30517578125)) hts 1 rfl) dX4_told_12 ?_
        refine zl_ (y := lN 30517578125) rfl ?_
        refine zl_le (tgt := 25) hx hb dX4_told_15 dX4_told_16 (by decide) (fun c_16 => ?_) (fun c_16 => ?_)
        · skip
          have c_16 := zjl_le (a := v) (b := 30517578125) (by omega) (by omega) c_16
          refine lv_lload_n hx hb dX4_told_25 rfl (lv_at hl 2 rfl) ?_
          refine lv_ldc2 (v := 32768) hx hb hown (zh (w := .constantLong RX4 107 (32768)) hts 3 rfl) dX4_told_26 ?_
          refine zl_ (y := lN 32768) rfl ?_
          refine lv_lmul hx hb dX4_told_29 ?_
          refine zl_ (y := lN (v * 32768)) (lN_mul v 32768) ?_
          refine lv_aload_n hx hb dX4_told_30 rfl (lv_at hl 0 rfl) ?_
          refine va_get (D := D) (ci := 4) (v := .ref rr_) (C := RX4) (T := TX4) (N := 14) hx hb hts nX4_told_4 hown hK hP 0 rfl rfl 13 (by decide) (zh (w := .fieldLink RX4 41 "FretRootsModel" "\x72" "[I") hts 4 rfl) (fun _ h9 => h9) rfl dX4_told_31 ?_
          refine lv_bipush (v := nI 76) hx hb dX4_told_34 (by decide) ?_
          refine lv_iload_n hx hb dX4_told_36 rfl (lv_at hl 1 rfl) ?_
          refine lv_imul hx hb dX4_told_37 ?_
          refine zi_ (y := nI (76 * x_)) (pk_mul 76 x_) ?_
          refine lv_iload hx hb dX4_told_38 (lv_at hl 3 rfl) ?_
          refine zi_ (y := nI (j - 1)) (ex) ?_
          refine lv_iadd hx hb dX4_told_40 ?_
          refine zi_ (y := nI (76 * x_ + (j - 1))) (nI_add (76 * x_) (j - 1)) ?_
          refine z_iald (j := (76 * x_ + (j - 1))) hx hb hK hP 1 0 rfl rfl (by omega) (by omega) dX4_told_41 ?_
          refine zi_ (y := nI (N_ / 32768 ^ (j - 1) % 32768)) (hL (j - 1) (by omega)) ?_
          refine lv_i2l (v := lN (N_ / 32768 ^ (j - 1) % 32768)) hx hb dX4_told_42 (nI_l (by omega)) ?_
          refine lv_ladd hx hb dX4_told_43 ?_
          refine zl_ (y := lN (v * 32768 + (N_ / 32768 ^ (j - 1) % 32768))) (lN_add (v * 32768) (N_ / 32768 ^ (j - 1) % 32768)) ?_
          refine lv_lstore_n (lv' := [(2, .long (lN (v * 32768 + (N_ / 32768 ^ (j - 1) % 32768)))), (0, .ref m_), (1, .int (nI x_)), (4, .int (nI j - nI 1))]) hx hb dX4_told_44 rfl hl (by decide) rfl (fun ls hl => ?_)
          refine lv_iinc (v := nI (j - 1) - nI 1) (lv' := [(4, .int (nI (j - 1) - nI 1)), (2, .long (lN (v * 32768 + (N_ / 32768 ^ (j - 1) % 32768)))), (0, .ref m_), (1, .int (nI x_))]) hx hb dX4_told_45 hl (k := 3) rfl (by rw [ex]; exact z_m1 _) (by decide) rfl (fun ls hl => ?_)
          refine lv_goto (tgt := 6) hx hb dX4_told_48 (by decide) ?_
          exact ih (j - 1) (v * 32768 + (N_ / 32768 ^ (j - 1) % 32768)) _ _ _ (by omega) (by omega) (by first | exact Or.inr ⟨told_big hj h2 c_16, by decide⟩ | exact Or.inl (told_step hj h2 c_16)) (by omega) hP hD hS (lv_sub hl [2, 3, 1, 0] rfl)
        · skip
          have c_16 := zjl_nle (a := v) (b := 30517578125) (by omega) (by omega) c_16
          refine lv_ldc2 (v := 1000000000000001) hx hb hown (zh (w := .constantLong RX4 105 (1000000000000001)) hts 2 rfl) dX4_told_19 ?_
          refine zl_ (y := lN 1000000000000001) rfl ?_
          refine lv_goto (tgt := 44) hx hb dX4_told_22 (by decide) ?_
          refine lv_lstore_n (lv' := [(2, .long (lN 1000000000000001)), (0, .ref m_), (1, .int (nI x_)), (4, .int (nI j - nI 1))]) hx hb dX4_told_44 rfl hl (by decide) rfl (fun ls hl => ?_)
          refine lv_iinc (v := nI (j - 1) - nI 1) (lv' := [(4, .int (nI (j - 1) - nI 1)), (2, .long (lN 1000000000000001)), (0, .ref m_), (1, .int (nI x_))]) hx hb dX4_told_45 hl (k := 3) rfl (by rw [ex]; exact z_m1 _) (by decide) rfl (fun ls hl => ?_)
          refine lv_goto (tgt := 6) hx hb dX4_told_48 (by decide) ?_
          exact ih (j - 1) 1000000000000001 _ _ _ (by omega) (by omega) (by first | exact Or.inr ⟨told_big hj h2 c_16, by decide⟩ | exact Or.inl (told_step hj h2 c_16)) (by omega) hP hD hS (lv_sub hl [2, 3, 1, 0] rfl)
  refine lv_lconst (v := lN 0) hx hb dX4_told_0 rfl ?_
  refine lv_lstore_n (lv' := [(2, .long (lN 0)), (0, .ref m_), (1, .int (nI x_))]) hx hb dX4_told_1 rfl hl (by decide) rfl (fun ls hl => ?_)
  refine lv_bipush (v := nI 75) hx hb dX4_told_2 (by decide) ?_
  refine zi_ (y := nI 76 - nI 1) (by decide) ?_
  refine lv_istore (lv' := [(4, .int (nI 76 - nI 1)), (2, .long (lN 0)), (0, .ref m_), (1, .int (nI x_))]) hx hb dX4_told_4 hl (by decide) rfl (fun ls hl => ?_)
  exact lp_6 (76 + 1) 76 0 _ _ _ (Nat.lt_succ_self _) (Nat.le_refl _) (Or.inl (Nat.div_eq_of_lt hN).symm) (Nat.zero_le _) hP hD hS (lv_sub hl [2, 3, 1, 0] rfl)
abbrev rm_X4_down : Room := { frames := 1, cells := 0, slots := 0, locals := 40 }
set_option maxHeartbeats 4000000 in
set_option maxRecDepth 100000 in
/-- down -/
theorem ct_X4_down (l : Launch) (D : va_G) (cI cJ cD : ClassId) (m_ : Nat) (ab_ : Nat) (be_ : Nat) (rr_ : Nat) (th_ : Int32) (nn_ : Int32) (sh_ : Int32) (bs_ : Int32) (tr_ : Int32) (sp_ : Int32) (le_ : Int64) (ca_ : Int64) (cb_ : Int64) (oc_ : Int64) (st_ : Int64) (N_ : Nat) (K_ : Nat) (g_ : Nat → Int32) (sz : Nat) (hA_ : modL g_ 0 N_) (hB_ : modL g_ 1 K_) (hN : N_ < 32768 ^ 76) : Met l yX4_down wsX4_down rm_X4_down (zP D (ty3 cI cJ cD) [.ref m_] sz [(m_, .inr (4, [.int th_, .int nn_, .long le_, .int sh_, .ref ab_, .ref be_, .long ca_, .long cb_, .long oc_, .long st_, .int bs_, .int tr_, .int sp_, .ref rr_])), (rr_, .inl (cI, 152, .inl g_))] zT) (va_Qv (fun (u : (Nat → Int32)) => modL u 0 (if N_ % 2 = 0 then N_ / 2 else N_) ∧ modL u 1 (if N_ % 2 = 0 then K_ else K_ * 2)) (zB D (ty3 cI cJ cD) (fun (u : (Nat → Int32)) => [(m_, .inr (4, [.int th_, .int nn_, .long le_, .int sh_, .ref ab_, .ref be_, .long ca_, .long cb_, .long oc_, .long st_, .int bs_, .int tr_, .int sp_, .ref rr_])), (rr_, .inl (cI, 152, .inl u))]) (va_A [(m_, .inr (4, [.int th_, .int nn_, .long le_, .int sh_, .ref ab_, .ref be_, .long ca_, .long cb_, .long oc_, .long st_, .int bs_, .int tr_, .int sp_, .ref rr_])), (rr_, .inl (cI, 152, .inl g_))] sz)) (va_A [(m_, .inr (4, [.int th_, .int nn_, .long le_, .int sh_, .ref ab_, .ref be_, .long ca_, .long cb_, .long oc_, .long st_, .int bs_, .int tr_, .int sp_, .ref rr_])), (rr_, .inl (cI, 152, .inl g_))] sz)) 0 0 (va_A [(m_, .inr (4, [.int th_, .int nn_, .long le_, .int sh_, .ref ab_, .ref be_, .long ca_, .long cb_, .long oc_, .long st_, .int bs_, .int tr_, .int sp_, .ref rr_])), (rr_, .inl (cI, 152, .inl g_))] sz) := by
  refine zMet (Qf := fun A => va_Qv (fun (u : (Nat → Int32)) => modL u 0 (if N_ % 2 = 0 then N_ / 2 else N_) ∧ modL u 1 (if N_ % 2 = 0 then K_ else K_ * 2)) (zB D (ty3 cI cJ cD) (fun (u : (Nat → Int32)) => [(m_, .inr (4, [.int th_, .int nn_, .long le_, .int sh_, .ref ab_, .ref be_, .long ca_, .long cb_, .long oc_, .long st_, .int bs_, .int tr_, .int sp_, .ref rr_])), (rr_, .inl (cI, 152, .inl u))]) A) A) (cc := cX4_down) (maxL := 1) (ret := none) (by decide) rfl (Nat.le_of_ble_eq_true rfl) ?_
  intro p e s m args below meth c A ls Q H hargs hQ hHe hx hb hr hml hown hts hlocks hin hP hK hD hA hS hE hAe hl
  have hl : lv_has ls 1 [(0, .ref m_)] := hl
  refine lv_aload_n hx hb dX4_down_0 rfl (lv_at hl 0 rfl) ?_
  refine lv_iconst (v := nI 0) hx hb dX4_down_1 (by decide) ?_
  refine zc_i (wc := [(m_, .inr (4, [.int th_, .int nn_, .long le_, .int sh_, .ref ab_, .ref be_, .long ca_, .long cb_, .long oc_, .long st_, .int bs_, .int tr_, .int sp_, .ref rr_])), (rr_, .inl (cI, 152, .inl g_))]) (wr := []) hP hD hS hA [0, 1] [] rfl rfl (by decide) (by decide) (va_runV (As := [.int (nI 0)]) (rest := []) ⟨hx, hb, hml, hown, hts⟩ (ct_X4_isEven l D cI cJ cD m_ ab_ be_ rr_ th_ nn_ sh_ bs_ tr_ sp_ le_ ca_ cb_ oc_ st_ 0 N_ g_ H.size (by decide) hA_) (cwV 1 hts gX4_down_X4_isEven rfl rfl rfl (by decide +kernel) ⟨Nat.le_of_ble_eq_true rfl, Nat.le_of_ble_eq_true rfl⟩) (zPreV (wc := [(m_, .inr (4, [.int th_, .int nn_, .long le_, .int sh_, .ref ab_, .ref be_, .long ca_, .long cb_, .long oc_, .long st_, .int bs_, .int tr_, .int sp_, .ref rr_])), (rr_, .inl (cI, 152, .inl g_))]) hK hP hD 4 0 rfl rfl zTb (fun _ _ _ => trivial)) rfl rfl hl.1 rfl (lv_room (Nat.le_of_ble_eq_true rfl)) dX4_down_2 ⟨Nat.le_of_ble_eq_true rfl, Nat.le_of_ble_eq_true rfl⟩) (fun r_1 u H locs hw hP hD hS => ?_)
  have hP : va_P D cl5 [(m_, .inr (4, [.int th_, .int nn_, .long le_, .int sh_, .ref ab_, .ref be_, .long ca_, .long cb_, .long oc_, .long st_, .int bs_, .int tr_, .int sp_, .ref rr_])), (rr_, .inl (cI, 152, .inl g_))] H := hP.sub [0, 1] rfl
  have hD : va_D A [(m_, .inr (4, [.int th_, .int nn_, .long le_, .int sh_, .ref ab_, .ref be_, .long ca_, .long cb_, .long oc_, .long st_, .int bs_, .int tr_, .int sp_, .ref rr_])), (rr_, .inl (cI, 152, .inl g_))] := hD.sub [0, 1] (by decide) rfl
  have hw : r_1 = nI (1 - N_ % 2) := hw
  subst hw
  refine lv_if_eq (tgt := 16) hx hb dX4_down_5 (by decide) (fun c_5 => ?_) (fun c_5 => ?_)
  · skip
    have c_5 := zji_eq (a := 1 - N_ % 2) (b := 0) (by omega) (by omega) c_5
    refine lv_aload_n hx hb dX4_down_16 rfl (lv_at hl 0 rfl) ?_
    refine lv_iconst (v := nI 1) hx hb dX4_down_17 (by decide) ?_
    refine lv_ldc2 (v := 2) hx hb hown (zh (w := .constantLong RX4 50 (2)) hts 1 rfl) dX4_down_18 ?_
    refine zl_ (y := lN 2) rfl ?_
    refine zc_v (wc := [(m_, .inr (4, [.int th_, .int nn_, .long le_, .int sh_, .ref ab_, .ref be_, .long ca_, .long cb_, .long oc_, .long st_, .int bs_, .int tr_, .int sp_, .ref rr_])), (rr_, .inl (cI, 152, .inl g_))]) (wr := []) hP hD hS hA [0, 1] [] rfl rfl (by decide) (by decide) (va_runV (As := [.int (nI 1), .long (lN 2)]) (rest := []) ⟨hx, hb, hml, hown, hts⟩ (ct_X4_times l D cI cJ cD m_ ab_ be_ rr_ th_ nn_ sh_ bs_ tr_ sp_ le_ ca_ cb_ oc_ st_ 1 K_ 2 g_ H.size (by decide) (by decide) hB_) (cwV 2 hts gX4_down_X4_times rfl rfl rfl (by decide +kernel) ⟨Nat.le_of_ble_eq_true rfl, Nat.le_of_ble_eq_true rfl⟩) (zPreV (wc := [(m_, .inr (4, [.int th_, .int nn_, .long le_, .int sh_, .ref ab_, .ref be_, .long ca_, .long cb_, .long oc_, .long st_, .int bs_, .int tr_, .int sp_, .ref rr_])), (rr_, .inl (cI, 152, .inl g_))]) hK hP hD 4 0 rfl rfl zTb (fun _ _ _ => trivial)) rfl rfl hl.1 rfl (lv_room (Nat.le_of_ble_eq_true rfl)) dX4_down_21 ⟨Nat.le_of_ble_eq_true rfl, Nat.le_of_ble_eq_true rfl⟩) (fun u H locs hw hP hD hS => ?_)
    obtain ⟨g2_3, rfl⟩ : ∃ z, z = u := ⟨_, rfl⟩
    have hP : va_P D cl5 [(m_, .inr (4, [.int th_, .int nn_, .long le_, .int sh_, .ref ab_, .ref be_, .long ca_, .long cb_, .long oc_, .long st_, .int bs_, .int tr_, .int sp_, .ref rr_])), (rr_, .inl (cI, 152, .inl g2_3))] H := hP.sub [0, 1] rfl
    have hD : va_D A [(m_, .inr (4, [.int th_, .int nn_, .long le_, .int sh_, .ref ab_, .ref be_, .long ca_, .long cb_, .long oc_, .long st_, .int bs_, .int tr_, .int sp_, .ref rr_])), (rr_, .inl (cI, 152, .inl g2_3))] := hD.sub [0, 1] (by decide) rfl
    have hw : modL g2_3 1 (K_ * 2) ∧ modF g_ g2_3 1 := hw
    obtain ⟨hL_21, hF_21⟩ := hw
    subst hQ
    exact ze_v hx hb hr hlocks g2_3 (⟨by split <;> first | exact hL_10 | exact modL_keep hF_21 (by decide) hA_ | (exfalso; omega), by split <;> first | exact hL_21 | exact modL_keep hF_10 (by decide) hB_ | (exfalso; omega)⟩) hP hK hD hS dX4_down_24
  · skip
    have c_5 := zji_ne (a := 1 - N_ % 2) (b := 0) (by omega) (by omega) c_5
    refine lv_aload_n hx hb dX4_down_8 rfl (lv_at hl 0 rfl) ?_
    refine lv_iconst (v := nI 0) hx hb dX4_down_9 (by decide) ?_
    refine zc_v (wc := [(m_, .inr (4, [.int th_, .int nn_, .long le_, .int sh_, .ref ab_, .ref be_, .long ca_, .long cb_, .long oc_, .long st_, .int bs_, .int tr_, .int sp_, .ref rr_])), (rr_, .inl (cI, 152, .inl g_))]) (wr := []) hP hD hS hA [0, 1] [] rfl rfl (by decide) (by decide) (va_runV (As := [.int (nI 0)]) (rest := []) ⟨hx, hb, hml, hown, hts⟩ (ct_X4_half l D cI cJ cD m_ ab_ be_ rr_ th_ nn_ sh_ bs_ tr_ sp_ le_ ca_ cb_ oc_ st_ 0 N_ g_ H.size (by decide) hA_ hN) (cwV 1 hts gX4_down_X4_half rfl rfl rfl (by decide +kernel) ⟨Nat.le_of_ble_eq_true rfl, Nat.le_of_ble_eq_true rfl⟩) (zPreV (wc := [(m_, .inr (4, [.int th_, .int nn_, .long le_, .int sh_, .ref ab_, .ref be_, .long ca_, .long cb_, .long oc_, .long st_, .int bs_, .int tr_, .int sp_, .ref rr_])), (rr_, .inl (cI, 152, .inl g_))]) hK hP hD 4 0 rfl rfl zTb (fun _ _ _ => trivial)) rfl rfl hl.1 rfl (lv_room (Nat.le_of_ble_eq_true rfl)) dX4_down_10 ⟨Nat.le_of_ble_eq_true rfl, Nat.le_of_ble_eq_true rfl⟩) (fun u H locs hw hP hD hS => ?_)
    obtain ⟨g2_5, rfl⟩ : ∃ z, z = u := ⟨_, rfl⟩
    have hP : va_P D cl5 [(m_, .inr (4, [.int th_, .int nn_, .long le_, .int sh_, .ref ab_, .ref be_, .long ca_, .long cb_, .long oc_, .long st_, .int bs_, .int tr_, .int sp_, .ref rr_])), (rr_, .inl (cI, 152, .inl g2_5))] H := hP.sub [0, 1] rfl
    have hD : va_D A [(m_, .inr (4, [.int th_, .int nn_, .long le_, .int sh_, .ref ab_, .ref be_, .long ca_, .long cb_, .long oc_, .long st_, .int bs_, .int tr_, .int sp_, .ref rr_])), (rr_, .inl (cI, 152, .inl g2_5))] := hD.sub [0, 1] (by decide) rfl
    have hw : modL g2_5 0 (N_ / 2) ∧ modF g_ g2_5 0 := hw
    obtain ⟨hL_10, hF_10⟩ := hw
    refine lv_goto (tgt := 24) hx hb dX4_down_13 (by decide) ?_
    subst hQ
    exact ze_v hx hb hr hlocks g2_5 (⟨by split <;> first | exact hL_10 | exact modL_keep hF_21 (by decide) hA_ | (exfalso; omega), by split <;> first | exact hL_21 | exact modL_keep hF_10 (by decide) hB_ | (exfalso; omega)⟩) hP hK hD hS dX4_down_24
theorem nX4_lower_4 : ∀ w ∈ wsX40, w ∈ wsX4_lower := by decide +kernel
abbrev rm_X4_lower : Room := { frames := 3, cells := 0, slots := 0, locals := 90 }
set_option maxHeartbeats 4000000 in
set_option maxRecDepth 100000 in
/-- lower -/
theorem ct_X4_lower (l : Launch) (D : va_G) (cI cJ cD : ClassId) (m_ : Nat) (ab_ : Nat) (be_ : Nat) (rr_ : Nat) (th_ : Int32) (bs_ : Int32) (tr_ : Int32) (sp_ : Int32) (le_ : Int64) (ca_ : Int64) (cb_ : Int64) (oc_ : Int64) (st_ : Int64) (n_ : Nat) (k_ : Nat) (w_ : Nat) (h_ : Nat) (g_ : Nat → Int32) (sz : Nat) (hn1 : 1 ≤ n_) (hn : n_ ≤ 24) (hk : k_ ≤ 48) (hw_ : w_ ≤ 1000000) (hh : h_ ≤ 16) : Met l yX4_lower wsX4_lower rm_X4_lower (zP D (ty3 cI cJ cD) [.ref m_, .int (nI k_), .long (lN w_)] sz [(m_, .inr (4, [.int th_, .int (nI n_), .long le_, .int (nI h_), .ref ab_, .ref be_, .long ca_, .long cb_, .long oc_, .long st_, .int bs_, .int tr_, .int sp_, .ref rr_])), (rr_, .inl (cI, 152, .inl g_))] zT) (va_Ql (fun (r : Int64) (u : Nat × (Nat → Int32)) => r = lN (u.1) ∧ rootI n_ k_ (w_ * 2 ^ h_) (u.1)) (zB D (ty3 cI cJ cD) (fun (u : Nat × (Nat → Int32)) => [(m_, .inr (4, [.int th_, .int (nI n_), .long le_, .int (nI h_), .ref ab_, .ref be_, .long ca_, .long cb_, .long oc_, .long st_, .int bs_, .int tr_, .int sp_, .ref rr_])), (rr_, .inl (cI, 152, .inl (u.2)))]) (va_A [(m_, .inr (4, [.int th_, .int (nI n_), .long le_, .int (nI h_), .ref ab_, .ref be_, .long ca_, .long cb_, .long oc_, .long st_, .int bs_, .int tr_, .int sp_, .ref rr_])), (rr_, .inl (cI, 152, .inl g_))] sz)) (va_A [(m_, .inr (4, [.int th_, .int (nI n_), .long le_, .int (nI h_), .ref ab_, .ref be_, .long ca_, .long cb_, .long oc_, .long st_, .int bs_, .int tr_, .int sp_, .ref rr_])), (rr_, .inl (cI, 152, .inl g_))] sz)) 0 0 (va_A [(m_, .inr (4, [.int th_, .int (nI n_), .long le_, .int (nI h_), .ref ab_, .ref be_, .long ca_, .long cb_, .long oc_, .long st_, .int bs_, .int tr_, .int sp_, .ref rr_])), (rr_, .inl (cI, 152, .inl g_))] sz) := by
  refine zMet (Qf := fun A => va_Ql (fun (r : Int64) (u : Nat × (Nat → Int32)) => r = lN (u.1) ∧ rootI n_ k_ (w_ * 2 ^ h_) (u.1)) (zB D (ty3 cI cJ cD) (fun (u : Nat × (Nat → Int32)) => [(m_, .inr (4, [.int th_, .int (nI n_), .long le_, .int (nI h_), .ref ab_, .ref be_, .long ca_, .long cb_, .long oc_, .long st_, .int bs_, .int tr_, .int sp_, .ref rr_])), (rr_, .inl (cI, 152, .inl (u.2)))]) A) A) (cc := cX4_lower) (maxL := 12) (ret := (some .long)) (by decide) rfl (Nat.le_of_ble_eq_true rfl) ?_
  intro p e s m args below meth c A ls Q H hargs hQ hHe hx hb hr hml hown hts hlocks hin hP hK hD hA hS hE hAe hl
  have hl : lv_has ls 12 [(0, .ref m_), (1, .int (nI k_)), (2, .long (lN w_))] := hl
  have hall := own_le hw_ hh
  have lp_17 : ∀ (k9_ : Nat) (lo : Nat) (hi : Nat) (g : Nat → Int32) (H : Heap) (locs : List Loc) (ls : Array Slot), hi - lo < k9_ → lo < hi → hi ≤ w_ * 2 ^ h_ + 1 → lo ^ n_ * 2 ^ k_ ≤ (w_ * 2 ^ h_) ^ n_ → (w_ * 2 ^ h_) ^ n_ < hi ^ n_ * 2 ^ k_ →  va_P D cl5 [(m_, .inr (4, [.int th_, .int (nI n_), .long le_, .int (nI h_), .ref ab_, .ref be_, .long ca_, .long cb_, .long oc_, .long st_, .int bs_, .int tr_, .int sp_, .ref rr_])), (rr_, .inl (cI, 152, .inl g))] H → va_D A [(m_, .inr (4, [.int th_, .int (nI n_), .long le_, .int (nI h_), .ref ab_, .ref be_, .long ca_, .long cb_, .long oc_, .long st_, .int bs_, .int tr_, .int sp_, .ref rr_])), (rr_, .inl (cI, 152, .inl g))] → va_S A s.heap H locs → lv_has ls 12 [(0, .ref m_), (1, .int (nI k_)), (4, .long (lN (w_ * 2 ^ h_))), (6, .long (lN lo)), (8, .long (lN hi))] → W p l e rm_X4_lower s m args below meth c H locs 0 0 Q (F0 m 17 ls []) := by
    intro k9_
    induction k9_ with
    | zero => intro lo hi g H locs ls hm; exact absurd hm (Nat.not_lt_zero _)
    | succ k9_ ih =>
      intro lo hi g H locs ls hm  h1 h2 h3 h4 hP hD hS hl
      refine lv_lload hx hb dX4_lower_17 (lv_at hl 4 rfl) ?_
      refine lv_lload hx hb dX4_lower_19 (lv_at hl 3 rfl) ?_
      refine lv_lsub hx hb dX4_lower_21 ?_
      refine zl_ (y := lN (hi - lo)) (lN_sub (by omega)) ?_
      refine lv_lconst (v := lN 1) hx hb dX4_lower_22 rfl ?_
      refine zl_le (tgt := 64) hx hb dX4_lower_23 dX4_lower_24 (by decide) (fun c_24 => ?_) (fun c_24 => ?_)
      · skip
        have c_24 := zjl_le (a := hi - lo) (b := 1) (by omega) (by omega) c_24
        refine lv_lload hx hb dX4_lower_64 (lv_at hl 3 rfl) ?_
        subst hQ
        exact ze_l hx hb hr hlocks (lo, g) (⟨rfl, ⟨h3, by rw [show lo + 1 = hi by omega]; exact h4⟩⟩) hP hK hD hS dX4_lower_66
      · skip
        have c_24 := zjl_nle (a := hi - lo) (b := 1) (by omega) (by omega) c_24
        refine lv_lload hx hb dX4_lower_27 (lv_at hl 3 rfl) ?_
        refine lv_lload hx hb dX4_lower_29 (lv_at hl 4 rfl) ?_
        refine lv_ladd hx hb dX4_lower_31 ?_
        refine zl_ (y := lN (lo + hi)) (lN_add lo hi) ?_
        refine lv_ldc2 (v := 2) hx hb hown (zh (w := .constantLong RX4 50 (2)) hts 2 rfl) dX4_lower_32 ?_
        refine zl_ (y := lN 2) rfl ?_
        refine lv_ldiv hx hb dX4_lower_35 (zlne0 (by omega) (by omega)) ?_
        refine zl_ (y := lN ((lo + hi) / 2)) (pk_lDiv (by omega) (by omega) (by omega)) ?_
        refine lv_lstore (lv' := [(10, .long (lN ((lo + hi) / 2))), (0, .ref m_), (1, .int (nI k_)), (4, .long (lN (w_ * 2 ^ h_))), (6, .long (lN lo)), (8, .long (lN hi))]) hx hb dX4_lower_36 hl (by decide) rfl (fun ls hl => ?_)
        refine lv_aload_n hx hb dX4_lower_38 rfl (lv_at hl 1 rfl) ?_
        refine lv_lload hx hb dX4_lower_39 (lv_at hl 0 rfl) ?_
        refine lv_iload_n hx hb dX4_lower_41 rfl (lv_at hl 2 rfl) ?_
        refine lv_lload hx hb dX4_lower_42 (lv_at hl 3 rfl) ?_
        refine zc_i (wc := [(m_, .inr (4, [.int th_, .int (nI n_), .long le_, .int (nI h_), .ref ab_, .ref be_, .long ca_, .long cb_, .long oc_, .long st_, .int bs_, .int tr_, .int sp_, .ref rr_])), (rr_, .inl (cI, 152, .inl g))]) (wr := []) hP hD hS hA [0, 1] [] rfl rfl (by decide) (by decide) (va_runV (As := [.long (lN ((lo + hi) / 2)), .int (nI k_), .long (lN (w_ * 2 ^ h_))]) (rest := []) ⟨hx, hb, hml, hown, hts⟩ (ct_X4_side l D cI cJ cD m_ ab_ be_ rr_ th_ (nI h_) bs_ tr_ sp_ le_ ca_ cb_ oc_ st_ n_ ((lo + hi) / 2) k_ (w_ * 2 ^ h_) g H.size (by omega) (by omega) (by omega) (by omega)) (cwV 3 hts gX4_lower_X4_side rfl rfl rfl (by decide +kernel) ⟨Nat.le_of_ble_eq_true rfl, Nat.le_of_ble_eq_true rfl⟩) (zPreV (wc := [(m_, .inr (4, [.int th_, .int (nI n_), .long le_, .int (nI h_), .ref ab_, .ref be_, .long ca_, .long cb_, .long oc_, .long st_, .int bs_, .int tr_, .int sp_, .ref rr_])), (rr_, .inl (cI, 152, .inl g))]) hK hP hD 4 0 rfl rfl zTb (fun _ _ _ => trivial)) rfl rfl hl.1 rfl (lv_room (Nat.le_of_ble_eq_true rfl)) dX4_lower_44 ⟨Nat.le_of_ble_eq_true rfl, Nat.le_of_ble_eq_true rfl⟩) (fun r_1 u H locs hw hP hD hS => ?_)
        obtain ⟨g2_2, rfl⟩ : ∃ z, z = u := ⟨_, rfl⟩
        have hP : va_P D cl5 [(m_, .inr (4, [.int th_, .int (nI n_), .long le_, .int (nI h_), .ref ab_, .ref be_, .long ca_, .long cb_, .long oc_, .long st_, .int bs_, .int tr_, .int sp_, .ref rr_])), (rr_, .inl (cI, 152, .inl g2_2))] H := hP.sub [0, 1] rfl
        have hD : va_D A [(m_, .inr (4, [.int th_, .int (nI n_), .long le_, .int (nI h_), .ref ab_, .ref be_, .long ca_, .long cb_, .long oc_, .long st_, .int bs_, .int tr_, .int sp_, .ref rr_])), (rr_, .inl (cI, 152, .inl g2_2))] := hD.sub [0, 1] (by decide) rfl
        have hw : r_1 = cmpI (((lo + hi) / 2) ^ n_ * 2 ^ k_) ((w_ * 2 ^ h_) ^ n_) := hw
        subst hw
        refine lv_if_gt (tgt := 57) hx hb dX4_lower_47 (by decide) (fun c_47 => ?_) (fun c_47 => ?_)
        · skip
          have h47 := cmpI_pos c_47
          refine lv_lload hx hb dX4_lower_57 (lv_at hl 0 rfl) ?_
          refine lv_lstore (lv' := [(8, .long (lN ((lo + hi) / 2))), (10, .long (lN ((lo + hi) / 2))), (0, .ref m_), (1, .int (nI k_)), (4, .long (lN (w_ * 2 ^ h_))), (6, .long (lN lo))]) hx hb dX4_lower_59 hl (by decide) rfl (fun ls hl => ?_)
          refine lv_goto (tgt := 17) hx hb dX4_lower_61 (by decide) ?_
          exact ih lo ((lo + hi) / 2) g2_2 _ _ _ (by omega) (by omega) (by omega) (by first | exact h3 | exact h47) (by first | exact h4 | exact h47) hP hD hS (lv_sub hl [2, 3, 4, 5, 0] rfl)
        · skip
          have h47 := cmpI_npos c_47
          refine lv_lload hx hb dX4_lower_50 (lv_at hl 0 rfl) ?_
          refine lv_lstore (lv' := [(6, .long (lN ((lo + hi) / 2))), (10, .long (lN ((lo + hi) / 2))), (0, .ref m_), (1, .int (nI k_)), (4, .long (lN (w_ * 2 ^ h_))), (8, .long (lN hi))]) hx hb dX4_lower_52 hl (by decide) rfl (fun ls hl => ?_)
          refine lv_goto (tgt := 61) hx hb dX4_lower_54 (by decide) ?_
          refine lv_goto (tgt := 17) hx hb dX4_lower_61 (by decide) ?_
          exact ih ((lo + hi) / 2) hi g2_2 _ _ _ (by omega) (by omega) (by omega) (by first | exact h3 | exact h47) (by first | exact h4 | exact h47) hP hD hS (lv_sub hl [2, 3, 4, 0, 5] rfl)
  refine lv_lload_n hx hb dX4_lower_0 rfl (lv_at hl 2 rfl) ?_
  refine lv_aload_n hx hb dX4_lower_1 rfl (lv_at hl 0 rfl) ?_
  refine va_get (D := D) (ci := 4) (v := .int (nI h_)) (C := RX4) (T := TX4) (N := 14) hx hb hts nX4_lower_4 hown hK hP 0 rfl rfl 3 (by decide) (zh (w := .fieldLink RX4 15 "FretRootsModel" "shift" "I") hts 1 rfl) (fun _ h9 => h9) rfl dX4_lower_2 ?_
  refine lv_lshl (v := lN (w_ * 2 ^ h_)) hx hb dX4_lower_5 (z_shl w_ (by omega)) ?_
  refine lv_lstore (lv' := [(4, .long (lN (w_ * 2 ^ h_))), (0, .ref m_), (1, .int (nI k_)), (2, .long (lN w_))]) hx hb dX4_lower_6 hl (by decide) rfl (fun ls hl => ?_)
  refine lv_lconst (v := lN 0) hx hb dX4_lower_8 rfl ?_
  refine lv_lstore (lv' := [(6, .long (lN 0)), (4, .long (lN (w_ * 2 ^ h_))), (0, .ref m_), (1, .int (nI k_)), (2, .long (lN w_))]) hx hb dX4_lower_9 hl (by decide) rfl (fun ls hl => ?_)
  refine lv_lload hx hb dX4_lower_11 (lv_at hl 1 rfl) ?_
  refine lv_lconst (v := lN 1) hx hb dX4_lower_13 rfl ?_
  refine lv_ladd hx hb dX4_lower_14 ?_
  refine zl_ (y := lN (w_ * 2 ^ h_ + 1)) (lN_add (w_ * 2 ^ h_) 1) ?_
  refine lv_lstore (lv' := [(8, .long (lN (w_ * 2 ^ h_ + 1))), (6, .long (lN 0)), (4, .long (lN (w_ * 2 ^ h_))), (0, .ref m_), (1, .int (nI k_)), (2, .long (lN w_))]) hx hb dX4_lower_15 hl (by decide) rfl (fun ls hl => ?_)
  exact lp_17 (((w_ * 2 ^ h_ + 1) - 0) + 1) 0 (w_ * 2 ^ h_ + 1) g_ _ _ _ (Nat.lt_succ_self _) (by omega) (by omega) (root_0 hn1) (root_top hn1) hP hD hS (lv_sub hl [3, 4, 2, 1, 0] rfl)
abbrev rm_X4_divisor : Room := { frames := 0, cells := 0, slots := 0, locals := 0 }
set_option maxHeartbeats 4000000 in
set_option maxRecDepth 100000 in
/-- divisor -/
theorem ct_X4_divisor (l : Launch) (D : va_G) (cI cJ cD : ClassId) (a_ : Nat) (b_ : Nat) (sz : Nat) (ha : a_ < 2 ^ 63) (hb_ : b_ < 2 ^ 63) : Met l yX4_divisor wsX4_divisor rm_X4_divisor (zP D (ty3 cI cJ cD) [.long (lN a_), .long (lN b_)] sz [] zT) (va_Ql (fun (r : Int64) (u : Unit) => r = lN (Nat.gcd a_ b_)) (zB D (ty3 cI cJ cD) (fun (u : Unit) => []) (va_A [] sz)) (va_A [] sz)) 0 0 (va_A [] sz) := by
  refine zMet (Qf := fun A => va_Ql (fun (r : Int64) (u : Unit) => r = lN (Nat.gcd a_ b_)) (zB D (ty3 cI cJ cD) (fun (u : Unit) => []) A) A) (cc := cX4_divisor) (maxL := 10) (ret := (some .long)) (by decide) rfl (Nat.le_of_ble_eq_true rfl) ?_
  intro p e s m args below meth c A ls Q H hargs hQ hHe hx hb hr hml hown hts hlocks hin hP hK hD hA hS hE hAe hl
  have hl : lv_has ls 10 [(0, .long (lN a_)), (2, .long (lN b_))] := hl
  have lp_6 : ∀ (k9_ : Nat) (x : Nat) (y : Nat) (H : Heap) (locs : List Loc) (ls : Array Slot), y < k9_ → x < 2 ^ 63 → y < 2 ^ 63 → Nat.gcd x y = Nat.gcd a_ b_ →  va_P D cl5 [] H → va_D A [] → va_S A s.heap H locs → lv_has ls 10 [(4, .long (lN x)), (6, .long (lN y))] → W p l e rm_X4_divisor s m args below meth c H locs 0 0 Q (F0 m 6 ls []) := by
    intro k9_
    induction k9_ with
    | zero => intro x y H locs ls hm; exact absurd hm (Nat.not_lt_zero _)
    | succ k9_ ih =>
      intro x y H locs ls hm  h1 h2 h3 hP hD hS hl
      refine lv_lload hx hb dX4_divisor_6 (lv_at hl 1 rfl) ?_
      refine lv_lconst (v := lN 0) hx hb dX4_divisor_8 rfl ?_
      refine zl_eq (tgt := 31) hx hb dX4_divisor_9 dX4_divisor_10 (by decide) (fun c_10 => ?_) (fun c_10 => ?_)
      · skip
        have c_10 := zjl_eq (a := y) (b := 0) (by omega) (by omega) c_10
        refine lv_lload hx hb dX4_divisor_31 (lv_at hl 0 rfl) ?_
        subst hQ
        exact ze_l hx hb hr hlocks () (congrArg lN (by rw [← h3, c_10, Nat.gcd_zero_right])) hP hK hD hS dX4_divisor_33
      · skip
        have c_10 := zjl_ne (a := y) (b := 0) (by omega) (by omega) c_10
        have hlt : x % y < y := Nat.mod_lt _ (by omega)
        refine lv_lload hx hb dX4_divisor_13 (lv_at hl 0 rfl) ?_
        refine lv_lload hx hb dX4_divisor_15 (lv_at hl 1 rfl) ?_
        refine lv_lrem hx hb dX4_divisor_17 (zlne0 (by omega) (by omega)) ?_
        refine zl_ (y := lN (x % y)) (pk_lRem (by omega) (by omega) (by omega)) ?_
        refine lv_lstore (lv' := [(8, .long (lN (x % y))), (4, .long (lN x)), (6, .long (lN y))]) hx hb dX4_divisor_18 hl (by decide) rfl (fun ls hl => ?_)
        refine lv_lload hx hb dX4_divisor_20 (lv_at hl 2 rfl) ?_
        refine lv_lstore (lv' := [(4, .long (lN y)), (8, .long (lN (x % y))), (6, .long (lN y))]) hx hb dX4_divisor_22 hl (by decide) rfl (fun ls hl => ?_)
        refine lv_lload hx hb dX4_divisor_24 (lv_at hl 1 rfl) ?_
        refine lv_lstore (lv' := [(6, .long (lN (x % y))), (4, .long (lN y)), (8, .long (lN (x % y)))]) hx hb dX4_divisor_26 hl (by decide) rfl (fun ls hl => ?_)
        refine lv_goto (tgt := 6) hx hb dX4_divisor_28 (by decide) ?_
        exact ih y (x % y) _ _ _ (by omega) h2 (Nat.lt_trans hlt h2) ((gcd_step x y).trans h3) hP hD hS (lv_sub hl [1, 0] rfl)
  refine lv_lload_n hx hb dX4_divisor_0 rfl (lv_at hl 0 rfl) ?_
  refine lv_lstore (lv' := [(4, .long (lN a_)), (0, .long (lN a_)), (2, .long (lN b_))]) hx hb dX4_divisor_1 hl (by decide) rfl (fun ls hl => ?_)
  refine lv_lload_n hx hb dX4_divisor_3 rfl (lv_at hl 2 rfl) ?_
  refine lv_lstore (lv' := [(6, .long (lN b_)), (4, .long (lN a_)), (0, .long (lN a_)), (2, .long (lN b_))]) hx hb dX4_divisor_4 hl (by decide) rfl (fun ls hl => ?_)
  exact lp_6 (b_ + 1) a_ b_ _ _ _ (Nat.lt_succ_self _) ha hb_ rfl hP hD hS (lv_sub hl [1, 0] rfl)
