theorem z_m1 (x : Int32) : x + Int32.ofInt (-1) = x - nI 1 := by
  rw [Int32.sub_eq_add_neg]; rfl
theorem d_fac (o : Nat) : 1 * 2 ^ (min o 26) < 2 ^ 36 := by
  have := Nat.pow_le_pow_right (n := 2) (by decide) (Nat.min_le_right o 26)
  omega
theorem d_pow (N t o : Nat) (h : o ≤ t) : N * 2 ^ (t - o) * (1 * 2 ^ (min o 26)) = N * 2 ^ (t - (o - 26)) := by
  rw [Nat.one_mul, Nat.mul_assoc, ← Nat.pow_add]
  congr 2
  omega
theorem d_sub (o : Nat) (h : o - 26 = 0) : nI o - nI 26 ≤ 0 := by
  have h1 : o < 27 := by omega
  revert h1
  have : ∀ o, o < 27 → nI o - nI 26 ≤ 0 := by decide +kernel
  exact this o
theorem nX0_append_0 : ∀ w ∈ wsX00, w ∈ wsX0_append := by decide +kernel
abbrev rm_X0_append : Room := { frames := 0, cells := 0, slots := 0, locals := 0 }
set_option maxHeartbeats 4000000 in
set_option maxRecDepth 100000 in
/-- append: the digits of what is open -/
theorem ct_X0_append (l : Launch) (D : va_G) (cI cJ cD : ClassId) (h_ : Nat) (dd_ : Nat) (u_ : Nat) (M_ : Nat) (f_ : Nat → Int64) (sz : Nat) (hu : u_ ≤ 40) (hM : M_ < 67108864 ^ 40) (hL : bigL f_ u_ M_) (hc : M_ / 67108864 ^ u_ < 2 ^ 63) (hn : u_ = 0 ∨ 67108864 ^ (u_ - 1) ≤ M_) : Met l yX0_append wsX0_append rm_X0_append (zP D (ty3 cI cJ cD) [.ref h_, .long (lN (M_ / 67108864 ^ u_))] sz [(h_, .inr (0, [.ref dd_, .int (nI u_)])), (dd_, .inl (cJ, 40, .inr (.inl f_)))] zT) (va_Qv (fun (u : (Nat → Int64) × Nat) => bigL (u.1) (u.2) M_ ∧ bigN (u.2) M_ ∧ (u.2) ≤ 40) (zB D (ty3 cI cJ cD) (fun (u : (Nat → Int64) × Nat) => [(h_, .inr (0, [.ref dd_, .int (nI (u.2))])), (dd_, .inl (cJ, 40, .inr (.inl (u.1))))]) (va_A [(h_, .inr (0, [.ref dd_, .int (nI u_)])), (dd_, .inl (cJ, 40, .inr (.inl f_)))] sz)) (va_A [(h_, .inr (0, [.ref dd_, .int (nI u_)])), (dd_, .inl (cJ, 40, .inr (.inl f_)))] sz)) 0 0 (va_A [(h_, .inr (0, [.ref dd_, .int (nI u_)])), (dd_, .inl (cJ, 40, .inr (.inl f_)))] sz) := by
  refine zMet (Qf := fun A => va_Qv (fun (u : (Nat → Int64) × Nat) => bigL (u.1) (u.2) M_ ∧ bigN (u.2) M_ ∧ (u.2) ≤ 40) (zB D (ty3 cI cJ cD) (fun (u : (Nat → Int64) × Nat) => [(h_, .inr (0, [.ref dd_, .int (nI (u.2))])), (dd_, .inl (cJ, 40, .inr (.inl (u.1))))]) A) A) (cc := cX0_append) (maxL := 6) (ret := none) (by decide) rfl (Nat.le_of_ble_eq_true rfl) ?_
  intro p e s m args below meth c A ls Q H hargs hQ hHe hx hb hr hml hown hts hlocks hin hP hK hD hA hS hE hAe hl
  have hl : lv_has ls 6 [(0, .ref h_), (1, .long (lN (M_ / 67108864 ^ u_)))] := hl
  have lp_8 : ∀ (n_ : Nat) (i : Nat) (f : Nat → Int64) (H : Heap) (locs : List Loc) (ls : Array Slot), 40 - i < n_ → i ≤ 40 → bigL f i M_ → M_ / 67108864 ^ i < 2 ^ 63 → i = 0 ∨ 67108864 ^ (i - 1) ≤ M_ →  va_P D cl5 [(h_, .inr (0, [.ref dd_, .int (nI i)])), (dd_, .inl (cJ, 40, .inr (.inl f)))] H → va_D A [(h_, .inr (0, [.ref dd_, .int (nI i)])), (dd_, .inl (cJ, 40, .inr (.inl f)))] → va_S A s.heap H locs → lv_has ls 6 [(0, .ref h_), (3, .long (lN (M_ / 67108864 ^ i))), (5, .int (nI i))] → W p l e rm_X0_append s m args below meth c H locs 0 0 Q (F0 m 8 ls []) := by
    intro n_
    induction n_ with
    | zero => intro i f H locs ls hm; exact absurd hm (Nat.not_lt_zero _)
    | succ n_ ih =>
      intro i f H locs ls hm  h1 h2 h3 h4 hP hD hS hl
      refine lv_lload_n hx hb dX0_append_8 rfl (lv_at hl 1 rfl) ?_
      refine lv_lconst (v := lN 0) hx hb dX0_append_9 rfl ?_
      refine zl_le (tgt := 55) hx hb dX0_append_10 dX0_append_11 (by decide) (fun c_11 => ?_) (fun c_11 => ?_)
      · skip
        have c_11 := zjl_le (a := M_ / 67108864 ^ i) (b := 0) (by omega) (by omega) c_11
        subst hQ
        exact ze_v hx hb hr hlocks (f, i) (⟨h2, ⟨b_zero c_11, h4⟩, h1⟩) hP hK hD hS dX0_append_55
      · skip
        have c_11 := zjl_nle (a := M_ / 67108864 ^ i) (b := 0) (by omega) (by omega) c_11
        refine lv_iload hx hb dX0_append_14 (lv_at hl 2 rfl) ?_
        refine lv_aload_n hx hb dX0_append_16 rfl (lv_at hl 0 rfl) ?_
        refine va_get (D := D) (ci := 0) (v := .ref dd_) (C := RX0) (T := TX0) (N := 2) hx hb hts nX0_append_0 hown hK hP 0 rfl rfl 0 (by decide) (zh (w := .fieldLink RX0 9 "FretRoots$BigNumbe\x72" "digits" "[J") hts 2 rfl) (fun _ h9 => h9) rfl dX0_append_17 ?_
        refine va_alen hx hb hK hP 1 1 rfl (ty := .long) rfl (v := nI 40) rfl dX0_append_20 ?_
        refine lv_icmp_ge (tgt := 55) hx hb dX0_append_21 (by decide) (fun c_21 => ?_) (fun c_21 => ?_)
        · skip
          have c_21 := zji_le (a := 40) (b := i) (by omega) (by omega) c_21
          exact absurd c_11 (Nat.not_lt.mpr (by rw [show i = 40 by omega, Nat.div_eq_of_lt hM]; exact Nat.le_refl 0))
        · skip
          have c_21 := zji_nle (a := 40) (b := i) (by omega) (by omega) c_21
          refine lv_aload_n hx hb dX0_append_24 rfl (lv_at hl 0 rfl) ?_
          refine va_get (D := D) (ci := 0) (v := .ref dd_) (C := RX0) (T := TX0) (N := 2) hx hb hts nX0_append_0 hown hK hP 0 rfl rfl 0 (by decide) (zh (w := .fieldLink RX0 9 "FretRoots$BigNumbe\x72" "digits" "[J") hts 2 rfl) (fun _ h9 => h9) rfl dX0_append_25 ?_
          refine lv_iload hx hb dX0_append_28 (lv_at hl 2 rfl) ?_
          refine lv_lload_n hx hb dX0_append_30 rfl (lv_at hl 1 rfl) ?_
          refine lv_ldc2 (v := 67108863) hx hb hown (zh (w := .constantLong RX0 30 (67108863)) hts 3 rfl) dX0_append_31 ?_
          refine zl_ (y := lN 67108863) rfl ?_
          refine lv_land hx hb dX0_append_34 ?_
          refine zl_ (y := lN (M_ / 67108864 ^ i % 67108864)) (z_and26 (by omega)) ?_
          refine z_last (j := i) hx hb hK hP hD hS 1 1 rfl rfl (by omega) (by omega) dX0_append_35 (fun H locs hP hD hS => ?_)
          obtain ⟨fA, efA⟩ : ∃ f9, f9 = vp_updL f i (lN (M_ / 67108864 ^ i % 67108864)) := ⟨_, rfl⟩
          have hP : va_P D cl5 [(h_, .inr (0, [.ref dd_, .int (nI i)])), (dd_, .inl (cJ, 40, .inr (.inl fA)))] H := by rw [efA]; exact hP
          have hD : va_D A [(h_, .inr (0, [.ref dd_, .int (nI i)])), (dd_, .inl (cJ, 40, .inr (.inl fA)))] := by rw [efA]; exact hD
          refine lv_lload_n hx hb dX0_append_36 rfl (lv_at hl 1 rfl) ?_
          refine lv_bipush (v := nI 26) hx hb dX0_append_37 (by decide) ?_
          refine lv_lshr (v := lN ((M_ / 67108864 ^ i) / 2 ^ 26)) hx hb dX0_append_39 (z_shr (by omega) (by omega)) ?_
          refine zl_ (y := lN (M_ / 67108864 ^ (i + 1))) (congrArg lN (bdiv M_ i)) ?_
          refine lv_lstore_n (lv' := [(3, .long (lN (M_ / 67108864 ^ (i + 1)))), (0, .ref h_), (5, .int (nI i))]) hx hb dX0_append_40 rfl hl (by decide) rfl (fun ls hl => ?_)
          refine lv_aload_n hx hb dX0_append_41 rfl (lv_at hl 1 rfl) ?_
          refine lv_iload hx hb dX0_append_42 (lv_at hl 2 rfl) ?_
          refine lv_iconst (v := nI 1) hx hb dX0_append_44 (by decide) ?_
          refine lv_iadd hx hb dX0_append_45 ?_
          refine zi_ (y := nI (i + 1)) (nI_add i 1) ?_
          refine va_put (D := D) (ci := 0) (v := .int (nI (i + 1))) (ty := .int) (C := RX0) (T := TX0) (N := 2) hx hb hts nX0_append_0 tyX0 tyX0_ok nmX0 hown hK hP hD hS 0 rfl rfl 1 (by decide) (zh (w := .fieldLink RX0 13 "FretRoots$BigNumbe\x72" "used" "I") hts 1 rfl) (fun _ h9 => h9) rfl (by decide +kernel) rfl rfl (Nat.le_of_ble_eq_true rfl) dX0_append_46 (fun H locs hP hD hS => ?_)
          have hP : va_P D cl5 [(h_, .inr (0, [.ref dd_, .int (nI (i + 1))])), (dd_, .inl (cJ, 40, .inr (.inl fA)))] H := hP
          have hD : va_D A [(h_, .inr (0, [.ref dd_, .int (nI (i + 1))])), (dd_, .inl (cJ, 40, .inr (.inl fA)))] := hD
          refine lv_iinc (v := nI (i + 1)) (lv' := [(5, .int (nI (i + 1))), (3, .long (lN (M_ / 67108864 ^ (i + 1)))), (0, .ref h_)]) hx hb dX0_append_49 hl (k := 2) rfl (z_inc i 1) (by decide) rfl (fun ls hl => ?_)
          refine lv_goto (tgt := 8) hx hb dX0_append_52 (by decide) ?_
          exact ih (i + 1) fA _ _ _ (by omega) (by omega) (by rw [efA]; exact bigL_snoc h2) (Nat.lt_of_le_of_lt (by rw [← bdiv]; exact Nat.div_le_self _ _) h3) (Or.inr (b_le c_11)) hP hD hS (lv_sub hl [2, 1, 0] rfl)
  refine lv_lload_n hx hb dX0_append_0 rfl (lv_at hl 1 rfl) ?_
  refine lv_lstore_n (lv' := [(3, .long (lN (M_ / 67108864 ^ u_))), (0, .ref h_), (1, .long (lN (M_ / 67108864 ^ u_)))]) hx hb dX0_append_1 rfl hl (by decide) rfl (fun ls hl => ?_)
  refine lv_aload_n hx hb dX0_append_2 rfl (lv_at hl 1 rfl) ?_
  refine va_get (D := D) (ci := 0) (v := .int (nI u_)) (C := RX0) (T := TX0) (N := 2) hx hb hts nX0_append_0 hown hK hP 0 rfl rfl 1 (by decide) (zh (w := .fieldLink RX0 13 "FretRoots$BigNumbe\x72" "used" "I") hts 1 rfl) (fun _ h9 => h9) rfl dX0_append_3 ?_
  refine lv_istore (lv' := [(5, .int (nI u_)), (3, .long (lN (M_ / 67108864 ^ u_))), (0, .ref h_), (1, .long (lN (M_ / 67108864 ^ u_)))]) hx hb dX0_append_6 hl (by decide) rfl (fun ls hl => ?_)
  exact lp_8 ((40 - u_) + 1) u_ f_ _ _ _ (Nat.lt_succ_self _) hu hL hc hn hP hD hS (lv_sub hl [2, 1, 0] rfl)
theorem nX0_multiply_0 : ∀ w ∈ wsX00, w ∈ wsX0_multiply := by decide +kernel
abbrev rm_X0_multiply : Room := { frames := 1, cells := 0, slots := 0, locals := 25 }
set_option maxHeartbeats 4000000 in
set_option maxRecDepth 100000 in
/-- multiply: times g -/
theorem ct_X0_multiply (l : Launch) (D : va_G) (cI cJ cD : ClassId) (h_ : Nat) (dd_ : Nat) (u_ : Nat) (N_ : Nat) (g_ : Nat) (f_ : Nat → Int64) (sz : Nat) (hu : u_ ≤ 40) (hL : bigL f_ u_ N_) (hN : bigN u_ N_) (hg1 : 1 ≤ g_) (hg : g_ < 2 ^ 36) (hM : N_ * g_ < 67108864 ^ 40) : Met l yX0_multiply wsX0_multiply rm_X0_multiply (zP D (ty3 cI cJ cD) [.ref h_, .long (lN g_)] sz [(h_, .inr (0, [.ref dd_, .int (nI u_)])), (dd_, .inl (cJ, 40, .inr (.inl f_)))] zT) (va_Qv (fun (u : (Nat → Int64) × Nat) => bigL (u.1) (u.2) (N_ * g_) ∧ bigN (u.2) (N_ * g_) ∧ (u.2) ≤ 40) (zB D (ty3 cI cJ cD) (fun (u : (Nat → Int64) × Nat) => [(h_, .inr (0, [.ref dd_, .int (nI (u.2))])), (dd_, .inl (cJ, 40, .inr (.inl (u.1))))]) (va_A [(h_, .inr (0, [.ref dd_, .int (nI u_)])), (dd_, .inl (cJ, 40, .inr (.inl f_)))] sz)) (va_A [(h_, .inr (0, [.ref dd_, .int (nI u_)])), (dd_, .inl (cJ, 40, .inr (.inl f_)))] sz)) 0 0 (va_A [(h_, .inr (0, [.ref dd_, .int (nI u_)])), (dd_, .inl (cJ, 40, .inr (.inl f_)))] sz) := by
  refine zMet (Qf := fun A => va_Qv (fun (u : (Nat → Int64) × Nat) => bigL (u.1) (u.2) (N_ * g_) ∧ bigN (u.2) (N_ * g_) ∧ (u.2) ≤ 40) (zB D (ty3 cI cJ cD) (fun (u : (Nat → Int64) × Nat) => [(h_, .inr (0, [.ref dd_, .int (nI (u.2))])), (dd_, .inl (cJ, 40, .inr (.inl (u.1))))]) A) A) (cc := cX0_multiply) (maxL := 8) (ret := none) (by decide) rfl (Nat.le_of_ble_eq_true rfl) ?_
  intro p e s m args below meth c A ls Q H hargs hQ hHe hx hb hr hml hown hts hlocks hin hP hK hD hA hS hE hAe hl
  have hl : lv_has ls 8 [(0, .ref h_), (1, .long (lN g_))] := hl
  have lp_5 : ∀ (n_ : Nat) (i : Nat) (f : Nat → Int64) (H : Heap) (locs : List Loc) (ls : Array Slot), u_ - i < n_ → i ≤ u_ → bigM f i u_ N_ g_ →  va_P D cl5 [(h_, .inr (0, [.ref dd_, .int (nI u_)])), (dd_, .inl (cJ, 40, .inr (.inl f)))] H → va_D A [(h_, .inr (0, [.ref dd_, .int (nI u_)])), (dd_, .inl (cJ, 40, .inr (.inl f)))] → va_S A s.heap H locs → lv_has ls 8 [(0, .ref h_), (1, .long (lN g_)), (3, .long (lN (N_ % 67108864 ^ i * g_ / 67108864 ^ i))), (5, .int (nI i))] → W p l e rm_X0_multiply s m args below meth c H locs 0 0 Q (F0 m 5 ls []) := by
    intro n_
    induction n_ with
    | zero => intro i f H locs ls hm; exact absurd hm (Nat.not_lt_zero _)
    | succ n_ ih =>
      intro i f H locs ls hm  h1 h2 hP hD hS hl
      refine lv_iload hx hb dX0_multiply_5 (lv_at hl 3 rfl) ?_
      refine lv_aload_n hx hb dX0_multiply_7 rfl (lv_at hl 0 rfl) ?_
      refine va_get (D := D) (ci := 0) (v := .int (nI u_)) (C := RX0) (T := TX0) (N := 2) hx hb hts nX0_multiply_0 hown hK hP 0 rfl rfl 1 (by decide) (zh (w := .fieldLink RX0 13 "FretRoots$BigNumbe\x72" "used" "I") hts 1 rfl) (fun _ h9 => h9) rfl dX0_multiply_8 ?_
      refine lv_icmp_ge (tgt := 62) hx hb dX0_multiply_11 (by decide) (fun c_11 => ?_) (fun c_11 => ?_)
      · skip
        have c_11 := zji_le (a := u_) (b := i) (by omega) (by omega) c_11
        have hiu : u_ = i := by omega
        subst hiu
        refine lv_aload_n hx hb dX0_multiply_62 rfl (lv_at hl 0 rfl) ?_
        refine lv_lload_n hx hb dX0_multiply_63 rfl (lv_at hl 2 rfl) ?_
        refine zl_ (y := lN (N_ * g_ / 67108864 ^ u_)) (by rw [Nat.mod_eq_of_lt hN.1]) ?_
        refine zc_v (wc := [(h_, .inr (0, [.ref dd_, .int (nI u_)])), (dd_, .inl (cJ, 40, .inr (.inl f)))]) (wr := []) hP hD hS hA [0, 1] [] rfl rfl (by decide) (by decide) (va_runV (As := [.long (lN (N_ * g_ / 67108864 ^ u_))]) (rest := []) ⟨hx, hb, hml, hown, hts⟩ (ct_X0_append l D cI cJ cD h_ dd_ u_ (N_ * g_) f H.size hu hM h2.1 (bigN_carry hN hg) (bigN_prod hN hg1)) (cwV 1 hts gX0_multiply_X0_append rfl rfl rfl (by decide +kernel) ⟨Nat.le_of_ble_eq_true rfl, Nat.le_of_ble_eq_true rfl⟩) (zPreV (wc := [(h_, .inr (0, [.ref dd_, .int (nI u_)])), (dd_, .inl (cJ, 40, .inr (.inl f)))]) hK hP hD 0 0 rfl rfl zTb (fun _ _ _ => trivial)) rfl rfl hl.1 rfl (lv_room (Nat.le_of_ble_eq_true rfl)) dX0_multiply_64 ⟨Nat.le_of_ble_eq_true rfl, Nat.le_of_ble_eq_true rfl⟩) (fun u H locs hw hP hD hS => ?_)
        obtain ⟨f2_2, u2_3⟩ := u
        have hP : va_P D cl5 [(h_, .inr (0, [.ref dd_, .int (nI u2_3)])), (dd_, .inl (cJ, 40, .inr (.inl f2_2)))] H := hP.sub [0, 1] rfl
        have hD : va_D A [(h_, .inr (0, [.ref dd_, .int (nI u2_3)])), (dd_, .inl (cJ, 40, .inr (.inl f2_2)))] := hD.sub [0, 1] (by decide) rfl
        have hw : bigL f2_2 u2_3 (N_ * g_) ∧ bigN u2_3 (N_ * g_) ∧ u2_3 ≤ 40 := hw
        obtain ⟨hL_64, hN_64, hu_64⟩ := hw
        subst hQ
        exact ze_v hx hb hr hlocks (f2_2, u2_3) (⟨hL_64, hN_64, hu_64⟩) hP hK hD hS dX0_multiply_67
      · skip
        have c_11 := zji_nle (a := u_) (b := i) (by omega) (by omega) c_11
        refine lv_iload hx hb dX0_multiply_14 (lv_at hl 3 rfl) ?_
        refine lv_aload_n hx hb dX0_multiply_16 rfl (lv_at hl 0 rfl) ?_
        refine va_get (D := D) (ci := 0) (v := .ref dd_) (C := RX0) (T := TX0) (N := 2) hx hb hts nX0_multiply_0 hown hK hP 0 rfl rfl 0 (by decide) (zh (w := .fieldLink RX0 9 "FretRoots$BigNumbe\x72" "digits" "[J") hts 2 rfl) (fun _ h9 => h9) rfl dX0_multiply_17 ?_
        refine va_alen hx hb hK hP 1 1 rfl (ty := .long) rfl (v := nI 40) rfl dX0_multiply_20 ?_
        refine lv_icmp_ge (tgt := 62) hx hb dX0_multiply_21 (by decide) (fun c_21 => ?_) (fun c_21 => ?_)
        · skip
          have c_21 := zji_le (a := 40) (b := i) (by omega) (by omega) c_21
          omega
        · skip
          have c_21 := zji_nle (a := 40) (b := i) (by omega) (by omega) c_21
          have hb1 := b_lt1 N_ g_ i hg
          have hb2 := b_lt N_ g_ i hg
          have hb3 := b_step N_ g_ i
          refine lv_aload_n hx hb dX0_multiply_24 rfl (lv_at hl 0 rfl) ?_
          refine va_get (D := D) (ci := 0) (v := .ref dd_) (C := RX0) (T := TX0) (N := 2) hx hb hts nX0_multiply_0 hown hK hP 0 rfl rfl 0 (by decide) (zh (w := .fieldLink RX0 9 "FretRoots$BigNumbe\x72" "digits" "[J") hts 2 rfl) (fun _ h9 => h9) rfl dX0_multiply_25 ?_
          refine lv_iload hx hb dX0_multiply_28 (lv_at hl 3 rfl) ?_
          refine z_lald (j := i) hx hb hK hP 1 1 rfl rfl (by omega) (by omega) dX0_multiply_30 ?_
          refine zl_ (y := lN (N_ / 67108864 ^ i % 67108864)) (h2.2 i (Nat.le_refl _) c_11) ?_
          refine lv_lload_n hx hb dX0_multiply_31 rfl (lv_at hl 1 rfl) ?_
          refine lv_lmul hx hb dX0_multiply_32 ?_
          refine zl_ (y := lN ((N_ / 67108864 ^ i % 67108864) * g_)) (lN_mul (N_ / 67108864 ^ i % 67108864) g_) ?_
          refine lv_lload_n hx hb dX0_multiply_33 rfl (lv_at hl 2 rfl) ?_
          refine lv_ladd hx hb dX0_multiply_34 ?_
          refine zl_ (y := lN ((N_ / 67108864 ^ i % 67108864) * g_ + (N_ % 67108864 ^ i * g_ / 67108864 ^ i))) (lN_add ((N_ / 67108864 ^ i % 67108864) * g_) (N_ % 67108864 ^ i * g_ / 67108864 ^ i)) ?_
          refine zl_ (y := lN (N_ % 67108864 ^ (i + 1) * g_ / 67108864 ^ i)) (congrArg lN hb3) ?_
          refine lv_lstore (lv' := [(6, .long (lN (N_ % 67108864 ^ (i + 1) * g_ / 67108864 ^ i))), (0, .ref h_), (1, .long (lN g_)), (3, .long (lN (N_ % 67108864 ^ i * g_ / 67108864 ^ i))), (5, .int (nI i))]) hx hb dX0_multiply_35 hl (by decide) rfl (fun ls hl => ?_)
          refine lv_aload_n hx hb dX0_multiply_37 rfl (lv_at hl 1 rfl) ?_
          refine va_get (D := D) (ci := 0) (v := .ref dd_) (C := RX0) (T := TX0) (N := 2) hx hb hts nX0_multiply_0 hown hK hP 0 rfl rfl 0 (by decide) (zh (w := .fieldLink RX0 9 "FretRoots$BigNumbe\x72" "digits" "[J") hts 2 rfl) (fun _ h9 => h9) rfl dX0_multiply_38 ?_
          refine lv_iload hx hb dX0_multiply_41 (lv_at hl 4 rfl) ?_
          refine lv_lload hx hb dX0_multiply_43 (lv_at hl 0 rfl) ?_
          refine lv_ldc2 (v := 67108863) hx hb hown (zh (w := .constantLong RX0 30 (67108863)) hts 3 rfl) dX0_multiply_45 ?_
          refine zl_ (y := lN 67108863) rfl ?_
          refine lv_land hx hb dX0_multiply_48 ?_
          refine zl_ (y := lN (N_ * g_ / 67108864 ^ i % 67108864)) ((z_and26 (by omega)).trans (congrArg lN (b_low N_ g_ i))) ?_
          refine z_last (j := i) hx hb hK hP hD hS 1 1 rfl rfl (by omega) (by omega) dX0_multiply_49 (fun H locs hP hD hS => ?_)
          obtain ⟨fA, efA⟩ : ∃ f9, f9 = vp_updL f i (lN (N_ * g_ / 67108864 ^ i % 67108864)) := ⟨_, rfl⟩
          have hP : va_P D cl5 [(h_, .inr (0, [.ref dd_, .int (nI u_)])), (dd_, .inl (cJ, 40, .inr (.inl fA)))] H := by rw [efA]; exact hP
          have hD : va_D A [(h_, .inr (0, [.ref dd_, .int (nI u_)])), (dd_, .inl (cJ, 40, .inr (.inl fA)))] := by rw [efA]; exact hD
          refine lv_lload hx hb dX0_multiply_50 (lv_at hl 0 rfl) ?_
          refine lv_bipush (v := nI 26) hx hb dX0_multiply_52 (by decide) ?_
          refine lv_lshr (v := lN ((N_ % 67108864 ^ (i + 1) * g_ / 67108864 ^ i) / 2 ^ 26)) hx hb dX0_multiply_54 (z_shr (by omega) (by omega)) ?_
          refine zl_ (y := lN (N_ % 67108864 ^ (i + 1) * g_ / 67108864 ^ (i + 1))) (congrArg lN (bdiv _ i)) ?_
          refine lv_lstore_n (lv' := [(3, .long (lN (N_ % 67108864 ^ (i + 1) * g_ / 67108864 ^ (i + 1)))), (6, .long (lN (N_ % 67108864 ^ (i + 1) * g_ / 67108864 ^ i))), (0, .ref h_), (1, .long (lN g_)), (5, .int (nI i))]) hx hb dX0_multiply_55 rfl hl (by decide) rfl (fun ls hl => ?_)
          refine lv_iinc (v := nI (i + 1)) (lv' := [(5, .int (nI (i + 1))), (3, .long (lN (N_ % 67108864 ^ (i + 1) * g_ / 67108864 ^ (i + 1)))), (6, .long (lN (N_ % 67108864 ^ (i + 1) * g_ / 67108864 ^ i))), (0, .ref h_), (1, .long (lN g_))]) hx hb dX0_multiply_56 hl (k := 4) rfl (z_inc i 1) (by decide) rfl (fun ls hl => ?_)
          refine lv_goto (tgt := 5) hx hb dX0_multiply_59 (by decide) ?_
          exact ih (i + 1) fA _ _ _ (by omega) (by omega) (by rw [efA]; exact bigM_snoc h2) hP hD hS (lv_sub hl [3, 4, 1, 0] rfl)
  refine lv_lconst (v := lN 0) hx hb dX0_multiply_0 rfl ?_
  refine zl_ (y := lN (N_ % 67108864 ^ 0 * g_ / 67108864 ^ 0)) (by simp [Nat.mod_one]) ?_
  refine lv_lstore_n (lv' := [(3, .long (lN (N_ % 67108864 ^ 0 * g_ / 67108864 ^ 0))), (0, .ref h_), (1, .long (lN g_))]) hx hb dX0_multiply_1 rfl hl (by decide) rfl (fun ls hl => ?_)
  refine lv_iconst (v := nI 0) hx hb dX0_multiply_2 (by decide) ?_
  refine lv_istore (lv' := [(5, .int (nI 0)), (3, .long (lN (N_ % 67108864 ^ 0 * g_ / 67108864 ^ 0))), (0, .ref h_), (1, .long (lN g_))]) hx hb dX0_multiply_3 hl (by decide) rfl (fun ls hl => ?_)
  exact lp_5 ((u_ - 0) + 1) 0 f_ _ _ _ (Nat.lt_succ_self _) (Nat.zero_le _) (⟨fun j hj => absurd hj (Nat.not_lt_zero _), fun j _ hj => hL j hj⟩) hP hD hS (lv_sub hl [2, 3, 1, 0] rfl)
theorem nX0_setPower_0 : ∀ w ∈ wsX00, w ∈ wsX0_setPower := by decide +kernel
abbrev rm_X0_setPower : Room := { frames := 2, cells := 0, slots := 0, locals := 52 }
set_option maxHeartbeats 4000000 in
set_option maxRecDepth 100000 in
/-- setPower -/
theorem ct_X0_setPower (l : Launch) (D : va_G) (cI cJ cD : ClassId) (h_ : Nat) (dd_ : Nat) (b_ : Nat) (e_ : Nat) (w_ : Int32) (f_ : Nat → Int64) (sz : Nat) (hb1 : 1 ≤ b_) (hb2 : b_ < 2 ^ 36) (he : e_ < 2 ^ 31) (hM : b_ ^ e_ < 67108864 ^ 40) : Met l yX0_setPower wsX0_setPower rm_X0_setPower (zP D (ty3 cI cJ cD) [.ref h_, .long (lN b_), .int (nI e_)] sz [(h_, .inr (0, [.ref dd_, .int w_])), (dd_, .inl (cJ, 40, .inr (.inl f_)))] zT) (va_Qv (fun (u : (Nat → Int64) × Nat) => bigL (u.1) (u.2) (b_ ^ e_) ∧ bigN (u.2) (b_ ^ e_) ∧ (u.2) ≤ 40) (zB D (ty3 cI cJ cD) (fun (u : (Nat → Int64) × Nat) => [(h_, .inr (0, [.ref dd_, .int (nI (u.2))])), (dd_, .inl (cJ, 40, .inr (.inl (u.1))))]) (va_A [(h_, .inr (0, [.ref dd_, .int w_])), (dd_, .inl (cJ, 40, .inr (.inl f_)))] sz)) (va_A [(h_, .inr (0, [.ref dd_, .int w_])), (dd_, .inl (cJ, 40, .inr (.inl f_)))] sz)) 0 0 (va_A [(h_, .inr (0, [.ref dd_, .int w_])), (dd_, .inl (cJ, 40, .inr (.inl f_)))] sz) := by
  refine zMet (Qf := fun A => va_Qv (fun (u : (Nat → Int64) × Nat) => bigL (u.1) (u.2) (b_ ^ e_) ∧ bigN (u.2) (b_ ^ e_) ∧ (u.2) ≤ 40) (zB D (ty3 cI cJ cD) (fun (u : (Nat → Int64) × Nat) => [(h_, .inr (0, [.ref dd_, .int (nI (u.2))])), (dd_, .inl (cJ, 40, .inr (.inl (u.1))))]) A) A) (cc := cX0_setPower) (maxL := 5) (ret := none) (by decide) rfl (Nat.le_of_ble_eq_true rfl) ?_
  intro p e s m args below meth c A ls Q H hargs hQ hHe hx hb hr hml hown hts hlocks hin hP hK hD hA hS hE hAe hl
  have hl : lv_has ls 5 [(0, .ref h_), (1, .long (lN b_)), (3, .int (nI e_))] := hl
  have lp_13 : ∀ (n_ : Nat) (i : Nat) (f : Nat → Int64) (u : Nat) (H : Heap) (locs : List Loc) (ls : Array Slot), e_ - i < n_ → i ≤ e_ → bigL f u (b_ ^ i) → bigN u (b_ ^ i) → u ≤ 40 →  va_P D cl5 [(h_, .inr (0, [.ref dd_, .int (nI u)])), (dd_, .inl (cJ, 40, .inr (.inl f)))] H → va_D A [(h_, .inr (0, [.ref dd_, .int (nI u)])), (dd_, .inl (cJ, 40, .inr (.inl f)))] → va_S A s.heap H locs → lv_has ls 5 [(0, .ref h_), (1, .long (lN b_)), (3, .int (nI e_)), (4, .int (nI i))] → W p l e rm_X0_setPower s m args below meth c H locs 0 0 Q (F0 m 13 ls []) := by
    intro n_
    induction n_ with
    | zero => intro i f u H locs ls hm; exact absurd hm (Nat.not_lt_zero _)
    | succ n_ ih =>
      intro i f u H locs ls hm  h1 h2 h3 h4 hP hD hS hl
      refine lv_iload hx hb dX0_setPower_13 (lv_at hl 3 rfl) ?_
      refine lv_iload_n hx hb dX0_setPower_15 rfl (lv_at hl 2 rfl) ?_
      refine lv_icmp_ge (tgt := 30) hx hb dX0_setPower_16 (by decide) (fun c_16 => ?_) (fun c_16 => ?_)
      · skip
        have c_16 := zji_le (a := e_) (b := i) (by omega) (by omega) c_16
        have hie : e_ = i := by omega
        subst hie
        subst hQ
        exact ze_v hx hb hr hlocks (f, u) (⟨h2, h3, h4⟩) hP hK hD hS dX0_setPower_30
      · skip
        have c_16 := zji_nle (a := e_) (b := i) (by omega) (by omega) c_16
        refine lv_aload_n hx hb dX0_setPower_19 rfl (lv_at hl 0 rfl) ?_
        refine lv_lload_n hx hb dX0_setPower_20 rfl (lv_at hl 1 rfl) ?_
        refine zc_v (wc := [(h_, .inr (0, [.ref dd_, .int (nI u)])), (dd_, .inl (cJ, 40, .inr (.inl f)))]) (wr := []) hP hD hS hA [0, 1] [] rfl rfl (by decide) (by decide) (va_runV (As := [.long (lN b_)]) (rest := []) ⟨hx, hb, hml, hown, hts⟩ (ct_X0_multiply l D cI cJ cD h_ dd_ u (b_ ^ i) b_ f H.size h4 h2 h3 hb1 hb2 (Nat.lt_of_le_of_lt (Nat.pow_le_pow_right hb1 (show i + 1 ≤ e_ by omega)) hM)) (cwV 1 hts gX0_setPower_X0_multiply rfl rfl rfl (by decide +kernel) ⟨Nat.le_of_ble_eq_true rfl, Nat.le_of_ble_eq_true rfl⟩) (zPreV (wc := [(h_, .inr (0, [.ref dd_, .int (nI u)])), (dd_, .inl (cJ, 40, .inr (.inl f)))]) hK hP hD 0 0 rfl rfl zTb (fun _ _ _ => trivial)) rfl rfl hl.1 rfl (lv_room (Nat.le_of_ble_eq_true rfl)) dX0_setPower_21 ⟨Nat.le_of_ble_eq_true rfl, Nat.le_of_ble_eq_true rfl⟩) (fun u H locs hw hP hD hS => ?_)
        obtain ⟨f2_2, u2_3⟩ := u
        have hP : va_P D cl5 [(h_, .inr (0, [.ref dd_, .int (nI u2_3)])), (dd_, .inl (cJ, 40, .inr (.inl f2_2)))] H := hP.sub [0, 1] rfl
        have hD : va_D A [(h_, .inr (0, [.ref dd_, .int (nI u2_3)])), (dd_, .inl (cJ, 40, .inr (.inl f2_2)))] := hD.sub [0, 1] (by decide) rfl
        have hw : bigL f2_2 u2_3 ((b_ ^ i) * b_) ∧ bigN u2_3 ((b_ ^ i) * b_) ∧ u2_3 ≤ 40 := hw
        obtain ⟨hL_21, hN_21, hu_21⟩ := hw
        refine lv_iinc (v := nI (i + 1)) (lv' := [(4, .int (nI (i + 1))), (0, .ref h_), (1, .long (lN b_)), (3, .int (nI e_))]) hx hb dX0_setPower_24 hl (k := 3) rfl (z_inc i 1) (by decide) rfl (fun ls hl => ?_)
        refine lv_goto (tgt := 13) hx hb dX0_setPower_27 (by decide) ?_
        exact ih (i + 1) f2_2 u2_3 _ _ _ (by omega) (by omega) hL_21 hN_21 hu_21 hP hD hS (lv_sub hl [1, 2, 3, 0] rfl)
  refine lv_aload_n hx hb dX0_setPower_0 rfl (lv_at hl 0 rfl) ?_
  refine lv_iconst (v := nI 0) hx hb dX0_setPower_1 (by decide) ?_
  refine va_put (D := D) (ci := 0) (v := .int (nI 0)) (ty := .int) (C := RX0) (T := TX0) (N := 2) hx hb hts nX0_setPower_0 tyX0 tyX0_ok nmX0 hown hK hP hD hS 0 rfl rfl 1 (by decide) (zh (w := .fieldLink RX0 13 "FretRoots$BigNumbe\x72" "used" "I") hts 1 rfl) (fun _ h9 => h9) rfl (by decide +kernel) rfl rfl (Nat.le_of_ble_eq_true rfl) dX0_setPower_2 (fun H locs hP hD hS => ?_)
  have hP : va_P D cl5 [(h_, .inr (0, [.ref dd_, .int (nI 0)])), (dd_, .inl (cJ, 40, .inr (.inl f_)))] H := hP
  have hD : va_D A [(h_, .inr (0, [.ref dd_, .int (nI 0)])), (dd_, .inl (cJ, 40, .inr (.inl f_)))] := hD
  refine lv_aload_n hx hb dX0_setPower_5 rfl (lv_at hl 0 rfl) ?_
  refine lv_lconst (v := lN 1) hx hb dX0_setPower_6 rfl ?_
  refine zl_ (y := lN (1 / 67108864 ^ 0)) (rfl) ?_
  refine zc_v (wc := [(h_, .inr (0, [.ref dd_, .int (nI 0)])), (dd_, .inl (cJ, 40, .inr (.inl f_)))]) (wr := []) hP hD hS hA [0, 1] [] rfl rfl (by decide) (by decide) (va_runV (As := [.long (lN (1 / 67108864 ^ 0))]) (rest := []) ⟨hx, hb, hml, hown, hts⟩ (ct_X0_append l D cI cJ cD h_ dd_ 0 1 f_ H.size (Nat.zero_le _) (by decide) (fun j h => absurd h (Nat.not_lt_zero _)) (by decide) (Or.inl rfl)) (cwV 1 hts gX0_setPower_X0_append rfl rfl rfl (by decide +kernel) ⟨Nat.le_of_ble_eq_true rfl, Nat.le_of_ble_eq_true rfl⟩) (zPreV (wc := [(h_, .inr (0, [.ref dd_, .int (nI 0)])), (dd_, .inl (cJ, 40, .inr (.inl f_)))]) hK hP hD 0 0 rfl rfl zTb (fun _ _ _ => trivial)) rfl rfl hl.1 rfl (lv_room (Nat.le_of_ble_eq_true rfl)) dX0_setPower_7 ⟨Nat.le_of_ble_eq_true rfl, Nat.le_of_ble_eq_true rfl⟩) (fun u H locs hw hP hD hS => ?_)
  obtain ⟨f2_5, u2_6⟩ := u
  have hP : va_P D cl5 [(h_, .inr (0, [.ref dd_, .int (nI u2_6)])), (dd_, .inl (cJ, 40, .inr (.inl f2_5)))] H := hP.sub [0, 1] rfl
  have hD : va_D A [(h_, .inr (0, [.ref dd_, .int (nI u2_6)])), (dd_, .inl (cJ, 40, .inr (.inl f2_5)))] := hD.sub [0, 1] (by decide) rfl
  have hw : bigL f2_5 u2_6 1 ∧ bigN u2_6 1 ∧ u2_6 ≤ 40 := hw
  obtain ⟨hL_7, hN_7, hu_7⟩ := hw
  refine lv_iconst (v := nI 0) hx hb dX0_setPower_10 (by decide) ?_
  refine lv_istore (lv' := [(4, .int (nI 0)), (0, .ref h_), (1, .long (lN b_)), (3, .int (nI e_))]) hx hb dX0_setPower_11 hl (by decide) rfl (fun ls hl => ?_)
  exact lp_13 ((e_ - 0) + 1) 0 f2_5 u2_6 _ _ _ (Nat.lt_succ_self _) (Nat.zero_le _) hL_7 hN_7 hu_7 hP hD hS (lv_sub hl [1, 2, 3, 0] rfl)
abbrev rm_X0_doubleTimes : Room := { frames := 2, cells := 0, slots := 0, locals := 52 }
set_option maxHeartbeats 4000000 in
set_option maxRecDepth 100000 in
/-- doubleTimes -/
theorem ct_X0_doubleTimes (l : Launch) (D : va_G) (cI cJ cD : ClassId) (h_ : Nat) (dd_ : Nat) (u_ : Nat) (N_ : Nat) (t_ : Nat) (f_ : Nat → Int64) (sz : Nat) (hu : u_ ≤ 40) (hL : bigL f_ u_ N_) (hN : bigN u_ N_) (ht : t_ < 2 ^ 31) (hM : N_ * 2 ^ t_ < 67108864 ^ 40) : Met l yX0_doubleTimes wsX0_doubleTimes rm_X0_doubleTimes (zP D (ty3 cI cJ cD) [.ref h_, .int (nI t_)] sz [(h_, .inr (0, [.ref dd_, .int (nI u_)])), (dd_, .inl (cJ, 40, .inr (.inl f_)))] zT) (va_Qv (fun (u : (Nat → Int64) × Nat) => bigL (u.1) (u.2) (N_ * 2 ^ t_) ∧ bigN (u.2) (N_ * 2 ^ t_) ∧ (u.2) ≤ 40) (zB D (ty3 cI cJ cD) (fun (u : (Nat → Int64) × Nat) => [(h_, .inr (0, [.ref dd_, .int (nI (u.2))])), (dd_, .inl (cJ, 40, .inr (.inl (u.1))))]) (va_A [(h_, .inr (0, [.ref dd_, .int (nI u_)])), (dd_, .inl (cJ, 40, .inr (.inl f_)))] sz)) (va_A [(h_, .inr (0, [.ref dd_, .int (nI u_)])), (dd_, .inl (cJ, 40, .inr (.inl f_)))] sz)) 0 0 (va_A [(h_, .inr (0, [.ref dd_, .int (nI u_)])), (dd_, .inl (cJ, 40, .inr (.inl f_)))] sz) := by
  refine zMet (Qf := fun A => va_Qv (fun (u : (Nat → Int64) × Nat) => bigL (u.1) (u.2) (N_ * 2 ^ t_) ∧ bigN (u.2) (N_ * 2 ^ t_) ∧ (u.2) ≤ 40) (zB D (ty3 cI cJ cD) (fun (u : (Nat → Int64) × Nat) => [(h_, .inr (0, [.ref dd_, .int (nI (u.2))])), (dd_, .inl (cJ, 40, .inr (.inl (u.1))))]) A) A) (cc := cX0_doubleTimes) (maxL := 3) (ret := none) (by decide) rfl (Nat.le_of_ble_eq_true rfl) ?_
  intro p e s m args below meth c A ls Q H hargs hQ hHe hx hb hr hml hown hts hlocks hin hP hK hD hA hS hE hAe hl
  have hl : lv_has ls 3 [(0, .ref h_), (1, .int (nI t_))] := hl
  have lp_2 : ∀ (n_ : Nat) (o : Nat) (x : Int32) (f : Nat → Int64) (u : Nat) (H : Heap) (locs : List Loc) (ls : Array Slot), o < n_ → o ≤ t_ → (0 < o → x = nI o) → (o = 0 → x ≤ 0) → bigL f u (N_ * 2 ^ (t_ - o)) → bigN u (N_ * 2 ^ (t_ - o)) → u ≤ 40 →  va_P D cl5 [(h_, .inr (0, [.ref dd_, .int (nI u)])), (dd_, .inl (cJ, 40, .inr (.inl f)))] H → va_D A [(h_, .inr (0, [.ref dd_, .int (nI u)])), (dd_, .inl (cJ, 40, .inr (.inl f)))] → va_S A s.heap H locs → lv_has ls 3 [(0, .ref h_), (2, .int x)] → W p l e rm_X0_doubleTimes s m args below meth c H locs 0 0 Q (F0 m 2 ls []) := by
    intro n_
    induction n_ with
    | zero => intro o x f u H locs ls hm; exact absurd hm (Nat.not_lt_zero _)
    | succ n_ ih =>
      intro o x f u H locs ls hm  h0 hx1 hx2 h2 h3 h4 hP hD hS hl
      refine lv_iload_n hx hb dX0_doubleTimes_2 rfl (lv_at hl 1 rfl) ?_
      refine lv_if_le (tgt := 26) hx hb dX0_doubleTimes_3 (by decide) (fun c_3 => ?_) (fun c_3 => ?_)
      · skip
        have ho : o = 0 := Nat.eq_zero_of_not_pos (fun q => absurd c_3 (by rw [hx1 q]; exact nI_nle q (by omega)))
        subst ho
        subst hQ
        exact ze_v hx hb hr hlocks (f, u) (⟨h2, h3, h4⟩) hP hK hD hS dX0_doubleTimes_26
      · skip
        have ho : 0 < o := Nat.pos_of_ne_zero (fun q => c_3 (hx2 q))
        have ex := hx1 ho
        refine lv_aload_n hx hb dX0_doubleTimes_6 rfl (lv_at hl 0 rfl) ?_
        refine lv_lconst (v := lN 1) hx hb dX0_doubleTimes_7 rfl ?_
        refine lv_iload_n hx hb dX0_doubleTimes_8 rfl (lv_at hl 1 rfl) ?_
        refine zi_ (y := nI o) (ex) ?_
        refine lv_bipush (v := nI 26) hx hb dX0_doubleTimes_9 (by decide) ?_
        refine va_mmin hx hb (hml.trans hl.1.symm) hown (zh (w := .methodLink RX0 24 Lib.Math.min.name) hts 1 rfl) (zh (w := .static Lib.Math.min.name) hts 2 rfl) (zh (w := .initialized "java/lang/Math") hts 3 rfl) (zh (w := .code Lib.Math.min.name Lib.Math.min.code 2 (some .int)) hts 4 rfl) (Nat.le_of_ble_eq_true rfl) (Nat.le_of_ble_eq_true rfl) (Nat.le_of_ble_eq_true rfl) (Nat.le_of_ble_eq_true rfl) dX0_doubleTimes_11 ?_
        refine zi_ (y := nI (min o 26)) (z_min o 26 (by omega) (by decide)) ?_
        refine lv_lshl (v := lN (1 * 2 ^ (min o 26))) hx hb dX0_doubleTimes_14 (z_shl 1 (by omega)) ?_
        refine zc_v (wc := [(h_, .inr (0, [.ref dd_, .int (nI u)])), (dd_, .inl (cJ, 40, .inr (.inl f)))]) (wr := []) hP hD hS hA [0, 1] [] rfl rfl (by decide) (by decide) (va_runV (As := [.long (lN (1 * 2 ^ (min o 26)))]) (rest := []) ⟨hx, hb, hml, hown, hts⟩ (ct_X0_multiply l D cI cJ cD h_ dd_ u (N_ * 2 ^ (t_ - o)) (1 * 2 ^ (min o 26)) f H.size h4 h2 h3 (by rw [Nat.one_mul]; exact Nat.pow_pos (by decide)) (d_fac o) (by rw [d_pow N_ t_ o h0]; exact Nat.lt_of_le_of_lt (Nat.mul_le_mul_left _ (Nat.pow_le_pow_right (by decide) (by omega))) hM)) (cwV 1 hts gX0_doubleTimes_X0_multiply rfl rfl rfl (by decide +kernel) ⟨Nat.le_of_ble_eq_true rfl, Nat.le_of_ble_eq_true rfl⟩) (zPreV (wc := [(h_, .inr (0, [.ref dd_, .int (nI u)])), (dd_, .inl (cJ, 40, .inr (.inl f)))]) hK hP hD 0 0 rfl rfl zTb (fun _ _ _ => trivial)) rfl rfl hl.1 rfl (lv_room (Nat.le_of_ble_eq_true rfl)) dX0_doubleTimes_15 ⟨Nat.le_of_ble_eq_true rfl, Nat.le_of_ble_eq_true rfl⟩) (fun u H locs hw hP hD hS => ?_)
        obtain ⟨f2_2, u2_3⟩ := u
        have hP : va_P D cl5 [(h_, .inr (0, [.ref dd_, .int (nI u2_3)])), (dd_, .inl (cJ, 40, .inr (.inl f2_2)))] H := hP.sub [0, 1] rfl
        have hD : va_D A [(h_, .inr (0, [.ref dd_, .int (nI u2_3)])), (dd_, .inl (cJ, 40, .inr (.inl f2_2)))] := hD.sub [0, 1] (by decide) rfl
        have hw : bigL f2_2 u2_3 ((N_ * 2 ^ (t_ - o)) * (1 * 2 ^ (min o 26))) ∧ bigN u2_3 ((N_ * 2 ^ (t_ - o)) * (1 * 2 ^ (min o 26))) ∧ u2_3 ≤ 40 := hw
        obtain ⟨hL_15, hN_15, hu_15⟩ := hw
        refine lv_iload_n hx hb dX0_doubleTimes_18 rfl (lv_at hl 1 rfl) ?_
        refine zi_ (y := nI o) (ex) ?_
        refine lv_bipush (v := nI 26) hx hb dX0_doubleTimes_19 (by decide) ?_
        refine lv_isub hx hb dX0_doubleTimes_21 ?_
        refine lv_istore_n (lv' := [(2, .int ((nI o) - (nI 26))), (0, .ref h_)]) hx hb dX0_doubleTimes_22 rfl hl (by decide) rfl (fun ls hl => ?_)
        refine lv_goto (tgt := 2) hx hb dX0_doubleTimes_23 (by decide) ?_
        exact ih (o - 26) ((nI o) - (nI 26)) f2_2 u2_3 _ _ _ (by omega) (by omega) (fun q => pk_sub (by omega)) (fun q => d_sub o (by omega)) (by rw [d_pow N_ t_ o h0] at hL_15; exact hL_15) (by rw [d_pow N_ t_ o h0] at hN_15; exact hN_15) hu_15 hP hD hS (lv_sub hl [1, 0] rfl)
  refine lv_iload_n hx hb dX0_doubleTimes_0 rfl (lv_at hl 1 rfl) ?_
  refine lv_istore_n (lv' := [(2, .int (nI t_)), (0, .ref h_), (1, .int (nI t_))]) hx hb dX0_doubleTimes_1 rfl hl (by decide) rfl (fun ls hl => ?_)
  exact lp_2 (t_ + 1) t_ (nI t_) f_ u_ _ _ _ (Nat.lt_succ_self _) (Nat.le_refl _) (fun _ => rfl) (fun q => by rw [q]; decide) (by rw [Nat.sub_self, Nat.pow_zero, Nat.mul_one]; exact hL) (by rw [Nat.sub_self, Nat.pow_zero, Nat.mul_one]; exact hN) hu hP hD hS (lv_sub hl [1, 0] rfl)
theorem nX0_compareWith_0 : ∀ w ∈ wsX00, w ∈ wsX0_compareWith := by decide +kernel
abbrev rm_X0_compareWith : Room := { frames := 1, cells := 0, slots := 0, locals := 13 }
set_option maxHeartbeats 4000000 in
set_option maxRecDepth 100000 in
/-- compareWith -/
theorem ct_X0_compareWith (l : Launch) (D : va_G) (cI cJ cD : ClassId) (h_ : Nat) (dd_ : Nat) (k_ : Nat) (dk_ : Nat) (u_ : Nat) (v_ : Nat) (N_ : Nat) (K_ : Nat) (f_ : Nat → Int64) (g_ : Nat → Int64) (sz : Nat) (hu : u_ ≤ 40) (hv : v_ ≤ 40) (hL : bigL f_ u_ N_) (hN : bigN u_ N_) (hL2 : bigL g_ v_ K_) (hN2 : bigN v_ K_) : Met l yX0_compareWith wsX0_compareWith rm_X0_compareWith (zP D (ty3 cI cJ cD) [.ref h_, .ref k_] sz [(h_, .inr (0, [.ref dd_, .int (nI u_)])), (dd_, .inl (cJ, 40, .inr (.inl f_))), (k_, .inr (0, [.ref dk_, .int (nI v_)])), (dk_, .inl (cJ, 40, .inr (.inl g_)))] zT) (va_Qi (fun (r : Int32) (u : Unit) => r = cmpI N_ K_) (zB D (ty3 cI cJ cD) (fun (u : Unit) => [(h_, .inr (0, [.ref dd_, .int (nI u_)])), (dd_, .inl (cJ, 40, .inr (.inl f_))), (k_, .inr (0, [.ref dk_, .int (nI v_)])), (dk_, .inl (cJ, 40, .inr (.inl g_)))]) (va_A [(h_, .inr (0, [.ref dd_, .int (nI u_)])), (dd_, .inl (cJ, 40, .inr (.inl f_))), (k_, .inr (0, [.ref dk_, .int (nI v_)])), (dk_, .inl (cJ, 40, .inr (.inl g_)))] sz)) (va_A [(h_, .inr (0, [.ref dd_, .int (nI u_)])), (dd_, .inl (cJ, 40, .inr (.inl f_))), (k_, .inr (0, [.ref dk_, .int (nI v_)])), (dk_, .inl (cJ, 40, .inr (.inl g_)))] sz)) 0 0 (va_A [(h_, .inr (0, [.ref dd_, .int (nI u_)])), (dd_, .inl (cJ, 40, .inr (.inl f_))), (k_, .inr (0, [.ref dk_, .int (nI v_)])), (dk_, .inl (cJ, 40, .inr (.inl g_)))] sz) := by
  refine zMet (Qf := fun A => va_Qi (fun (r : Int32) (u : Unit) => r = cmpI N_ K_) (zB D (ty3 cI cJ cD) (fun (u : Unit) => [(h_, .inr (0, [.ref dd_, .int (nI u_)])), (dd_, .inl (cJ, 40, .inr (.inl f_))), (k_, .inr (0, [.ref dk_, .int (nI v_)])), (dk_, .inl (cJ, 40, .inr (.inl g_)))]) A) A) (cc := cX0_compareWith) (maxL := 3) (ret := (some .int)) (by decide) rfl (Nat.le_of_ble_eq_true rfl) ?_
  intro p e s m args below meth c A ls Q H hargs hQ hHe hx hb hr hml hown hts hlocks hin hP hK hD hA hS hE hAe hl
  have hl : lv_has ls 3 [(0, .ref h_), (1, .ref k_)] := hl
  have lp_40 : ∀ (n_ : Nat) (j : Nat) (H : Heap) (locs : List Loc) (ls : Array Slot), j < n_ → j ≤ u_ → N_ / 67108864 ^ j = K_ / 67108864 ^ j → u_ = v_ →  va_P D cl5 [(h_, .inr (0, [.ref dd_, .int (nI u_)])), (dd_, .inl (cJ, 40, .inr (.inl f_))), (k_, .inr (0, [.ref dk_, .int (nI v_)])), (dk_, .inl (cJ, 40, .inr (.inl g_)))] H → va_D A [(h_, .inr (0, [.ref dd_, .int (nI u_)])), (dd_, .inl (cJ, 40, .inr (.inl f_))), (k_, .inr (0, [.ref dk_, .int (nI v_)])), (dk_, .inl (cJ, 40, .inr (.inl g_)))] → va_S A s.heap H locs → lv_has ls 3 [(0, .ref h_), (1, .ref k_), (2, .int (nI j - nI 1))] → W p l e rm_X0_compareWith s m args below meth c H locs 0 0 Q (F0 m 40 ls []) := by
    intro n_
    induction n_ with
    | zero => intro j H locs ls hm; exact absurd hm (Nat.not_lt_zero _)
    | succ n_ ih =>
      intro j H locs ls hm  h1 h2 h3 hP hD hS hl
      refine lv_iload_n hx hb dX0_compareWith_40 rfl (lv_at hl 2 rfl) ?_
      refine lv_if_lt (tgt := 88) hx hb dX0_compareWith_41 (by decide) (fun c_41 => ?_) (fun c_41 => ?_)
      · skip
        have hj : j = 0 := Nat.eq_zero_of_not_pos (fun q => absurd c_41 (by rw [pk_sub q]; exact nI_pos (by omega)))
        subst hj
        rw [Nat.pow_zero, Nat.div_one, Nat.div_one] at h2
        refine lv_iconst (v := nI 0) hx hb dX0_compareWith_88 (by decide) ?_
        subst hQ
        exact ze_i hx hb hr hlocks () ((cmpI_eq h2).symm) hP hK hD hS dX0_compareWith_89
      · skip
        have hj : 1 ≤ j := Nat.pos_of_ne_zero (fun q => c_41 (by subst q; decide))
        have ex : nI j - nI 1 = nI (j - 1) := pk_sub hj
        have eN := b_top (N := N_) hj
        have eK := b_top (N := K_) hj
        refine lv_aload_n hx hb dX0_compareWith_44 rfl (lv_at hl 0 rfl) ?_
        refine va_get (D := D) (ci := 0) (v := .ref dd_) (C := RX0) (T := TX0) (N := 2) hx hb hts nX0_compareWith_0 hown hK hP 0 rfl rfl 0 (by decide) (zh (w := .fieldLink RX0 9 "FretRoots$BigNumbe\x72" "digits" "[J") hts 6 rfl) (fun _ h9 => h9) rfl dX0_compareWith_45 ?_
        refine lv_iload_n hx hb dX0_compareWith_48 rfl (lv_at hl 2 rfl) ?_
        refine zi_ (y := nI (j - 1)) (ex) ?_
        refine z_lald (j := (j - 1)) hx hb hK hP 1 1 rfl rfl (by omega) (by omega) dX0_compareWith_49 ?_
        refine zl_ (y := lN (N_ / 67108864 ^ (j - 1) % 67108864)) (hL _ (by omega)) ?_
        refine lv_aload_n hx hb dX0_compareWith_50 rfl (lv_at hl 1 rfl) ?_
        refine va_get (D := D) (ci := 0) (v := .ref dk_) (C := RX0) (T := TX0) (N := 2) hx hb hts nX0_compareWith_0 hown hK hP 2 rfl rfl 0 (by decide) (zh (w := .fieldLink RX0 9 "FretRoots$BigNumbe\x72" "digits" "[J") hts 6 rfl) (fun _ h9 => h9) rfl dX0_compareWith_51 ?_
        refine lv_iload_n hx hb dX0_compareWith_54 rfl (lv_at hl 2 rfl) ?_
        refine zi_ (y := nI (j - 1)) (ex) ?_
        refine z_lald (j := (j - 1)) hx hb hK hP 3 1 rfl rfl (by omega) (by omega) dX0_compareWith_55 ?_
        refine zl_ (y := lN (K_ / 67108864 ^ (j - 1) % 67108864)) (hL2 _ (by omega)) ?_
        refine zl_eq (tgt := 82) hx hb dX0_compareWith_56 dX0_compareWith_57 (by decide) (fun c_57 => ?_) (fun c_57 => ?_)
        · skip
          have c_57 := zjl_eq (a := N_ / 67108864 ^ (j - 1) % 67108864) (b := K_ / 67108864 ^ (j - 1) % 67108864) (by omega) (by omega) c_57
          refine lv_iinc (v := nI (j - 1) - nI 1) (lv' := [(2, .int (nI (j - 1) - nI 1)), (0, .ref h_), (1, .ref k_)]) hx hb dX0_compareWith_82 hl (k := 2) rfl (by rw [ex]; exact z_m1 _) (by decide) rfl (fun ls hl => ?_)
          refine lv_goto (tgt := 40) hx hb dX0_compareWith_85 (by decide) ?_
          exact ih (j - 1) _ _ _ (by omega) (by omega) (by rw [b_top hj, b_top (N := K_) hj, h2, c_57]) h3 hP hD hS (lv_sub hl [1, 2, 0] rfl)
        · skip
          have c_57 := zjl_ne (a := N_ / 67108864 ^ (j - 1) % 67108864) (b := K_ / 67108864 ^ (j - 1) % 67108864) (by omega) (by omega) c_57
          refine lv_aload_n hx hb dX0_compareWith_60 rfl (lv_at hl 0 rfl) ?_
          refine va_get (D := D) (ci := 0) (v := .ref dd_) (C := RX0) (T := TX0) (N := 2) hx hb hts nX0_compareWith_0 hown hK hP 0 rfl rfl 0 (by decide) (zh (w := .fieldLink RX0 9 "FretRoots$BigNumbe\x72" "digits" "[J") hts 6 rfl) (fun _ h9 => h9) rfl dX0_compareWith_61 ?_
          refine lv_iload_n hx hb dX0_compareWith_64 rfl (lv_at hl 2 rfl) ?_
          refine zi_ (y := nI (j - 1)) (ex) ?_
          refine z_lald (j := (j - 1)) hx hb hK hP 1 1 rfl rfl (by omega) (by omega) dX0_compareWith_65 ?_
          refine zl_ (y := lN (N_ / 67108864 ^ (j - 1) % 67108864)) (hL _ (by omega)) ?_
          refine lv_aload_n hx hb dX0_compareWith_66 rfl (lv_at hl 1 rfl) ?_
          refine va_get (D := D) (ci := 0) (v := .ref dk_) (C := RX0) (T := TX0) (N := 2) hx hb hts nX0_compareWith_0 hown hK hP 2 rfl rfl 0 (by decide) (zh (w := .fieldLink RX0 9 "FretRoots$BigNumbe\x72" "digits" "[J") hts 6 rfl) (fun _ h9 => h9) rfl dX0_compareWith_67 ?_
          refine lv_iload_n hx hb dX0_compareWith_70 rfl (lv_at hl 2 rfl) ?_
          refine zi_ (y := nI (j - 1)) (ex) ?_
          refine z_lald (j := (j - 1)) hx hb hK hP 3 1 rfl rfl (by omega) (by omega) dX0_compareWith_71 ?_
          refine zl_ (y := lN (K_ / 67108864 ^ (j - 1) % 67108864)) (hL2 _ (by omega)) ?_
          refine zl_ge (tgt := 80) hx hb dX0_compareWith_72 dX0_compareWith_73 (by decide) (fun c_73 => ?_) (fun c_73 => ?_)
          · skip
            have c_73 := zjl_le (a := K_ / 67108864 ^ (j - 1) % 67108864) (b := N_ / 67108864 ^ (j - 1) % 67108864) (by omega) (by omega) c_73
            refine lv_iconst (v := nI 1) hx hb dX0_compareWith_80 (by decide) ?_
            subst hQ
            exact ze_i hx hb hr hlocks () ((cmpI_gt (b_cmp (i := j - 1) (by omega))).symm) hP hK hD hS dX0_compareWith_81
          · skip
            have c_73 := zjl_nle (a := K_ / 67108864 ^ (j - 1) % 67108864) (b := N_ / 67108864 ^ (j - 1) % 67108864) (by omega) (by omega) c_73
            refine lv_iconst (v := -1) hx hb dX0_compareWith_76 (by decide) ?_
            refine lv_goto (tgt := 81) hx hb dX0_compareWith_77 (by decide) ?_
            subst hQ
            exact ze_i hx hb hr hlocks () ((cmpI_lt (b_cmp (i := j - 1) (by omega))).symm) hP hK hD hS dX0_compareWith_81
  refine lv_aload_n hx hb dX0_compareWith_0 rfl (lv_at hl 0 rfl) ?_
  refine va_get (D := D) (ci := 0) (v := .int (nI u_)) (C := RX0) (T := TX0) (N := 2) hx hb hts nX0_compareWith_0 hown hK hP 0 rfl rfl 1 (by decide) (zh (w := .fieldLink RX0 13 "FretRoots$BigNumbe\x72" "used" "I") hts 1 rfl) (fun _ h9 => h9) rfl dX0_compareWith_1 ?_
  refine lv_aload_n hx hb dX0_compareWith_4 rfl (lv_at hl 1 rfl) ?_
  refine va_get (D := D) (ci := 0) (v := .int (nI v_)) (C := RX0) (T := TX0) (N := 2) hx hb hts nX0_compareWith_0 hown hK hP 2 rfl rfl 1 (by decide) (zh (w := .fieldLink RX0 13 "FretRoots$BigNumbe\x72" "used" "I") hts 1 rfl) (fun _ h9 => h9) rfl dX0_compareWith_5 ?_
  refine lv_icmp_eq (tgt := 28) hx hb dX0_compareWith_8 (by decide) (fun c_8 => ?_) (fun c_8 => ?_)
  · skip
    have c_8 := zji_eq (a := u_) (b := v_) (by omega) (by omega) c_8
    refine lv_aload_n hx hb dX0_compareWith_28 rfl (lv_at hl 0 rfl) ?_
    refine va_get (D := D) (ci := 0) (v := .int (nI u_)) (C := RX0) (T := TX0) (N := 2) hx hb hts nX0_compareWith_0 hown hK hP 0 rfl rfl 1 (by decide) (zh (w := .fieldLink RX0 13 "FretRoots$BigNumbe\x72" "used" "I") hts 1 rfl) (fun _ h9 => h9) rfl dX0_compareWith_29 ?_
    refine lv_bipush (v := nI 40) hx hb dX0_compareWith_32 (by decide) ?_
    refine va_mmin hx hb (hml.trans hl.1.symm) hown (zh (w := .methodLink RX0 24 Lib.Math.min.name) hts 2 rfl) (zh (w := .static Lib.Math.min.name) hts 3 rfl) (zh (w := .initialized "java/lang/Math") hts 4 rfl) (zh (w := .code Lib.Math.min.name Lib.Math.min.code 2 (some .int)) hts 5 rfl) (Nat.le_of_ble_eq_true rfl) (Nat.le_of_ble_eq_true rfl) (Nat.le_of_ble_eq_true rfl) (Nat.le_of_ble_eq_true rfl) dX0_compareWith_34 ?_
    refine zi_ (y := nI u_) ((z_min u_ 40 (by omega) (by decide)).trans (congrArg nI (Nat.min_eq_left hu))) ?_
    refine lv_iconst (v := nI 1) hx hb dX0_compareWith_37 (by decide) ?_
    refine lv_isub hx hb dX0_compareWith_38 ?_
    refine lv_istore_n (lv' := [(2, .int ((nI u_) - (nI 1))), (0, .ref h_), (1, .ref k_)]) hx hb dX0_compareWith_39 rfl hl (by decide) rfl (fun ls hl => ?_)
    exact lp_40 (u_ + 1) u_ _ _ _ (Nat.lt_succ_self _) (Nat.le_refl _) (by rw [Nat.div_eq_of_lt hN.1, c_8, Nat.div_eq_of_lt hN2.1]) c_8 hP hD hS (lv_sub hl [1, 2, 0] rfl)
  · skip
    have c_8 := zji_ne (a := u_) (b := v_) (by omega) (by omega) c_8
    refine lv_aload_n hx hb dX0_compareWith_11 rfl (lv_at hl 0 rfl) ?_
    refine va_get (D := D) (ci := 0) (v := .int (nI u_)) (C := RX0) (T := TX0) (N := 2) hx hb hts nX0_compareWith_0 hown hK hP 0 rfl rfl 1 (by decide) (zh (w := .fieldLink RX0 13 "FretRoots$BigNumbe\x72" "used" "I") hts 1 rfl) (fun _ h9 => h9) rfl dX0_compareWith_12 ?_
    refine lv_aload_n hx hb dX0_compareWith_15 rfl (lv_at hl 1 rfl) ?_
    refine va_get (D := D) (ci := 0) (v := .int (nI v_)) (C := RX0) (T := TX0) (N := 2) hx hb hts nX0_compareWith_0 hown hK hP 2 rfl rfl 1 (by decide) (zh (w := .fieldLink RX0 13 "FretRoots$BigNumbe\x72" "used" "I") hts 1 rfl) (fun _ h9 => h9) rfl dX0_compareWith_16 ?_
    refine lv_icmp_ge (tgt := 26) hx hb dX0_compareWith_19 (by decide) (fun c_19 => ?_) (fun c_19 => ?_)
    · skip
      have c_19 := zji_le (a := v_) (b := u_) (by omega) (by omega) c_19
      refine lv_iconst (v := nI 1) hx hb dX0_compareWith_26 (by decide) ?_
      subst hQ
      exact ze_i hx hb hr hlocks () ((cmpI_gt (bigN_lt hN2 hN (by omega))).symm) hP hK hD hS dX0_compareWith_27
    · skip
      have c_19 := zji_nle (a := v_) (b := u_) (by omega) (by omega) c_19
      refine lv_iconst (v := -1) hx hb dX0_compareWith_22 (by decide) ?_
      refine lv_goto (tgt := 27) hx hb dX0_compareWith_23 (by decide) ?_
      subst hQ
      exact ze_i hx hb hr hlocks () ((cmpI_lt (bigN_lt hN hN2 c_19)).symm) hP hK hD hS dX0_compareWith_27
