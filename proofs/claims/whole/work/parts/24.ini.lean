abbrev rm_J7_fill_d0a16 : Room := { frames := 0, cells := 0, slots := 0, locals := 0 }
set_option maxHeartbeats 4000000 in
set_option maxRecDepth 100000 in
/-- Arrays.fill of longs -/
theorem ct_J7_fill_d0a16 (l : Launch) (D : va_G) (cI cJ cD : ClassId) (a_ : Nat) (n_ : Nat) (v_ : Int64) (f_ : Nat → Int64) (sz : Nat) (hn : n_ < 2 ^ 30) : Met l yJ7_fill_d0a16 wsJ7_fill_d0a16 rm_J7_fill_d0a16 (zP D (ty3 cI cJ cD) [.ref a_, .long v_] sz [(a_, .inl (cJ, n_, .inr (.inl f_)))] zT) (va_Qv (fun (u : (Nat → Int64)) => (∀ j, j < n_ → u j = v_)) (zB D (ty3 cI cJ cD) (fun (u : (Nat → Int64)) => [(a_, .inl (cJ, n_, .inr (.inl u)))]) (va_A [(a_, .inl (cJ, n_, .inr (.inl f_)))] sz)) (va_A [(a_, .inl (cJ, n_, .inr (.inl f_)))] sz)) 0 0 (va_A [(a_, .inl (cJ, n_, .inr (.inl f_)))] sz) := by
  refine zMet (Qf := fun A => va_Qv (fun (u : (Nat → Int64)) => (∀ j, j < n_ → u j = v_)) (zB D (ty3 cI cJ cD) (fun (u : (Nat → Int64)) => [(a_, .inl (cJ, n_, .inr (.inl u)))]) A) A) (cc := cJ7_fill_d0a16) (maxL := 5) (ret := none) (by decide) rfl (Nat.le_of_ble_eq_true rfl) ?_
  intro p e s m args below meth c A ls Q H hargs hQ hHe hx hb hr hml hown hts hlocks hin hP hK hD hA hS hE hAe hl
  have hl : lv_has ls 5 [(0, .ref a_), (1, .long v_)] := hl
  have lp_6 : ∀ (k9_ : Nat) (i : Nat) (f : Nat → Int64) (H : Heap) (locs : List Loc) (ls : Array Slot), n_ - i < k9_ → i ≤ n_ → (∀ j, j < i → f j = v_) →  va_P D cl5 [(a_, .inl (cJ, n_, .inr (.inl f)))] H → va_D A [(a_, .inl (cJ, n_, .inr (.inl f)))] → va_S A s.heap H locs → lv_has ls 5 [(0, .ref a_), (1, .long v_), (3, .int (nI i)), (4, .int (nI n_))] → W p l e rm_J7_fill_d0a16 s m args below meth c H locs 0 0 Q (F0 m 6 ls []) := by
    intro k9_
    induction k9_ with
    | zero => intro i f H locs ls hm; exact absurd hm (Nat.not_lt_zero _)
    | succ k9_ ih_6 =>
      intro i f H locs ls hm  h1 h2 hP hD hS hl
      refine lv_iload_n hx hb dJ7_fill_d0a16_6 rfl (lv_at hl 2 rfl) ?_
      refine lv_iload hx hb dJ7_fill_d0a16_7 (lv_at hl 3 rfl) ?_
      refine lv_icmp_ge (tgt := 22) hx hb dJ7_fill_d0a16_9 (by decide) (fun c_9 => ?_) (fun c_9 => ?_)
      · skip
        have c_9 := zji_le (a := n_) (b := i) (by omega) (by omega) c_9
        subst hQ
        exact ze_v hx hb hr hlocks f (fun j hj => h2 j (by omega)) hP hK hD hS dJ7_fill_d0a16_22
      · skip
        have c_9 := zji_nle (a := n_) (b := i) (by omega) (by omega) c_9
        refine lv_aload_n hx hb dJ7_fill_d0a16_12 rfl (lv_at hl 0 rfl) ?_
        refine lv_iload_n hx hb dJ7_fill_d0a16_13 rfl (lv_at hl 2 rfl) ?_
        refine lv_lload_n hx hb dJ7_fill_d0a16_14 rfl (lv_at hl 1 rfl) ?_
        refine z_last (j := i) hx hb hK hP hD hS 0 1 rfl rfl (by omega) (by omega) dJ7_fill_d0a16_15 (fun H locs hP hD hS => ?_)
        obtain ⟨fA, efA⟩ : ∃ f9, f9 = vp_updL f i v_ := ⟨_, rfl⟩
        have hP : va_P D cl5 [(a_, .inl (cJ, n_, .inr (.inl fA)))] H := by rw [efA]; exact hP
        have hD : va_D A [(a_, .inl (cJ, n_, .inr (.inl fA)))] := by rw [efA]; exact hD
        refine lv_iinc (v := nI (i + 1)) (lv' := [(3, .int (nI (i + 1))), (0, .ref a_), (1, .long v_), (4, .int (nI n_))]) hx hb dJ7_fill_d0a16_16 hl (k := 2) rfl (z_inc i 1) (by decide) rfl (fun ls hl => ?_)
        refine lv_goto (tgt := 6) hx hb dJ7_fill_d0a16_19 (by decide) ?_
        exact ih_6 (i + 1) fA _ _ _ (by omega) (by omega) (by rw [efA]; exact fill_next h2) hP hD hS (lv_sub hl [1, 2, 0, 3] rfl)
  refine lv_iconst (v := nI 0) hx hb dJ7_fill_d0a16_0 (by decide) ?_
  refine lv_istore_n (lv' := [(3, .int (nI 0)), (0, .ref a_), (1, .long v_)]) hx hb dJ7_fill_d0a16_1 rfl hl (by decide) rfl (fun ls hl => ?_)
  refine lv_aload_n hx hb dJ7_fill_d0a16_2 rfl (lv_at hl 1 rfl) ?_
  refine va_alen hx hb hK hP 0 1 rfl (ty := .long) rfl (v := nI n_) rfl dJ7_fill_d0a16_3 ?_
  refine lv_istore (lv' := [(4, .int (nI n_)), (3, .int (nI 0)), (0, .ref a_), (1, .long v_)]) hx hb dJ7_fill_d0a16_4 hl (by decide) rfl (fun ls hl => ?_)
  exact lp_6 ((n_ - 0) + 1) 0 f_ _ _ _ (Nat.lt_succ_self _) (Nat.zero_le _) (fun j hj => absurd hj (Nat.not_lt_zero _)) hP hD hS (lv_sub hl [2, 3, 1, 0] rfl)
abbrev rm_J7_fill_53178 : Room := { frames := 0, cells := 0, slots := 0, locals := 0 }
set_option maxHeartbeats 4000000 in
set_option maxRecDepth 100000 in
/-- Arrays.fill of ints -/
theorem ct_J7_fill_53178 (l : Launch) (D : va_G) (cI cJ cD : ClassId) (a_ : Nat) (n_ : Nat) (v_ : Int32) (f_ : Nat → Int32) (sz : Nat) (hn : n_ < 2 ^ 30) : Met l yJ7_fill_53178 wsJ7_fill_53178 rm_J7_fill_53178 (zP D (ty3 cI cJ cD) [.ref a_, .int v_] sz [(a_, .inl (cI, n_, .inl f_))] zT) (va_Qv (fun (u : (Nat → Int32)) => (∀ j, j < n_ → u j = v_)) (zB D (ty3 cI cJ cD) (fun (u : (Nat → Int32)) => [(a_, .inl (cI, n_, .inl u))]) (va_A [(a_, .inl (cI, n_, .inl f_))] sz)) (va_A [(a_, .inl (cI, n_, .inl f_))] sz)) 0 0 (va_A [(a_, .inl (cI, n_, .inl f_))] sz) := by
  refine zMet (Qf := fun A => va_Qv (fun (u : (Nat → Int32)) => (∀ j, j < n_ → u j = v_)) (zB D (ty3 cI cJ cD) (fun (u : (Nat → Int32)) => [(a_, .inl (cI, n_, .inl u))]) A) A) (cc := cJ7_fill_53178) (maxL := 4) (ret := none) (by decide) rfl (Nat.le_of_ble_eq_true rfl) ?_
  intro p e s m args below meth c A ls Q H hargs hQ hHe hx hb hr hml hown hts hlocks hin hP hK hD hA hS hE hAe hl
  have hl : lv_has ls 4 [(0, .ref a_), (1, .int v_)] := hl
  have lp_5 : ∀ (k9_ : Nat) (i : Nat) (f : Nat → Int32) (H : Heap) (locs : List Loc) (ls : Array Slot), n_ - i < k9_ → i ≤ n_ → (∀ j, j < i → f j = v_) →  va_P D cl5 [(a_, .inl (cI, n_, .inl f))] H → va_D A [(a_, .inl (cI, n_, .inl f))] → va_S A s.heap H locs → lv_has ls 4 [(0, .ref a_), (1, .int v_), (2, .int (nI i)), (3, .int (nI n_))] → W p l e rm_J7_fill_53178 s m args below meth c H locs 0 0 Q (F0 m 5 ls []) := by
    intro k9_
    induction k9_ with
    | zero => intro i f H locs ls hm; exact absurd hm (Nat.not_lt_zero _)
    | succ k9_ ih_5 =>
      intro i f H locs ls hm  h1 h2 hP hD hS hl
      refine lv_iload_n hx hb dJ7_fill_53178_5 rfl (lv_at hl 2 rfl) ?_
      refine lv_iload_n hx hb dJ7_fill_53178_6 rfl (lv_at hl 3 rfl) ?_
      refine lv_icmp_ge (tgt := 20) hx hb dJ7_fill_53178_7 (by decide) (fun c_7 => ?_) (fun c_7 => ?_)
      · skip
        have c_7 := zji_le (a := n_) (b := i) (by omega) (by omega) c_7
        subst hQ
        exact ze_v hx hb hr hlocks f (fun j hj => h2 j (by omega)) hP hK hD hS dJ7_fill_53178_20
      · skip
        have c_7 := zji_nle (a := n_) (b := i) (by omega) (by omega) c_7
        refine lv_aload_n hx hb dJ7_fill_53178_10 rfl (lv_at hl 0 rfl) ?_
        refine lv_iload_n hx hb dJ7_fill_53178_11 rfl (lv_at hl 2 rfl) ?_
        refine lv_iload_n hx hb dJ7_fill_53178_12 rfl (lv_at hl 1 rfl) ?_
        refine z_iast (j := i) hx hb hK hP hD hS 0 0 rfl rfl (by omega) (by omega) dJ7_fill_53178_13 (fun H locs hP hD hS => ?_)
        obtain ⟨fA, efA⟩ : ∃ f9, f9 = upd f i v_ := ⟨_, rfl⟩
        have hP : va_P D cl5 [(a_, .inl (cI, n_, .inl fA))] H := by rw [efA]; exact hP
        have hD : va_D A [(a_, .inl (cI, n_, .inl fA))] := by rw [efA]; exact hD
        refine lv_iinc (v := nI (i + 1)) (lv' := [(2, .int (nI (i + 1))), (0, .ref a_), (1, .int v_), (3, .int (nI n_))]) hx hb dJ7_fill_53178_14 hl (k := 2) rfl (z_inc i 1) (by decide) rfl (fun ls hl => ?_)
        refine lv_goto (tgt := 5) hx hb dJ7_fill_53178_17 (by decide) ?_
        exact ih_5 (i + 1) fA _ _ _ (by omega) (by omega) (by rw [efA]; exact fillI_next h2) hP hD hS (lv_sub hl [1, 2, 0, 3] rfl)
  refine lv_iconst (v := nI 0) hx hb dJ7_fill_53178_0 (by decide) ?_
  refine lv_istore_n (lv' := [(2, .int (nI 0)), (0, .ref a_), (1, .int v_)]) hx hb dJ7_fill_53178_1 rfl hl (by decide) rfl (fun ls hl => ?_)
  refine lv_aload_n hx hb dJ7_fill_53178_2 rfl (lv_at hl 1 rfl) ?_
  refine va_alen hx hb hK hP 0 0 rfl (ty := .int) rfl (v := nI n_) rfl dJ7_fill_53178_3 ?_
  refine lv_istore_n (lv' := [(3, .int (nI n_)), (2, .int (nI 0)), (0, .ref a_), (1, .int v_)]) hx hb dJ7_fill_53178_4 rfl hl (by decide) rfl (fun ls hl => ?_)
  exact lp_5 ((n_ - 0) + 1) 0 f_ _ _ _ (Nat.lt_succ_self _) (Nat.zero_le _) (fun j hj => absurd hj (Nat.not_lt_zero _)) hP hD hS (lv_sub hl [2, 3, 1, 0] rfl)
theorem nX2_init_2 : ∀ w ∈ wsX20, w ∈ wsX2_init := by decide +kernel
abbrev rm_X2_init : Room := { frames := 1, cells := 1, slots := 24, locals := 24 }
set_option maxHeartbeats 4000000 in
set_option maxRecDepth 100000 in
/-- FretRow(n) -/
theorem ct_X2_init (l : Launch) (D : va_G) (cI cJ cD : ClassId) (rw_ : Nat) (n_ : Nat) (sz : Nat) (hn1 : 1 ≤ n_) (hn : n_ ≤ 24) : Met l yX2_init wsX2_init rm_X2_init (zP D (ty3 cI cJ cD) [.ref rw_, .int (nI n_)] sz [(rw_, .inr (2, [.null, .long 0, .long 0]))] zT) (va_Qv (fun (u : Nat × (Nat → Int64)) => (∀ j, j < n_ → (u.2) j = -1)) (zB D (ty3 cI cJ cD) (fun (u : Nat × (Nat → Int64)) => [(rw_, .inr (2, [.ref (u.1), .long (lN 1000), .long (lN 256000)])), ((u.1), .inl (cJ, n_, .inr (.inl (u.2))))]) (va_A [(rw_, .inr (2, [.null, .long 0, .long 0]))] sz)) (va_A [(rw_, .inr (2, [.null, .long 0, .long 0]))] sz)) 1 24 (va_A [(rw_, .inr (2, [.null, .long 0, .long 0]))] sz) := by
  refine zMet (Qf := fun A => va_Qv (fun (u : Nat × (Nat → Int64)) => (∀ j, j < n_ → (u.2) j = -1)) (zB D (ty3 cI cJ cD) (fun (u : Nat × (Nat → Int64)) => [(rw_, .inr (2, [.ref (u.1), .long (lN 1000), .long (lN 256000)])), ((u.1), .inl (cJ, n_, .inr (.inl (u.2))))]) A) A) (cc := cX2_init) (maxL := 2) (ret := none) (by decide) rfl (Nat.le_of_ble_eq_true rfl) ?_
  intro p e s m args below meth c A ls Q H hargs hQ hHe hx hb hr hml hown hts hlocks hin hP hK hD hA hS hE hAe hl
  have hl : lv_has ls 2 [(0, .ref rw_), (1, .int (nI n_))] := hl
  refine lv_aload_n hx hb dX2_init_0 rfl (lv_at hl 0 rfl) ?_
  refine W.objInit hx hb hown (zh (w := .methodLink RX2 3 objectInit) hts 1 rfl) (zh (w := .instanceMethod objectInit) hts 2 rfl) (zh (w := .code objectInit ⟨#[0xb1]⟩ 1 none) hts 3 rfl) rfl (by rw [hml]; exact hl.1) rfl dX2_init_1 (Nat.le_of_ble_eq_true rfl) (Nat.le_of_ble_eq_true rfl) ?_
  refine W.eq (g2 := F0 m 4 ls []) rfl ?_
  refine lv_aload_n hx hb dX2_init_4 rfl (lv_at hl 0 rfl) ?_
  refine lv_iconst (v := nI 1) hx hb dX2_init_5 (by decide) ?_
  refine lv_iload_n hx hb dX2_init_6 rfl (lv_at hl 1 rfl) ?_
  refine va_mmax (R := rm_X2_init) (cells := 0) (slots := 0) (rest := [.ref rw_]) hx hb (hml.trans hl.1.symm) hown (zh (w := .methodLink RX2 9 Lib.Math.max.name) hts 4 rfl) (zh (w := .static Lib.Math.max.name) hts 5 rfl) (zh (w := .initialized "java/lang/Math") hts 6 rfl) (zh (w := .code Lib.Math.max.name Lib.Math.max.code 2 (some .int)) hts 7 rfl) (Nat.le_of_ble_eq_true rfl) (Nat.le_of_ble_eq_true rfl) (Nat.le_of_ble_eq_true rfl) (Nat.le_of_ble_eq_true rfl) dX2_init_7 ?_
  refine zi_ (y := nI n_) ((z_max 1 n_ (by decide) (by omega)).trans (congrArg nI (Nat.max_eq_right hn1))) ?_
  refine z_newa (atype := .long) (a0 := (n_, .inr (.inl (fun _ => (0 : Int64))))) (N' := n_) hx hb (zh (w := .arrayClass .long) hts 8 rfl) (ty := .long) rfl hK hP hD hS hA 1 rfl (fun _ _ h => h) (fun _ => rfl) (nI_pos (by omega)) (nI_clamp (by omega)) (by show _ * 8 ≤ _; omega) (Nat.le_of_ble_eq_true rfl) (by show _ ≤ (24 : Nat); omega) dX2_init_10 (fun q_1 H hP hD hS => ?_)
  refine W.widen (k := 1) (n := 24) (Nat.le_of_ble_eq_true rfl) (by omega) ?_
  have hP : va_P D cl5 [(rw_, .inr (2, [.null, .long 0, .long 0])), (q_1, .inl (cJ, n_, .inr (.inl (fun _ => (0 : Int64)))))] H := hP
  have hD : va_D A [(rw_, .inr (2, [.null, .long 0, .long 0])), (q_1, .inl (cJ, n_, .inr (.inl (fun _ => (0 : Int64)))))] := hD
  refine va_putF (D := D) (ci := 2) (v := .ref q_1) (ty := .array .long) (C := RX2) (T := TX2) (N := 3) hx hb hts nX2_init_2 tyX2 tyX2_ok nmX2 hown hK hP hD hS 0 rfl rfl 0 (by decide) (zh (w := .fieldLink RX2 15 "FretRoots$FretRow" "ends" "[J") hts 9 rfl) (fun _ h9 => h9) rfl hin rfl (by decide +kernel) rfl rfl (Nat.le_of_ble_eq_true rfl) dX2_init_12 (fun H locs hP hD hS => ?_)
  have hP : va_P D cl5 [(rw_, .inr (2, [.ref q_1, .long 0, .long 0])), (q_1, .inl (cJ, n_, .inr (.inl (fun _ => (0 : Int64)))))] H := hP
  have hD : va_D A [(rw_, .inr (2, [.ref q_1, .long 0, .long 0])), (q_1, .inl (cJ, n_, .inr (.inl (fun _ => (0 : Int64)))))] := hD
  refine lv_aload_n hx hb dX2_init_15 rfl (lv_at hl 0 rfl) ?_
  refine lv_ldc2 (v := 1000) hx hb hown (zh (w := .constantLong RX2 21 (1000)) hts 10 rfl) dX2_init_16 ?_
  refine zl_ (y := lN 1000) rfl ?_
  refine va_put (D := D) (ci := 2) (v := .long (lN 1000)) (ty := .long) (C := RX2) (T := TX2) (N := 3) hx hb hts nX2_init_2 tyX2 tyX2_ok nmX2 hown hK hP hD hS 0 rfl rfl 1 (by decide) (zh (w := .fieldLink RX2 23 "FretRoots$FretRow" "length" "J") hts 11 rfl) (fun _ h9 => h9) rfl (by decide +kernel) rfl rfl (Nat.le_of_ble_eq_true rfl) dX2_init_19 (fun H locs hP hD hS => ?_)
  have hP : va_P D cl5 [(rw_, .inr (2, [.ref q_1, .long (lN 1000), .long 0])), (q_1, .inl (cJ, n_, .inr (.inl (fun _ => (0 : Int64)))))] H := hP
  have hD : va_D A [(rw_, .inr (2, [.ref q_1, .long (lN 1000), .long 0])), (q_1, .inl (cJ, n_, .inr (.inl (fun _ => (0 : Int64)))))] := hD
  refine lv_aload_n hx hb dX2_init_22 rfl (lv_at hl 0 rfl) ?_
  refine lv_ldc2 (v := 256000) hx hb hown (zh (w := .constantLong RX2 27 (256000)) hts 12 rfl) dX2_init_23 ?_
  refine zl_ (y := lN 256000) rfl ?_
  refine va_put (D := D) (ci := 2) (v := .long (lN 256000)) (ty := .long) (C := RX2) (T := TX2) (N := 3) hx hb hts nX2_init_2 tyX2 tyX2_ok nmX2 hown hK hP hD hS 0 rfl rfl 2 (by decide) (zh (w := .fieldLink RX2 29 "FretRoots$FretRow" "whole" "J") hts 13 rfl) (fun _ h9 => h9) rfl (by decide +kernel) rfl rfl (Nat.le_of_ble_eq_true rfl) dX2_init_26 (fun H locs hP hD hS => ?_)
  have hP : va_P D cl5 [(rw_, .inr (2, [.ref q_1, .long (lN 1000), .long (lN 256000)])), (q_1, .inl (cJ, n_, .inr (.inl (fun _ => (0 : Int64)))))] H := hP
  have hD : va_D A [(rw_, .inr (2, [.ref q_1, .long (lN 1000), .long (lN 256000)])), (q_1, .inl (cJ, n_, .inr (.inl (fun _ => (0 : Int64)))))] := hD
  refine lv_aload_n hx hb dX2_init_29 rfl (lv_at hl 0 rfl) ?_
  refine va_get (D := D) (ci := 2) (v := .ref q_1) (C := RX2) (T := TX2) (N := 3) hx hb hts nX2_init_2 hown hK hP 0 rfl rfl 0 (by decide) (zh (w := .fieldLink RX2 15 "FretRoots$FretRow" "ends" "[J") hts 9 rfl) (fun _ h9 => h9) rfl dX2_init_30 ?_
  refine lv_ldc2 (v := -1) hx hb hown (zh (w := .constantLong RX2 32 (-1)) hts 14 rfl) dX2_init_33 ?_
  refine zc_v (wc := [(q_1, .inl (cJ, n_, .inr (.inl (fun _ => (0 : Int64)))))]) (wr := [(rw_, .inr (2, [.ref q_1, .long (lN 1000), .long (lN 256000)]))]) hP hD hS hA [1] [0] rfl rfl (by decide) (by decide) (va_runS (As := [.ref q_1, .long (-1)]) (rest := []) ⟨hx, hb, hml, hown, hts⟩ (ct_J7_fill_d0a16 l D cI cJ cD q_1 n_ (-1) (fun _ => (0 : Int64)) H.size (by omega)) (va_cwS 2 hts gX2_init_J7_fill_d0a16 rfl rfl rfl (by decide +kernel) ⟨Nat.le_of_ble_eq_true rfl, Nat.le_of_ble_eq_true rfl⟩) (zPreS (wc := [(q_1, .inl (cJ, n_, .inr (.inl (fun _ => (0 : Int64)))))]) hK (hP.sub [1] rfl) (hD.sub [1] (by decide) rfl) zTb (fun _ _ _ => trivial)) rfl rfl hl.1 rfl (lv_room (Nat.le_of_ble_eq_true rfl)) dX2_init_36 ⟨Nat.le_of_ble_eq_true rfl, Nat.le_of_ble_eq_true rfl⟩) (fun u9_ H locs hw hP hD hS => ?_)
  obtain ⟨f2_3, rfl⟩ : ∃ z, z = u9_ := ⟨_, rfl⟩
  have hP : va_P D cl5 [(rw_, .inr (2, [.ref q_1, .long (lN 1000), .long (lN 256000)])), (q_1, .inl (cJ, n_, .inr (.inl f2_3)))] H := hP.sub [0, 1] rfl
  have hD : va_D A [(rw_, .inr (2, [.ref q_1, .long (lN 1000), .long (lN 256000)])), (q_1, .inl (cJ, n_, .inr (.inl f2_3)))] := hD.sub [0, 1] (by decide) rfl
  have hw : (∀ j, j < n_ → f2_3 j = (-1)) := hw
  have hf_36 := hw
  subst hQ
  exact ze_v hx hb hr hlocks (q_1, f2_3) (hf_36) hP hK hD hS dX2_init_39
theorem nX2_measure_2 : ∀ w ∈ wsX20, w ∈ wsX2_measure := by decide +kernel
abbrev rm_X2_measure : Room := { frames := 1, cells := 0, slots := 0, locals := 24 }
set_option maxHeartbeats 4000000 in
set_option maxRecDepth 100000 in
/-- measure -/
theorem ct_X2_measure (l : Launch) (D : va_G) (cI cJ cD : ClassId) (rw_ : Nat) (re_ : Nat) (n_ : Nat) (a_ : Nat) (h_ : Nat) (ln_ : Int64) (al_ : Int64) (e_ : Nat → Int64) (sz : Nat) (hn : n_ ≤ 24) (hh : h_ ≤ 16) : Met l yX2_measure wsX2_measure rm_X2_measure (zP D (ty3 cI cJ cD) [.ref rw_, .long (lN a_), .int (nI h_)] sz [(rw_, .inr (2, [.ref re_, .long ln_, .long al_])), (re_, .inl (cJ, n_, .inr (.inl e_)))] zT) (va_Qv (fun (u : (Nat → Int64)) => (∀ j, j < n_ → u j = -1)) (zB D (ty3 cI cJ cD) (fun (u : (Nat → Int64)) => [(rw_, .inr (2, [.ref re_, .long (lN a_), .long (lN (a_ * 2 ^ h_))])), (re_, .inl (cJ, n_, .inr (.inl u)))]) (va_A [(rw_, .inr (2, [.ref re_, .long ln_, .long al_])), (re_, .inl (cJ, n_, .inr (.inl e_)))] sz)) (va_A [(rw_, .inr (2, [.ref re_, .long ln_, .long al_])), (re_, .inl (cJ, n_, .inr (.inl e_)))] sz)) 0 0 (va_A [(rw_, .inr (2, [.ref re_, .long ln_, .long al_])), (re_, .inl (cJ, n_, .inr (.inl e_)))] sz) := by
  refine zMet (Qf := fun A => va_Qv (fun (u : (Nat → Int64)) => (∀ j, j < n_ → u j = -1)) (zB D (ty3 cI cJ cD) (fun (u : (Nat → Int64)) => [(rw_, .inr (2, [.ref re_, .long (lN a_), .long (lN (a_ * 2 ^ h_))])), (re_, .inl (cJ, n_, .inr (.inl u)))]) A) A) (cc := cX2_measure) (maxL := 4) (ret := none) (by decide) rfl (Nat.le_of_ble_eq_true rfl) ?_
  intro p e s m args below meth c A ls Q H hargs hQ hHe hx hb hr hml hown hts hlocks hin hP hK hD hA hS hE hAe hl
  have hl : lv_has ls 4 [(0, .ref rw_), (1, .long (lN a_)), (3, .int (nI h_))] := hl
  refine lv_aload_n hx hb dX2_measure_0 rfl (lv_at hl 0 rfl) ?_
  refine lv_lload_n hx hb dX2_measure_1 rfl (lv_at hl 1 rfl) ?_
  refine va_put (D := D) (ci := 2) (v := .long (lN a_)) (ty := .long) (C := RX2) (T := TX2) (N := 3) hx hb hts nX2_measure_2 tyX2 tyX2_ok nmX2 hown hK hP hD hS 0 rfl rfl 1 (by decide) (zh (w := .fieldLink RX2 23 "FretRoots$FretRow" "length" "J") hts 1 rfl) (fun _ h9 => h9) rfl (by decide +kernel) rfl rfl (Nat.le_of_ble_eq_true rfl) dX2_measure_2 (fun H locs hP hD hS => ?_)
  have hP : va_P D cl5 [(rw_, .inr (2, [.ref re_, .long (lN a_), .long al_])), (re_, .inl (cJ, n_, .inr (.inl e_)))] H := hP
  have hD : va_D A [(rw_, .inr (2, [.ref re_, .long (lN a_), .long al_])), (re_, .inl (cJ, n_, .inr (.inl e_)))] := hD
  refine lv_aload_n hx hb dX2_measure_5 rfl (lv_at hl 0 rfl) ?_
  refine lv_lload_n hx hb dX2_measure_6 rfl (lv_at hl 1 rfl) ?_
  refine lv_iload_n hx hb dX2_measure_7 rfl (lv_at hl 2 rfl) ?_
  refine lv_lshl (v := lN (a_ * 2 ^ h_)) hx hb dX2_measure_8 (z_shl a_ (by omega)) ?_
  refine va_put (D := D) (ci := 2) (v := .long (lN (a_ * 2 ^ h_))) (ty := .long) (C := RX2) (T := TX2) (N := 3) hx hb hts nX2_measure_2 tyX2 tyX2_ok nmX2 hown hK hP hD hS 0 rfl rfl 2 (by decide) (zh (w := .fieldLink RX2 29 "FretRoots$FretRow" "whole" "J") hts 2 rfl) (fun _ h9 => h9) rfl (by decide +kernel) rfl rfl (Nat.le_of_ble_eq_true rfl) dX2_measure_9 (fun H locs hP hD hS => ?_)
  have hP : va_P D cl5 [(rw_, .inr (2, [.ref re_, .long (lN a_), .long (lN (a_ * 2 ^ h_))])), (re_, .inl (cJ, n_, .inr (.inl e_)))] H := hP
  have hD : va_D A [(rw_, .inr (2, [.ref re_, .long (lN a_), .long (lN (a_ * 2 ^ h_))])), (re_, .inl (cJ, n_, .inr (.inl e_)))] := hD
  refine lv_aload_n hx hb dX2_measure_12 rfl (lv_at hl 0 rfl) ?_
  refine va_get (D := D) (ci := 2) (v := .ref re_) (C := RX2) (T := TX2) (N := 3) hx hb hts nX2_measure_2 hown hK hP 0 rfl rfl 0 (by decide) (zh (w := .fieldLink RX2 15 "FretRoots$FretRow" "ends" "[J") hts 3 rfl) (fun _ h9 => h9) rfl dX2_measure_13 ?_
  refine lv_ldc2 (v := -1) hx hb hown (zh (w := .constantLong RX2 32 (-1)) hts 4 rfl) dX2_measure_16 ?_
  refine zc_v (wc := [(re_, .inl (cJ, n_, .inr (.inl e_)))]) (wr := [(rw_, .inr (2, [.ref re_, .long (lN a_), .long (lN (a_ * 2 ^ h_))]))]) hP hD hS hA [1] [0] rfl rfl (by decide) (by decide) (va_runS (As := [.ref re_, .long (-1)]) (rest := []) ⟨hx, hb, hml, hown, hts⟩ (ct_J7_fill_d0a16 l D cI cJ cD re_ n_ (-1) e_ H.size (by omega)) (va_cwS 2 hts gX2_measure_J7_fill_d0a16 rfl rfl rfl (by decide +kernel) ⟨Nat.le_of_ble_eq_true rfl, Nat.le_of_ble_eq_true rfl⟩) (zPreS (wc := [(re_, .inl (cJ, n_, .inr (.inl e_)))]) hK (hP.sub [1] rfl) (hD.sub [1] (by decide) rfl) zTb (fun _ _ _ => trivial)) rfl rfl hl.1 rfl (lv_room (Nat.le_of_ble_eq_true rfl)) dX2_measure_19 ⟨Nat.le_of_ble_eq_true rfl, Nat.le_of_ble_eq_true rfl⟩) (fun u9_ H locs hw hP hD hS => ?_)
  obtain ⟨f2_2, rfl⟩ : ∃ z, z = u9_ := ⟨_, rfl⟩
  have hP : va_P D cl5 [(rw_, .inr (2, [.ref re_, .long (lN a_), .long (lN (a_ * 2 ^ h_))])), (re_, .inl (cJ, n_, .inr (.inl f2_2)))] H := hP.sub [0, 1] rfl
  have hD : va_D A [(rw_, .inr (2, [.ref re_, .long (lN a_), .long (lN (a_ * 2 ^ h_))])), (re_, .inl (cJ, n_, .inr (.inl f2_2)))] := hD.sub [0, 1] (by decide) rfl
  have hw : (∀ j, j < n_ → f2_2 j = (-1)) := hw
  have hf_19 := hw
  subst hQ
  exact ze_v hx hb hr hlocks f2_2 (hf_19) hP hK hD hS dX2_measure_22
theorem nX0_init_0 : ∀ w ∈ wsX00, w ∈ wsX0_init := by decide +kernel
abbrev rm_X0_init : Room := { frames := 1, cells := 1, slots := 40, locals := 12 }
set_option maxHeartbeats 4000000 in
set_option maxRecDepth 100000 in
/-- BigNumber() -/
theorem ct_X0_init (l : Launch) (D : va_G) (cI cJ cD : ClassId) (h_ : Nat) (sz : Nat) : Met l yX0_init wsX0_init rm_X0_init (zP D (ty3 cI cJ cD) [.ref h_] sz [(h_, .inr (0, [.null, .int 0]))] zT) (va_Qv (fun (u : Nat) => True) (zB D (ty3 cI cJ cD) (fun (u : Nat) => [(h_, .inr (0, [.ref u, .int (nI 0)])), (u, .inl (cJ, 40, .inr (.inl (fun _ => (0 : Int64)))))]) (va_A [(h_, .inr (0, [.null, .int 0]))] sz)) (va_A [(h_, .inr (0, [.null, .int 0]))] sz)) 1 40 (va_A [(h_, .inr (0, [.null, .int 0]))] sz) := by
  refine zMet (Qf := fun A => va_Qv (fun (u : Nat) => True) (zB D (ty3 cI cJ cD) (fun (u : Nat) => [(h_, .inr (0, [.ref u, .int (nI 0)])), (u, .inl (cJ, 40, .inr (.inl (fun _ => (0 : Int64)))))]) A) A) (cc := cX0_init) (maxL := 1) (ret := none) (by decide) rfl (Nat.le_of_ble_eq_true rfl) ?_
  intro p e s m args below meth c A ls Q H hargs hQ hHe hx hb hr hml hown hts hlocks hin hP hK hD hA hS hE hAe hl
  have hl : lv_has ls 1 [(0, .ref h_)] := hl
  refine lv_aload_n hx hb dX0_init_0 rfl (lv_at hl 0 rfl) ?_
  refine W.objInit hx hb hown (zh (w := .methodLink RX0 3 objectInit) hts 1 rfl) (zh (w := .instanceMethod objectInit) hts 2 rfl) (zh (w := .code objectInit ⟨#[0xb1]⟩ 1 none) hts 3 rfl) rfl (by rw [hml]; exact hl.1) rfl dX0_init_1 (Nat.le_of_ble_eq_true rfl) (Nat.le_of_ble_eq_true rfl) ?_
  refine W.eq (g2 := F0 m 4 ls []) rfl ?_
  refine lv_aload_n hx hb dX0_init_4 rfl (lv_at hl 0 rfl) ?_
  refine lv_bipush (v := nI 40) hx hb dX0_init_5 (by decide) ?_
  refine z_newa (atype := .long) (a0 := (40, .inr (.inl (fun _ => (0 : Int64))))) (N' := 40) hx hb (zh (w := .arrayClass .long) hts 4 rfl) (ty := .long) rfl hK hP hD hS hA 1 rfl (fun _ _ h => h) (fun _ => rfl) (nI_pos (by omega)) (nI_clamp (by omega)) (by show _ * 8 ≤ _; omega) (Nat.le_of_ble_eq_true rfl) (Nat.le_of_ble_eq_true rfl) dX0_init_7 (fun q_1 H hP hD hS => ?_)
  have hP : va_P D cl5 [(h_, .inr (0, [.null, .int 0])), (q_1, .inl (cJ, 40, .inr (.inl (fun _ => (0 : Int64)))))] H := hP
  have hD : va_D A [(h_, .inr (0, [.null, .int 0])), (q_1, .inl (cJ, 40, .inr (.inl (fun _ => (0 : Int64)))))] := hD
  refine va_putF (D := D) (ci := 0) (v := .ref q_1) (ty := .array .long) (C := RX0) (T := TX0) (N := 2) hx hb hts nX0_init_0 tyX0 tyX0_ok nmX0 hown hK hP hD hS 0 rfl rfl 0 (by decide) (zh (w := .fieldLink RX0 9 "FretRoots$BigNumbe\x72" "digits" "[J") hts 5 rfl) (fun _ h9 => h9) rfl hin rfl (by decide +kernel) rfl rfl (Nat.le_of_ble_eq_true rfl) dX0_init_9 (fun H locs hP hD hS => ?_)
  have hP : va_P D cl5 [(h_, .inr (0, [.ref q_1, .int 0])), (q_1, .inl (cJ, 40, .inr (.inl (fun _ => (0 : Int64)))))] H := hP
  have hD : va_D A [(h_, .inr (0, [.ref q_1, .int 0])), (q_1, .inl (cJ, 40, .inr (.inl (fun _ => (0 : Int64)))))] := hD
  refine lv_aload_n hx hb dX0_init_12 rfl (lv_at hl 0 rfl) ?_
  refine lv_iconst (v := nI 0) hx hb dX0_init_13 (by decide) ?_
  refine va_put (D := D) (ci := 0) (v := .int (nI 0)) (ty := .int) (C := RX0) (T := TX0) (N := 2) hx hb hts nX0_init_0 tyX0 tyX0_ok nmX0 hown hK hP hD hS 0 rfl rfl 1 (by decide) (zh (w := .fieldLink RX0 13 "FretRoots$BigNumbe\x72" "used" "I") hts 6 rfl) (fun _ h9 => h9) rfl (by decide +kernel) rfl rfl (Nat.le_of_ble_eq_true rfl) dX0_init_14 (fun H locs hP hD hS => ?_)
  have hP : va_P D cl5 [(h_, .inr (0, [.ref q_1, .int (nI 0)])), (q_1, .inl (cJ, 40, .inr (.inl (fun _ => (0 : Int64)))))] H := hP
  have hD : va_D A [(h_, .inr (0, [.ref q_1, .int (nI 0)])), (q_1, .inl (cJ, 40, .inr (.inl (fun _ => (0 : Int64)))))] := hD
  subst hQ
  exact ze_v hx hb hr hlocks q_1 (trivial) hP hK hD hS dX0_init_17
theorem nX1_init_1 : ∀ w ∈ wsX10, w ∈ wsX1_init := by decide +kernel
abbrev rm_X1_init : Room := { frames := 1, cells := 0, slots := 0, locals := 12 }
set_option maxHeartbeats 4000000 in
set_option maxRecDepth 100000 in
/-- Chain() -/
theorem ct_X1_init (l : Launch) (D : va_G) (cI cJ cD : ClassId) (ch_ : Nat) (sz : Nat) : Met l yX1_init wsX1_init rm_X1_init (zP D (ty3 cI cJ cD) [.ref ch_] sz [(ch_, .inr (1, [.long 0, .long 0, .long 0, .long 0]))] zT) (va_Qv (fun (u : Unit) => True) (zB D (ty3 cI cJ cD) (fun (u : Unit) => [(ch_, .inr (1, [.long (lN 1), .long (lN 1), .long (lN 0), .long (lN 0)]))]) (va_A [(ch_, .inr (1, [.long 0, .long 0, .long 0, .long 0]))] sz)) (va_A [(ch_, .inr (1, [.long 0, .long 0, .long 0, .long 0]))] sz)) 0 0 (va_A [(ch_, .inr (1, [.long 0, .long 0, .long 0, .long 0]))] sz) := by
  refine zMet (Qf := fun A => va_Qv (fun (u : Unit) => True) (zB D (ty3 cI cJ cD) (fun (u : Unit) => [(ch_, .inr (1, [.long (lN 1), .long (lN 1), .long (lN 0), .long (lN 0)]))]) A) A) (cc := cX1_init) (maxL := 1) (ret := none) (by decide) rfl (Nat.le_of_ble_eq_true rfl) ?_
  intro p e s m args below meth c A ls Q H hargs hQ hHe hx hb hr hml hown hts hlocks hin hP hK hD hA hS hE hAe hl
  have hl : lv_has ls 1 [(0, .ref ch_)] := hl
  refine lv_aload_n hx hb dX1_init_0 rfl (lv_at hl 0 rfl) ?_
  refine W.objInit hx hb hown (zh (w := .methodLink RX1 3 objectInit) hts 1 rfl) (zh (w := .instanceMethod objectInit) hts 2 rfl) (zh (w := .code objectInit ⟨#[0xb1]⟩ 1 none) hts 3 rfl) rfl (by rw [hml]; exact hl.1) rfl dX1_init_1 (Nat.le_of_ble_eq_true rfl) (Nat.le_of_ble_eq_true rfl) ?_
  refine W.eq (g2 := F0 m 4 ls []) rfl ?_
  refine lv_aload_n hx hb dX1_init_4 rfl (lv_at hl 0 rfl) ?_
  refine lv_lconst (v := lN 1) hx hb dX1_init_5 rfl ?_
  refine va_put (D := D) (ci := 1) (v := .long (lN 1)) (ty := .long) (C := RX1) (T := TX1) (N := 4) hx hb hts nX1_init_1 tyX1 tyX1_ok nmX1 hown hK hP hD hS 0 rfl rfl 0 (by decide) (zh (w := .fieldLink RX1 9 "FretRoots$Chain" "above" "J") hts 4 rfl) (fun _ h9 => h9) rfl (by decide +kernel) rfl rfl (Nat.le_of_ble_eq_true rfl) dX1_init_6 (fun H locs hP hD hS => ?_)
  have hP : va_P D cl5 [(ch_, .inr (1, [.long (lN 1), .long 0, .long 0, .long 0]))] H := hP
  have hD : va_D A [(ch_, .inr (1, [.long (lN 1), .long 0, .long 0, .long 0]))] := hD
  refine lv_aload_n hx hb dX1_init_9 rfl (lv_at hl 0 rfl) ?_
  refine lv_lconst (v := lN 1) hx hb dX1_init_10 rfl ?_
  refine va_put (D := D) (ci := 1) (v := .long (lN 1)) (ty := .long) (C := RX1) (T := TX1) (N := 4) hx hb hts nX1_init_1 tyX1 tyX1_ok nmX1 hown hK hP hD hS 0 rfl rfl 1 (by decide) (zh (w := .fieldLink RX1 15 "FretRoots$Chain" "below" "J") hts 5 rfl) (fun _ h9 => h9) rfl (by decide +kernel) rfl rfl (Nat.le_of_ble_eq_true rfl) dX1_init_11 (fun H locs hP hD hS => ?_)
  have hP : va_P D cl5 [(ch_, .inr (1, [.long (lN 1), .long (lN 1), .long 0, .long 0]))] H := hP
  have hD : va_D A [(ch_, .inr (1, [.long (lN 1), .long (lN 1), .long 0, .long 0]))] := hD
  refine lv_aload_n hx hb dX1_init_14 rfl (lv_at hl 0 rfl) ?_
  refine lv_lconst (v := lN 0) hx hb dX1_init_15 rfl ?_
  refine va_put (D := D) (ci := 1) (v := .long (lN 0)) (ty := .long) (C := RX1) (T := TX1) (N := 4) hx hb hts nX1_init_1 tyX1 tyX1_ok nmX1 hown hK hP hD hS 0 rfl rfl 2 (by decide) (zh (w := .fieldLink RX1 18 "FretRoots$Chain" "octaves" "J") hts 6 rfl) (fun _ h9 => h9) rfl (by decide +kernel) rfl rfl (Nat.le_of_ble_eq_true rfl) dX1_init_16 (fun H locs hP hD hS => ?_)
  have hP : va_P D cl5 [(ch_, .inr (1, [.long (lN 1), .long (lN 1), .long (lN 0), .long 0]))] H := hP
  have hD : va_D A [(ch_, .inr (1, [.long (lN 1), .long (lN 1), .long (lN 0), .long 0]))] := hD
  refine lv_aload_n hx hb dX1_init_19 rfl (lv_at hl 0 rfl) ?_
  refine lv_lconst (v := lN 0) hx hb dX1_init_20 rfl ?_
  refine va_put (D := D) (ci := 1) (v := .long (lN 0)) (ty := .long) (C := RX1) (T := TX1) (N := 4) hx hb hts nX1_init_1 tyX1 tyX1_ok nmX1 hown hK hP hD hS 0 rfl rfl 3 (by decide) (zh (w := .fieldLink RX1 21 "FretRoots$Chain" "steps" "J") hts 7 rfl) (fun _ h9 => h9) rfl (by decide +kernel) rfl rfl (Nat.le_of_ble_eq_true rfl) dX1_init_21 (fun H locs hP hD hS => ?_)
  have hP : va_P D cl5 [(ch_, .inr (1, [.long (lN 1), .long (lN 1), .long (lN 0), .long (lN 0)]))] H := hP
  have hD : va_D A [(ch_, .inr (1, [.long (lN 1), .long (lN 1), .long (lN 0), .long (lN 0)]))] := hD
  subst hQ
  exact ze_v hx hb hr hlocks () (trivial) hP hK hD hS dX1_init_24
abbrev rm_X3_rootOfTwo : Room := { frames := 0, cells := 0, slots := 0, locals := 0 }
set_option maxHeartbeats 4000000 in
set_option maxRecDepth 100000 in
/-- rootOfTwo: some double -/
theorem ct_X3_rootOfTwo (l : Launch) (D : va_G) (cI cJ cD : ClassId) (n_ : Nat) (sz : Nat) (hn1 : 1 ≤ n_) (hn : n_ ≤ 24) : MetD lw_cs l yX3_rootOfTwo wsX3_rootOfTwo rm_X3_rootOfTwo (zP D (ty3 cI cJ cD) [.int (nI n_)] sz [] zT) (va_Qd (fun (r : UInt64) (u : Unit) => True) (zB D (ty3 cI cJ cD) (fun (u : Unit) => []) (va_A [] sz)) (va_A [] sz)) 0 0 (va_A [] sz) := by
  refine zMetD (Qf := fun A => va_Qd (fun (r : UInt64) (u : Unit) => True) (zB D (ty3 cI cJ cD) (fun (u : Unit) => []) A) A) (cc := cX3_rootOfTwo) (maxL := 7) (ret := (some .double)) (by decide) rfl (Nat.le_of_ble_eq_true rfl) ?_
  intro p e s m args below meth c A ls Q H d hargs hQ hHe hx hb hr hml hown hts hlocks hin hP hK hD hA hS hE hAe hl hd
  have hl : lv_has ls 7 [(0, .int (nI n_))] := hl
  have hts0 := hts
  have hK0 := hK
  have hts := dr_words hts0 d
  have hK := zK_dr (d := d) hK0
  have hown : (s.setDrawn d).vm.findClass RX3 = some m.cls := hown
  have lp_9 : ∀ (k9_ : Nat) (i : Nat) (x : UInt64) (H : Heap) (locs : List Loc) (ls : Array Slot), 8 - i < k9_ → ∀ d : Drawn, s.drawn.sameBut d lw_cs → i ≤ 8 →  va_P D cl5 [] H → va_D A [] → va_S A s.heap H locs → lv_has ls 7 [(0, .int (nI n_)), (1, .double x), (3, .int (nI i))] → W p l e rm_X3_rootOfTwo (s.setDrawn d) m args below meth c H locs 0 0 Q (F0 m 9 ls []) := by
    intro k9_
    induction k9_ with
    | zero => intro i x H locs ls hm; exact absurd hm (Nat.not_lt_zero _)
    | succ k9_ ih_9 =>
      intro i x H locs ls hm d hd h1 hP hD hS hl
      have hts := dr_words hts0 d
      have hK := zK_dr (d := d) hK0
      have hown : (s.setDrawn d).vm.findClass RX3 = some m.cls := hown
      have lp_21 : ∀ (k9_ : Nat) (k : Nat) (y : UInt64) (H : Heap) (locs : List Loc) (ls : Array Slot), n_ - k < k9_ → ∀ d : Drawn, s.drawn.sameBut d lw_cs → k ≤ n_ → i < 8 →  va_P D cl5 [] H → va_D A [] → va_S A s.heap H locs → lv_has ls 7 [(0, .int (nI n_)), (1, .double x), (3, .int (nI i)), (4, .double y), (6, .int (nI k))] → W p l e rm_X3_rootOfTwo (s.setDrawn d) m args below meth c H locs 0 0 Q (F0 m 21 ls []) := by
        intro k9_
        induction k9_ with
        | zero => intro k y H locs ls hm; exact absurd hm (Nat.not_lt_zero _)
        | succ k9_ ih_21 =>
          intro k y H locs ls hm d hd h2 h8 hP hD hS hl
          have hts := dr_words hts0 d
          have hK := zK_dr (d := d) hK0
          have hown : (s.setDrawn d).vm.findClass RX3 = some m.cls := hown
          refine lv_iload hx hb dX3_rootOfTwo_21 (lv_at hl 4 rfl) ?_
          refine lv_iload_n hx hb dX3_rootOfTwo_23 rfl (lv_at hl 0 rfl) ?_
          refine lv_icmp_ge (tgt := 39) hx hb dX3_rootOfTwo_24 (by decide) (fun c_24 => ?_) (fun c_24 => ?_)
          · skip
            have c_24 := zji_le (a := n_) (b := k) (by omega) (by omega) c_24
            refine lv_dload_n hx hb dX3_rootOfTwo_39 rfl (lv_at hl 1 rfl) ?_
            refine lv_dload hx hb dX3_rootOfTwo_40 (lv_at hl 3 rfl) ?_
            refine lv_dload_n hx hb dX3_rootOfTwo_42 rfl (lv_at hl 1 rfl) ?_
            refine lv_dmul_any hd lw_bits hx hb dX3_rootOfTwo_43 (fun x_1 d al_1 hd => ?_)
            have hts := dr_words hts0 d
            have hK := zK_dr (d := d) hK0
            have hown : (s.setDrawn d).vm.findClass RX3 = some m.cls := hown
            refine lv_ldc2d (v := 4611686018427387904) hx hb hown (zh (w := .constantDouble RX3 196 (4611686018427387904)) hts 1 rfl) dX3_rootOfTwo_44 ?_
            refine lv_dsub_any hd lw_bits hx hb dX3_rootOfTwo_47 (fun x_2 d al_2 hd => ?_)
            have hts := dr_words hts0 d
            have hK := zK_dr (d := d) hK0
            have hown : (s.setDrawn d).vm.findClass RX3 = some m.cls := hown
            refine lv_dload hx hb dX3_rootOfTwo_48 (lv_at hl 3 rfl) ?_
            refine lv_iload_n hx hb dX3_rootOfTwo_50 rfl (lv_at hl 0 rfl) ?_
            refine lv_i2d hx hb dX3_rootOfTwo_51 ?_
            refine lv_dmul_any hd lw_bits hx hb dX3_rootOfTwo_52 (fun x_3 d al_3 hd => ?_)
            have hts := dr_words hts0 d
            have hK := zK_dr (d := d) hK0
            have hown : (s.setDrawn d).vm.findClass RX3 = some m.cls := hown
            refine lv_ddiv_any hd lw_bits hx hb dX3_rootOfTwo_53 (fun x_4 d al_4 hd => ?_)
            have hts := dr_words hts0 d
            have hK := zK_dr (d := d) hK0
            have hown : (s.setDrawn d).vm.findClass RX3 = some m.cls := hown
            refine lv_dsub_any hd lw_bits hx hb dX3_rootOfTwo_54 (fun x_5 d al_5 hd => ?_)
            have hts := dr_words hts0 d
            have hK := zK_dr (d := d) hK0
            have hown : (s.setDrawn d).vm.findClass RX3 = some m.cls := hown
            refine lv_dstore_n (lv' := [(1, .double x_5), (0, .int (nI n_)), (3, .int (nI i)), (4, .double y), (6, .int (nI k))]) hx hb dX3_rootOfTwo_55 rfl hl (by decide) rfl (fun ls hl => ?_)
            refine lv_iinc (v := nI (i + 1)) (lv' := [(3, .int (nI (i + 1))), (1, .double x_5), (0, .int (nI n_)), (4, .double y), (6, .int (nI k))]) hx hb dX3_rootOfTwo_56 hl (k := 2) rfl (z_inc i 1) (by decide) rfl (fun ls hl => ?_)
            refine lv_goto (tgt := 9) hx hb dX3_rootOfTwo_59 (by decide) ?_
            exact ih_9 (i + 1) x_5 _ _ _ (by omega) _ hd (by omega) hP hD hS (lv_sub hl [2, 1, 0] rfl)
          · skip
            have c_24 := zji_nle (a := n_) (b := k) (by omega) (by omega) c_24
            refine lv_dload hx hb dX3_rootOfTwo_27 (lv_at hl 3 rfl) ?_
            refine lv_dload_n hx hb dX3_rootOfTwo_29 rfl (lv_at hl 1 rfl) ?_
            refine lv_dmul_any hd lw_bits hx hb dX3_rootOfTwo_30 (fun x_6 d al_6 hd => ?_)
            have hts := dr_words hts0 d
            have hK := zK_dr (d := d) hK0
            have hown : (s.setDrawn d).vm.findClass RX3 = some m.cls := hown
            refine lv_dstore (lv' := [(4, .double x_6), (0, .int (nI n_)), (1, .double x), (3, .int (nI i)), (6, .int (nI k))]) hx hb dX3_rootOfTwo_31 hl (by decide) rfl (fun ls hl => ?_)
            refine lv_iinc (v := nI (k + 1)) (lv' := [(6, .int (nI (k + 1))), (4, .double x_6), (0, .int (nI n_)), (1, .double x), (3, .int (nI i))]) hx hb dX3_rootOfTwo_33 hl (k := 4) rfl (z_inc k 1) (by decide) rfl (fun ls hl => ?_)
            refine lv_goto (tgt := 21) hx hb dX3_rootOfTwo_36 (by decide) ?_
            exact ih_21 (k + 1) x_6 _ _ _ (by omega) _ hd (by omega) h8 hP hD hS (lv_sub hl [2, 3, 4, 1, 0] rfl)
      refine lv_iload_n hx hb dX3_rootOfTwo_9 rfl (lv_at hl 2 rfl) ?_
      refine lv_bipush (v := nI 8) hx hb dX3_rootOfTwo_10 (by decide) ?_
      refine lv_icmp_ge (tgt := 62) hx hb dX3_rootOfTwo_12 (by decide) (fun c_12 => ?_) (fun c_12 => ?_)
      · skip
        have c_12 := zji_le (a := 8) (b := i) (by omega) (by omega) c_12
        refine lv_dload_n hx hb dX3_rootOfTwo_62 rfl (lv_at hl 1 rfl) ?_
        subst hQ
        refine W.endD hd ?_
        exact ze_d hx hb hr hlocks () (trivial) hP hK hD hS dX3_rootOfTwo_63
      · skip
        have c_12 := zji_nle (a := 8) (b := i) (by omega) (by omega) c_12
        refine lv_dconst1 hx hb dX3_rootOfTwo_15 ?_
        refine lv_dstore (lv' := [(4, .double FP.dconst1), (0, .int (nI n_)), (1, .double x), (3, .int (nI i))]) hx hb dX3_rootOfTwo_16 hl (by decide) rfl (fun ls hl => ?_)
        refine lv_iconst (v := nI 1) hx hb dX3_rootOfTwo_18 (by decide) ?_
        refine lv_istore (lv' := [(6, .int (nI 1)), (4, .double FP.dconst1), (0, .int (nI n_)), (1, .double x), (3, .int (nI i))]) hx hb dX3_rootOfTwo_19 hl (by decide) rfl (fun ls hl => ?_)
        exact lp_21 ((n_ - 1) + 1) 1 FP.dconst1 _ _ _ (Nat.lt_succ_self _) _ hd hn1 c_12 hP hD hS (lv_sub hl [2, 3, 4, 1, 0] rfl)
  refine lv_dconst1 hx hb dX3_rootOfTwo_0 ?_
  refine lv_dconst1 hx hb dX3_rootOfTwo_1 ?_
  refine lv_iload_n hx hb dX3_rootOfTwo_2 rfl (lv_at hl 0 rfl) ?_
  refine lv_i2d hx hb dX3_rootOfTwo_3 ?_
  refine lv_ddiv_any hd lw_bits hx hb dX3_rootOfTwo_4 (fun x_7 d al_7 hd => ?_)
  have hts := dr_words hts0 d
  have hK := zK_dr (d := d) hK0
  have hown : (s.setDrawn d).vm.findClass RX3 = some m.cls := hown
  refine lv_dadd_any hd lw_bits hx hb dX3_rootOfTwo_5 (fun x_8 d al_8 hd => ?_)
  have hts := dr_words hts0 d
  have hK := zK_dr (d := d) hK0
  have hown : (s.setDrawn d).vm.findClass RX3 = some m.cls := hown
  refine lv_dstore_n (lv' := [(1, .double x_8), (0, .int (nI n_))]) hx hb dX3_rootOfTwo_6 rfl hl (by decide) rfl (fun ls hl => ?_)
  refine lv_iconst (v := nI 0) hx hb dX3_rootOfTwo_7 (by decide) ?_
  refine lv_istore_n (lv' := [(3, .int (nI 0)), (1, .double x_8), (0, .int (nI n_))]) hx hb dX3_rootOfTwo_8 rfl hl (by decide) rfl (fun ls hl => ?_)
  exact lp_9 ((8 - 0) + 1) 0 x_8 _ _ _ (Nat.lt_succ_self _) _ hd (Nat.zero_le _) hP hD hS (lv_sub hl [2, 1, 0] rfl)
abbrev rm_X3_rootsOfTwo : Room := { frames := 1, cells := 1, slots := 24, locals := 26 }
set_option maxHeartbeats 4000000 in
set_option maxRecDepth 100000 in
/-- rootsOfTwo -/
theorem ct_X3_rootsOfTwo (l : Launch) (D : va_G) (cI cJ cD : ClassId) (n_ : Nat) (sz : Nat) (hn1 : 1 ≤ n_) (hn : n_ ≤ 24) : MetD lw_cs l yX3_rootsOfTwo wsX3_rootsOfTwo rm_X3_rootsOfTwo (zP D (ty3 cI cJ cD) [.int (nI n_)] sz [] zT) (va_Qr (fun (u : Nat × (Nat → UInt64)) => True) (zBr D (ty3 cI cJ cD) (fun (u : Nat × (Nat → UInt64)) => [((u.1), .inl (cD, n_, .inr (.inr (.inr (.inl (u.2))))))]) (fun (u : Nat × (Nat → UInt64)) => (u.1)) (va_A [] sz)) (va_A [] sz)) 1 24 (va_A [] sz) := by
  refine zMetD (Qf := fun A => va_Qr (fun (u : Nat × (Nat → UInt64)) => True) (zBr D (ty3 cI cJ cD) (fun (u : Nat × (Nat → UInt64)) => [((u.1), .inl (cD, n_, .inr (.inr (.inr (.inl (u.2))))))]) (fun (u : Nat × (Nat → UInt64)) => (u.1)) A) A) (cc := cX3_rootsOfTwo) (maxL := 7) (ret := (some (.array .double))) (by decide) rfl (Nat.le_of_ble_eq_true rfl) ?_
  intro p e s m args below meth c A ls Q H d hargs hQ hHe hx hb hr hml hown hts hlocks hin hP hK hD hA hS hE hAe hl hd
  have hl : lv_has ls 7 [(0, .int (nI n_))] := hl
  have hts0 := hts
  have hK0 := hK
  have hts := dr_words hts0 d
  have hK := zK_dr (d := d) hK0
  have hown : (s.setDrawn d).vm.findClass RX3 = some m.cls := hown
  have lp_19 : ∀ (k9_ : Nat) (qa : Nat) (i : Nat) (x : UInt64) (y : UInt64) (f : Nat → UInt64) (H : Heap) (locs : List Loc) (ls : Array Slot), n_ - i < k9_ → ∀ d : Drawn, s.drawn.sameBut d lw_cs → i ≤ n_ →  va_P D cl5 [(qa, .inl (cD, n_, .inr (.inr (.inr (.inl f)))))] H → va_D A [(qa, .inl (cD, n_, .inr (.inr (.inr (.inl f)))))] → va_S A s.heap H locs → lv_has ls 7 [(1, .ref qa), (2, .double x), (4, .double y), (6, .int (nI i))] → W p l e rm_X3_rootsOfTwo (s.setDrawn d) m args below meth c H locs 1 24 Q (F0 m 19 ls []) := by
    intro k9_
    induction k9_ with
    | zero => intro qa i x y f H locs ls hm; exact absurd hm (Nat.not_lt_zero _)
    | succ k9_ ih_19 =>
      intro qa i x y f H locs ls hm d hd h1 hP hD hS hl
      have hts := dr_words hts0 d
      have hK := zK_dr (d := d) hK0
      have hown : (s.setDrawn d).vm.findClass RX3 = some m.cls := hown
      refine lv_iload hx hb dX3_rootsOfTwo_19 (lv_at hl 3 rfl) ?_
      refine lv_aload_n hx hb dX3_rootsOfTwo_21 rfl (lv_at hl 0 rfl) ?_
      refine va_alen hx hb hK hP 0 2 rfl (ty := .double) rfl (v := nI n_) rfl dX3_rootsOfTwo_22 ?_
      refine lv_icmp_ge (tgt := 44) hx hb dX3_rootsOfTwo_23 (by decide) (fun c_23 => ?_) (fun c_23 => ?_)
      · skip
        have c_23 := zji_le (a := n_) (b := i) (by omega) (by omega) c_23
        refine lv_aload_n hx hb dX3_rootsOfTwo_44 rfl (lv_at hl 0 rfl) ?_
        subst hQ
        refine W.endD hd ?_
        exact ze_r hx hb hr hlocks (qa, f) rfl (trivial) hP hK hD hS dX3_rootsOfTwo_45
      · skip
        have c_23 := zji_nle (a := n_) (b := i) (by omega) (by omega) c_23
        refine lv_aload_n hx hb dX3_rootsOfTwo_26 rfl (lv_at hl 0 rfl) ?_
        refine lv_iload hx hb dX3_rootsOfTwo_27 (lv_at hl 3 rfl) ?_
        refine lv_dload hx hb dX3_rootsOfTwo_29 (lv_at hl 2 rfl) ?_
        refine z_dast (j := i) hx hb hK hP hD hS 0 2 rfl rfl (by omega) (by omega) dX3_rootsOfTwo_31 (fun H locs hP hD hS => ?_)
        obtain ⟨fA, efA⟩ : ∃ f9, f9 = vf_upd f i y := ⟨_, rfl⟩
        have hP : va_P D cl5 [(qa, .inl (cD, n_, .inr (.inr (.inr (.inl fA)))))] H := by rw [efA]; exact hP
        have hD : va_D A [(qa, .inl (cD, n_, .inr (.inr (.inr (.inl fA)))))] := by rw [efA]; exact hD
        refine lv_dload hx hb dX3_rootsOfTwo_32 (lv_at hl 2 rfl) ?_
        refine lv_dload_n hx hb dX3_rootsOfTwo_34 rfl (lv_at hl 1 rfl) ?_
        refine lv_dmul_any hd lw_bits hx hb dX3_rootsOfTwo_35 (fun x_1 d al_1 hd => ?_)
        have hts := dr_words hts0 d
        have hK := zK_dr (d := d) hK0
        have hown : (s.setDrawn d).vm.findClass RX3 = some m.cls := hown
        refine lv_dstore (lv' := [(4, .double x_1), (1, .ref qa), (2, .double x), (6, .int (nI i))]) hx hb dX3_rootsOfTwo_36 hl (by decide) rfl (fun ls hl => ?_)
        refine lv_iinc (v := nI (i + 1)) (lv' := [(6, .int (nI (i + 1))), (4, .double x_1), (1, .ref qa), (2, .double x)]) hx hb dX3_rootsOfTwo_38 hl (k := 3) rfl (z_inc i 1) (by decide) rfl (fun ls hl => ?_)
        refine lv_goto (tgt := 19) hx hb dX3_rootsOfTwo_41 (by decide) ?_
        exact ih_19 qa (i + 1) x x_1 fA _ _ _ (by omega) _ hd (by omega) hP hD hS (lv_sub hl [2, 3, 1, 0] rfl)
  refine lv_iconst (v := nI 1) hx hb dX3_rootsOfTwo_0 (by decide) ?_
  refine lv_iload_n hx hb dX3_rootsOfTwo_1 rfl (lv_at hl 0 rfl) ?_
  refine va_mmax (R := rm_X3_rootsOfTwo) (cells := 0) (slots := 0) (rest := []) hx hb (hml.trans hl.1.symm) hown (zh (w := .methodLink RX3 39 Lib.Math.max.name) hts 1 rfl) (zh (w := .static Lib.Math.max.name) hts 2 rfl) (zh (w := .initialized "java/lang/Math") hts 3 rfl) (zh (w := .code Lib.Math.max.name Lib.Math.max.code 2 (some .int)) hts 4 rfl) (Nat.le_of_ble_eq_true rfl) (Nat.le_of_ble_eq_true rfl) (Nat.le_of_ble_eq_true rfl) (Nat.le_of_ble_eq_true rfl) dX3_rootsOfTwo_2 ?_
  refine zi_ (y := nI n_) ((z_max 1 n_ (by decide) (by omega)).trans (congrArg nI (Nat.max_eq_right hn1))) ?_
  refine z_newa (atype := .double) (a0 := (n_, .inr (.inr (.inr (.inl (fun _ => (0 : UInt64))))))) (N' := n_) hx hb (zh (w := .arrayClass .double) hts 5 rfl) (ty := .double) rfl hK hP hD hS hA 2 rfl (fun _ _ h => h) (fun _ => rfl) (nI_pos (by omega)) (nI_clamp (by omega)) (by show _ * 8 ≤ _; omega) (Nat.le_of_ble_eq_true rfl) (by show _ ≤ (24 : Nat); omega) dX3_rootsOfTwo_5 (fun q_2 H hP hD hS => ?_)
  refine W.widen (k := 1) (n := 24) (Nat.le_of_ble_eq_true rfl) (by omega) ?_
  have hP : va_P D cl5 [(q_2, .inl (cD, n_, .inr (.inr (.inr (.inl (fun _ => (0 : UInt64)))))))] H := hP
  have hD : va_D A [(q_2, .inl (cD, n_, .inr (.inr (.inr (.inl (fun _ => (0 : UInt64)))))))] := hD
  refine lv_astore_n (lv' := [(1, .ref q_2), (0, .int (nI n_))]) hx hb dX3_rootsOfTwo_7 rfl hl (by decide) rfl (fun ls hl => ?_)
  refine lv_iload_n hx hb dX3_rootsOfTwo_8 rfl (lv_at hl 1 rfl) ?_
  refine zd_d hd (wc := []) (wr := [(q_2, .inl (cD, n_, .inr (.inr (.inr (.inl (fun _ => (0 : UInt64)))))))]) hP hD hS hA [] [0] rfl rfl (by decide) (by decide) (va_runS_D (As := [.int (nI n_)]) (rest := []) ⟨hx, hb, hml, hown, hts⟩ (ct_X3_rootOfTwo l D cI cJ cD n_ H.size (by omega) (by omega)) (va_cwS 1 hts gX3_rootsOfTwo_X3_rootOfTwo rfl rfl rfl (by decide +kernel) ⟨Nat.le_of_ble_eq_true rfl, Nat.le_of_ble_eq_true rfl⟩) (zPreS (wc := []) hK (hP.sub [] rfl) (hD.sub [] (by decide) rfl) zTb (fun _ _ _ => trivial)) rfl rfl hl.1 rfl (lv_room (Nat.le_of_ble_eq_true rfl)) dX3_rootsOfTwo_9 ⟨Nat.le_of_ble_eq_true rfl, Nat.le_of_ble_eq_true rfl⟩) (fun r_3 u9_ H locs hw hP hD hS d hd => ?_)
  have hts := dr_words hts0 d
  have hK := zK_dr (d := d) hK0
  have hown : (s.setDrawn d).vm.findClass RX3 = some m.cls := hown
  have hP : va_P D cl5 [(q_2, .inl (cD, n_, .inr (.inr (.inr (.inl (fun _ => (0 : UInt64)))))))] H := hP.sub [0] rfl
  have hD : va_D A [(q_2, .inl (cD, n_, .inr (.inr (.inr (.inl (fun _ => (0 : UInt64)))))))] := hD.sub [0] (by decide) rfl
  refine lv_dstore_n (lv' := [(2, .double r_3), (1, .ref q_2), (0, .int (nI n_))]) hx hb dX3_rootsOfTwo_12 rfl hl (by decide) rfl (fun ls hl => ?_)
  refine lv_dconst1 hx hb dX3_rootsOfTwo_13 ?_
  refine lv_dstore (lv' := [(4, .double FP.dconst1), (2, .double r_3), (1, .ref q_2), (0, .int (nI n_))]) hx hb dX3_rootsOfTwo_14 hl (by decide) rfl (fun ls hl => ?_)
  refine lv_iconst (v := nI 0) hx hb dX3_rootsOfTwo_16 (by decide) ?_
  refine lv_istore (lv' := [(6, .int (nI 0)), (4, .double FP.dconst1), (2, .double r_3), (1, .ref q_2), (0, .int (nI n_))]) hx hb dX3_rootsOfTwo_17 hl (by decide) rfl (fun ls hl => ?_)
  exact lp_19 ((n_ - 0) + 1) q_2 0 r_3 FP.dconst1 (fun _ => (0 : UInt64)) _ _ _ (Nat.lt_succ_self _) _ hd (Nat.zero_le _) hP hD hS (lv_sub hl [3, 2, 1, 0] rfl)
theorem nX4_init_4 : ∀ w ∈ wsX40, w ∈ wsX4_init := by decide +kernel
abbrev rm_X4_init : Room := { frames := 1, cells := 3, slots := 250, locals := 12 }
set_option maxHeartbeats 4000000 in
set_option maxRecDepth 100000 in
/-- FretRootsModel(k) -/
theorem ct_X4_init (l : Launch) (D : va_G) (cI cJ cD : ClassId) (m_ : Nat) (k_ : Int32) (sz : Nat) : Met l yX4_init wsX4_init rm_X4_init (zP D (ty3 cI cJ cD) [.ref m_, .int k_] sz [(m_, .inr (4, [.int 0, .int 0, .long 0, .int 0, .null, .null, .long 0, .long 0, .long 0, .long 0, .int 0, .int 0, .int 0, .null]))] zT) (va_Qv (fun (u : Nat × Nat × Nat × (Nat → Int32) × (Nat → Int32)) => (∀ j, j < 49 → (u.2.2.2.1) j = nI 1) ∧ (∀ j, j < 49 → (u.2.2.2.2) j = nI 1)) (zB D (ty3 cI cJ cD) (fun (u : Nat × Nat × Nat × (Nat → Int32) × (Nat → Int32)) => [(m_, .inr (4, [.int 0, .int (nI (clN k_)), .long (lN 1000), .int (nI 8), .ref (u.1), .ref (u.2.1), .long (lN 1), .long (lN 1), .long 0, .long 0, .int (nI 1000), .int (nI 1000), .int (nI 1), .ref (u.2.2.1)])), ((u.1), .inl (cI, 49, .inl (u.2.2.2.1))), ((u.2.1), .inl (cI, 49, .inl (u.2.2.2.2))), ((u.2.2.1), .inl (cI, 152, .inl (fun _ => (0 : Int32))))]) (va_A [(m_, .inr (4, [.int 0, .int 0, .long 0, .int 0, .null, .null, .long 0, .long 0, .long 0, .long 0, .int 0, .int 0, .int 0, .null]))] sz)) (va_A [(m_, .inr (4, [.int 0, .int 0, .long 0, .int 0, .null, .null, .long 0, .long 0, .long 0, .long 0, .int 0, .int 0, .int 0, .null]))] sz)) 3 250 (va_A [(m_, .inr (4, [.int 0, .int 0, .long 0, .int 0, .null, .null, .long 0, .long 0, .long 0, .long 0, .int 0, .int 0, .int 0, .null]))] sz) := by
  refine zMet (Qf := fun A => va_Qv (fun (u : Nat × Nat × Nat × (Nat → Int32) × (Nat → Int32)) => (∀ j, j < 49 → (u.2.2.2.1) j = nI 1) ∧ (∀ j, j < 49 → (u.2.2.2.2) j = nI 1)) (zB D (ty3 cI cJ cD) (fun (u : Nat × Nat × Nat × (Nat → Int32) × (Nat → Int32)) => [(m_, .inr (4, [.int 0, .int (nI (clN k_)), .long (lN 1000), .int (nI 8), .ref (u.1), .ref (u.2.1), .long (lN 1), .long (lN 1), .long 0, .long 0, .int (nI 1000), .int (nI 1000), .int (nI 1), .ref (u.2.2.1)])), ((u.1), .inl (cI, 49, .inl (u.2.2.2.1))), ((u.2.1), .inl (cI, 49, .inl (u.2.2.2.2))), ((u.2.2.1), .inl (cI, 152, .inl (fun _ => (0 : Int32))))]) A) A) (cc := cX4_init) (maxL := 3) (ret := none) (by decide) rfl (Nat.le_of_ble_eq_true rfl) ?_
  intro p e s m args below meth c A ls Q H hargs hQ hHe hx hb hr hml hown hts hlocks hin hP hK hD hA hS hE hAe hl
  have hl : lv_has ls 3 [(0, .ref m_), (1, .int k_)] := hl
  have lp_98 : ∀ (k9_ : Nat) (qa : Nat) (qb : Nat) (qr : Nat) (i : Nat) (fa : Nat → Int32) (fb : Nat → Int32) (H : Heap) (locs : List Loc) (ls : Array Slot), 49 - i < k9_ → i ≤ 49 → (∀ j, j < i → fa j = nI 1) → (∀ j, j < i → fb j = nI 1) →  va_P D cl5 [(m_, .inr (4, [.int 0, .int (nI (clN k_)), .long (lN 1000), .int (nI 8), .ref qa, .ref qb, .long (lN 1), .long (lN 1), .long 0, .long 0, .int (nI 1000), .int (nI 1000), .int (nI 1), .ref qr])), (qa, .inl (cI, 49, .inl fa)), (qb, .inl (cI, 49, .inl fb)), (qr, .inl (cI, 152, .inl (fun _ => (0 : Int32))))] H → va_D A [(m_, .inr (4, [.int 0, .int (nI (clN k_)), .long (lN 1000), .int (nI 8), .ref qa, .ref qb, .long (lN 1), .long (lN 1), .long 0, .long 0, .int (nI 1000), .int (nI 1000), .int (nI 1), .ref qr])), (qa, .inl (cI, 49, .inl fa)), (qb, .inl (cI, 49, .inl fb)), (qr, .inl (cI, 152, .inl (fun _ => (0 : Int32))))] → va_S A s.heap H locs → lv_has ls 3 [(0, .ref m_), (2, .int (nI i))] → W p l e rm_X4_init s m args below meth c H locs 3 250 Q (F0 m 98 ls []) := by
    intro k9_
    induction k9_ with
    | zero => intro qa qb qr i fa fb H locs ls hm; exact absurd hm (Nat.not_lt_zero _)
    | succ k9_ ih_98 =>
      intro qa qb qr i fa fb H locs ls hm  h1 h2 h3 hP hD hS hl
      refine lv_iload_n hx hb dX4_init_98 rfl (lv_at hl 1 rfl) ?_
      refine lv_bipush (v := nI 49) hx hb dX4_init_99 (by decide) ?_
      refine lv_icmp_ge (tgt := 124) hx hb dX4_init_101 (by decide) (fun c_101 => ?_) (fun c_101 => ?_)
      · skip
        have c_101 := zji_le (a := 49) (b := i) (by omega) (by omega) c_101
        subst hQ
        exact ze_v hx hb hr hlocks (qa, qb, qr, fa, fb) (⟨fun j hj => h2 j (by omega), fun j hj => h3 j (by omega)⟩) hP hK hD hS dX4_init_124
      · skip
        have c_101 := zji_nle (a := 49) (b := i) (by omega) (by omega) c_101
        refine lv_aload_n hx hb dX4_init_104 rfl (lv_at hl 0 rfl) ?_
        refine va_get (D := D) (ci := 4) (v := .ref qa) (C := RX4) (T := TX4) (N := 14) hx hb hts nX4_init_4 hown hK hP 0 rfl rfl 4 (by decide) (zh (w := .fieldLink RX4 19 "FretRootsModel" "aboves" "[I") hts 8 rfl) (fun _ h9 => h9) rfl dX4_init_105 ?_
        refine lv_iload_n hx hb dX4_init_108 rfl (lv_at hl 1 rfl) ?_
        refine lv_iconst (v := nI 1) hx hb dX4_init_109 (by decide) ?_
        refine z_iast (j := i) hx hb hK hP hD hS 1 0 rfl rfl (by omega) (by omega) dX4_init_110 (fun H locs hP hD hS => ?_)
        obtain ⟨gA, egA⟩ : ∃ f9, f9 = upd fa i (nI 1) := ⟨_, rfl⟩
        have hP : va_P D cl5 [(m_, .inr (4, [.int 0, .int (nI (clN k_)), .long (lN 1000), .int (nI 8), .ref qa, .ref qb, .long (lN 1), .long (lN 1), .long 0, .long 0, .int (nI 1000), .int (nI 1000), .int (nI 1), .ref qr])), (qa, .inl (cI, 49, .inl gA)), (qb, .inl (cI, 49, .inl fb)), (qr, .inl (cI, 152, .inl (fun _ => (0 : Int32))))] H := by rw [egA]; exact hP
        have hD : va_D A [(m_, .inr (4, [.int 0, .int (nI (clN k_)), .long (lN 1000), .int (nI 8), .ref qa, .ref qb, .long (lN 1), .long (lN 1), .long 0, .long 0, .int (nI 1000), .int (nI 1000), .int (nI 1), .ref qr])), (qa, .inl (cI, 49, .inl gA)), (qb, .inl (cI, 49, .inl fb)), (qr, .inl (cI, 152, .inl (fun _ => (0 : Int32))))] := by rw [egA]; exact hD
        refine lv_aload_n hx hb dX4_init_111 rfl (lv_at hl 0 rfl) ?_
        refine va_get (D := D) (ci := 4) (v := .ref qb) (C := RX4) (T := TX4) (N := 14) hx hb hts nX4_init_4 hown hK hP 0 rfl rfl 5 (by decide) (zh (w := .fieldLink RX4 23 "FretRootsModel" "belows" "[I") hts 9 rfl) (fun _ h9 => h9) rfl dX4_init_112 ?_
        refine lv_iload_n hx hb dX4_init_115 rfl (lv_at hl 1 rfl) ?_
        refine lv_iconst (v := nI 1) hx hb dX4_init_116 (by decide) ?_
        refine z_iast (j := i) hx hb hK hP hD hS 2 0 rfl rfl (by omega) (by omega) dX4_init_117 (fun H locs hP hD hS => ?_)
        obtain ⟨gB, egB⟩ : ∃ f9, f9 = upd fb i (nI 1) := ⟨_, rfl⟩
        have hP : va_P D cl5 [(m_, .inr (4, [.int 0, .int (nI (clN k_)), .long (lN 1000), .int (nI 8), .ref qa, .ref qb, .long (lN 1), .long (lN 1), .long 0, .long 0, .int (nI 1000), .int (nI 1000), .int (nI 1), .ref qr])), (qa, .inl (cI, 49, .inl gA)), (qb, .inl (cI, 49, .inl gB)), (qr, .inl (cI, 152, .inl (fun _ => (0 : Int32))))] H := by rw [egB]; exact hP
        have hD : va_D A [(m_, .inr (4, [.int 0, .int (nI (clN k_)), .long (lN 1000), .int (nI 8), .ref qa, .ref qb, .long (lN 1), .long (lN 1), .long 0, .long 0, .int (nI 1000), .int (nI 1000), .int (nI 1), .ref qr])), (qa, .inl (cI, 49, .inl gA)), (qb, .inl (cI, 49, .inl gB)), (qr, .inl (cI, 152, .inl (fun _ => (0 : Int32))))] := by rw [egB]; exact hD
        refine lv_iinc (v := nI (i + 1)) (lv' := [(2, .int (nI (i + 1))), (0, .ref m_)]) hx hb dX4_init_118 hl (k := 1) rfl (z_inc i 1) (by decide) rfl (fun ls hl => ?_)
        refine lv_goto (tgt := 98) hx hb dX4_init_121 (by decide) ?_
        exact ih_98 qa qb qr (i + 1) gA gB _ _ _ (by omega) (by omega) (by rw [egA]; exact fillI_next h2) (by rw [egB]; exact fillI_next h3) hP hD hS (lv_sub hl [1, 0] rfl)
  refine lv_aload_n hx hb dX4_init_0 rfl (lv_at hl 0 rfl) ?_
  refine W.objInit hx hb hown (zh (w := .methodLink RX4 1 objectInit) hts 1 rfl) (zh (w := .instanceMethod objectInit) hts 2 rfl) (zh (w := .code objectInit ⟨#[0xb1]⟩ 1 none) hts 3 rfl) rfl (by rw [hml]; exact hl.1) rfl dX4_init_1 (Nat.le_of_ble_eq_true rfl) (Nat.le_of_ble_eq_true rfl) ?_
  refine W.eq (g2 := F0 m 4 ls []) rfl ?_
  refine lv_aload_n hx hb dX4_init_4 rfl (lv_at hl 0 rfl) ?_
  refine lv_ldc2 (v := 1000) hx hb hown (zh (w := .constantLong RX4 7 (1000)) hts 4 rfl) dX4_init_5 ?_
  refine zl_ (y := lN 1000) rfl ?_
  refine va_put (D := D) (ci := 4) (v := .long (lN 1000)) (ty := .long) (C := RX4) (T := TX4) (N := 14) hx hb hts nX4_init_4 tyX4 tyX4_ok nmX4 hown hK hP hD hS 0 rfl rfl 2 (by decide) (zh (w := .fieldLink RX4 9 "FretRootsModel" "length" "J") hts 5 rfl) (fun _ h9 => h9) rfl (by decide +kernel) rfl rfl (Nat.le_of_ble_eq_true rfl) dX4_init_8 (fun H locs hP hD hS => ?_)
  have hP : va_P D cl5 [(m_, .inr (4, [.int 0, .int 0, .long (lN 1000), .int 0, .null, .null, .long 0, .long 0, .long 0, .long 0, .int 0, .int 0, .int 0, .null]))] H := hP
  have hD : va_D A [(m_, .inr (4, [.int 0, .int 0, .long (lN 1000), .int 0, .null, .null, .long 0, .long 0, .long 0, .long 0, .int 0, .int 0, .int 0, .null]))] := hD
  refine lv_aload_n hx hb dX4_init_11 rfl (lv_at hl 0 rfl) ?_
  refine lv_bipush (v := nI 8) hx hb dX4_init_12 (by decide) ?_
  refine va_put (D := D) (ci := 4) (v := .int (nI 8)) (ty := .int) (C := RX4) (T := TX4) (N := 14) hx hb hts nX4_init_4 tyX4 tyX4_ok nmX4 hown hK hP hD hS 0 rfl rfl 3 (by decide) (zh (w := .fieldLink RX4 15 "FretRootsModel" "shift" "I") hts 6 rfl) (fun _ h9 => h9) rfl (by decide +kernel) rfl rfl (Nat.le_of_ble_eq_true rfl) dX4_init_14 (fun H locs hP hD hS => ?_)
  have hP : va_P D cl5 [(m_, .inr (4, [.int 0, .int 0, .long (lN 1000), .int (nI 8), .null, .null, .long 0, .long 0, .long 0, .long 0, .int 0, .int 0, .int 0, .null]))] H := hP
  have hD : va_D A [(m_, .inr (4, [.int 0, .int 0, .long (lN 1000), .int (nI 8), .null, .null, .long 0, .long 0, .long 0, .long 0, .int 0, .int 0, .int 0, .null]))] := hD
  refine lv_aload_n hx hb dX4_init_17 rfl (lv_at hl 0 rfl) ?_
  refine lv_bipush (v := nI 49) hx hb dX4_init_18 (by decide) ?_
  refine z_newa (atype := .int) (a0 := (49, .inl (fun _ => (0 : Int32)))) (N' := 49) hx hb (zh (w := .arrayClass .int) hts 7 rfl) (ty := .int) rfl hK hP hD hS hA 0 rfl (fun _ _ h => h) (fun _ => rfl) (nI_pos (by omega)) (nI_clamp (by omega)) (by decide) (Nat.le_of_ble_eq_true rfl) (Nat.le_of_ble_eq_true rfl) dX4_init_20 (fun q_1 H hP hD hS => ?_)
  have hP : va_P D cl5 [(m_, .inr (4, [.int 0, .int 0, .long (lN 1000), .int (nI 8), .null, .null, .long 0, .long 0, .long 0, .long 0, .int 0, .int 0, .int 0, .null])), (q_1, .inl (cI, 49, .inl (fun _ => (0 : Int32))))] H := hP
  have hD : va_D A [(m_, .inr (4, [.int 0, .int 0, .long (lN 1000), .int (nI 8), .null, .null, .long 0, .long 0, .long 0, .long 0, .int 0, .int 0, .int 0, .null])), (q_1, .inl (cI, 49, .inl (fun _ => (0 : Int32))))] := hD
  refine va_putF (D := D) (ci := 4) (v := .ref q_1) (ty := .array .int) (C := RX4) (T := TX4) (N := 14) hx hb hts nX4_init_4 tyX4 tyX4_ok nmX4 hown hK hP hD hS 0 rfl rfl 4 (by decide) (zh (w := .fieldLink RX4 19 "FretRootsModel" "aboves" "[I") hts 8 rfl) (fun _ h9 => h9) rfl hin rfl (by decide +kernel) rfl rfl (Nat.le_of_ble_eq_true rfl) dX4_init_22 (fun H locs hP hD hS => ?_)
  have hP : va_P D cl5 [(m_, .inr (4, [.int 0, .int 0, .long (lN 1000), .int (nI 8), .ref q_1, .null, .long 0, .long 0, .long 0, .long 0, .int 0, .int 0, .int 0, .null])), (q_1, .inl (cI, 49, .inl (fun _ => (0 : Int32))))] H := hP
  have hD : va_D A [(m_, .inr (4, [.int 0, .int 0, .long (lN 1000), .int (nI 8), .ref q_1, .null, .long 0, .long 0, .long 0, .long 0, .int 0, .int 0, .int 0, .null])), (q_1, .inl (cI, 49, .inl (fun _ => (0 : Int32))))] := hD
  refine lv_aload_n hx hb dX4_init_25 rfl (lv_at hl 0 rfl) ?_
  refine lv_bipush (v := nI 49) hx hb dX4_init_26 (by decide) ?_
  refine z_newa (atype := .int) (a0 := (49, .inl (fun _ => (0 : Int32)))) (N' := 49) hx hb (zh (w := .arrayClass .int) hts 7 rfl) (ty := .int) rfl hK hP hD hS hA 0 rfl (fun _ _ h => h) (fun _ => rfl) (nI_pos (by omega)) (nI_clamp (by omega)) (by decide) (Nat.le_of_ble_eq_true rfl) (Nat.le_of_ble_eq_true rfl) dX4_init_28 (fun q_2 H hP hD hS => ?_)
  have hP : va_P D cl5 [(m_, .inr (4, [.int 0, .int 0, .long (lN 1000), .int (nI 8), .ref q_1, .null, .long 0, .long 0, .long 0, .long 0, .int 0, .int 0, .int 0, .null])), (q_1, .inl (cI, 49, .inl (fun _ => (0 : Int32)))), (q_2, .inl (cI, 49, .inl (fun _ => (0 : Int32))))] H := hP
  have hD : va_D A [(m_, .inr (4, [.int 0, .int 0, .long (lN 1000), .int (nI 8), .ref q_1, .null, .long 0, .long 0, .long 0, .long 0, .int 0, .int 0, .int 0, .null])), (q_1, .inl (cI, 49, .inl (fun _ => (0 : Int32)))), (q_2, .inl (cI, 49, .inl (fun _ => (0 : Int32))))] := hD
  refine va_putF (D := D) (ci := 4) (v := .ref q_2) (ty := .array .int) (C := RX4) (T := TX4) (N := 14) hx hb hts nX4_init_4 tyX4 tyX4_ok nmX4 hown hK hP hD hS 0 rfl rfl 5 (by decide) (zh (w := .fieldLink RX4 23 "FretRootsModel" "belows" "[I") hts 9 rfl) (fun _ h9 => h9) rfl hin rfl (by decide +kernel) rfl rfl (Nat.le_of_ble_eq_true rfl) dX4_init_30 (fun H locs hP hD hS => ?_)
  have hP : va_P D cl5 [(m_, .inr (4, [.int 0, .int 0, .long (lN 1000), .int (nI 8), .ref q_1, .ref q_2, .long 0, .long 0, .long 0, .long 0, .int 0, .int 0, .int 0, .null])), (q_1, .inl (cI, 49, .inl (fun _ => (0 : Int32)))), (q_2, .inl (cI, 49, .inl (fun _ => (0 : Int32))))] H := hP
  have hD : va_D A [(m_, .inr (4, [.int 0, .int 0, .long (lN 1000), .int (nI 8), .ref q_1, .ref q_2, .long 0, .long 0, .long 0, .long 0, .int 0, .int 0, .int 0, .null])), (q_1, .inl (cI, 49, .inl (fun _ => (0 : Int32)))), (q_2, .inl (cI, 49, .inl (fun _ => (0 : Int32))))] := hD
  refine lv_aload_n hx hb dX4_init_33 rfl (lv_at hl 0 rfl) ?_
  refine lv_lconst (v := lN 1) hx hb dX4_init_34 rfl ?_
  refine va_put (D := D) (ci := 4) (v := .long (lN 1)) (ty := .long) (C := RX4) (T := TX4) (N := 14) hx hb hts nX4_init_4 tyX4 tyX4_ok nmX4 hown hK hP hD hS 0 rfl rfl 6 (by decide) (zh (w := .fieldLink RX4 26 "FretRootsModel" "chainAbove" "J") hts 10 rfl) (fun _ h9 => h9) rfl (by decide +kernel) rfl rfl (Nat.le_of_ble_eq_true rfl) dX4_init_35 (fun H locs hP hD hS => ?_)
  have hP : va_P D cl5 [(m_, .inr (4, [.int 0, .int 0, .long (lN 1000), .int (nI 8), .ref q_1, .ref q_2, .long (lN 1), .long 0, .long 0, .long 0, .int 0, .int 0, .int 0, .null])), (q_1, .inl (cI, 49, .inl (fun _ => (0 : Int32)))), (q_2, .inl (cI, 49, .inl (fun _ => (0 : Int32))))] H := hP
  have hD : va_D A [(m_, .inr (4, [.int 0, .int 0, .long (lN 1000), .int (nI 8), .ref q_1, .ref q_2, .long (lN 1), .long 0, .long 0, .long 0, .int 0, .int 0, .int 0, .null])), (q_1, .inl (cI, 49, .inl (fun _ => (0 : Int32)))), (q_2, .inl (cI, 49, .inl (fun _ => (0 : Int32))))] := hD
  refine lv_aload_n hx hb dX4_init_38 rfl (lv_at hl 0 rfl) ?_
  refine lv_lconst (v := lN 1) hx hb dX4_init_39 rfl ?_
  refine va_put (D := D) (ci := 4) (v := .long (lN 1)) (ty := .long) (C := RX4) (T := TX4) (N := 14) hx hb hts nX4_init_4 tyX4 tyX4_ok nmX4 hown hK hP hD hS 0 rfl rfl 7 (by decide) (zh (w := .fieldLink RX4 29 "FretRootsModel" "chainBelow" "J") hts 11 rfl) (fun _ h9 => h9) rfl (by decide +kernel) rfl rfl (Nat.le_of_ble_eq_true rfl) dX4_init_40 (fun H locs hP hD hS => ?_)
  have hP : va_P D cl5 [(m_, .inr (4, [.int 0, .int 0, .long (lN 1000), .int (nI 8), .ref q_1, .ref q_2, .long (lN 1), .long (lN 1), .long 0, .long 0, .int 0, .int 0, .int 0, .null])), (q_1, .inl (cI, 49, .inl (fun _ => (0 : Int32)))), (q_2, .inl (cI, 49, .inl (fun _ => (0 : Int32))))] H := hP
  have hD : va_D A [(m_, .inr (4, [.int 0, .int 0, .long (lN 1000), .int (nI 8), .ref q_1, .ref q_2, .long (lN 1), .long (lN 1), .long 0, .long 0, .int 0, .int 0, .int 0, .null])), (q_1, .inl (cI, 49, .inl (fun _ => (0 : Int32)))), (q_2, .inl (cI, 49, .inl (fun _ => (0 : Int32))))] := hD
  refine lv_aload_n hx hb dX4_init_43 rfl (lv_at hl 0 rfl) ?_
  refine lv_sipush (v := nI 1000) hx hb dX4_init_44 (by decide) ?_
  refine va_put (D := D) (ci := 4) (v := .int (nI 1000)) (ty := .int) (C := RX4) (T := TX4) (N := 14) hx hb hts nX4_init_4 tyX4 tyX4_ok nmX4 hown hK hP hD hS 0 rfl rfl 10 (by decide) (zh (w := .fieldLink RX4 32 "FretRootsModel" "bass" "I") hts 12 rfl) (fun _ h9 => h9) rfl (by decide +kernel) rfl rfl (Nat.le_of_ble_eq_true rfl) dX4_init_47 (fun H locs hP hD hS => ?_)
  have hP : va_P D cl5 [(m_, .inr (4, [.int 0, .int 0, .long (lN 1000), .int (nI 8), .ref q_1, .ref q_2, .long (lN 1), .long (lN 1), .long 0, .long 0, .int (nI 1000), .int 0, .int 0, .null])), (q_1, .inl (cI, 49, .inl (fun _ => (0 : Int32)))), (q_2, .inl (cI, 49, .inl (fun _ => (0 : Int32))))] H := hP
  have hD : va_D A [(m_, .inr (4, [.int 0, .int 0, .long (lN 1000), .int (nI 8), .ref q_1, .ref q_2, .long (lN 1), .long (lN 1), .long 0, .long 0, .int (nI 1000), .int 0, .int 0, .null])), (q_1, .inl (cI, 49, .inl (fun _ => (0 : Int32)))), (q_2, .inl (cI, 49, .inl (fun _ => (0 : Int32))))] := hD
  refine lv_aload_n hx hb dX4_init_50 rfl (lv_at hl 0 rfl) ?_
  refine lv_sipush (v := nI 1000) hx hb dX4_init_51 (by decide) ?_
  refine va_put (D := D) (ci := 4) (v := .int (nI 1000)) (ty := .int) (C := RX4) (T := TX4) (N := 14) hx hb hts nX4_init_4 tyX4 tyX4_ok nmX4 hown hK hP hD hS 0 rfl rfl 11 (by decide) (zh (w := .fieldLink RX4 35 "FretRootsModel" "treble" "I") hts 13 rfl) (fun _ h9 => h9) rfl (by decide +kernel) rfl rfl (Nat.le_of_ble_eq_true rfl) dX4_init_54 (fun H locs hP hD hS => ?_)
  have hP : va_P D cl5 [(m_, .inr (4, [.int 0, .int 0, .long (lN 1000), .int (nI 8), .ref q_1, .ref q_2, .long (lN 1), .long (lN 1), .long 0, .long 0, .int (nI 1000), .int (nI 1000), .int 0, .null])), (q_1, .inl (cI, 49, .inl (fun _ => (0 : Int32)))), (q_2, .inl (cI, 49, .inl (fun _ => (0 : Int32))))] H := hP
  have hD : va_D A [(m_, .inr (4, [.int 0, .int 0, .long (lN 1000), .int (nI 8), .ref q_1, .ref q_2, .long (lN 1), .long (lN 1), .long 0, .long 0, .int (nI 1000), .int (nI 1000), .int 0, .null])), (q_1, .inl (cI, 49, .inl (fun _ => (0 : Int32)))), (q_2, .inl (cI, 49, .inl (fun _ => (0 : Int32))))] := hD
  refine lv_aload_n hx hb dX4_init_57 rfl (lv_at hl 0 rfl) ?_
  refine lv_iconst (v := nI 1) hx hb dX4_init_58 (by decide) ?_
  refine va_put (D := D) (ci := 4) (v := .int (nI 1)) (ty := .int) (C := RX4) (T := TX4) (N := 14) hx hb hts nX4_init_4 tyX4 tyX4_ok nmX4 hown hK hP hD hS 0 rfl rfl 12 (by decide) (zh (w := .fieldLink RX4 38 "FretRootsModel" "span" "I") hts 14 rfl) (fun _ h9 => h9) rfl (by decide +kernel) rfl rfl (Nat.le_of_ble_eq_true rfl) dX4_init_59 (fun H locs hP hD hS => ?_)
  have hP : va_P D cl5 [(m_, .inr (4, [.int 0, .int 0, .long (lN 1000), .int (nI 8), .ref q_1, .ref q_2, .long (lN 1), .long (lN 1), .long 0, .long 0, .int (nI 1000), .int (nI 1000), .int (nI 1), .null])), (q_1, .inl (cI, 49, .inl (fun _ => (0 : Int32)))), (q_2, .inl (cI, 49, .inl (fun _ => (0 : Int32))))] H := hP
  have hD : va_D A [(m_, .inr (4, [.int 0, .int 0, .long (lN 1000), .int (nI 8), .ref q_1, .ref q_2, .long (lN 1), .long (lN 1), .long 0, .long 0, .int (nI 1000), .int (nI 1000), .int (nI 1), .null])), (q_1, .inl (cI, 49, .inl (fun _ => (0 : Int32)))), (q_2, .inl (cI, 49, .inl (fun _ => (0 : Int32))))] := hD
  refine lv_aload_n hx hb dX4_init_62 rfl (lv_at hl 0 rfl) ?_
  refine lv_sipush (v := nI 152) hx hb dX4_init_63 (by decide) ?_
  refine z_newa (atype := .int) (a0 := (152, .inl (fun _ => (0 : Int32)))) (N' := 152) hx hb (zh (w := .arrayClass .int) hts 7 rfl) (ty := .int) rfl hK hP hD hS hA 0 rfl (fun _ _ h => h) (fun _ => rfl) (nI_pos (by omega)) (nI_clamp (by omega)) (by decide) (Nat.le_of_ble_eq_true rfl) (Nat.le_of_ble_eq_true rfl) dX4_init_66 (fun q_3 H hP hD hS => ?_)
  have hP : va_P D cl5 [(m_, .inr (4, [.int 0, .int 0, .long (lN 1000), .int (nI 8), .ref q_1, .ref q_2, .long (lN 1), .long (lN 1), .long 0, .long 0, .int (nI 1000), .int (nI 1000), .int (nI 1), .null])), (q_1, .inl (cI, 49, .inl (fun _ => (0 : Int32)))), (q_2, .inl (cI, 49, .inl (fun _ => (0 : Int32)))), (q_3, .inl (cI, 152, .inl (fun _ => (0 : Int32))))] H := hP
  have hD : va_D A [(m_, .inr (4, [.int 0, .int 0, .long (lN 1000), .int (nI 8), .ref q_1, .ref q_2, .long (lN 1), .long (lN 1), .long 0, .long 0, .int (nI 1000), .int (nI 1000), .int (nI 1), .null])), (q_1, .inl (cI, 49, .inl (fun _ => (0 : Int32)))), (q_2, .inl (cI, 49, .inl (fun _ => (0 : Int32)))), (q_3, .inl (cI, 152, .inl (fun _ => (0 : Int32))))] := hD
  refine va_putF (D := D) (ci := 4) (v := .ref q_3) (ty := .array .int) (C := RX4) (T := TX4) (N := 14) hx hb hts nX4_init_4 tyX4 tyX4_ok nmX4 hown hK hP hD hS 0 rfl rfl 13 (by decide) (zh (w := .fieldLink RX4 41 "FretRootsModel" "\x72" "[I") hts 15 rfl) (fun _ h9 => h9) rfl hin rfl (by decide +kernel) rfl rfl (Nat.le_of_ble_eq_true rfl) dX4_init_68 (fun H locs hP hD hS => ?_)
  have hP : va_P D cl5 [(m_, .inr (4, [.int 0, .int 0, .long (lN 1000), .int (nI 8), .ref q_1, .ref q_2, .long (lN 1), .long (lN 1), .long 0, .long 0, .int (nI 1000), .int (nI 1000), .int (nI 1), .ref q_3])), (q_1, .inl (cI, 49, .inl (fun _ => (0 : Int32)))), (q_2, .inl (cI, 49, .inl (fun _ => (0 : Int32)))), (q_3, .inl (cI, 152, .inl (fun _ => (0 : Int32))))] H := hP
  have hD : va_D A [(m_, .inr (4, [.int 0, .int 0, .long (lN 1000), .int (nI 8), .ref q_1, .ref q_2, .long (lN 1), .long (lN 1), .long 0, .long 0, .int (nI 1000), .int (nI 1000), .int (nI 1), .ref q_3])), (q_1, .inl (cI, 49, .inl (fun _ => (0 : Int32)))), (q_2, .inl (cI, 49, .inl (fun _ => (0 : Int32)))), (q_3, .inl (cI, 152, .inl (fun _ => (0 : Int32))))] := hD
  refine lv_aload_n hx hb dX4_init_71 rfl (lv_at hl 0 rfl) ?_
  refine lv_iload_n hx hb dX4_init_72 rfl (lv_at hl 1 rfl) ?_
  refine lv_iconst (v := nI 1) hx hb dX4_init_73 (by decide) ?_
  refine lv_icmp_ge (tgt := 81) hx hb dX4_init_74 (by decide) (fun c_74 => ?_) (fun c_74 => ?_)
  · skip
    refine lv_iload_n hx hb dX4_init_81 rfl (lv_at hl 1 rfl) ?_
    refine lv_bipush (v := nI 24) hx hb dX4_init_82 (by decide) ?_
    refine lv_icmp_le (tgt := 92) hx hb dX4_init_84 (by decide) (fun c_84 => ?_) (fun c_84 => ?_)
    · skip
      refine lv_iload_n hx hb dX4_init_92 rfl (lv_at hl 1 rfl) ?_
      refine zi_ (y := nI (clN k_)) ((cl_in (Int32.not_lt.mpr c_74) (Int32.not_lt.mpr c_84)).1) ?_
      refine va_put (D := D) (ci := 4) (v := .int (nI (clN k_))) (ty := .int) (C := RX4) (T := TX4) (N := 14) hx hb hts nX4_init_4 tyX4 tyX4_ok nmX4 hown hK hP hD hS 0 rfl rfl 1 (by decide) (zh (w := .fieldLink RX4 44 "FretRootsModel" "notes" "I") hts 16 rfl) (fun _ h9 => h9) rfl (by decide +kernel) rfl rfl (Nat.le_of_ble_eq_true rfl) dX4_init_93 (fun H locs hP hD hS => ?_)
      have hP : va_P D cl5 [(m_, .inr (4, [.int 0, .int (nI (clN k_)), .long (lN 1000), .int (nI 8), .ref q_1, .ref q_2, .long (lN 1), .long (lN 1), .long 0, .long 0, .int (nI 1000), .int (nI 1000), .int (nI 1), .ref q_3])), (q_1, .inl (cI, 49, .inl (fun _ => (0 : Int32)))), (q_2, .inl (cI, 49, .inl (fun _ => (0 : Int32)))), (q_3, .inl (cI, 152, .inl (fun _ => (0 : Int32))))] H := hP
      have hD : va_D A [(m_, .inr (4, [.int 0, .int (nI (clN k_)), .long (lN 1000), .int (nI 8), .ref q_1, .ref q_2, .long (lN 1), .long (lN 1), .long 0, .long 0, .int (nI 1000), .int (nI 1000), .int (nI 1), .ref q_3])), (q_1, .inl (cI, 49, .inl (fun _ => (0 : Int32)))), (q_2, .inl (cI, 49, .inl (fun _ => (0 : Int32)))), (q_3, .inl (cI, 152, .inl (fun _ => (0 : Int32))))] := hD
      refine lv_iconst (v := nI 0) hx hb dX4_init_96 (by decide) ?_
      refine lv_istore_n (lv' := [(2, .int (nI 0)), (0, .ref m_), (1, .int k_)]) hx hb dX4_init_97 rfl hl (by decide) rfl (fun ls hl => ?_)
      exact lp_98 ((49 - 0) + 1) q_1 q_2 q_3 0 (fun _ => (0 : Int32)) (fun _ => (0 : Int32)) _ _ _ (Nat.lt_succ_self _) (Nat.zero_le _) (fun j hj => absurd hj (Nat.not_lt_zero _)) (fun j hj => absurd hj (Nat.not_lt_zero _)) hP hD hS (lv_sub hl [1, 0] rfl)
    · skip
      refine lv_bipush (v := nI 24) hx hb dX4_init_87 (by decide) ?_
      refine zi_ (y := nI (clN k_)) (congrArg nI (cl_hi (Int32.not_lt.mpr c_74) (Int32.not_le.mp c_84)).symm) ?_
      refine lv_goto (tgt := 93) hx hb dX4_init_89 (by decide) ?_
      refine va_put (D := D) (ci := 4) (v := .int (nI (clN k_))) (ty := .int) (C := RX4) (T := TX4) (N := 14) hx hb hts nX4_init_4 tyX4 tyX4_ok nmX4 hown hK hP hD hS 0 rfl rfl 1 (by decide) (zh (w := .fieldLink RX4 44 "FretRootsModel" "notes" "I") hts 16 rfl) (fun _ h9 => h9) rfl (by decide +kernel) rfl rfl (Nat.le_of_ble_eq_true rfl) dX4_init_93 (fun H locs hP hD hS => ?_)
      have hP : va_P D cl5 [(m_, .inr (4, [.int 0, .int (nI (clN k_)), .long (lN 1000), .int (nI 8), .ref q_1, .ref q_2, .long (lN 1), .long (lN 1), .long 0, .long 0, .int (nI 1000), .int (nI 1000), .int (nI 1), .ref q_3])), (q_1, .inl (cI, 49, .inl (fun _ => (0 : Int32)))), (q_2, .inl (cI, 49, .inl (fun _ => (0 : Int32)))), (q_3, .inl (cI, 152, .inl (fun _ => (0 : Int32))))] H := hP
      have hD : va_D A [(m_, .inr (4, [.int 0, .int (nI (clN k_)), .long (lN 1000), .int (nI 8), .ref q_1, .ref q_2, .long (lN 1), .long (lN 1), .long 0, .long 0, .int (nI 1000), .int (nI 1000), .int (nI 1), .ref q_3])), (q_1, .inl (cI, 49, .inl (fun _ => (0 : Int32)))), (q_2, .inl (cI, 49, .inl (fun _ => (0 : Int32)))), (q_3, .inl (cI, 152, .inl (fun _ => (0 : Int32))))] := hD
      refine lv_iconst (v := nI 0) hx hb dX4_init_96 (by decide) ?_
      refine lv_istore_n (lv' := [(2, .int (nI 0)), (0, .ref m_), (1, .int k_)]) hx hb dX4_init_97 rfl hl (by decide) rfl (fun ls hl => ?_)
      exact lp_98 ((49 - 0) + 1) q_1 q_2 q_3 0 (fun _ => (0 : Int32)) (fun _ => (0 : Int32)) _ _ _ (Nat.lt_succ_self _) (Nat.zero_le _) (fun j hj => absurd hj (Nat.not_lt_zero _)) (fun j hj => absurd hj (Nat.not_lt_zero _)) hP hD hS (lv_sub hl [1, 0] rfl)
  · skip
    refine lv_iconst (v := nI 1) hx hb dX4_init_77 (by decide) ?_
    refine zi_ (y := nI (clN k_)) (congrArg nI (cl_lo (Int32.not_le.mp c_74)).symm) ?_
    refine lv_goto (tgt := 93) hx hb dX4_init_78 (by decide) ?_
    refine va_put (D := D) (ci := 4) (v := .int (nI (clN k_))) (ty := .int) (C := RX4) (T := TX4) (N := 14) hx hb hts nX4_init_4 tyX4 tyX4_ok nmX4 hown hK hP hD hS 0 rfl rfl 1 (by decide) (zh (w := .fieldLink RX4 44 "FretRootsModel" "notes" "I") hts 16 rfl) (fun _ h9 => h9) rfl (by decide +kernel) rfl rfl (Nat.le_of_ble_eq_true rfl) dX4_init_93 (fun H locs hP hD hS => ?_)
    have hP : va_P D cl5 [(m_, .inr (4, [.int 0, .int (nI (clN k_)), .long (lN 1000), .int (nI 8), .ref q_1, .ref q_2, .long (lN 1), .long (lN 1), .long 0, .long 0, .int (nI 1000), .int (nI 1000), .int (nI 1), .ref q_3])), (q_1, .inl (cI, 49, .inl (fun _ => (0 : Int32)))), (q_2, .inl (cI, 49, .inl (fun _ => (0 : Int32)))), (q_3, .inl (cI, 152, .inl (fun _ => (0 : Int32))))] H := hP
    have hD : va_D A [(m_, .inr (4, [.int 0, .int (nI (clN k_)), .long (lN 1000), .int (nI 8), .ref q_1, .ref q_2, .long (lN 1), .long (lN 1), .long 0, .long 0, .int (nI 1000), .int (nI 1000), .int (nI 1), .ref q_3])), (q_1, .inl (cI, 49, .inl (fun _ => (0 : Int32)))), (q_2, .inl (cI, 49, .inl (fun _ => (0 : Int32)))), (q_3, .inl (cI, 152, .inl (fun _ => (0 : Int32))))] := hD
    refine lv_iconst (v := nI 0) hx hb dX4_init_96 (by decide) ?_
    refine lv_istore_n (lv' := [(2, .int (nI 0)), (0, .ref m_), (1, .int k_)]) hx hb dX4_init_97 rfl hl (by decide) rfl (fun ls hl => ?_)
    exact lp_98 ((49 - 0) + 1) q_1 q_2 q_3 0 (fun _ => (0 : Int32)) (fun _ => (0 : Int32)) _ _ _ (Nat.lt_succ_self _) (Nat.zero_le _) (fun j hj => absurd hj (Nat.not_lt_zero _)) (fun j hj => absurd hj (Nat.not_lt_zero _)) hP hD hS (lv_sub hl [1, 0] rfl)
