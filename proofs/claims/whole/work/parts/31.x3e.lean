def pullR (x y z v : UInt64) : Prop := ∃ r1 r2 r3 r4 : UInt64, alike64 r1 (FP.dmul 4616189618054758400 z) = true ∧ alike64 r2 (FP.dmul r1 y) = true ∧ alike64 r3 (FP.dmul r2 y) = true ∧ alike64 r4 (FP.dmul r3 x) = true ∧ alike64 v (FP.dmul r4 x) = true
def pipeR (x : UInt64) (o : Int32) (y v : UInt64) : Prop := ∃ r1 r2 r3 : UInt64, alike64 r1 (FP.ddiv 4644688959446712320 x) = true ∧ alike64 r2 (FP.ddiv r1 (if o = 0 then 4616189618054758400 else 4611686018427387904)) = true ∧ alike64 r3 (FP.dmul 4604930618986332160 y) = true ∧ alike64 v (FP.dsub r2 r3) = true
theorem nan_dec {a : UInt64} (h : isNaN64 a = true) : FP.Core.decode FP.Core.b64 a.toNat = .nan := by
  rw [isNaN64_iff] at h
  have hm : a.toNat &&& 0x7fffffffffffffff = a.toNat % 2 ^ 63 := Nat.and_two_pow_sub_one_eq_mod a.toNat 63
  rw [hm] at h
  have h1 : a.toNat / 4503599627370496 % 2048 = 2047 := by omega
  have h2 : ¬ a.toNat % 4503599627370496 = 0 := by omega
  unfold FP.Core.decode
  rw [if_pos (show FP.Core.fieldE FP.Core.b64 a.toNat = FP.Core.b64.exps - 1 from h1), if_neg (show ¬ FP.Core.fieldT FP.Core.b64 a.toNat = 0 from h2)]
theorem al_dec {a b : UInt64} (h : alike64 a b = true) : FP.Core.decode FP.Core.b64 a.toNat = FP.Core.decode FP.Core.b64 b.toNat := by
  unfold alike64 at h
  rw [Bool.or_eq_true, decide_eq_true_eq, Bool.and_eq_true] at h
  rcases h with rfl | ⟨h1, h2⟩
  · rfl
  · rw [nan_dec h1, nan_dec h2]
theorem al_tr {v w x y : UInt64} (h1 : alike64 v x = true) (h2 : alike64 w y = true) (h : x = y) : alike64 v w = true := by
  subst h
  unfold alike64 at h1 h2 ⊢
  rw [Bool.or_eq_true, decide_eq_true_eq, Bool.and_eq_true] at h1 h2 ⊢
  rcases h1 with rfl | ⟨a1, a2⟩
  · rcases h2 with rfl | ⟨b1, b2⟩
    · exact Or.inl rfl
    · exact Or.inr ⟨b2, b1⟩
  · rcases h2 with rfl | ⟨b1, b2⟩
    · exact Or.inr ⟨a1, a2⟩
    · exact Or.inr ⟨a1, b1⟩
theorem al_mul {a b x y : UInt64} (h : alike64 a b = true) (h2 : alike64 x y = true) : FP.dmul a x = FP.dmul b y := by
  show UInt64.ofNat (FP.Core.encode _ (FP.Core.round _ (FP.Core.exactProduct (FP.Core.decode _ a.toNat) (FP.Core.decode _ x.toNat)))) = UInt64.ofNat (FP.Core.encode _ (FP.Core.round _ (FP.Core.exactProduct (FP.Core.decode _ b.toNat) (FP.Core.decode _ y.toNat))))
  rw [al_dec h, al_dec h2]
theorem al_div {a b x y : UInt64} (h : alike64 a b = true) (h2 : alike64 x y = true) : FP.ddiv a x = FP.ddiv b y := by
  show UInt64.ofNat (FP.Core.encode _ (FP.Core.quotient _ (FP.Core.decode _ a.toNat) (FP.Core.decode _ x.toNat))) = UInt64.ofNat (FP.Core.encode _ (FP.Core.quotient _ (FP.Core.decode _ b.toNat) (FP.Core.decode _ y.toNat)))
  rw [al_dec h, al_dec h2]
theorem al_sub {a b x y : UInt64} (h : alike64 a b = true) (h2 : alike64 x y = true) : FP.dsub a x = FP.dsub b y := by
  show UInt64.ofNat (FP.Core.encode _ (FP.Core.round _ (FP.Core.exactSum (FP.Core.decode _ a.toNat) (FP.Core.negate (FP.Core.decode _ x.toNat))))) = UInt64.ofNat (FP.Core.encode _ (FP.Core.round _ (FP.Core.exactSum (FP.Core.decode _ b.toNat) (FP.Core.negate (FP.Core.decode _ y.toNat)))))
  rw [al_dec h, al_dec h2]
theorem al_rf (x : UInt64) : alike64 x x = true := alike64_refl x
theorem pull_one {x y z v w : UInt64} (h1 : pullR x y z v) (h2 : pullR x y z w) : alike64 v w = true := by
  obtain ⟨a1, a2, a3, a4, p1, p2, p3, p4, p5⟩ := h1
  obtain ⟨b1, b2, b3, b4, q1, q2, q3, q4, q5⟩ := h2
  have e1 := al_tr p1 q1 rfl
  have e2 := al_tr p2 q2 (al_mul e1 (al_rf _))
  have e3 := al_tr p3 q3 (al_mul e2 (al_rf _))
  have e4 := al_tr p4 q4 (al_mul e3 (al_rf _))
  exact al_tr p5 q5 (al_mul e4 (al_rf _))
theorem pipe_one {x y v w : UInt64} {o : Int32} (h1 : pipeR x o y v) (h2 : pipeR x o y w) : alike64 v w = true := by
  obtain ⟨a1, a2, a3, p1, p2, p3, p4⟩ := h1
  obtain ⟨b1, b2, b3, q1, q2, q3, q4⟩ := h2
  have e1 := al_tr p1 q1 rfl
  have e2 := al_tr p2 q2 (al_div e1 (al_rf _))
  have e3 := al_tr p3 q3 rfl
  exact al_tr p4 q4 (al_sub e2 e3)
theorem rl_le (x a b : UInt64) : rlI x a b ≤ 1 := by unfold rlI; split <;> omega
theorem cd2_1 {a b : Nat} (h1 : a = 1) (h2 : b = 1) : cd2 a b = 0 := if_neg (by omega)
theorem cd3_0 {a b c : Nat} (h1 : a = 1) (h2 : b = 1) (h3 : c = 1) : cd3 a b c = 0 := if_neg (by omega)
theorem nX3_rest_1 : ∀ w ∈ wsX10, w ∈ wsX3_rest := by decide +kernel
theorem nX3_rest_3 : ∀ w ∈ wsX30, w ∈ wsX3_rest := by decide +kernel
abbrev rm_X3_rest : Room := { frames := 1, cells := 0, slots := 0, locals := 21 }
set_option maxHeartbeats 4000000 in
set_option maxRecDepth 100000 in
/-- rest -/
theorem ct_X3_rest (l : Launch) (D : va_G) (cI cJ cD : ClassId) (o_ : Nat) (ro_ : Nat) (ja_ : Nat) (jb_ : Nat) (sr_ : Nat) (br_ : Nat) (tr_ : Nat) (ch_ : Nat) (lf_ : Nat) (ri_ : Nat) (nn_ : Int32) (sh_ : Int32) (sp_ : Int32) (p_ : Nat) (ca_ : Int64) (cb_ : Int64) (oc_ : Int64) (st_ : Int64) (sz : Nat) (hp : p_ < 4) : Met l yX3_rest wsX3_rest rm_X3_rest (zP D (ty3 cI cJ cD) [.ref o_, .int (nI p_)] sz [(o_, .inr (3, [.int nn_, .ref ro_, .ref ja_, .ref jb_, .ref sr_, .ref br_, .ref tr_, .ref ch_, .ref lf_, .ref ri_, .int sh_, .int sp_])), (ch_, .inr (1, [.long ca_, .long cb_, .long oc_, .long st_]))] zT) (va_Ql (fun (r : Int64) (u : Unit) => r = if p_ = 0 then ca_ else if p_ = 1 then cb_ else if p_ = 2 then oc_ else st_) (zB D (ty3 cI cJ cD) (fun (u : Unit) => [(o_, .inr (3, [.int nn_, .ref ro_, .ref ja_, .ref jb_, .ref sr_, .ref br_, .ref tr_, .ref ch_, .ref lf_, .ref ri_, .int sh_, .int sp_])), (ch_, .inr (1, [.long ca_, .long cb_, .long oc_, .long st_]))]) (va_A [(o_, .inr (3, [.int nn_, .ref ro_, .ref ja_, .ref jb_, .ref sr_, .ref br_, .ref tr_, .ref ch_, .ref lf_, .ref ri_, .int sh_, .int sp_])), (ch_, .inr (1, [.long ca_, .long cb_, .long oc_, .long st_]))] sz)) (va_A [(o_, .inr (3, [.int nn_, .ref ro_, .ref ja_, .ref jb_, .ref sr_, .ref br_, .ref tr_, .ref ch_, .ref lf_, .ref ri_, .int sh_, .int sp_])), (ch_, .inr (1, [.long ca_, .long cb_, .long oc_, .long st_]))] sz)) 0 0 (va_A [(o_, .inr (3, [.int nn_, .ref ro_, .ref ja_, .ref jb_, .ref sr_, .ref br_, .ref tr_, .ref ch_, .ref lf_, .ref ri_, .int sh_, .int sp_])), (ch_, .inr (1, [.long ca_, .long cb_, .long oc_, .long st_]))] sz) := by
  refine zMet (Qf := fun A => va_Ql (fun (r : Int64) (u : Unit) => r = if p_ = 0 then ca_ else if p_ = 1 then cb_ else if p_ = 2 then oc_ else st_) (zB D (ty3 cI cJ cD) (fun (u : Unit) => [(o_, .inr (3, [.int nn_, .ref ro_, .ref ja_, .ref jb_, .ref sr_, .ref br_, .ref tr_, .ref ch_, .ref lf_, .ref ri_, .int sh_, .int sp_])), (ch_, .inr (1, [.long ca_, .long cb_, .long oc_, .long st_]))]) A) A) (cc := cX3_rest) (maxL := 2) (ret := (some .long)) (by decide) rfl (Nat.le_of_ble_eq_true rfl) ?_
  intro p e s m args below meth c A ls Q H hargs hQ hHe hx hb hr hml hown hts hlocks hin hP hK hD hA hS hE hAe hl
  have hl : lv_has ls 2 [(0, .ref o_), (1, .int (nI p_))] := hl
  refine lv_iload_n hx hb dX3_rest_0 rfl (lv_at hl 1 rfl) ?_
  refine lv_iconst (v := nI 4) hx hb dX3_rest_1 (by decide) ?_
  refine zc_v (wc := []) (wr := [(o_, .inr (3, [.int nn_, .ref ro_, .ref ja_, .ref jb_, .ref sr_, .ref br_, .ref tr_, .ref ch_, .ref lf_, .ref ri_, .int sh_, .int sp_])), (ch_, .inr (1, [.long ca_, .long cb_, .long oc_, .long st_]))]) hP hD hS hA [] [0, 1] rfl rfl (by decide) (by decide) (va_runS (As := [.int (nI p_), .int (nI 4)]) (rest := []) ⟨hx, hb, hml, hown, hts⟩ (ct_X3_needPart l D cI cJ cD p_ 4 H.size (by omega) (by omega)) (va_cwS 2 hts gX3_rest_X3_needPart rfl rfl rfl (by decide +kernel) ⟨Nat.le_of_ble_eq_true rfl, Nat.le_of_ble_eq_true rfl⟩) (zPreS (wc := []) hK (hP.sub [] rfl) (hD.sub [] (by decide) rfl) zTb (fun _ _ _ => trivial)) rfl rfl hl.1 rfl (lv_room (Nat.le_of_ble_eq_true rfl)) dX3_rest_2 ⟨Nat.le_of_ble_eq_true rfl, Nat.le_of_ble_eq_true rfl⟩) (fun u9_ H locs hw hP hD hS => ?_)
  have hP : va_P D cl5 [(o_, .inr (3, [.int nn_, .ref ro_, .ref ja_, .ref jb_, .ref sr_, .ref br_, .ref tr_, .ref ch_, .ref lf_, .ref ri_, .int sh_, .int sp_])), (ch_, .inr (1, [.long ca_, .long cb_, .long oc_, .long st_]))] H := hP.sub [0, 1] rfl
  have hD : va_D A [(o_, .inr (3, [.int nn_, .ref ro_, .ref ja_, .ref jb_, .ref sr_, .ref br_, .ref tr_, .ref ch_, .ref lf_, .ref ri_, .int sh_, .int sp_])), (ch_, .inr (1, [.long ca_, .long cb_, .long oc_, .long st_]))] := hD.sub [0, 1] (by decide) rfl
  refine lv_iload_n hx hb dX3_rest_5 rfl (lv_at hl 1 rfl) ?_
  rcases (show p_ = 0 ∨ p_ = 1 ∨ p_ = 2 ∨ p_ = 3 by omega) with c_6 | c_6 | c_6 | c_6
  · skip
    refine zi_ (y := nI 0) (congrArg nI c_6) ?_
    refine lv_tableIn (x := nI 0) (off := 26) (tgt := 32) hx hb dX3_rest_6 (by decide) (by decide) (by decide) (by decide) ?_
    refine lv_aload_n hx hb dX3_rest_32 rfl (lv_at hl 0 rfl) ?_
    refine va_get (D := D) (ci := 3) (v := .ref ch_) (C := RX3) (T := TX3) (N := 12) hx hb hts nX3_rest_3 hown hK hP 0 rfl rfl 7 (by decide) (zh (w := .fieldLink RX3 10 "FretRoots" "chain" "LFretRoots$Chain;") hts 1 rfl) (fun _ h9 => h9) rfl dX3_rest_33 ?_
    refine va_get (D := D) (ci := 1) (v := .long ca_) (C := RX1) (T := TX1) (N := 4) hx hb hts nX3_rest_1 hown hK hP 1 rfl rfl 0 (by decide) (zh (w := .fieldLink RX3 146 "FretRoots$Chain" "above" "J") hts 2 rfl) (fun _ h9 => h9) rfl dX3_rest_36 ?_
    subst hQ
    exact ze_l hx hb hr hlocks () (by rw [c_6]; rfl) hP hK hD hS dX3_rest_39
  · skip
    refine zi_ (y := nI 1) (congrArg nI c_6) ?_
    refine lv_tableIn (x := nI 1) (off := 34) (tgt := 40) hx hb dX3_rest_6 (by decide) (by decide) (by decide) (by decide) ?_
    refine lv_aload_n hx hb dX3_rest_40 rfl (lv_at hl 0 rfl) ?_
    refine va_get (D := D) (ci := 3) (v := .ref ch_) (C := RX3) (T := TX3) (N := 12) hx hb hts nX3_rest_3 hown hK hP 0 rfl rfl 7 (by decide) (zh (w := .fieldLink RX3 10 "FretRoots" "chain" "LFretRoots$Chain;") hts 1 rfl) (fun _ h9 => h9) rfl dX3_rest_41 ?_
    refine va_get (D := D) (ci := 1) (v := .long cb_) (C := RX1) (T := TX1) (N := 4) hx hb hts nX3_rest_1 hown hK hP 1 rfl rfl 1 (by decide) (zh (w := .fieldLink RX3 149 "FretRoots$Chain" "below" "J") hts 3 rfl) (fun _ h9 => h9) rfl dX3_rest_44 ?_
    subst hQ
    exact ze_l hx hb hr hlocks () (by rw [c_6]; rfl) hP hK hD hS dX3_rest_47
  · skip
    refine zi_ (y := nI 2) (congrArg nI c_6) ?_
    refine lv_tableIn (x := nI 2) (off := 42) (tgt := 48) hx hb dX3_rest_6 (by decide) (by decide) (by decide) (by decide) ?_
    refine lv_aload_n hx hb dX3_rest_48 rfl (lv_at hl 0 rfl) ?_
    refine va_get (D := D) (ci := 3) (v := .ref ch_) (C := RX3) (T := TX3) (N := 12) hx hb hts nX3_rest_3 hown hK hP 0 rfl rfl 7 (by decide) (zh (w := .fieldLink RX3 10 "FretRoots" "chain" "LFretRoots$Chain;") hts 1 rfl) (fun _ h9 => h9) rfl dX3_rest_49 ?_
    refine va_get (D := D) (ci := 1) (v := .long oc_) (C := RX1) (T := TX1) (N := 4) hx hb hts nX3_rest_1 hown hK hP 1 rfl rfl 2 (by decide) (zh (w := .fieldLink RX3 152 "FretRoots$Chain" "octaves" "J") hts 4 rfl) (fun _ h9 => h9) rfl dX3_rest_52 ?_
    subst hQ
    exact ze_l hx hb hr hlocks () (by rw [c_6]; rfl) hP hK hD hS dX3_rest_55
  · skip
    refine zi_ (y := nI 3) (congrArg nI c_6) ?_
    refine lv_tableOut (x := nI 3) (tgt := 56) hx hb dX3_rest_6 (by decide) (by decide) ?_
    refine lv_aload_n hx hb dX3_rest_56 rfl (lv_at hl 0 rfl) ?_
    refine va_get (D := D) (ci := 3) (v := .ref ch_) (C := RX3) (T := TX3) (N := 12) hx hb hts nX3_rest_3 hown hK hP 0 rfl rfl 7 (by decide) (zh (w := .fieldLink RX3 10 "FretRoots" "chain" "LFretRoots$Chain;") hts 1 rfl) (fun _ h9 => h9) rfl dX3_rest_57 ?_
    refine va_get (D := D) (ci := 1) (v := .long st_) (C := RX1) (T := TX1) (N := 4) hx hb hts nX3_rest_1 hown hK hP 1 rfl rfl 3 (by decide) (zh (w := .fieldLink RX3 155 "FretRoots$Chain" "steps" "J") hts 5 rfl) (fun _ h9 => h9) rfl dX3_rest_60 ?_
    subst hQ
    exact ze_l hx hb hr hlocks () (by rw [c_6]; rfl) hP hK hD hS dX3_rest_63
abbrev rm_X3_pull : Room := { frames := 1, cells := 0, slots := 0, locals := 25 }
set_option maxHeartbeats 4000000 in
set_option maxRecDepth 100000 in
/-- pull -/
theorem ct_X3_pull (l : Launch) (D : va_G) (cI cJ cD : ClassId) (o_ : Nat) (ro_ : Nat) (ja_ : Nat) (jb_ : Nat) (sr_ : Nat) (br_ : Nat) (tr_ : Nat) (ch_ : Nat) (lf_ : Nat) (ri_ : Nat) (nn_ : Int32) (sh_ : Int32) (sp_ : Int32) (x_ : UInt64) (y_ : UInt64) (z_ : UInt64) (sz : Nat) (h1 : rlI x_ 0 4666723172467343360 = 1) (h2 : rlI y_ 0 4666723172467343360 = 1) (h3 : rlI z_ 0 4666723172467343360 = 1) : MetD lw_cs l yX3_pull wsX3_pull rm_X3_pull (zP D (ty3 cI cJ cD) [.ref o_, .double x_, .double y_, .double z_] sz [(o_, .inr (3, [.int nn_, .ref ro_, .ref ja_, .ref jb_, .ref sr_, .ref br_, .ref tr_, .ref ch_, .ref lf_, .ref ri_, .int sh_, .int sp_]))] zT) (va_Qd (fun (r : UInt64) (u : Unit) => pullR x_ y_ z_ r) (zB D (ty3 cI cJ cD) (fun (u : Unit) => [(o_, .inr (3, [.int nn_, .ref ro_, .ref ja_, .ref jb_, .ref sr_, .ref br_, .ref tr_, .ref ch_, .ref lf_, .ref ri_, .int sh_, .int sp_]))]) (va_A [(o_, .inr (3, [.int nn_, .ref ro_, .ref ja_, .ref jb_, .ref sr_, .ref br_, .ref tr_, .ref ch_, .ref lf_, .ref ri_, .int sh_, .int sp_]))] sz)) (va_A [(o_, .inr (3, [.int nn_, .ref ro_, .ref ja_, .ref jb_, .ref sr_, .ref br_, .ref tr_, .ref ch_, .ref lf_, .ref ri_, .int sh_, .int sp_]))] sz)) 0 0 (va_A [(o_, .inr (3, [.int nn_, .ref ro_, .ref ja_, .ref jb_, .ref sr_, .ref br_, .ref tr_, .ref ch_, .ref lf_, .ref ri_, .int sh_, .int sp_]))] sz) := by
  refine zMetD (Qf := fun A => va_Qd (fun (r : UInt64) (u : Unit) => pullR x_ y_ z_ r) (zB D (ty3 cI cJ cD) (fun (u : Unit) => [(o_, .inr (3, [.int nn_, .ref ro_, .ref ja_, .ref jb_, .ref sr_, .ref br_, .ref tr_, .ref ch_, .ref lf_, .ref ri_, .int sh_, .int sp_]))]) A) A) (cc := cX3_pull) (maxL := 7) (ret := (some .double)) (by decide) rfl (Nat.le_of_ble_eq_true rfl) ?_
  intro p e s m args below meth c A ls Q H d hargs hQ hHe hx hb hr hml hown hts hlocks hin hP hK hD hA hS hE hAe hl hd
  have hl : lv_has ls 7 [(0, .ref o_), (1, .double x_), (3, .double y_), (5, .double z_)] := hl
  have hts0 := hts
  have hK0 := hK
  have hts := dr_words hts0 d
  have hK := zK_dr (d := d) hK0
  have hown : (s.setDrawn d).vm.findClass RX3 = some m.cls := hown
  refine lv_dload_n hx hb dX3_pull_0 rfl (lv_at hl 1 rfl) ?_
  refine lv_dconst0 hx hb dX3_pull_1 ?_
  refine lv_ldc2d (v := 4666723172467343360) hx hb hown (zh (w := .constantDouble RX3 184 (4666723172467343360)) hts 1 rfl) dX3_pull_2 ?_
  refine zc_v (wc := []) (wr := [(o_, .inr (3, [.int nn_, .ref ro_, .ref ja_, .ref jb_, .ref sr_, .ref br_, .ref tr_, .ref ch_, .ref lf_, .ref ri_, .int sh_, .int sp_]))]) hP hD hS hA [] [0] rfl rfl (by decide) (by decide) (va_runS (As := [.double x_, .double FP.dconst0, .double 4666723172467343360]) (rest := []) ⟨hx, hb, hml, hown, hts⟩ (ct_X3_needReal l D cI cJ cD x_ FP.dconst0 4666723172467343360 H.size h1) (va_cwS 3 hts gX3_pull_X3_needReal rfl rfl rfl (by decide +kernel) ⟨Nat.le_of_ble_eq_true rfl, Nat.le_of_ble_eq_true rfl⟩) (zPreS (wc := []) hK (hP.sub [] rfl) (hD.sub [] (by decide) rfl) zTb (fun _ _ _ => trivial)) rfl rfl hl.1 rfl (lv_room (Nat.le_of_ble_eq_true rfl)) dX3_pull_5 ⟨Nat.le_of_ble_eq_true rfl, Nat.le_of_ble_eq_true rfl⟩) (fun u9_ H locs hw hP hD hS => ?_)
  have hP : va_P D cl5 [(o_, .inr (3, [.int nn_, .ref ro_, .ref ja_, .ref jb_, .ref sr_, .ref br_, .ref tr_, .ref ch_, .ref lf_, .ref ri_, .int sh_, .int sp_]))] H := hP.sub [0] rfl
  have hD : va_D A [(o_, .inr (3, [.int nn_, .ref ro_, .ref ja_, .ref jb_, .ref sr_, .ref br_, .ref tr_, .ref ch_, .ref lf_, .ref ri_, .int sh_, .int sp_]))] := hD.sub [0] (by decide) rfl
  refine lv_dload_n hx hb dX3_pull_8 rfl (lv_at hl 2 rfl) ?_
  refine lv_dconst0 hx hb dX3_pull_9 ?_
  refine lv_ldc2d (v := 4666723172467343360) hx hb hown (zh (w := .constantDouble RX3 184 (4666723172467343360)) hts 1 rfl) dX3_pull_10 ?_
  refine zc_v (wc := []) (wr := [(o_, .inr (3, [.int nn_, .ref ro_, .ref ja_, .ref jb_, .ref sr_, .ref br_, .ref tr_, .ref ch_, .ref lf_, .ref ri_, .int sh_, .int sp_]))]) hP hD hS hA [] [0] rfl rfl (by decide) (by decide) (va_runS (As := [.double y_, .double FP.dconst0, .double 4666723172467343360]) (rest := []) ⟨hx, hb, hml, hown, hts⟩ (ct_X3_needReal l D cI cJ cD y_ FP.dconst0 4666723172467343360 H.size h2) (va_cwS 3 hts gX3_pull_X3_needReal rfl rfl rfl (by decide +kernel) ⟨Nat.le_of_ble_eq_true rfl, Nat.le_of_ble_eq_true rfl⟩) (zPreS (wc := []) hK (hP.sub [] rfl) (hD.sub [] (by decide) rfl) zTb (fun _ _ _ => trivial)) rfl rfl hl.1 rfl (lv_room (Nat.le_of_ble_eq_true rfl)) dX3_pull_13 ⟨Nat.le_of_ble_eq_true rfl, Nat.le_of_ble_eq_true rfl⟩) (fun u9_ H locs hw hP hD hS => ?_)
  have hP : va_P D cl5 [(o_, .inr (3, [.int nn_, .ref ro_, .ref ja_, .ref jb_, .ref sr_, .ref br_, .ref tr_, .ref ch_, .ref lf_, .ref ri_, .int sh_, .int sp_]))] H := hP.sub [0] rfl
  have hD : va_D A [(o_, .inr (3, [.int nn_, .ref ro_, .ref ja_, .ref jb_, .ref sr_, .ref br_, .ref tr_, .ref ch_, .ref lf_, .ref ri_, .int sh_, .int sp_]))] := hD.sub [0] (by decide) rfl
  refine lv_dload hx hb dX3_pull_16 (lv_at hl 3 rfl) ?_
  refine lv_dconst0 hx hb dX3_pull_18 ?_
  refine lv_ldc2d (v := 4666723172467343360) hx hb hown (zh (w := .constantDouble RX3 184 (4666723172467343360)) hts 1 rfl) dX3_pull_19 ?_
  refine zc_v (wc := []) (wr := [(o_, .inr (3, [.int nn_, .ref ro_, .ref ja_, .ref jb_, .ref sr_, .ref br_, .ref tr_, .ref ch_, .ref lf_, .ref ri_, .int sh_, .int sp_]))]) hP hD hS hA [] [0] rfl rfl (by decide) (by decide) (va_runS (As := [.double z_, .double FP.dconst0, .double 4666723172467343360]) (rest := []) ⟨hx, hb, hml, hown, hts⟩ (ct_X3_needReal l D cI cJ cD z_ FP.dconst0 4666723172467343360 H.size h3) (va_cwS 3 hts gX3_pull_X3_needReal rfl rfl rfl (by decide +kernel) ⟨Nat.le_of_ble_eq_true rfl, Nat.le_of_ble_eq_true rfl⟩) (zPreS (wc := []) hK (hP.sub [] rfl) (hD.sub [] (by decide) rfl) zTb (fun _ _ _ => trivial)) rfl rfl hl.1 rfl (lv_room (Nat.le_of_ble_eq_true rfl)) dX3_pull_22 ⟨Nat.le_of_ble_eq_true rfl, Nat.le_of_ble_eq_true rfl⟩) (fun u9_ H locs hw hP hD hS => ?_)
  have hP : va_P D cl5 [(o_, .inr (3, [.int nn_, .ref ro_, .ref ja_, .ref jb_, .ref sr_, .ref br_, .ref tr_, .ref ch_, .ref lf_, .ref ri_, .int sh_, .int sp_]))] H := hP.sub [0] rfl
  have hD : va_D A [(o_, .inr (3, [.int nn_, .ref ro_, .ref ja_, .ref jb_, .ref sr_, .ref br_, .ref tr_, .ref ch_, .ref lf_, .ref ri_, .int sh_, .int sp_]))] := hD.sub [0] (by decide) rfl
  refine lv_ldc2d (v := 4616189618054758400) hx hb hown (zh (w := .constantDouble RX3 190 (4616189618054758400)) hts 2 rfl) dX3_pull_25 ?_
  refine lv_dload hx hb dX3_pull_28 (lv_at hl 3 rfl) ?_
  refine lv_dmul_any hd lw_bits hx hb dX3_pull_30 (fun x_4 d al_4 hd => ?_)
  have hts := dr_words hts0 d
  have hK := zK_dr (d := d) hK0
  have hown : (s.setDrawn d).vm.findClass RX3 = some m.cls := hown
  refine lv_dload_n hx hb dX3_pull_31 rfl (lv_at hl 2 rfl) ?_
  refine lv_dmul_any hd lw_bits hx hb dX3_pull_32 (fun x_5 d al_5 hd => ?_)
  have hts := dr_words hts0 d
  have hK := zK_dr (d := d) hK0
  have hown : (s.setDrawn d).vm.findClass RX3 = some m.cls := hown
  refine lv_dload_n hx hb dX3_pull_33 rfl (lv_at hl 2 rfl) ?_
  refine lv_dmul_any hd lw_bits hx hb dX3_pull_34 (fun x_6 d al_6 hd => ?_)
  have hts := dr_words hts0 d
  have hK := zK_dr (d := d) hK0
  have hown : (s.setDrawn d).vm.findClass RX3 = some m.cls := hown
  refine lv_dload_n hx hb dX3_pull_35 rfl (lv_at hl 1 rfl) ?_
  refine lv_dmul_any hd lw_bits hx hb dX3_pull_36 (fun x_7 d al_7 hd => ?_)
  have hts := dr_words hts0 d
  have hK := zK_dr (d := d) hK0
  have hown : (s.setDrawn d).vm.findClass RX3 = some m.cls := hown
  refine lv_dload_n hx hb dX3_pull_37 rfl (lv_at hl 1 rfl) ?_
  refine lv_dmul_any hd lw_bits hx hb dX3_pull_38 (fun x_8 d al_8 hd => ?_)
  have hts := dr_words hts0 d
  have hK := zK_dr (d := d) hK0
  have hown : (s.setDrawn d).vm.findClass RX3 = some m.cls := hown
  subst hQ
  refine W.endD hd ?_
  exact ze_d hx hb hr hlocks () (⟨_, _, _, _, al_4, al_5, al_6, al_7, al_8⟩) hP hK hD hS dX3_pull_39
abbrev rm_X3_pipe : Room := { frames := 1, cells := 0, slots := 0, locals := 25 }
set_option maxHeartbeats 4000000 in
set_option maxRecDepth 100000 in
/-- pipe -/
theorem ct_X3_pipe (l : Launch) (D : va_G) (cI cJ cD : ClassId) (o_ : Nat) (ro_ : Nat) (ja_ : Nat) (jb_ : Nat) (sr_ : Nat) (br_ : Nat) (tr_ : Nat) (ch_ : Nat) (lf_ : Nat) (ri_ : Nat) (nn_ : Int32) (sh_ : Int32) (sp_ : Int32) (x_ : UInt64) (v_ : Int32) (y_ : UInt64) (sz : Nat) (h1 : rlI x_ 4607182418800017408 4666723172467343360 = 1) (h2 : rlI y_ 0 4636737291354636288 = 1) : MetD lw_cs l yX3_pipe wsX3_pipe rm_X3_pipe (zP D (ty3 cI cJ cD) [.ref o_, .double x_, .int v_, .double y_] sz [(o_, .inr (3, [.int nn_, .ref ro_, .ref ja_, .ref jb_, .ref sr_, .ref br_, .ref tr_, .ref ch_, .ref lf_, .ref ri_, .int sh_, .int sp_]))] zT) (va_Qd (fun (r : UInt64) (u : Unit) => pipeR x_ v_ y_ r) (zB D (ty3 cI cJ cD) (fun (u : Unit) => [(o_, .inr (3, [.int nn_, .ref ro_, .ref ja_, .ref jb_, .ref sr_, .ref br_, .ref tr_, .ref ch_, .ref lf_, .ref ri_, .int sh_, .int sp_]))]) (va_A [(o_, .inr (3, [.int nn_, .ref ro_, .ref ja_, .ref jb_, .ref sr_, .ref br_, .ref tr_, .ref ch_, .ref lf_, .ref ri_, .int sh_, .int sp_]))] sz)) (va_A [(o_, .inr (3, [.int nn_, .ref ro_, .ref ja_, .ref jb_, .ref sr_, .ref br_, .ref tr_, .ref ch_, .ref lf_, .ref ri_, .int sh_, .int sp_]))] sz)) 0 0 (va_A [(o_, .inr (3, [.int nn_, .ref ro_, .ref ja_, .ref jb_, .ref sr_, .ref br_, .ref tr_, .ref ch_, .ref lf_, .ref ri_, .int sh_, .int sp_]))] sz) := by
  refine zMetD (Qf := fun A => va_Qd (fun (r : UInt64) (u : Unit) => pipeR x_ v_ y_ r) (zB D (ty3 cI cJ cD) (fun (u : Unit) => [(o_, .inr (3, [.int nn_, .ref ro_, .ref ja_, .ref jb_, .ref sr_, .ref br_, .ref tr_, .ref ch_, .ref lf_, .ref ri_, .int sh_, .int sp_]))]) A) A) (cc := cX3_pipe) (maxL := 6) (ret := (some .double)) (by decide) rfl (Nat.le_of_ble_eq_true rfl) ?_
  intro p e s m args below meth c A ls Q H d hargs hQ hHe hx hb hr hml hown hts hlocks hin hP hK hD hA hS hE hAe hl hd
  have hl : lv_has ls 6 [(0, .ref o_), (1, .double x_), (3, .int v_), (4, .double y_)] := hl
  have hts0 := hts
  have hK0 := hK
  have hts := dr_words hts0 d
  have hK := zK_dr (d := d) hK0
  have hown : (s.setDrawn d).vm.findClass RX3 = some m.cls := hown
  refine lv_dload_n hx hb dX3_pipe_0 rfl (lv_at hl 1 rfl) ?_
  refine lv_dconst1 hx hb dX3_pipe_1 ?_
  refine lv_ldc2d (v := 4666723172467343360) hx hb hown (zh (w := .constantDouble RX3 184 (4666723172467343360)) hts 1 rfl) dX3_pipe_2 ?_
  refine zc_v (wc := []) (wr := [(o_, .inr (3, [.int nn_, .ref ro_, .ref ja_, .ref jb_, .ref sr_, .ref br_, .ref tr_, .ref ch_, .ref lf_, .ref ri_, .int sh_, .int sp_]))]) hP hD hS hA [] [0] rfl rfl (by decide) (by decide) (va_runS (As := [.double x_, .double FP.dconst1, .double 4666723172467343360]) (rest := []) ⟨hx, hb, hml, hown, hts⟩ (ct_X3_needReal l D cI cJ cD x_ FP.dconst1 4666723172467343360 H.size h1) (va_cwS 3 hts gX3_pipe_X3_needReal rfl rfl rfl (by decide +kernel) ⟨Nat.le_of_ble_eq_true rfl, Nat.le_of_ble_eq_true rfl⟩) (zPreS (wc := []) hK (hP.sub [] rfl) (hD.sub [] (by decide) rfl) zTb (fun _ _ _ => trivial)) rfl rfl hl.1 rfl (lv_room (Nat.le_of_ble_eq_true rfl)) dX3_pipe_5 ⟨Nat.le_of_ble_eq_true rfl, Nat.le_of_ble_eq_true rfl⟩) (fun u9_ H locs hw hP hD hS => ?_)
  have hP : va_P D cl5 [(o_, .inr (3, [.int nn_, .ref ro_, .ref ja_, .ref jb_, .ref sr_, .ref br_, .ref tr_, .ref ch_, .ref lf_, .ref ri_, .int sh_, .int sp_]))] H := hP.sub [0] rfl
  have hD : va_D A [(o_, .inr (3, [.int nn_, .ref ro_, .ref ja_, .ref jb_, .ref sr_, .ref br_, .ref tr_, .ref ch_, .ref lf_, .ref ri_, .int sh_, .int sp_]))] := hD.sub [0] (by decide) rfl
  refine lv_dload hx hb dX3_pipe_8 (lv_at hl 3 rfl) ?_
  refine lv_dconst0 hx hb dX3_pipe_10 ?_
  refine lv_ldc2d (v := 4636737291354636288) hx hb hown (zh (w := .constantDouble RX3 192 (4636737291354636288)) hts 2 rfl) dX3_pipe_11 ?_
  refine zc_v (wc := []) (wr := [(o_, .inr (3, [.int nn_, .ref ro_, .ref ja_, .ref jb_, .ref sr_, .ref br_, .ref tr_, .ref ch_, .ref lf_, .ref ri_, .int sh_, .int sp_]))]) hP hD hS hA [] [0] rfl rfl (by decide) (by decide) (va_runS (As := [.double y_, .double FP.dconst0, .double 4636737291354636288]) (rest := []) ⟨hx, hb, hml, hown, hts⟩ (ct_X3_needReal l D cI cJ cD y_ FP.dconst0 4636737291354636288 H.size h2) (va_cwS 3 hts gX3_pipe_X3_needReal rfl rfl rfl (by decide +kernel) ⟨Nat.le_of_ble_eq_true rfl, Nat.le_of_ble_eq_true rfl⟩) (zPreS (wc := []) hK (hP.sub [] rfl) (hD.sub [] (by decide) rfl) zTb (fun _ _ _ => trivial)) rfl rfl hl.1 rfl (lv_room (Nat.le_of_ble_eq_true rfl)) dX3_pipe_14 ⟨Nat.le_of_ble_eq_true rfl, Nat.le_of_ble_eq_true rfl⟩) (fun u9_ H locs hw hP hD hS => ?_)
  have hP : va_P D cl5 [(o_, .inr (3, [.int nn_, .ref ro_, .ref ja_, .ref jb_, .ref sr_, .ref br_, .ref tr_, .ref ch_, .ref lf_, .ref ri_, .int sh_, .int sp_]))] H := hP.sub [0] rfl
  have hD : va_D A [(o_, .inr (3, [.int nn_, .ref ro_, .ref ja_, .ref jb_, .ref sr_, .ref br_, .ref tr_, .ref ch_, .ref lf_, .ref ri_, .int sh_, .int sp_]))] := hD.sub [0] (by decide) rfl
  refine lv_ldc2d (v := 4644688959446712320) hx hb hown (zh (w := .constantDouble RX3 194 (4644688959446712320)) hts 3 rfl) dX3_pipe_17 ?_
  refine lv_dload_n hx hb dX3_pipe_20 rfl (lv_at hl 1 rfl) ?_
  refine lv_ddiv_any hd lw_bits hx hb dX3_pipe_21 (fun x_3 d al_3 hd => ?_)
  have hts := dr_words hts0 d
  have hK := zK_dr (d := d) hK0
  have hown : (s.setDrawn d).vm.findClass RX3 = some m.cls := hown
  refine lv_iload_n hx hb dX3_pipe_22 rfl (lv_at hl 2 rfl) ?_
  refine lv_if_eq (tgt := 32) hx hb dX3_pipe_23 (by decide) (fun c_23 => ?_) (fun c_23 => ?_)
  · skip
    refine lv_ldc2d (v := 4616189618054758400) hx hb hown (zh (w := .constantDouble RX3 190 (4616189618054758400)) hts 5 rfl) dX3_pipe_32 ?_
    refine lv_ddiv_any hd lw_bits hx hb dX3_pipe_35 (fun x_4 d al_4 hd => ?_)
    have hts := dr_words hts0 d
    have hK := zK_dr (d := d) hK0
    have hown : (s.setDrawn d).vm.findClass RX3 = some m.cls := hown
    refine lv_ldc2d (v := 4604930618986332160) hx hb hown (zh (w := .constantDouble RX3 198 (4604930618986332160)) hts 6 rfl) dX3_pipe_36 ?_
    refine lv_dload hx hb dX3_pipe_39 (lv_at hl 3 rfl) ?_
    refine lv_dmul_any hd lw_bits hx hb dX3_pipe_41 (fun x_5 d al_5 hd => ?_)
    have hts := dr_words hts0 d
    have hK := zK_dr (d := d) hK0
    have hown : (s.setDrawn d).vm.findClass RX3 = some m.cls := hown
    refine lv_dsub_any hd lw_bits hx hb dX3_pipe_42 (fun x_6 d al_6 hd => ?_)
    have hts := dr_words hts0 d
    have hK := zK_dr (d := d) hK0
    have hown : (s.setDrawn d).vm.findClass RX3 = some m.cls := hown
    subst hQ
    refine W.endD hd ?_
    exact ze_d hx hb hr hlocks () (⟨_, _, _, al_3, by rw [if_pos c_23]; exact al_4, al_5, al_6⟩) hP hK hD hS dX3_pipe_43
  · skip
    refine lv_ldc2d (v := 4611686018427387904) hx hb hown (zh (w := .constantDouble RX3 196 (4611686018427387904)) hts 4 rfl) dX3_pipe_26 ?_
    refine lv_goto (tgt := 35) hx hb dX3_pipe_29 (by decide) ?_
    refine lv_ddiv_any hd lw_bits hx hb dX3_pipe_35 (fun x_7 d al_7 hd => ?_)
    have hts := dr_words hts0 d
    have hK := zK_dr (d := d) hK0
    have hown : (s.setDrawn d).vm.findClass RX3 = some m.cls := hown
    refine lv_ldc2d (v := 4604930618986332160) hx hb hown (zh (w := .constantDouble RX3 198 (4604930618986332160)) hts 6 rfl) dX3_pipe_36 ?_
    refine lv_dload hx hb dX3_pipe_39 (lv_at hl 3 rfl) ?_
    refine lv_dmul_any hd lw_bits hx hb dX3_pipe_41 (fun x_8 d al_8 hd => ?_)
    have hts := dr_words hts0 d
    have hK := zK_dr (d := d) hK0
    have hown : (s.setDrawn d).vm.findClass RX3 = some m.cls := hown
    refine lv_dsub_any hd lw_bits hx hb dX3_pipe_42 (fun x_9 d al_9 hd => ?_)
    have hts := dr_words hts0 d
    have hK := zK_dr (d := d) hK0
    have hown : (s.setDrawn d).vm.findClass RX3 = some m.cls := hown
    subst hQ
    refine W.endD hd ?_
    exact ze_d hx hb hr hlocks () (⟨_, _, _, al_3, by rw [if_neg c_23]; exact al_7, al_8, al_9⟩) hP hK hD hS dX3_pipe_43
theorem nX4_pull_4 : ∀ w ∈ wsX40, w ∈ wsX4_pull := by decide +kernel
abbrev rm_X4_pull : Room := { frames := 0, cells := 0, slots := 0, locals := 0 }
set_option maxHeartbeats 4000000 in
set_option maxRecDepth 100000 in
/-- pull of the reference -/
theorem ct_X4_pull (l : Launch) (D : va_G) (cI cJ cD : ClassId) (m_ : Nat) (ab_ : Nat) (be_ : Nat) (rr_ : Nat) (th_ : Int32) (nn_ : Int32) (sh_ : Int32) (bs_ : Int32) (tr_ : Int32) (sp_ : Int32) (le_ : Int64) (ca_ : Int64) (cb_ : Int64) (oc_ : Int64) (st_ : Int64) (x_ : UInt64) (y_ : UInt64) (z_ : UInt64) (sz : Nat) : MetD lw_cs l yX4_pull wsX4_pull rm_X4_pull (zP D (ty3 cI cJ cD) [.ref m_, .double x_, .double y_, .double z_] sz [(m_, .inr (4, [.int th_, .int nn_, .long le_, .int sh_, .ref ab_, .ref be_, .long ca_, .long cb_, .long oc_, .long st_, .int bs_, .int tr_, .int sp_, .ref rr_]))] zT) (va_Qd (fun (r : UInt64) (u : Int32) => u = nI (cd3 (rlI x_ 0 4666723172467343360) (rlI y_ 0 4666723172467343360) (rlI z_ 0 4666723172467343360)) ∧ (cd3 (rlI x_ 0 4666723172467343360) (rlI y_ 0 4666723172467343360) (rlI z_ 0 4666723172467343360) = 0 → pullR x_ y_ z_ r)) (zB D (ty3 cI cJ cD) (fun (u : Int32) => [(m_, .inr (4, [.int u, .int nn_, .long le_, .int sh_, .ref ab_, .ref be_, .long ca_, .long cb_, .long oc_, .long st_, .int bs_, .int tr_, .int sp_, .ref rr_]))]) (va_A [(m_, .inr (4, [.int th_, .int nn_, .long le_, .int sh_, .ref ab_, .ref be_, .long ca_, .long cb_, .long oc_, .long st_, .int bs_, .int tr_, .int sp_, .ref rr_]))] sz)) (va_A [(m_, .inr (4, [.int th_, .int nn_, .long le_, .int sh_, .ref ab_, .ref be_, .long ca_, .long cb_, .long oc_, .long st_, .int bs_, .int tr_, .int sp_, .ref rr_]))] sz)) 0 0 (va_A [(m_, .inr (4, [.int th_, .int nn_, .long le_, .int sh_, .ref ab_, .ref be_, .long ca_, .long cb_, .long oc_, .long st_, .int bs_, .int tr_, .int sp_, .ref rr_]))] sz) := by
  refine zMetD (Qf := fun A => va_Qd (fun (r : UInt64) (u : Int32) => u = nI (cd3 (rlI x_ 0 4666723172467343360) (rlI y_ 0 4666723172467343360) (rlI z_ 0 4666723172467343360)) ∧ (cd3 (rlI x_ 0 4666723172467343360) (rlI y_ 0 4666723172467343360) (rlI z_ 0 4666723172467343360) = 0 → pullR x_ y_ z_ r)) (zB D (ty3 cI cJ cD) (fun (u : Int32) => [(m_, .inr (4, [.int u, .int nn_, .long le_, .int sh_, .ref ab_, .ref be_, .long ca_, .long cb_, .long oc_, .long st_, .int bs_, .int tr_, .int sp_, .ref rr_]))]) A) A) (cc := cX4_pull) (maxL := 8) (ret := (some .double)) (by decide) rfl (Nat.le_of_ble_eq_true rfl) ?_
  intro p e s m args below meth c A ls Q H d hargs hQ hHe hx hb hr hml hown hts hlocks hin hP hK hD hA hS hE hAe hl hd
  have hl : lv_has ls 8 [(0, .ref m_), (1, .double x_), (3, .double y_), (5, .double z_)] := hl
  have hts0 := hts
  have hK0 := hK
  have hts := dr_words hts0 d
  have hK := zK_dr (d := d) hK0
  have hown : (s.setDrawn d).vm.findClass RX4 = some m.cls := hown
  refine lv_dload_n hx hb dX4_pull_0 rfl (lv_at hl 1 rfl) ?_
  refine lv_dconst0 hx hb dX4_pull_1 ?_
  refine lv_dcmp hx hb dX4_pull_2 ?_
  refine lv_if_lt (tgt := 48) hx hb dX4_pull_3 (by decide) (fun c_3 => ?_) (fun c_3 => ?_)
  · skip
    have hcd : cd3 (rlI x_ 0 4666723172467343360) (rlI y_ 0 4666723172467343360) (rlI z_ 0 4666723172467343360) = 1 := if_pos (Or.inl (rl_a c_3))
    refine lv_iconst (v := nI 0) hx hb dX4_pull_48 (by decide) ?_
    refine lv_istore (lv' := [(7, .int (nI 0)), (0, .ref m_), (1, .double x_), (3, .double y_), (5, .double z_)]) hx hb dX4_pull_49 hl (by decide) rfl (fun ls hl => ?_)
    refine lv_aload_n hx hb dX4_pull_51 rfl (lv_at hl 1 rfl) ?_
    refine lv_iload hx hb dX4_pull_52 (lv_at hl 0 rfl) ?_
    refine lv_if_eq (tgt := 61) hx hb dX4_pull_54 (by decide) (fun c_54 => ?_) (fun c_54 => ?_)
    · skip
      have c_54 := zji_eq (a := 0) (b := 0) (by omega) (by omega) c_54
      refine lv_iconst (v := nI 1) hx hb dX4_pull_61 (by decide) ?_
      refine va_put (D := D) (ci := 4) (v := .int (nI 1)) (ty := .int) (C := RX4) (T := TX4) (N := 14) hx hb hts nX4_pull_4 tyX4 tyX4_ok nmX4 hown hK hP hD hS 0 rfl rfl 0 (by decide) (zh (w := .fieldLink RX4 47 "FretRootsModel" "thrown" "I") hts 2 rfl) (fun _ h9 => h9) rfl (by decide +kernel) rfl rfl (Nat.le_of_ble_eq_true rfl) dX4_pull_62 (fun H locs hP hD hS => ?_)
      have hP : va_P D cl5 [(m_, .inr (4, [.int (nI 1), .int nn_, .long le_, .int sh_, .ref ab_, .ref be_, .long ca_, .long cb_, .long oc_, .long st_, .int bs_, .int tr_, .int sp_, .ref rr_]))] H := hP
      have hD : va_D A [(m_, .inr (4, [.int (nI 1), .int nn_, .long le_, .int sh_, .ref ab_, .ref be_, .long ca_, .long cb_, .long oc_, .long st_, .int bs_, .int tr_, .int sp_, .ref rr_]))] := hD
      refine lv_iload hx hb dX4_pull_65 (lv_at hl 0 rfl) ?_
      refine lv_if_eq (tgt := 87) hx hb dX4_pull_67 (by decide) (fun c_67 => ?_) (fun c_67 => ?_)
      · skip
        have c_67 := zji_eq (a := 0) (b := 0) (by omega) (by omega) c_67
        refine lv_dconst0 hx hb dX4_pull_87 ?_
        subst hQ
        refine W.endD hd ?_
        exact ze_d hx hb hr hlocks (nI 1) (⟨by rw [hcd], fun q => absurd q (by omega)⟩) hP hK hD hS dX4_pull_88
      · skip
        exact absurd c_67 (by decide)
    · skip
      exact absurd c_54 (by decide)
  · skip
    refine lv_dload_n hx hb dX4_pull_6 rfl (lv_at hl 1 rfl) ?_
    refine lv_ldc2d (v := 4666723172467343360) hx hb hown (zh (w := .constantDouble RX4 147 (4666723172467343360)) hts 1 rfl) dX4_pull_7 ?_
    refine lv_dcmp hx hb dX4_pull_10 ?_
    refine lv_if_gt (tgt := 48) hx hb dX4_pull_11 (by decide) (fun c_11 => ?_) (fun c_11 => ?_)
    · skip
      have hcd : cd3 (rlI x_ 0 4666723172467343360) (rlI y_ 0 4666723172467343360) (rlI z_ 0 4666723172467343360) = 1 := if_pos (Or.inl (rl_b c_11))
      refine lv_iconst (v := nI 0) hx hb dX4_pull_48 (by decide) ?_
      refine lv_istore (lv' := [(7, .int (nI 0)), (0, .ref m_), (1, .double x_), (3, .double y_), (5, .double z_)]) hx hb dX4_pull_49 hl (by decide) rfl (fun ls hl => ?_)
      refine lv_aload_n hx hb dX4_pull_51 rfl (lv_at hl 1 rfl) ?_
      refine lv_iload hx hb dX4_pull_52 (lv_at hl 0 rfl) ?_
      refine lv_if_eq (tgt := 61) hx hb dX4_pull_54 (by decide) (fun c_54 => ?_) (fun c_54 => ?_)
      · skip
        have c_54 := zji_eq (a := 0) (b := 0) (by omega) (by omega) c_54
        refine lv_iconst (v := nI 1) hx hb dX4_pull_61 (by decide) ?_
        refine va_put (D := D) (ci := 4) (v := .int (nI 1)) (ty := .int) (C := RX4) (T := TX4) (N := 14) hx hb hts nX4_pull_4 tyX4 tyX4_ok nmX4 hown hK hP hD hS 0 rfl rfl 0 (by decide) (zh (w := .fieldLink RX4 47 "FretRootsModel" "thrown" "I") hts 2 rfl) (fun _ h9 => h9) rfl (by decide +kernel) rfl rfl (Nat.le_of_ble_eq_true rfl) dX4_pull_62 (fun H locs hP hD hS => ?_)
        have hP : va_P D cl5 [(m_, .inr (4, [.int (nI 1), .int nn_, .long le_, .int sh_, .ref ab_, .ref be_, .long ca_, .long cb_, .long oc_, .long st_, .int bs_, .int tr_, .int sp_, .ref rr_]))] H := hP
        have hD : va_D A [(m_, .inr (4, [.int (nI 1), .int nn_, .long le_, .int sh_, .ref ab_, .ref be_, .long ca_, .long cb_, .long oc_, .long st_, .int bs_, .int tr_, .int sp_, .ref rr_]))] := hD
        refine lv_iload hx hb dX4_pull_65 (lv_at hl 0 rfl) ?_
        refine lv_if_eq (tgt := 87) hx hb dX4_pull_67 (by decide) (fun c_67 => ?_) (fun c_67 => ?_)
        · skip
          have c_67 := zji_eq (a := 0) (b := 0) (by omega) (by omega) c_67
          refine lv_dconst0 hx hb dX4_pull_87 ?_
          subst hQ
          refine W.endD hd ?_
          exact ze_d hx hb hr hlocks (nI 1) (⟨by rw [hcd], fun q => absurd q (by omega)⟩) hP hK hD hS dX4_pull_88
        · skip
          exact absurd c_67 (by decide)
      · skip
        exact absurd c_54 (by decide)
    · skip
      refine lv_dload_n hx hb dX4_pull_14 rfl (lv_at hl 2 rfl) ?_
      refine lv_dconst0 hx hb dX4_pull_15 ?_
      refine lv_dcmp hx hb dX4_pull_16 ?_
      refine lv_if_lt (tgt := 48) hx hb dX4_pull_17 (by decide) (fun c_17 => ?_) (fun c_17 => ?_)
      · skip
        have hcd : cd3 (rlI x_ 0 4666723172467343360) (rlI y_ 0 4666723172467343360) (rlI z_ 0 4666723172467343360) = 1 := if_pos (Or.inr (Or.inl (rl_a c_17)))
        refine lv_iconst (v := nI 0) hx hb dX4_pull_48 (by decide) ?_
        refine lv_istore (lv' := [(7, .int (nI 0)), (0, .ref m_), (1, .double x_), (3, .double y_), (5, .double z_)]) hx hb dX4_pull_49 hl (by decide) rfl (fun ls hl => ?_)
        refine lv_aload_n hx hb dX4_pull_51 rfl (lv_at hl 1 rfl) ?_
        refine lv_iload hx hb dX4_pull_52 (lv_at hl 0 rfl) ?_
        refine lv_if_eq (tgt := 61) hx hb dX4_pull_54 (by decide) (fun c_54 => ?_) (fun c_54 => ?_)
        · skip
          have c_54 := zji_eq (a := 0) (b := 0) (by omega) (by omega) c_54
          refine lv_iconst (v := nI 1) hx hb dX4_pull_61 (by decide) ?_
          refine va_put (D := D) (ci := 4) (v := .int (nI 1)) (ty := .int) (C := RX4) (T := TX4) (N := 14) hx hb hts nX4_pull_4 tyX4 tyX4_ok nmX4 hown hK hP hD hS 0 rfl rfl 0 (by decide) (zh (w := .fieldLink RX4 47 "FretRootsModel" "thrown" "I") hts 2 rfl) (fun _ h9 => h9) rfl (by decide +kernel) rfl rfl (Nat.le_of_ble_eq_true rfl) dX4_pull_62 (fun H locs hP hD hS => ?_)
          have hP : va_P D cl5 [(m_, .inr (4, [.int (nI 1), .int nn_, .long le_, .int sh_, .ref ab_, .ref be_, .long ca_, .long cb_, .long oc_, .long st_, .int bs_, .int tr_, .int sp_, .ref rr_]))] H := hP
          have hD : va_D A [(m_, .inr (4, [.int (nI 1), .int nn_, .long le_, .int sh_, .ref ab_, .ref be_, .long ca_, .long cb_, .long oc_, .long st_, .int bs_, .int tr_, .int sp_, .ref rr_]))] := hD
          refine lv_iload hx hb dX4_pull_65 (lv_at hl 0 rfl) ?_
          refine lv_if_eq (tgt := 87) hx hb dX4_pull_67 (by decide) (fun c_67 => ?_) (fun c_67 => ?_)
          · skip
            have c_67 := zji_eq (a := 0) (b := 0) (by omega) (by omega) c_67
            refine lv_dconst0 hx hb dX4_pull_87 ?_
            subst hQ
            refine W.endD hd ?_
            exact ze_d hx hb hr hlocks (nI 1) (⟨by rw [hcd], fun q => absurd q (by omega)⟩) hP hK hD hS dX4_pull_88
          · skip
            exact absurd c_67 (by decide)
        · skip
          exact absurd c_54 (by decide)
      · skip
        refine lv_dload_n hx hb dX4_pull_20 rfl (lv_at hl 2 rfl) ?_
        refine lv_ldc2d (v := 4666723172467343360) hx hb hown (zh (w := .constantDouble RX4 147 (4666723172467343360)) hts 1 rfl) dX4_pull_21 ?_
        refine lv_dcmp hx hb dX4_pull_24 ?_
        refine lv_if_gt (tgt := 48) hx hb dX4_pull_25 (by decide) (fun c_25 => ?_) (fun c_25 => ?_)
        · skip
          have hcd : cd3 (rlI x_ 0 4666723172467343360) (rlI y_ 0 4666723172467343360) (rlI z_ 0 4666723172467343360) = 1 := if_pos (Or.inr (Or.inl (rl_b c_25)))
          refine lv_iconst (v := nI 0) hx hb dX4_pull_48 (by decide) ?_
          refine lv_istore (lv' := [(7, .int (nI 0)), (0, .ref m_), (1, .double x_), (3, .double y_), (5, .double z_)]) hx hb dX4_pull_49 hl (by decide) rfl (fun ls hl => ?_)
          refine lv_aload_n hx hb dX4_pull_51 rfl (lv_at hl 1 rfl) ?_
          refine lv_iload hx hb dX4_pull_52 (lv_at hl 0 rfl) ?_
          refine lv_if_eq (tgt := 61) hx hb dX4_pull_54 (by decide) (fun c_54 => ?_) (fun c_54 => ?_)
          · skip
            have c_54 := zji_eq (a := 0) (b := 0) (by omega) (by omega) c_54
            refine lv_iconst (v := nI 1) hx hb dX4_pull_61 (by decide) ?_
            refine va_put (D := D) (ci := 4) (v := .int (nI 1)) (ty := .int) (C := RX4) (T := TX4) (N := 14) hx hb hts nX4_pull_4 tyX4 tyX4_ok nmX4 hown hK hP hD hS 0 rfl rfl 0 (by decide) (zh (w := .fieldLink RX4 47 "FretRootsModel" "thrown" "I") hts 2 rfl) (fun _ h9 => h9) rfl (by decide +kernel) rfl rfl (Nat.le_of_ble_eq_true rfl) dX4_pull_62 (fun H locs hP hD hS => ?_)
            have hP : va_P D cl5 [(m_, .inr (4, [.int (nI 1), .int nn_, .long le_, .int sh_, .ref ab_, .ref be_, .long ca_, .long cb_, .long oc_, .long st_, .int bs_, .int tr_, .int sp_, .ref rr_]))] H := hP
            have hD : va_D A [(m_, .inr (4, [.int (nI 1), .int nn_, .long le_, .int sh_, .ref ab_, .ref be_, .long ca_, .long cb_, .long oc_, .long st_, .int bs_, .int tr_, .int sp_, .ref rr_]))] := hD
            refine lv_iload hx hb dX4_pull_65 (lv_at hl 0 rfl) ?_
            refine lv_if_eq (tgt := 87) hx hb dX4_pull_67 (by decide) (fun c_67 => ?_) (fun c_67 => ?_)
            · skip
              have c_67 := zji_eq (a := 0) (b := 0) (by omega) (by omega) c_67
              refine lv_dconst0 hx hb dX4_pull_87 ?_
              subst hQ
              refine W.endD hd ?_
              exact ze_d hx hb hr hlocks (nI 1) (⟨by rw [hcd], fun q => absurd q (by omega)⟩) hP hK hD hS dX4_pull_88
            · skip
              exact absurd c_67 (by decide)
          · skip
            exact absurd c_54 (by decide)
        · skip
          refine lv_dload hx hb dX4_pull_28 (lv_at hl 3 rfl) ?_
          refine lv_dconst0 hx hb dX4_pull_30 ?_
          refine lv_dcmp hx hb dX4_pull_31 ?_
          refine lv_if_lt (tgt := 48) hx hb dX4_pull_32 (by decide) (fun c_32 => ?_) (fun c_32 => ?_)
          · skip
            have hcd : cd3 (rlI x_ 0 4666723172467343360) (rlI y_ 0 4666723172467343360) (rlI z_ 0 4666723172467343360) = 1 := if_pos (Or.inr (Or.inr (rl_a c_32)))
            refine lv_iconst (v := nI 0) hx hb dX4_pull_48 (by decide) ?_
            refine lv_istore (lv' := [(7, .int (nI 0)), (0, .ref m_), (1, .double x_), (3, .double y_), (5, .double z_)]) hx hb dX4_pull_49 hl (by decide) rfl (fun ls hl => ?_)
            refine lv_aload_n hx hb dX4_pull_51 rfl (lv_at hl 1 rfl) ?_
            refine lv_iload hx hb dX4_pull_52 (lv_at hl 0 rfl) ?_
            refine lv_if_eq (tgt := 61) hx hb dX4_pull_54 (by decide) (fun c_54 => ?_) (fun c_54 => ?_)
            · skip
              have c_54 := zji_eq (a := 0) (b := 0) (by omega) (by omega) c_54
              refine lv_iconst (v := nI 1) hx hb dX4_pull_61 (by decide) ?_
              refine va_put (D := D) (ci := 4) (v := .int (nI 1)) (ty := .int) (C := RX4) (T := TX4) (N := 14) hx hb hts nX4_pull_4 tyX4 tyX4_ok nmX4 hown hK hP hD hS 0 rfl rfl 0 (by decide) (zh (w := .fieldLink RX4 47 "FretRootsModel" "thrown" "I") hts 2 rfl) (fun _ h9 => h9) rfl (by decide +kernel) rfl rfl (Nat.le_of_ble_eq_true rfl) dX4_pull_62 (fun H locs hP hD hS => ?_)
              have hP : va_P D cl5 [(m_, .inr (4, [.int (nI 1), .int nn_, .long le_, .int sh_, .ref ab_, .ref be_, .long ca_, .long cb_, .long oc_, .long st_, .int bs_, .int tr_, .int sp_, .ref rr_]))] H := hP
              have hD : va_D A [(m_, .inr (4, [.int (nI 1), .int nn_, .long le_, .int sh_, .ref ab_, .ref be_, .long ca_, .long cb_, .long oc_, .long st_, .int bs_, .int tr_, .int sp_, .ref rr_]))] := hD
              refine lv_iload hx hb dX4_pull_65 (lv_at hl 0 rfl) ?_
              refine lv_if_eq (tgt := 87) hx hb dX4_pull_67 (by decide) (fun c_67 => ?_) (fun c_67 => ?_)
              · skip
                have c_67 := zji_eq (a := 0) (b := 0) (by omega) (by omega) c_67
                refine lv_dconst0 hx hb dX4_pull_87 ?_
                subst hQ
                refine W.endD hd ?_
                exact ze_d hx hb hr hlocks (nI 1) (⟨by rw [hcd], fun q => absurd q (by omega)⟩) hP hK hD hS dX4_pull_88
              · skip
                exact absurd c_67 (by decide)
            · skip
              exact absurd c_54 (by decide)
          · skip
            refine lv_dload hx hb dX4_pull_35 (lv_at hl 3 rfl) ?_
            refine lv_ldc2d (v := 4666723172467343360) hx hb hown (zh (w := .constantDouble RX4 147 (4666723172467343360)) hts 1 rfl) dX4_pull_37 ?_
            refine lv_dcmp hx hb dX4_pull_40 ?_
            refine lv_if_gt (tgt := 48) hx hb dX4_pull_41 (by decide) (fun c_41 => ?_) (fun c_41 => ?_)
            · skip
              have hcd : cd3 (rlI x_ 0 4666723172467343360) (rlI y_ 0 4666723172467343360) (rlI z_ 0 4666723172467343360) = 1 := if_pos (Or.inr (Or.inr (rl_b c_41)))
              refine lv_iconst (v := nI 0) hx hb dX4_pull_48 (by decide) ?_
              refine lv_istore (lv' := [(7, .int (nI 0)), (0, .ref m_), (1, .double x_), (3, .double y_), (5, .double z_)]) hx hb dX4_pull_49 hl (by decide) rfl (fun ls hl => ?_)
              refine lv_aload_n hx hb dX4_pull_51 rfl (lv_at hl 1 rfl) ?_
              refine lv_iload hx hb dX4_pull_52 (lv_at hl 0 rfl) ?_
              refine lv_if_eq (tgt := 61) hx hb dX4_pull_54 (by decide) (fun c_54 => ?_) (fun c_54 => ?_)
              · skip
                have c_54 := zji_eq (a := 0) (b := 0) (by omega) (by omega) c_54
                refine lv_iconst (v := nI 1) hx hb dX4_pull_61 (by decide) ?_
                refine va_put (D := D) (ci := 4) (v := .int (nI 1)) (ty := .int) (C := RX4) (T := TX4) (N := 14) hx hb hts nX4_pull_4 tyX4 tyX4_ok nmX4 hown hK hP hD hS 0 rfl rfl 0 (by decide) (zh (w := .fieldLink RX4 47 "FretRootsModel" "thrown" "I") hts 2 rfl) (fun _ h9 => h9) rfl (by decide +kernel) rfl rfl (Nat.le_of_ble_eq_true rfl) dX4_pull_62 (fun H locs hP hD hS => ?_)
                have hP : va_P D cl5 [(m_, .inr (4, [.int (nI 1), .int nn_, .long le_, .int sh_, .ref ab_, .ref be_, .long ca_, .long cb_, .long oc_, .long st_, .int bs_, .int tr_, .int sp_, .ref rr_]))] H := hP
                have hD : va_D A [(m_, .inr (4, [.int (nI 1), .int nn_, .long le_, .int sh_, .ref ab_, .ref be_, .long ca_, .long cb_, .long oc_, .long st_, .int bs_, .int tr_, .int sp_, .ref rr_]))] := hD
                refine lv_iload hx hb dX4_pull_65 (lv_at hl 0 rfl) ?_
                refine lv_if_eq (tgt := 87) hx hb dX4_pull_67 (by decide) (fun c_67 => ?_) (fun c_67 => ?_)
                · skip
                  have c_67 := zji_eq (a := 0) (b := 0) (by omega) (by omega) c_67
                  refine lv_dconst0 hx hb dX4_pull_87 ?_
                  subst hQ
                  refine W.endD hd ?_
                  exact ze_d hx hb hr hlocks (nI 1) (⟨by rw [hcd], fun q => absurd q (by omega)⟩) hP hK hD hS dX4_pull_88
                · skip
                  exact absurd c_67 (by decide)
              · skip
                exact absurd c_54 (by decide)
            · skip
              have hcd : cd3 (rlI x_ 0 4666723172467343360) (rlI y_ 0 4666723172467343360) (rlI z_ 0 4666723172467343360) = 0 := cd3_0 (rl_1 c_3 c_11) (rl_1 c_17 c_25) (rl_1 c_32 c_41)
              refine lv_iconst (v := nI 1) hx hb dX4_pull_44 (by decide) ?_
              refine lv_goto (tgt := 49) hx hb dX4_pull_45 (by decide) ?_
              refine lv_istore (lv' := [(7, .int (nI 1)), (0, .ref m_), (1, .double x_), (3, .double y_), (5, .double z_)]) hx hb dX4_pull_49 hl (by decide) rfl (fun ls hl => ?_)
              refine lv_aload_n hx hb dX4_pull_51 rfl (lv_at hl 1 rfl) ?_
              refine lv_iload hx hb dX4_pull_52 (lv_at hl 0 rfl) ?_
              refine lv_if_eq (tgt := 61) hx hb dX4_pull_54 (by decide) (fun c_54 => ?_) (fun c_54 => ?_)
              · skip
                exact absurd c_54 (by decide)
              · skip
                have c_54 := zji_ne (a := 1) (b := 0) (by omega) (by omega) c_54
                refine lv_iconst (v := nI 0) hx hb dX4_pull_57 (by decide) ?_
                refine lv_goto (tgt := 62) hx hb dX4_pull_58 (by decide) ?_
                refine va_put (D := D) (ci := 4) (v := .int (nI 0)) (ty := .int) (C := RX4) (T := TX4) (N := 14) hx hb hts nX4_pull_4 tyX4 tyX4_ok nmX4 hown hK hP hD hS 0 rfl rfl 0 (by decide) (zh (w := .fieldLink RX4 47 "FretRootsModel" "thrown" "I") hts 2 rfl) (fun _ h9 => h9) rfl (by decide +kernel) rfl rfl (Nat.le_of_ble_eq_true rfl) dX4_pull_62 (fun H locs hP hD hS => ?_)
                have hP : va_P D cl5 [(m_, .inr (4, [.int (nI 0), .int nn_, .long le_, .int sh_, .ref ab_, .ref be_, .long ca_, .long cb_, .long oc_, .long st_, .int bs_, .int tr_, .int sp_, .ref rr_]))] H := hP
                have hD : va_D A [(m_, .inr (4, [.int (nI 0), .int nn_, .long le_, .int sh_, .ref ab_, .ref be_, .long ca_, .long cb_, .long oc_, .long st_, .int bs_, .int tr_, .int sp_, .ref rr_]))] := hD
                refine lv_iload hx hb dX4_pull_65 (lv_at hl 0 rfl) ?_
                refine lv_if_eq (tgt := 87) hx hb dX4_pull_67 (by decide) (fun c_67 => ?_) (fun c_67 => ?_)
                · skip
                  exact absurd c_67 (by decide)
                · skip
                  have c_67 := zji_ne (a := 1) (b := 0) (by omega) (by omega) c_67
                  refine lv_ldc2d (v := 4616189618054758400) hx hb hown (zh (w := .constantDouble RX4 149 (4616189618054758400)) hts 3 rfl) dX4_pull_70 ?_
                  refine lv_dload hx hb dX4_pull_73 (lv_at hl 4 rfl) ?_
                  refine lv_dmul_any hd lw_bits hx hb dX4_pull_75 (fun x_1 d al_1 hd => ?_)
                  have hts := dr_words hts0 d
                  have hK := zK_dr (d := d) hK0
                  have hown : (s.setDrawn d).vm.findClass RX4 = some m.cls := hown
                  refine lv_dload_n hx hb dX4_pull_76 rfl (lv_at hl 3 rfl) ?_
                  refine lv_dmul_any hd lw_bits hx hb dX4_pull_77 (fun x_2 d al_2 hd => ?_)
                  have hts := dr_words hts0 d
                  have hK := zK_dr (d := d) hK0
                  have hown : (s.setDrawn d).vm.findClass RX4 = some m.cls := hown
                  refine lv_dload_n hx hb dX4_pull_78 rfl (lv_at hl 3 rfl) ?_
                  refine lv_dmul_any hd lw_bits hx hb dX4_pull_79 (fun x_3 d al_3 hd => ?_)
                  have hts := dr_words hts0 d
                  have hK := zK_dr (d := d) hK0
                  have hown : (s.setDrawn d).vm.findClass RX4 = some m.cls := hown
                  refine lv_dload_n hx hb dX4_pull_80 rfl (lv_at hl 2 rfl) ?_
                  refine lv_dmul_any hd lw_bits hx hb dX4_pull_81 (fun x_4 d al_4 hd => ?_)
                  have hts := dr_words hts0 d
                  have hK := zK_dr (d := d) hK0
                  have hown : (s.setDrawn d).vm.findClass RX4 = some m.cls := hown
                  refine lv_dload_n hx hb dX4_pull_82 rfl (lv_at hl 2 rfl) ?_
                  refine lv_dmul_any hd lw_bits hx hb dX4_pull_83 (fun x_5 d al_5 hd => ?_)
                  have hts := dr_words hts0 d
                  have hK := zK_dr (d := d) hK0
                  have hown : (s.setDrawn d).vm.findClass RX4 = some m.cls := hown
                  refine lv_goto (tgt := 88) hx hb dX4_pull_84 (by decide) ?_
                  subst hQ
                  refine W.endD hd ?_
                  exact ze_d hx hb hr hlocks (nI 0) (⟨by rw [hcd], fun _ => ⟨_, _, _, _, al_1, al_2, al_3, al_4, al_5⟩⟩) hP hK hD hS dX4_pull_88
theorem nX4_pipe_4 : ∀ w ∈ wsX40, w ∈ wsX4_pipe := by decide +kernel
abbrev rm_X4_pipe : Room := { frames := 0, cells := 0, slots := 0, locals := 0 }
set_option maxHeartbeats 4000000 in
set_option maxRecDepth 100000 in
/-- pipe of the reference -/
theorem ct_X4_pipe (l : Launch) (D : va_G) (cI cJ cD : ClassId) (m_ : Nat) (ab_ : Nat) (be_ : Nat) (rr_ : Nat) (th_ : Int32) (nn_ : Int32) (sh_ : Int32) (bs_ : Int32) (tr_ : Int32) (sp_ : Int32) (le_ : Int64) (ca_ : Int64) (cb_ : Int64) (oc_ : Int64) (st_ : Int64) (x_ : UInt64) (v_ : Int32) (y_ : UInt64) (sz : Nat) : MetD lw_cs l yX4_pipe wsX4_pipe rm_X4_pipe (zP D (ty3 cI cJ cD) [.ref m_, .double x_, .int v_, .double y_] sz [(m_, .inr (4, [.int th_, .int nn_, .long le_, .int sh_, .ref ab_, .ref be_, .long ca_, .long cb_, .long oc_, .long st_, .int bs_, .int tr_, .int sp_, .ref rr_]))] zT) (va_Qd (fun (r : UInt64) (u : Int32) => u = nI (cd2 (rlI x_ 4607182418800017408 4666723172467343360) (rlI y_ 0 4636737291354636288)) ∧ (cd2 (rlI x_ 4607182418800017408 4666723172467343360) (rlI y_ 0 4636737291354636288) = 0 → pipeR x_ v_ y_ r)) (zB D (ty3 cI cJ cD) (fun (u : Int32) => [(m_, .inr (4, [.int u, .int nn_, .long le_, .int sh_, .ref ab_, .ref be_, .long ca_, .long cb_, .long oc_, .long st_, .int bs_, .int tr_, .int sp_, .ref rr_]))]) (va_A [(m_, .inr (4, [.int th_, .int nn_, .long le_, .int sh_, .ref ab_, .ref be_, .long ca_, .long cb_, .long oc_, .long st_, .int bs_, .int tr_, .int sp_, .ref rr_]))] sz)) (va_A [(m_, .inr (4, [.int th_, .int nn_, .long le_, .int sh_, .ref ab_, .ref be_, .long ca_, .long cb_, .long oc_, .long st_, .int bs_, .int tr_, .int sp_, .ref rr_]))] sz)) 0 0 (va_A [(m_, .inr (4, [.int th_, .int nn_, .long le_, .int sh_, .ref ab_, .ref be_, .long ca_, .long cb_, .long oc_, .long st_, .int bs_, .int tr_, .int sp_, .ref rr_]))] sz) := by
  refine zMetD (Qf := fun A => va_Qd (fun (r : UInt64) (u : Int32) => u = nI (cd2 (rlI x_ 4607182418800017408 4666723172467343360) (rlI y_ 0 4636737291354636288)) ∧ (cd2 (rlI x_ 4607182418800017408 4666723172467343360) (rlI y_ 0 4636737291354636288) = 0 → pipeR x_ v_ y_ r)) (zB D (ty3 cI cJ cD) (fun (u : Int32) => [(m_, .inr (4, [.int u, .int nn_, .long le_, .int sh_, .ref ab_, .ref be_, .long ca_, .long cb_, .long oc_, .long st_, .int bs_, .int tr_, .int sp_, .ref rr_]))]) A) A) (cc := cX4_pipe) (maxL := 7) (ret := (some .double)) (by decide) rfl (Nat.le_of_ble_eq_true rfl) ?_
  intro p e s m args below meth c A ls Q H d hargs hQ hHe hx hb hr hml hown hts hlocks hin hP hK hD hA hS hE hAe hl hd
  have hl : lv_has ls 7 [(0, .ref m_), (1, .double x_), (3, .int v_), (4, .double y_)] := hl
  have hts0 := hts
  have hK0 := hK
  have hts := dr_words hts0 d
  have hK := zK_dr (d := d) hK0
  have hown : (s.setDrawn d).vm.findClass RX4 = some m.cls := hown
  refine lv_dload_n hx hb dX4_pipe_0 rfl (lv_at hl 1 rfl) ?_
  refine lv_dconst1 hx hb dX4_pipe_1 ?_
  refine lv_dcmp hx hb dX4_pipe_2 ?_
  refine lv_if_lt (tgt := 34) hx hb dX4_pipe_3 (by decide) (fun c_3 => ?_) (fun c_3 => ?_)
  · skip
    have hcd : cd2 (rlI x_ 4607182418800017408 4666723172467343360) (rlI y_ 0 4636737291354636288) = 1 := cd2_a (rl_a c_3)
    refine lv_iconst (v := nI 0) hx hb dX4_pipe_34 (by decide) ?_
    refine lv_istore (lv' := [(6, .int (nI 0)), (0, .ref m_), (1, .double x_), (3, .int v_), (4, .double y_)]) hx hb dX4_pipe_35 hl (by decide) rfl (fun ls hl => ?_)
    refine lv_aload_n hx hb dX4_pipe_37 rfl (lv_at hl 1 rfl) ?_
    refine lv_iload hx hb dX4_pipe_38 (lv_at hl 0 rfl) ?_
    refine lv_if_eq (tgt := 47) hx hb dX4_pipe_40 (by decide) (fun c_40 => ?_) (fun c_40 => ?_)
    · skip
      have c_40 := zji_eq (a := 0) (b := 0) (by omega) (by omega) c_40
      refine lv_iconst (v := nI 1) hx hb dX4_pipe_47 (by decide) ?_
      refine va_put (D := D) (ci := 4) (v := .int (nI 1)) (ty := .int) (C := RX4) (T := TX4) (N := 14) hx hb hts nX4_pipe_4 tyX4 tyX4_ok nmX4 hown hK hP hD hS 0 rfl rfl 0 (by decide) (zh (w := .fieldLink RX4 47 "FretRootsModel" "thrown" "I") hts 3 rfl) (fun _ h9 => h9) rfl (by decide +kernel) rfl rfl (Nat.le_of_ble_eq_true rfl) dX4_pipe_48 (fun H locs hP hD hS => ?_)
      have hP : va_P D cl5 [(m_, .inr (4, [.int (nI 1), .int nn_, .long le_, .int sh_, .ref ab_, .ref be_, .long ca_, .long cb_, .long oc_, .long st_, .int bs_, .int tr_, .int sp_, .ref rr_]))] H := hP
      have hD : va_D A [(m_, .inr (4, [.int (nI 1), .int nn_, .long le_, .int sh_, .ref ab_, .ref be_, .long ca_, .long cb_, .long oc_, .long st_, .int bs_, .int tr_, .int sp_, .ref rr_]))] := hD
      refine lv_iload hx hb dX4_pipe_51 (lv_at hl 0 rfl) ?_
      refine lv_if_eq (tgt := 85) hx hb dX4_pipe_53 (by decide) (fun c_53 => ?_) (fun c_53 => ?_)
      · skip
        have c_53 := zji_eq (a := 0) (b := 0) (by omega) (by omega) c_53
        refine lv_dconst0 hx hb dX4_pipe_85 ?_
        subst hQ
        refine W.endD hd ?_
        exact ze_d hx hb hr hlocks (nI 1) (⟨by rw [hcd], fun q => absurd q (by omega)⟩) hP hK hD hS dX4_pipe_86
      · skip
        exact absurd c_53 (by decide)
    · skip
      exact absurd c_40 (by decide)
  · skip
    refine lv_dload_n hx hb dX4_pipe_6 rfl (lv_at hl 1 rfl) ?_
    refine lv_ldc2d (v := 4666723172467343360) hx hb hown (zh (w := .constantDouble RX4 147 (4666723172467343360)) hts 1 rfl) dX4_pipe_7 ?_
    refine lv_dcmp hx hb dX4_pipe_10 ?_
    refine lv_if_gt (tgt := 34) hx hb dX4_pipe_11 (by decide) (fun c_11 => ?_) (fun c_11 => ?_)
    · skip
      have hcd : cd2 (rlI x_ 4607182418800017408 4666723172467343360) (rlI y_ 0 4636737291354636288) = 1 := cd2_a (rl_b c_11)
      refine lv_iconst (v := nI 0) hx hb dX4_pipe_34 (by decide) ?_
      refine lv_istore (lv' := [(6, .int (nI 0)), (0, .ref m_), (1, .double x_), (3, .int v_), (4, .double y_)]) hx hb dX4_pipe_35 hl (by decide) rfl (fun ls hl => ?_)
      refine lv_aload_n hx hb dX4_pipe_37 rfl (lv_at hl 1 rfl) ?_
      refine lv_iload hx hb dX4_pipe_38 (lv_at hl 0 rfl) ?_
      refine lv_if_eq (tgt := 47) hx hb dX4_pipe_40 (by decide) (fun c_40 => ?_) (fun c_40 => ?_)
      · skip
        have c_40 := zji_eq (a := 0) (b := 0) (by omega) (by omega) c_40
        refine lv_iconst (v := nI 1) hx hb dX4_pipe_47 (by decide) ?_
        refine va_put (D := D) (ci := 4) (v := .int (nI 1)) (ty := .int) (C := RX4) (T := TX4) (N := 14) hx hb hts nX4_pipe_4 tyX4 tyX4_ok nmX4 hown hK hP hD hS 0 rfl rfl 0 (by decide) (zh (w := .fieldLink RX4 47 "FretRootsModel" "thrown" "I") hts 3 rfl) (fun _ h9 => h9) rfl (by decide +kernel) rfl rfl (Nat.le_of_ble_eq_true rfl) dX4_pipe_48 (fun H locs hP hD hS => ?_)
        have hP : va_P D cl5 [(m_, .inr (4, [.int (nI 1), .int nn_, .long le_, .int sh_, .ref ab_, .ref be_, .long ca_, .long cb_, .long oc_, .long st_, .int bs_, .int tr_, .int sp_, .ref rr_]))] H := hP
        have hD : va_D A [(m_, .inr (4, [.int (nI 1), .int nn_, .long le_, .int sh_, .ref ab_, .ref be_, .long ca_, .long cb_, .long oc_, .long st_, .int bs_, .int tr_, .int sp_, .ref rr_]))] := hD
        refine lv_iload hx hb dX4_pipe_51 (lv_at hl 0 rfl) ?_
        refine lv_if_eq (tgt := 85) hx hb dX4_pipe_53 (by decide) (fun c_53 => ?_) (fun c_53 => ?_)
        · skip
          have c_53 := zji_eq (a := 0) (b := 0) (by omega) (by omega) c_53
          refine lv_dconst0 hx hb dX4_pipe_85 ?_
          subst hQ
          refine W.endD hd ?_
          exact ze_d hx hb hr hlocks (nI 1) (⟨by rw [hcd], fun q => absurd q (by omega)⟩) hP hK hD hS dX4_pipe_86
        · skip
          exact absurd c_53 (by decide)
      · skip
        exact absurd c_40 (by decide)
    · skip
      refine lv_dload hx hb dX4_pipe_14 (lv_at hl 3 rfl) ?_
      refine lv_dconst0 hx hb dX4_pipe_16 ?_
      refine lv_dcmp hx hb dX4_pipe_17 ?_
      refine lv_if_lt (tgt := 34) hx hb dX4_pipe_18 (by decide) (fun c_18 => ?_) (fun c_18 => ?_)
      · skip
        have hcd : cd2 (rlI x_ 4607182418800017408 4666723172467343360) (rlI y_ 0 4636737291354636288) = 1 := cd2_b (rl_a c_18)
        refine lv_iconst (v := nI 0) hx hb dX4_pipe_34 (by decide) ?_
        refine lv_istore (lv' := [(6, .int (nI 0)), (0, .ref m_), (1, .double x_), (3, .int v_), (4, .double y_)]) hx hb dX4_pipe_35 hl (by decide) rfl (fun ls hl => ?_)
        refine lv_aload_n hx hb dX4_pipe_37 rfl (lv_at hl 1 rfl) ?_
        refine lv_iload hx hb dX4_pipe_38 (lv_at hl 0 rfl) ?_
        refine lv_if_eq (tgt := 47) hx hb dX4_pipe_40 (by decide) (fun c_40 => ?_) (fun c_40 => ?_)
        · skip
          have c_40 := zji_eq (a := 0) (b := 0) (by omega) (by omega) c_40
          refine lv_iconst (v := nI 1) hx hb dX4_pipe_47 (by decide) ?_
          refine va_put (D := D) (ci := 4) (v := .int (nI 1)) (ty := .int) (C := RX4) (T := TX4) (N := 14) hx hb hts nX4_pipe_4 tyX4 tyX4_ok nmX4 hown hK hP hD hS 0 rfl rfl 0 (by decide) (zh (w := .fieldLink RX4 47 "FretRootsModel" "thrown" "I") hts 3 rfl) (fun _ h9 => h9) rfl (by decide +kernel) rfl rfl (Nat.le_of_ble_eq_true rfl) dX4_pipe_48 (fun H locs hP hD hS => ?_)
          have hP : va_P D cl5 [(m_, .inr (4, [.int (nI 1), .int nn_, .long le_, .int sh_, .ref ab_, .ref be_, .long ca_, .long cb_, .long oc_, .long st_, .int bs_, .int tr_, .int sp_, .ref rr_]))] H := hP
          have hD : va_D A [(m_, .inr (4, [.int (nI 1), .int nn_, .long le_, .int sh_, .ref ab_, .ref be_, .long ca_, .long cb_, .long oc_, .long st_, .int bs_, .int tr_, .int sp_, .ref rr_]))] := hD
          refine lv_iload hx hb dX4_pipe_51 (lv_at hl 0 rfl) ?_
          refine lv_if_eq (tgt := 85) hx hb dX4_pipe_53 (by decide) (fun c_53 => ?_) (fun c_53 => ?_)
          · skip
            have c_53 := zji_eq (a := 0) (b := 0) (by omega) (by omega) c_53
            refine lv_dconst0 hx hb dX4_pipe_85 ?_
            subst hQ
            refine W.endD hd ?_
            exact ze_d hx hb hr hlocks (nI 1) (⟨by rw [hcd], fun q => absurd q (by omega)⟩) hP hK hD hS dX4_pipe_86
          · skip
            exact absurd c_53 (by decide)
        · skip
          exact absurd c_40 (by decide)
      · skip
        refine lv_dload hx hb dX4_pipe_21 (lv_at hl 3 rfl) ?_
        refine lv_ldc2d (v := 4636737291354636288) hx hb hown (zh (w := .constantDouble RX4 151 (4636737291354636288)) hts 2 rfl) dX4_pipe_23 ?_
        refine lv_dcmp hx hb dX4_pipe_26 ?_
        refine lv_if_gt (tgt := 34) hx hb dX4_pipe_27 (by decide) (fun c_27 => ?_) (fun c_27 => ?_)
        · skip
          have hcd : cd2 (rlI x_ 4607182418800017408 4666723172467343360) (rlI y_ 0 4636737291354636288) = 1 := cd2_b (rl_b c_27)
          refine lv_iconst (v := nI 0) hx hb dX4_pipe_34 (by decide) ?_
          refine lv_istore (lv' := [(6, .int (nI 0)), (0, .ref m_), (1, .double x_), (3, .int v_), (4, .double y_)]) hx hb dX4_pipe_35 hl (by decide) rfl (fun ls hl => ?_)
          refine lv_aload_n hx hb dX4_pipe_37 rfl (lv_at hl 1 rfl) ?_
          refine lv_iload hx hb dX4_pipe_38 (lv_at hl 0 rfl) ?_
          refine lv_if_eq (tgt := 47) hx hb dX4_pipe_40 (by decide) (fun c_40 => ?_) (fun c_40 => ?_)
          · skip
            have c_40 := zji_eq (a := 0) (b := 0) (by omega) (by omega) c_40
            refine lv_iconst (v := nI 1) hx hb dX4_pipe_47 (by decide) ?_
            refine va_put (D := D) (ci := 4) (v := .int (nI 1)) (ty := .int) (C := RX4) (T := TX4) (N := 14) hx hb hts nX4_pipe_4 tyX4 tyX4_ok nmX4 hown hK hP hD hS 0 rfl rfl 0 (by decide) (zh (w := .fieldLink RX4 47 "FretRootsModel" "thrown" "I") hts 3 rfl) (fun _ h9 => h9) rfl (by decide +kernel) rfl rfl (Nat.le_of_ble_eq_true rfl) dX4_pipe_48 (fun H locs hP hD hS => ?_)
            have hP : va_P D cl5 [(m_, .inr (4, [.int (nI 1), .int nn_, .long le_, .int sh_, .ref ab_, .ref be_, .long ca_, .long cb_, .long oc_, .long st_, .int bs_, .int tr_, .int sp_, .ref rr_]))] H := hP
            have hD : va_D A [(m_, .inr (4, [.int (nI 1), .int nn_, .long le_, .int sh_, .ref ab_, .ref be_, .long ca_, .long cb_, .long oc_, .long st_, .int bs_, .int tr_, .int sp_, .ref rr_]))] := hD
            refine lv_iload hx hb dX4_pipe_51 (lv_at hl 0 rfl) ?_
            refine lv_if_eq (tgt := 85) hx hb dX4_pipe_53 (by decide) (fun c_53 => ?_) (fun c_53 => ?_)
            · skip
              have c_53 := zji_eq (a := 0) (b := 0) (by omega) (by omega) c_53
              refine lv_dconst0 hx hb dX4_pipe_85 ?_
              subst hQ
              refine W.endD hd ?_
              exact ze_d hx hb hr hlocks (nI 1) (⟨by rw [hcd], fun q => absurd q (by omega)⟩) hP hK hD hS dX4_pipe_86
            · skip
              exact absurd c_53 (by decide)
          · skip
            exact absurd c_40 (by decide)
        · skip
          have hcd : cd2 (rlI x_ 4607182418800017408 4666723172467343360) (rlI y_ 0 4636737291354636288) = 0 := cd2_1 (rl_1 c_3 c_11) (rl_1 c_18 c_27)
          refine lv_iconst (v := nI 1) hx hb dX4_pipe_30 (by decide) ?_
          refine lv_goto (tgt := 35) hx hb dX4_pipe_31 (by decide) ?_
          refine lv_istore (lv' := [(6, .int (nI 1)), (0, .ref m_), (1, .double x_), (3, .int v_), (4, .double y_)]) hx hb dX4_pipe_35 hl (by decide) rfl (fun ls hl => ?_)
          refine lv_aload_n hx hb dX4_pipe_37 rfl (lv_at hl 1 rfl) ?_
          refine lv_iload hx hb dX4_pipe_38 (lv_at hl 0 rfl) ?_
          refine lv_if_eq (tgt := 47) hx hb dX4_pipe_40 (by decide) (fun c_40 => ?_) (fun c_40 => ?_)
          · skip
            exact absurd c_40 (by decide)
          · skip
            have c_40 := zji_ne (a := 1) (b := 0) (by omega) (by omega) c_40
            refine lv_iconst (v := nI 0) hx hb dX4_pipe_43 (by decide) ?_
            refine lv_goto (tgt := 48) hx hb dX4_pipe_44 (by decide) ?_
            refine va_put (D := D) (ci := 4) (v := .int (nI 0)) (ty := .int) (C := RX4) (T := TX4) (N := 14) hx hb hts nX4_pipe_4 tyX4 tyX4_ok nmX4 hown hK hP hD hS 0 rfl rfl 0 (by decide) (zh (w := .fieldLink RX4 47 "FretRootsModel" "thrown" "I") hts 3 rfl) (fun _ h9 => h9) rfl (by decide +kernel) rfl rfl (Nat.le_of_ble_eq_true rfl) dX4_pipe_48 (fun H locs hP hD hS => ?_)
            have hP : va_P D cl5 [(m_, .inr (4, [.int (nI 0), .int nn_, .long le_, .int sh_, .ref ab_, .ref be_, .long ca_, .long cb_, .long oc_, .long st_, .int bs_, .int tr_, .int sp_, .ref rr_]))] H := hP
            have hD : va_D A [(m_, .inr (4, [.int (nI 0), .int nn_, .long le_, .int sh_, .ref ab_, .ref be_, .long ca_, .long cb_, .long oc_, .long st_, .int bs_, .int tr_, .int sp_, .ref rr_]))] := hD
            refine lv_iload hx hb dX4_pipe_51 (lv_at hl 0 rfl) ?_
            refine lv_if_eq (tgt := 85) hx hb dX4_pipe_53 (by decide) (fun c_53 => ?_) (fun c_53 => ?_)
            · skip
              exact absurd c_53 (by decide)
            · skip
              have c_53 := zji_ne (a := 1) (b := 0) (by omega) (by omega) c_53
              refine lv_ldc2d (v := 4644688959446712320) hx hb hown (zh (w := .constantDouble RX4 153 (4644688959446712320)) hts 4 rfl) dX4_pipe_56 ?_
              refine lv_dload_n hx hb dX4_pipe_59 rfl (lv_at hl 2 rfl) ?_
              refine lv_ddiv_any hd lw_bits hx hb dX4_pipe_60 (fun x_1 d al_1 hd => ?_)
              have hts := dr_words hts0 d
              have hK := zK_dr (d := d) hK0
              have hown : (s.setDrawn d).vm.findClass RX4 = some m.cls := hown
              refine lv_iload_n hx hb dX4_pipe_61 rfl (lv_at hl 3 rfl) ?_
              refine lv_if_eq (tgt := 71) hx hb dX4_pipe_62 (by decide) (fun c_62 => ?_) (fun c_62 => ?_)
              · skip
                refine lv_ldc2d (v := 4616189618054758400) hx hb hown (zh (w := .constantDouble RX4 149 (4616189618054758400)) hts 6 rfl) dX4_pipe_71 ?_
                refine lv_ddiv_any hd lw_bits hx hb dX4_pipe_74 (fun x_2 d al_2 hd => ?_)
                have hts := dr_words hts0 d
                have hK := zK_dr (d := d) hK0
                have hown : (s.setDrawn d).vm.findClass RX4 = some m.cls := hown
                refine lv_ldc2d (v := 4604930618986332160) hx hb hown (zh (w := .constantDouble RX4 157 (4604930618986332160)) hts 7 rfl) dX4_pipe_75 ?_
                refine lv_dload hx hb dX4_pipe_78 (lv_at hl 4 rfl) ?_
                refine lv_dmul_any hd lw_bits hx hb dX4_pipe_80 (fun x_3 d al_3 hd => ?_)
                have hts := dr_words hts0 d
                have hK := zK_dr (d := d) hK0
                have hown : (s.setDrawn d).vm.findClass RX4 = some m.cls := hown
                refine lv_dsub_any hd lw_bits hx hb dX4_pipe_81 (fun x_4 d al_4 hd => ?_)
                have hts := dr_words hts0 d
                have hK := zK_dr (d := d) hK0
                have hown : (s.setDrawn d).vm.findClass RX4 = some m.cls := hown
                refine lv_goto (tgt := 86) hx hb dX4_pipe_82 (by decide) ?_
                subst hQ
                refine W.endD hd ?_
                exact ze_d hx hb hr hlocks (nI 0) (⟨by rw [hcd], fun _ => ⟨_, _, _, al_1, by rw [if_pos c_62]; exact al_2, al_3, al_4⟩⟩) hP hK hD hS dX4_pipe_86
              · skip
                refine lv_ldc2d (v := 4611686018427387904) hx hb hown (zh (w := .constantDouble RX4 155 (4611686018427387904)) hts 5 rfl) dX4_pipe_65 ?_
                refine lv_goto (tgt := 74) hx hb dX4_pipe_68 (by decide) ?_
                refine lv_ddiv_any hd lw_bits hx hb dX4_pipe_74 (fun x_5 d al_5 hd => ?_)
                have hts := dr_words hts0 d
                have hK := zK_dr (d := d) hK0
                have hown : (s.setDrawn d).vm.findClass RX4 = some m.cls := hown
                refine lv_ldc2d (v := 4604930618986332160) hx hb hown (zh (w := .constantDouble RX4 157 (4604930618986332160)) hts 7 rfl) dX4_pipe_75 ?_
                refine lv_dload hx hb dX4_pipe_78 (lv_at hl 4 rfl) ?_
                refine lv_dmul_any hd lw_bits hx hb dX4_pipe_80 (fun x_6 d al_6 hd => ?_)
                have hts := dr_words hts0 d
                have hK := zK_dr (d := d) hK0
                have hown : (s.setDrawn d).vm.findClass RX4 = some m.cls := hown
                refine lv_dsub_any hd lw_bits hx hb dX4_pipe_81 (fun x_7 d al_7 hd => ?_)
                have hts := dr_words hts0 d
                have hK := zK_dr (d := d) hK0
                have hown : (s.setDrawn d).vm.findClass RX4 = some m.cls := hown
                refine lv_goto (tgt := 86) hx hb dX4_pipe_82 (by decide) ?_
                subst hQ
                refine W.endD hd ?_
                exact ze_d hx hb hr hlocks (nI 0) (⟨by rw [hcd], fun _ => ⟨_, _, _, al_1, by rw [if_neg c_62]; exact al_5, al_6, al_7⟩⟩) hP hK hD hS dX4_pipe_86
