theorem nX4_step_4 : ∀ w ∈ wsX40, w ∈ wsX4_step := by decide +kernel
abbrev rm_X4_step : Room := { frames := 2, cells := 0, slots := 0, locals := 60 }
set_option maxHeartbeats 4000000 in
set_option maxRecDepth 100000 in
/-- step of the reference -/
theorem ct_X4_step (l : Launch) (D : va_G) (cI cJ cD : ClassId) (m_ : Nat) (ab_ : Nat) (be_ : Nat) (rr_ : Nat) (th_ : Int32) (nn_ : Int32) (sh_ : Int32) (bs_ : Int32) (tr_ : Int32) (sp_ : Int32) (le_ : Int64) (oc_ : Int64) (st_ : Int64) (ca_ : Nat) (cb_ : Nat) (g_ : Nat → Int32) (x_ : Int32) (y_ : Int32) (sz : Nat) (hch : chOK ca_ cb_) : Met l yX4_step wsX4_step rm_X4_step (zP D (ty3 cI cJ cD) [.ref m_, .int x_, .int y_] sz [(m_, .inr (4, [.int th_, .int nn_, .long le_, .int sh_, .ref ab_, .ref be_, .long (lN ca_), .long (lN cb_), .long oc_, .long st_, .int bs_, .int tr_, .int sp_, .ref rr_])), (rr_, .inl (cI, 152, .inl g_))] zT) (va_Qi (fun (r : Int32) (u : Int32 × (Nat → Int32) × Nat × Nat × Int64 × Int64) => (u.1) = nI (cd2 (ptI x_) (ptI y_)) ∧ (r = 0 ∨ r = 1) ∧ (cd2 (ptI x_) (ptI y_) = 0 → ∃ xx yy, x_ = nI xx ∧ y_ = nI yy ∧ 1 ≤ xx ∧ xx ≤ 1000000 ∧ 1 ≤ yy ∧ yy ≤ 1000000 ∧ stD ca_ cb_ xx yy oc_ st_ r (u.2.2.1) (u.2.2.2.1) (u.2.2.2.2.1) (u.2.2.2.2.2)) ∧ (cd2 (ptI x_) (ptI y_) ≠ 0 → (u.2.2.1) = ca_ ∧ (u.2.2.2.1) = cb_ ∧ (u.2.2.2.2.1) = oc_ ∧ (u.2.2.2.2.2) = st_)) (zB D (ty3 cI cJ cD) (fun (u : Int32 × (Nat → Int32) × Nat × Nat × Int64 × Int64) => [(m_, .inr (4, [.int (u.1), .int nn_, .long le_, .int sh_, .ref ab_, .ref be_, .long (lN (u.2.2.1)), .long (lN (u.2.2.2.1)), .long (u.2.2.2.2.1), .long (u.2.2.2.2.2), .int bs_, .int tr_, .int sp_, .ref rr_])), (rr_, .inl (cI, 152, .inl (u.2.1)))]) (va_A [(m_, .inr (4, [.int th_, .int nn_, .long le_, .int sh_, .ref ab_, .ref be_, .long (lN ca_), .long (lN cb_), .long oc_, .long st_, .int bs_, .int tr_, .int sp_, .ref rr_])), (rr_, .inl (cI, 152, .inl g_))] sz)) (va_A [(m_, .inr (4, [.int th_, .int nn_, .long le_, .int sh_, .ref ab_, .ref be_, .long (lN ca_), .long (lN cb_), .long oc_, .long st_, .int bs_, .int tr_, .int sp_, .ref rr_])), (rr_, .inl (cI, 152, .inl g_))] sz)) 0 0 (va_A [(m_, .inr (4, [.int th_, .int nn_, .long le_, .int sh_, .ref ab_, .ref be_, .long (lN ca_), .long (lN cb_), .long oc_, .long st_, .int bs_, .int tr_, .int sp_, .ref rr_])), (rr_, .inl (cI, 152, .inl g_))] sz) := by
  refine zMet (Qf := fun A => va_Qi (fun (r : Int32) (u : Int32 × (Nat → Int32) × Nat × Nat × Int64 × Int64) => (u.1) = nI (cd2 (ptI x_) (ptI y_)) ∧ (r = 0 ∨ r = 1) ∧ (cd2 (ptI x_) (ptI y_) = 0 → ∃ xx yy, x_ = nI xx ∧ y_ = nI yy ∧ 1 ≤ xx ∧ xx ≤ 1000000 ∧ 1 ≤ yy ∧ yy ≤ 1000000 ∧ stD ca_ cb_ xx yy oc_ st_ r (u.2.2.1) (u.2.2.2.1) (u.2.2.2.2.1) (u.2.2.2.2.2)) ∧ (cd2 (ptI x_) (ptI y_) ≠ 0 → (u.2.2.1) = ca_ ∧ (u.2.2.2.1) = cb_ ∧ (u.2.2.2.2.1) = oc_ ∧ (u.2.2.2.2.2) = st_)) (zB D (ty3 cI cJ cD) (fun (u : Int32 × (Nat → Int32) × Nat × Nat × Int64 × Int64) => [(m_, .inr (4, [.int (u.1), .int nn_, .long le_, .int sh_, .ref ab_, .ref be_, .long (lN (u.2.2.1)), .long (lN (u.2.2.2.1)), .long (u.2.2.2.2.1), .long (u.2.2.2.2.2), .int bs_, .int tr_, .int sp_, .ref rr_])), (rr_, .inl (cI, 152, .inl (u.2.1)))]) A) A) (cc := cX4_step) (maxL := 16) (ret := (some .boolean)) (by decide) rfl (Nat.le_of_ble_eq_true rfl) ?_
  intro p e s m args below meth c A ls Q H hargs hQ hHe hx hb hr hml hown hts hlocks hin hP hK hD hA hS hE hAe hl
  have hl : lv_has ls 16 [(0, .ref m_), (1, .int x_), (2, .int y_)] := hl
  have lp_174 : ∀ (k9_ : Nat) (xx : Nat) (yy : Nat) (NA : Nat) (NB : Nat) (pp : Nat) (qq : Nat) (g : Nat → Int32) (H : Heap) (locs : List Loc) (ls : Array Slot), NB - NA < k9_ → x_ = nI xx → y_ = nI yy → 1 ≤ xx → xx ≤ 1000000 → 1 ≤ yy → yy ≤ 1000000 → cd2 (ptI x_) (ptI y_) = 0 → modL g 0 NA → modL g 1 NB → stI NA NB (ca_ * xx) (cb_ * yy) pp qq → NA < 2 ^ 71 → NB < 2 ^ 70 → NA < 2 * NB →  va_P D cl5 [(m_, .inr (4, [.int (nI 0), .int nn_, .long le_, .int sh_, .ref ab_, .ref be_, .long (lN ca_), .long (lN cb_), .long oc_, .long st_, .int bs_, .int tr_, .int sp_, .ref rr_])), (rr_, .inl (cI, 152, .inl g))] H → va_D A [(m_, .inr (4, [.int (nI 0), .int nn_, .long le_, .int sh_, .ref ab_, .ref be_, .long (lN ca_), .long (lN cb_), .long oc_, .long st_, .int bs_, .int tr_, .int sp_, .ref rr_])), (rr_, .inl (cI, 152, .inl g))] → va_S A s.heap H locs → lv_has ls 16 [(0, .ref m_), (13, .long (lN pp - lN qq))] → W p l e rm_X4_step s m args below meth c H locs 0 0 Q (F0 m 174 ls []) := by
    intro k9_
    induction k9_ with
    | zero => intro xx yy NA NB pp qq g H locs ls hm; exact absurd hm (Nat.not_lt_zero _)
    | succ k9_ ih =>
      intro xx yy NA NB pp qq g H locs ls hm  ex ey hx1 hx2 hy1 hy2 hcd h1 h2 h3 h4 h5 h7 hP hD hS hl
      refine lv_aload_n hx hb dX4_step_174 rfl (lv_at hl 0 rfl) ?_
      refine zc_i (wc := [(m_, .inr (4, [.int (nI 0), .int nn_, .long le_, .int sh_, .ref ab_, .ref be_, .long (lN ca_), .long (lN cb_), .long oc_, .long st_, .int bs_, .int tr_, .int sp_, .ref rr_])), (rr_, .inl (cI, 152, .inl g))]) (wr := []) hP hD hS hA [0, 1] [] rfl rfl (by decide) (by decide) (va_runV (As := []) (rest := []) ⟨hx, hb, hml, hown, hts⟩ (ct_X4_compare l D cI cJ cD m_ ab_ be_ rr_ (nI 0) nn_ sh_ bs_ tr_ sp_ le_ (lN ca_) (lN cb_) oc_ st_ NA NB g H.size h1 h2 (by omega) (by omega)) (cwV 0 hts gX4_step_X4_compare rfl rfl rfl (by decide +kernel) ⟨Nat.le_of_ble_eq_true rfl, Nat.le_of_ble_eq_true rfl⟩) (zPreV (wc := [(m_, .inr (4, [.int (nI 0), .int nn_, .long le_, .int sh_, .ref ab_, .ref be_, .long (lN ca_), .long (lN cb_), .long oc_, .long st_, .int bs_, .int tr_, .int sp_, .ref rr_])), (rr_, .inl (cI, 152, .inl g))]) hK hP hD 4 0 rfl rfl zTb (fun _ _ _ => trivial)) rfl rfl hl.1 rfl (lv_room (Nat.le_of_ble_eq_true rfl)) dX4_step_175 ⟨Nat.le_of_ble_eq_true rfl, Nat.le_of_ble_eq_true rfl⟩) (fun r_1 u H locs hw hP hD hS => ?_)
      have hP : va_P D cl5 [(m_, .inr (4, [.int (nI 0), .int nn_, .long le_, .int sh_, .ref ab_, .ref be_, .long (lN ca_), .long (lN cb_), .long oc_, .long st_, .int bs_, .int tr_, .int sp_, .ref rr_])), (rr_, .inl (cI, 152, .inl g))] H := hP.sub [0, 1] rfl
      have hD : va_D A [(m_, .inr (4, [.int (nI 0), .int nn_, .long le_, .int sh_, .ref ab_, .ref be_, .long (lN ca_), .long (lN cb_), .long oc_, .long st_, .int bs_, .int tr_, .int sp_, .ref rr_])), (rr_, .inl (cI, 152, .inl g))] := hD.sub [0, 1] (by decide) rfl
      have hw : r_1 = cmpI NA NB := hw
      subst hw
      refine lv_if_ge (tgt := 214) hx hb dX4_step_178 (by decide) (fun c_178 => ?_) (fun c_178 => ?_)
      · skip
        have hc2 := cmpI_nneg c_178
        have hst : stR NA NB (ca_ * xx) (cb_ * yy) pp qq := ⟨h3, hc2, h7⟩
        refine lv_aload_n hx hb dX4_step_214 rfl (lv_at hl 0 rfl) ?_
        refine lv_iconst (v := nI 0) hx hb dX4_step_215 (by decide) ?_
        refine zc_l (wc := [(m_, .inr (4, [.int (nI 0), .int nn_, .long le_, .int sh_, .ref ab_, .ref be_, .long (lN ca_), .long (lN cb_), .long oc_, .long st_, .int bs_, .int tr_, .int sp_, .ref rr_])), (rr_, .inl (cI, 152, .inl g))]) (wr := []) hP hD hS hA [0, 1] [] rfl rfl (by decide) (by decide) (va_runV (As := [.int (nI 0)]) (rest := []) ⟨hx, hb, hml, hown, hts⟩ (ct_X4_told l D cI cJ cD m_ ab_ be_ rr_ (nI 0) nn_ sh_ bs_ tr_ sp_ le_ (lN ca_) (lN cb_) oc_ st_ 0 NA g H.size (by decide) h1 (by omega)) (cwV 1 hts gX4_step_X4_told rfl rfl rfl (by decide +kernel) ⟨Nat.le_of_ble_eq_true rfl, Nat.le_of_ble_eq_true rfl⟩) (zPreV (wc := [(m_, .inr (4, [.int (nI 0), .int nn_, .long le_, .int sh_, .ref ab_, .ref be_, .long (lN ca_), .long (lN cb_), .long oc_, .long st_, .int bs_, .int tr_, .int sp_, .ref rr_])), (rr_, .inl (cI, 152, .inl g))]) hK hP hD 4 0 rfl rfl zTb (fun _ _ _ => trivial)) rfl rfl hl.1 rfl (lv_room (Nat.le_of_ble_eq_true rfl)) dX4_step_216 ⟨Nat.le_of_ble_eq_true rfl, Nat.le_of_ble_eq_true rfl⟩) (fun r_2 u H locs hw hP hD hS => ?_)
        have hP : va_P D cl5 [(m_, .inr (4, [.int (nI 0), .int nn_, .long le_, .int sh_, .ref ab_, .ref be_, .long (lN ca_), .long (lN cb_), .long oc_, .long st_, .int bs_, .int tr_, .int sp_, .ref rr_])), (rr_, .inl (cI, 152, .inl g))] H := hP.sub [0, 1] rfl
        have hD : va_D A [(m_, .inr (4, [.int (nI 0), .int nn_, .long le_, .int sh_, .ref ab_, .ref be_, .long (lN ca_), .long (lN cb_), .long oc_, .long st_, .int bs_, .int tr_, .int sp_, .ref rr_])), (rr_, .inl (cI, 152, .inl g))] := hD.sub [0, 1] (by decide) rfl
        have hw : r_2 = toldL NA := hw
        subst hw
        refine lv_ldc2 (v := 1000000000000000) hx hb hown (zh (w := .constantLong RX4 109 (1000000000000000)) hts 5 rfl) dX4_step_219 ?_
        refine zl_ (y := lN 1000000000000000) rfl ?_
        refine zl_gt (tgt := 238) hx hb dX4_step_222 dX4_step_223 (by decide) (fun c_223 => ?_) (fun c_223 => ?_)
        · skip
          refine lv_iconst (v := nI 0) hx hb dX4_step_238 (by decide) ?_
          subst hQ
          exact ze_z hx hb hr hlocks (nI 0, g, ca_, cb_, oc_, st_) (by first | exact Or.inl rfl | exact Or.inr rfl | omega) (⟨by rw [hcd], Or.inl rfl, fun _ => ⟨xx, yy, ex, ey, hx1, hx2, hy1, hy2, NA, NB, pp, qq, hst, Or.inr ⟨by first | exact fun q => told_gt c_223 q.1 | exact fun q => told_nle c_235 q.2, rfl, rfl, rfl, rfl, rfl⟩⟩, fun q => absurd hcd q⟩) hP hK hD hS dX4_step_239
        · skip
          refine lv_aload_n hx hb dX4_step_226 rfl (lv_at hl 0 rfl) ?_
          refine lv_iconst (v := nI 1) hx hb dX4_step_227 (by decide) ?_
          refine zc_l (wc := [(m_, .inr (4, [.int (nI 0), .int nn_, .long le_, .int sh_, .ref ab_, .ref be_, .long (lN ca_), .long (lN cb_), .long oc_, .long st_, .int bs_, .int tr_, .int sp_, .ref rr_])), (rr_, .inl (cI, 152, .inl g))]) (wr := []) hP hD hS hA [0, 1] [] rfl rfl (by decide) (by decide) (va_runV (As := [.int (nI 1)]) (rest := []) ⟨hx, hb, hml, hown, hts⟩ (ct_X4_told l D cI cJ cD m_ ab_ be_ rr_ (nI 0) nn_ sh_ bs_ tr_ sp_ le_ (lN ca_) (lN cb_) oc_ st_ 1 NB g H.size (by decide) h2 (by omega)) (cwV 1 hts gX4_step_X4_told rfl rfl rfl (by decide +kernel) ⟨Nat.le_of_ble_eq_true rfl, Nat.le_of_ble_eq_true rfl⟩) (zPreV (wc := [(m_, .inr (4, [.int (nI 0), .int nn_, .long le_, .int sh_, .ref ab_, .ref be_, .long (lN ca_), .long (lN cb_), .long oc_, .long st_, .int bs_, .int tr_, .int sp_, .ref rr_])), (rr_, .inl (cI, 152, .inl g))]) hK hP hD 4 0 rfl rfl zTb (fun _ _ _ => trivial)) rfl rfl hl.1 rfl (lv_room (Nat.le_of_ble_eq_true rfl)) dX4_step_228 ⟨Nat.le_of_ble_eq_true rfl, Nat.le_of_ble_eq_true rfl⟩) (fun r_3 u H locs hw hP hD hS => ?_)
          have hP : va_P D cl5 [(m_, .inr (4, [.int (nI 0), .int nn_, .long le_, .int sh_, .ref ab_, .ref be_, .long (lN ca_), .long (lN cb_), .long oc_, .long st_, .int bs_, .int tr_, .int sp_, .ref rr_])), (rr_, .inl (cI, 152, .inl g))] H := hP.sub [0, 1] rfl
          have hD : va_D A [(m_, .inr (4, [.int (nI 0), .int nn_, .long le_, .int sh_, .ref ab_, .ref be_, .long (lN ca_), .long (lN cb_), .long oc_, .long st_, .int bs_, .int tr_, .int sp_, .ref rr_])), (rr_, .inl (cI, 152, .inl g))] := hD.sub [0, 1] (by decide) rfl
          have hw : r_3 = toldL NB := hw
          subst hw
          refine lv_ldc2 (v := 1000000000000000) hx hb hown (zh (w := .constantLong RX4 109 (1000000000000000)) hts 5 rfl) dX4_step_231 ?_
          refine zl_ (y := lN 1000000000000000) rfl ?_
          refine zl_le (tgt := 240) hx hb dX4_step_234 dX4_step_235 (by decide) (fun c_235 => ?_) (fun c_235 => ?_)
          · skip
            refine lv_aload_n hx hb dX4_step_240 rfl (lv_at hl 0 rfl) ?_
            refine lv_aload_n hx hb dX4_step_241 rfl (lv_at hl 0 rfl) ?_
            refine lv_iconst (v := nI 0) hx hb dX4_step_242 (by decide) ?_
            refine zc_l (wc := [(m_, .inr (4, [.int (nI 0), .int nn_, .long le_, .int sh_, .ref ab_, .ref be_, .long (lN ca_), .long (lN cb_), .long oc_, .long st_, .int bs_, .int tr_, .int sp_, .ref rr_])), (rr_, .inl (cI, 152, .inl g))]) (wr := []) hP hD hS hA [0, 1] [] rfl rfl (by decide) (by decide) (va_runV (As := [.int (nI 0)]) (rest := [.ref m_]) ⟨hx, hb, hml, hown, hts⟩ (ct_X4_told l D cI cJ cD m_ ab_ be_ rr_ (nI 0) nn_ sh_ bs_ tr_ sp_ le_ (lN ca_) (lN cb_) oc_ st_ 0 NA g H.size (by decide) h1 (by omega)) (cwV 1 hts gX4_step_X4_told rfl rfl rfl (by decide +kernel) ⟨Nat.le_of_ble_eq_true rfl, Nat.le_of_ble_eq_true rfl⟩) (zPreV (wc := [(m_, .inr (4, [.int (nI 0), .int nn_, .long le_, .int sh_, .ref ab_, .ref be_, .long (lN ca_), .long (lN cb_), .long oc_, .long st_, .int bs_, .int tr_, .int sp_, .ref rr_])), (rr_, .inl (cI, 152, .inl g))]) hK hP hD 4 0 rfl rfl zTb (fun _ _ _ => trivial)) rfl rfl hl.1 rfl (lv_room (Nat.le_of_ble_eq_true rfl)) dX4_step_243 ⟨Nat.le_of_ble_eq_true rfl, Nat.le_of_ble_eq_true rfl⟩) (fun r_4 u H locs hw hP hD hS => ?_)
            have hP : va_P D cl5 [(m_, .inr (4, [.int (nI 0), .int nn_, .long le_, .int sh_, .ref ab_, .ref be_, .long (lN ca_), .long (lN cb_), .long oc_, .long st_, .int bs_, .int tr_, .int sp_, .ref rr_])), (rr_, .inl (cI, 152, .inl g))] H := hP.sub [0, 1] rfl
            have hD : va_D A [(m_, .inr (4, [.int (nI 0), .int nn_, .long le_, .int sh_, .ref ab_, .ref be_, .long (lN ca_), .long (lN cb_), .long oc_, .long st_, .int bs_, .int tr_, .int sp_, .ref rr_])), (rr_, .inl (cI, 152, .inl g))] := hD.sub [0, 1] (by decide) rfl
            have hw : r_4 = toldL NA := hw
            subst hw
            refine zl_ (y := lN NA) (told_eq (told_ngt c_223)) ?_
            refine va_put (D := D) (ci := 4) (v := .long (lN NA)) (ty := .long) (C := RX4) (T := TX4) (N := 14) hx hb hts nX4_step_4 tyX4 tyX4_ok nmX4 hown hK hP hD hS 0 rfl rfl 6 (by decide) (zh (w := .fieldLink RX4 26 "FretRootsModel" "chainAbove" "J") hts 2 rfl) (fun _ h9 => h9) rfl (by decide +kernel) rfl rfl (Nat.le_of_ble_eq_true rfl) dX4_step_246 (fun H locs hP hD hS => ?_)
            have hP : va_P D cl5 [(m_, .inr (4, [.int (nI 0), .int nn_, .long le_, .int sh_, .ref ab_, .ref be_, .long (lN NA), .long (lN cb_), .long oc_, .long st_, .int bs_, .int tr_, .int sp_, .ref rr_])), (rr_, .inl (cI, 152, .inl g))] H := hP
            have hD : va_D A [(m_, .inr (4, [.int (nI 0), .int nn_, .long le_, .int sh_, .ref ab_, .ref be_, .long (lN NA), .long (lN cb_), .long oc_, .long st_, .int bs_, .int tr_, .int sp_, .ref rr_])), (rr_, .inl (cI, 152, .inl g))] := hD
            refine lv_aload_n hx hb dX4_step_249 rfl (lv_at hl 0 rfl) ?_
            refine lv_aload_n hx hb dX4_step_250 rfl (lv_at hl 0 rfl) ?_
            refine lv_iconst (v := nI 1) hx hb dX4_step_251 (by decide) ?_
            refine zc_l (wc := [(m_, .inr (4, [.int (nI 0), .int nn_, .long le_, .int sh_, .ref ab_, .ref be_, .long (lN NA), .long (lN cb_), .long oc_, .long st_, .int bs_, .int tr_, .int sp_, .ref rr_])), (rr_, .inl (cI, 152, .inl g))]) (wr := []) hP hD hS hA [0, 1] [] rfl rfl (by decide) (by decide) (va_runV (As := [.int (nI 1)]) (rest := [.ref m_]) ⟨hx, hb, hml, hown, hts⟩ (ct_X4_told l D cI cJ cD m_ ab_ be_ rr_ (nI 0) nn_ sh_ bs_ tr_ sp_ le_ (lN NA) (lN cb_) oc_ st_ 1 NB g H.size (by decide) h2 (by omega)) (cwV 1 hts gX4_step_X4_told rfl rfl rfl (by decide +kernel) ⟨Nat.le_of_ble_eq_true rfl, Nat.le_of_ble_eq_true rfl⟩) (zPreV (wc := [(m_, .inr (4, [.int (nI 0), .int nn_, .long le_, .int sh_, .ref ab_, .ref be_, .long (lN NA), .long (lN cb_), .long oc_, .long st_, .int bs_, .int tr_, .int sp_, .ref rr_])), (rr_, .inl (cI, 152, .inl g))]) hK hP hD 4 0 rfl rfl zTb (fun _ _ _ => trivial)) rfl rfl hl.1 rfl (lv_room (Nat.le_of_ble_eq_true rfl)) dX4_step_252 ⟨Nat.le_of_ble_eq_true rfl, Nat.le_of_ble_eq_true rfl⟩) (fun r_5 u H locs hw hP hD hS => ?_)
            have hP : va_P D cl5 [(m_, .inr (4, [.int (nI 0), .int nn_, .long le_, .int sh_, .ref ab_, .ref be_, .long (lN NA), .long (lN cb_), .long oc_, .long st_, .int bs_, .int tr_, .int sp_, .ref rr_])), (rr_, .inl (cI, 152, .inl g))] H := hP.sub [0, 1] rfl
            have hD : va_D A [(m_, .inr (4, [.int (nI 0), .int nn_, .long le_, .int sh_, .ref ab_, .ref be_, .long (lN NA), .long (lN cb_), .long oc_, .long st_, .int bs_, .int tr_, .int sp_, .ref rr_])), (rr_, .inl (cI, 152, .inl g))] := hD.sub [0, 1] (by decide) rfl
            have hw : r_5 = toldL NB := hw
            subst hw
            refine zl_ (y := lN NB) (told_eq (told_le c_235)) ?_
            refine va_put (D := D) (ci := 4) (v := .long (lN NB)) (ty := .long) (C := RX4) (T := TX4) (N := 14) hx hb hts nX4_step_4 tyX4 tyX4_ok nmX4 hown hK hP hD hS 0 rfl rfl 7 (by decide) (zh (w := .fieldLink RX4 29 "FretRootsModel" "chainBelow" "J") hts 3 rfl) (fun _ h9 => h9) rfl (by decide +kernel) rfl rfl (Nat.le_of_ble_eq_true rfl) dX4_step_255 (fun H locs hP hD hS => ?_)
            have hP : va_P D cl5 [(m_, .inr (4, [.int (nI 0), .int nn_, .long le_, .int sh_, .ref ab_, .ref be_, .long (lN NA), .long (lN NB), .long oc_, .long st_, .int bs_, .int tr_, .int sp_, .ref rr_])), (rr_, .inl (cI, 152, .inl g))] H := hP
            have hD : va_D A [(m_, .inr (4, [.int (nI 0), .int nn_, .long le_, .int sh_, .ref ab_, .ref be_, .long (lN NA), .long (lN NB), .long oc_, .long st_, .int bs_, .int tr_, .int sp_, .ref rr_])), (rr_, .inl (cI, 152, .inl g))] := hD
            refine lv_aload_n hx hb dX4_step_258 rfl (lv_at hl 0 rfl) ?_
            refine lv_aload_n hx hb dX4_step_259 rfl (lv_at hl 0 rfl) ?_
            refine va_get (D := D) (ci := 4) (v := .long oc_) (C := RX4) (T := TX4) (N := 14) hx hb hts nX4_step_4 hown hK hP 0 rfl rfl 8 (by decide) (zh (w := .fieldLink RX4 125 "FretRootsModel" "octaves" "J") hts 6 rfl) (fun _ h9 => h9) rfl dX4_step_260 ?_
            refine lv_lload hx hb dX4_step_263 (lv_at hl 1 rfl) ?_
            refine lv_ladd hx hb dX4_step_265 ?_
            refine va_put (D := D) (ci := 4) (v := .long (oc_ + (lN pp - lN qq))) (ty := .long) (C := RX4) (T := TX4) (N := 14) hx hb hts nX4_step_4 tyX4 tyX4_ok nmX4 hown hK hP hD hS 0 rfl rfl 8 (by decide) (zh (w := .fieldLink RX4 125 "FretRootsModel" "octaves" "J") hts 6 rfl) (fun _ h9 => h9) rfl (by decide +kernel) rfl rfl (Nat.le_of_ble_eq_true rfl) dX4_step_266 (fun H locs hP hD hS => ?_)
            have hP : va_P D cl5 [(m_, .inr (4, [.int (nI 0), .int nn_, .long le_, .int sh_, .ref ab_, .ref be_, .long (lN NA), .long (lN NB), .long (oc_ + (lN pp - lN qq)), .long st_, .int bs_, .int tr_, .int sp_, .ref rr_])), (rr_, .inl (cI, 152, .inl g))] H := hP
            have hD : va_D A [(m_, .inr (4, [.int (nI 0), .int nn_, .long le_, .int sh_, .ref ab_, .ref be_, .long (lN NA), .long (lN NB), .long (oc_ + (lN pp - lN qq)), .long st_, .int bs_, .int tr_, .int sp_, .ref rr_])), (rr_, .inl (cI, 152, .inl g))] := hD
            refine lv_aload_n hx hb dX4_step_269 rfl (lv_at hl 0 rfl) ?_
            refine lv_dup hx hb dX4_step_270 rfl ?_
            refine va_get (D := D) (ci := 4) (v := .long st_) (C := RX4) (T := TX4) (N := 14) hx hb hts nX4_step_4 hown hK hP 0 rfl rfl 9 (by decide) (zh (w := .fieldLink RX4 128 "FretRootsModel" "steps" "J") hts 7 rfl) (fun _ h9 => h9) rfl dX4_step_271 ?_
            refine lv_lconst (v := lN 1) hx hb dX4_step_274 rfl ?_
            refine lv_ladd hx hb dX4_step_275 ?_
            refine va_put (D := D) (ci := 4) (v := .long (st_ + (lN 1))) (ty := .long) (C := RX4) (T := TX4) (N := 14) hx hb hts nX4_step_4 tyX4 tyX4_ok nmX4 hown hK hP hD hS 0 rfl rfl 9 (by decide) (zh (w := .fieldLink RX4 128 "FretRootsModel" "steps" "J") hts 7 rfl) (fun _ h9 => h9) rfl (by decide +kernel) rfl rfl (Nat.le_of_ble_eq_true rfl) dX4_step_276 (fun H locs hP hD hS => ?_)
            have hP : va_P D cl5 [(m_, .inr (4, [.int (nI 0), .int nn_, .long le_, .int sh_, .ref ab_, .ref be_, .long (lN NA), .long (lN NB), .long (oc_ + (lN pp - lN qq)), .long (st_ + (lN 1)), .int bs_, .int tr_, .int sp_, .ref rr_])), (rr_, .inl (cI, 152, .inl g))] H := hP
            have hD : va_D A [(m_, .inr (4, [.int (nI 0), .int nn_, .long le_, .int sh_, .ref ab_, .ref be_, .long (lN NA), .long (lN NB), .long (oc_ + (lN pp - lN qq)), .long (st_ + (lN 1)), .int bs_, .int tr_, .int sp_, .ref rr_])), (rr_, .inl (cI, 152, .inl g))] := hD
            refine lv_iconst (v := nI 1) hx hb dX4_step_279 (by decide) ?_
            subst hQ
            exact ze_z hx hb hr hlocks (nI 0, g, NA, NB, oc_ + (lN pp - lN qq), st_ + (lN 1)) (by first | exact Or.inl rfl | exact Or.inr rfl | omega) (⟨by rw [hcd], Or.inr rfl, fun _ => ⟨xx, yy, ex, ey, hx1, hx2, hy1, hy2, NA, NB, pp, qq, hst, Or.inl ⟨told_ngt c_223, told_le c_235, rfl, rfl, rfl, rfl, rfl⟩⟩, fun q => absurd hcd q⟩) hP hK hD hS dX4_step_280
          · skip
            refine lv_iconst (v := nI 0) hx hb dX4_step_238 (by decide) ?_
            subst hQ
            exact ze_z hx hb hr hlocks (nI 0, g, ca_, cb_, oc_, st_) (by first | exact Or.inl rfl | exact Or.inr rfl | omega) (⟨by rw [hcd], Or.inl rfl, fun _ => ⟨xx, yy, ex, ey, hx1, hx2, hy1, hy2, NA, NB, pp, qq, hst, Or.inr ⟨by first | exact fun q => told_gt c_223 q.1 | exact fun q => told_nle c_235 q.2, rfl, rfl, rfl, rfl, rfl⟩⟩, fun q => absurd hcd q⟩) hP hK hD hS dX4_step_239
      · skip
        have hc2 := cmpI_neg c_178
        have hna := h3.2.1
        have hnb := h3.2.2.1
        refine lv_aload_n hx hb dX4_step_181 rfl (lv_at hl 0 rfl) ?_
        refine lv_iconst (v := nI 1) hx hb dX4_step_182 (by decide) ?_
        refine zc_i (wc := [(m_, .inr (4, [.int (nI 0), .int nn_, .long le_, .int sh_, .ref ab_, .ref be_, .long (lN ca_), .long (lN cb_), .long oc_, .long st_, .int bs_, .int tr_, .int sp_, .ref rr_])), (rr_, .inl (cI, 152, .inl g))]) (wr := []) hP hD hS hA [0, 1] [] rfl rfl (by decide) (by decide) (va_runV (As := [.int (nI 1)]) (rest := []) ⟨hx, hb, hml, hown, hts⟩ (ct_X4_isEven l D cI cJ cD m_ ab_ be_ rr_ (nI 0) nn_ sh_ bs_ tr_ sp_ le_ (lN ca_) (lN cb_) oc_ st_ 1 NB g H.size (by decide) h2) (cwV 1 hts gX4_step_X4_isEven rfl rfl rfl (by decide +kernel) ⟨Nat.le_of_ble_eq_true rfl, Nat.le_of_ble_eq_true rfl⟩) (zPreV (wc := [(m_, .inr (4, [.int (nI 0), .int nn_, .long le_, .int sh_, .ref ab_, .ref be_, .long (lN ca_), .long (lN cb_), .long oc_, .long st_, .int bs_, .int tr_, .int sp_, .ref rr_])), (rr_, .inl (cI, 152, .inl g))]) hK hP hD 4 0 rfl rfl zTb (fun _ _ _ => trivial)) rfl rfl hl.1 rfl (lv_room (Nat.le_of_ble_eq_true rfl)) dX4_step_183 ⟨Nat.le_of_ble_eq_true rfl, Nat.le_of_ble_eq_true rfl⟩) (fun r_6 u H locs hw hP hD hS => ?_)
        have hP : va_P D cl5 [(m_, .inr (4, [.int (nI 0), .int nn_, .long le_, .int sh_, .ref ab_, .ref be_, .long (lN ca_), .long (lN cb_), .long oc_, .long st_, .int bs_, .int tr_, .int sp_, .ref rr_])), (rr_, .inl (cI, 152, .inl g))] H := hP.sub [0, 1] rfl
        have hD : va_D A [(m_, .inr (4, [.int (nI 0), .int nn_, .long le_, .int sh_, .ref ab_, .ref be_, .long (lN ca_), .long (lN cb_), .long oc_, .long st_, .int bs_, .int tr_, .int sp_, .ref rr_])), (rr_, .inl (cI, 152, .inl g))] := hD.sub [0, 1] (by decide) rfl
        have hw : r_6 = nI (1 - NB % 2) := hw
        subst hw
        refine lv_if_eq (tgt := 197) hx hb dX4_step_186 (by decide) (fun c_186 => ?_) (fun c_186 => ?_)
        · skip
          have c_186 := zji_eq (a := 1 - NB % 2) (b := 0) (by omega) (by omega) c_186
          refine lv_aload_n hx hb dX4_step_197 rfl (lv_at hl 0 rfl) ?_
          refine lv_iconst (v := nI 0) hx hb dX4_step_198 (by decide) ?_
          refine lv_ldc2 (v := 2) hx hb hown (zh (w := .constantLong RX4 50 (2)) hts 4 rfl) dX4_step_199 ?_
          refine zl_ (y := lN 2) rfl ?_
          refine zc_v (wc := [(m_, .inr (4, [.int (nI 0), .int nn_, .long le_, .int sh_, .ref ab_, .ref be_, .long (lN ca_), .long (lN cb_), .long oc_, .long st_, .int bs_, .int tr_, .int sp_, .ref rr_])), (rr_, .inl (cI, 152, .inl g))]) (wr := []) hP hD hS hA [0, 1] [] rfl rfl (by decide) (by decide) (va_runV (As := [.int (nI 0), .long (lN 2)]) (rest := []) ⟨hx, hb, hml, hown, hts⟩ (ct_X4_times l D cI cJ cD m_ ab_ be_ rr_ (nI 0) nn_ sh_ bs_ tr_ sp_ le_ (lN ca_) (lN cb_) oc_ st_ 0 NA 2 g H.size (by decide) (by decide) h1) (cwV 2 hts gX4_step_X4_times rfl rfl rfl (by decide +kernel) ⟨Nat.le_of_ble_eq_true rfl, Nat.le_of_ble_eq_true rfl⟩) (zPreV (wc := [(m_, .inr (4, [.int (nI 0), .int nn_, .long le_, .int sh_, .ref ab_, .ref be_, .long (lN ca_), .long (lN cb_), .long oc_, .long st_, .int bs_, .int tr_, .int sp_, .ref rr_])), (rr_, .inl (cI, 152, .inl g))]) hK hP hD 4 0 rfl rfl zTb (fun _ _ _ => trivial)) rfl rfl hl.1 rfl (lv_room (Nat.le_of_ble_eq_true rfl)) dX4_step_202 ⟨Nat.le_of_ble_eq_true rfl, Nat.le_of_ble_eq_true rfl⟩) (fun u H locs hw hP hD hS => ?_)
          obtain ⟨g2_8, rfl⟩ : ∃ z, z = u := ⟨_, rfl⟩
          have hP : va_P D cl5 [(m_, .inr (4, [.int (nI 0), .int nn_, .long le_, .int sh_, .ref ab_, .ref be_, .long (lN ca_), .long (lN cb_), .long oc_, .long st_, .int bs_, .int tr_, .int sp_, .ref rr_])), (rr_, .inl (cI, 152, .inl g2_8))] H := hP.sub [0, 1] rfl
          have hD : va_D A [(m_, .inr (4, [.int (nI 0), .int nn_, .long le_, .int sh_, .ref ab_, .ref be_, .long (lN ca_), .long (lN cb_), .long oc_, .long st_, .int bs_, .int tr_, .int sp_, .ref rr_])), (rr_, .inl (cI, 152, .inl g2_8))] := hD.sub [0, 1] (by decide) rfl
          have hw : modL g2_8 0 (NA * 2) ∧ modF g g2_8 0 := hw
          obtain ⟨hL_202, hF_202⟩ := hw
          refine lv_lload hx hb dX4_step_205 (lv_at hl 1 rfl) ?_
          refine lv_lconst (v := lN 1) hx hb dX4_step_207 rfl ?_
          refine lv_lsub hx hb dX4_step_208 ?_
          refine zl_ (y := lN pp - lN (qq + 1)) (lp_dec pp qq) ?_
          refine lv_lstore (lv' := [(13, .long (lN pp - lN (qq + 1))), (0, .ref m_)]) hx hb dX4_step_209 hl (by decide) rfl (fun ls hl => ?_)
          refine lv_goto (tgt := 174) hx hb dX4_step_211 (by decide) ?_
          exact ih xx yy (NA * 2) NB pp (qq + 1) g2_8 _ _ _ (by omega) ex ey hx1 hx2 hy1 hy2 hcd hL_202 (modL_keep hF_202 (by decide) h2) (st_twA h3 (by omega)) (by omega) h5 (by omega) hP hD hS (lv_sub hl [1, 0] rfl)
        · skip
          have c_186 := zji_ne (a := 1 - NB % 2) (b := 0) (by omega) (by omega) c_186
          refine lv_aload_n hx hb dX4_step_189 rfl (lv_at hl 0 rfl) ?_
          refine lv_iconst (v := nI 1) hx hb dX4_step_190 (by decide) ?_
          refine zc_v (wc := [(m_, .inr (4, [.int (nI 0), .int nn_, .long le_, .int sh_, .ref ab_, .ref be_, .long (lN ca_), .long (lN cb_), .long oc_, .long st_, .int bs_, .int tr_, .int sp_, .ref rr_])), (rr_, .inl (cI, 152, .inl g))]) (wr := []) hP hD hS hA [0, 1] [] rfl rfl (by decide) (by decide) (va_runV (As := [.int (nI 1)]) (rest := []) ⟨hx, hb, hml, hown, hts⟩ (ct_X4_half l D cI cJ cD m_ ab_ be_ rr_ (nI 0) nn_ sh_ bs_ tr_ sp_ le_ (lN ca_) (lN cb_) oc_ st_ 1 NB g H.size (by decide) h2 (by omega)) (cwV 1 hts gX4_step_X4_half rfl rfl rfl (by decide +kernel) ⟨Nat.le_of_ble_eq_true rfl, Nat.le_of_ble_eq_true rfl⟩) (zPreV (wc := [(m_, .inr (4, [.int (nI 0), .int nn_, .long le_, .int sh_, .ref ab_, .ref be_, .long (lN ca_), .long (lN cb_), .long oc_, .long st_, .int bs_, .int tr_, .int sp_, .ref rr_])), (rr_, .inl (cI, 152, .inl g))]) hK hP hD 4 0 rfl rfl zTb (fun _ _ _ => trivial)) rfl rfl hl.1 rfl (lv_room (Nat.le_of_ble_eq_true rfl)) dX4_step_191 ⟨Nat.le_of_ble_eq_true rfl, Nat.le_of_ble_eq_true rfl⟩) (fun u H locs hw hP hD hS => ?_)
          obtain ⟨g2_10, rfl⟩ : ∃ z, z = u := ⟨_, rfl⟩
          have hP : va_P D cl5 [(m_, .inr (4, [.int (nI 0), .int nn_, .long le_, .int sh_, .ref ab_, .ref be_, .long (lN ca_), .long (lN cb_), .long oc_, .long st_, .int bs_, .int tr_, .int sp_, .ref rr_])), (rr_, .inl (cI, 152, .inl g2_10))] H := hP.sub [0, 1] rfl
          have hD : va_D A [(m_, .inr (4, [.int (nI 0), .int nn_, .long le_, .int sh_, .ref ab_, .ref be_, .long (lN ca_), .long (lN cb_), .long oc_, .long st_, .int bs_, .int tr_, .int sp_, .ref rr_])), (rr_, .inl (cI, 152, .inl g2_10))] := hD.sub [0, 1] (by decide) rfl
          have hw : modL g2_10 1 (NB / 2) ∧ modF g g2_10 1 := hw
          obtain ⟨hL_191, hF_191⟩ := hw
          refine lv_goto (tgt := 205) hx hb dX4_step_194 (by decide) ?_
          refine lv_lload hx hb dX4_step_205 (lv_at hl 1 rfl) ?_
          refine lv_lconst (v := lN 1) hx hb dX4_step_207 rfl ?_
          refine lv_lsub hx hb dX4_step_208 ?_
          refine zl_ (y := lN pp - lN (qq + 1)) (lp_dec pp qq) ?_
          refine lv_lstore (lv' := [(13, .long (lN pp - lN (qq + 1))), (0, .ref m_)]) hx hb dX4_step_209 hl (by decide) rfl (fun ls hl => ?_)
          refine lv_goto (tgt := 174) hx hb dX4_step_211 (by decide) ?_
          exact ih xx yy NA (NB / 2) pp (qq + 1) g2_10 _ _ _ (by omega) ex ey hx1 hx2 hy1 hy2 hcd (modL_keep hF_191 (by decide) h1) hL_191 (st_halfB h3 (by omega)) h4 (by omega) (by omega) hP hD hS (lv_sub hl [1, 0] rfl)
  have lp_124 : ∀ (k9_ : Nat) (xx : Nat) (yy : Nat) (NA : Nat) (NB : Nat) (pp : Nat) (mo : Nat) (g : Nat → Int32) (H : Heap) (locs : List Loc) (ls : Array Slot), 2 * (NA - NB) + mo < k9_ → x_ = nI xx → y_ = nI yy → 1 ≤ xx → xx ≤ 1000000 → 1 ≤ yy → yy ≤ 1000000 → cd2 (ptI x_) (ptI y_) = 0 → modL g 0 NA → modL g 1 NB → stI NA NB (ca_ * xx) (cb_ * yy) pp 0 → NA < 2 ^ 70 → NB < 2 ^ 70 → mo ≤ 1 → (mo = 0 → NA < NB * 2) →  va_P D cl5 [(m_, .inr (4, [.int (nI 0), .int nn_, .long le_, .int sh_, .ref ab_, .ref be_, .long (lN ca_), .long (lN cb_), .long oc_, .long st_, .int bs_, .int tr_, .int sp_, .ref rr_])), (rr_, .inl (cI, 152, .inl g))] H → va_D A [(m_, .inr (4, [.int (nI 0), .int nn_, .long le_, .int sh_, .ref ab_, .ref be_, .long (lN ca_), .long (lN cb_), .long oc_, .long st_, .int bs_, .int tr_, .int sp_, .ref rr_])), (rr_, .inl (cI, 152, .inl g))] → va_S A s.heap H locs → lv_has ls 16 [(0, .ref m_), (13, .long (lN pp - lN 0)), (15, .int (nI mo))] → W p l e rm_X4_step s m args below meth c H locs 0 0 Q (F0 m 124 ls []) := by
    intro k9_
    induction k9_ with
    | zero => intro xx yy NA NB pp mo g H locs ls hm; exact absurd hm (Nat.not_lt_zero _)
    | succ k9_ ih =>
      intro xx yy NA NB pp mo g H locs ls hm  ex ey hx1 hx2 hy1 hy2 hcd h1 h2 h3 h4 h5 h6 h7 hP hD hS hl
      refine lv_iload hx hb dX4_step_124 (lv_at hl 2 rfl) ?_
      refine lv_if_eq (tgt := 174) hx hb dX4_step_126 (by decide) (fun c_126 => ?_) (fun c_126 => ?_)
      · skip
        have c_126 := zji_eq (a := mo) (b := 0) (by omega) (by omega) c_126
        exact lp_174 ((NB - NA) + 1) xx yy NA NB pp 0 g _ _ _ (Nat.lt_succ_self _) ex ey hx1 hx2 hy1 hy2 hcd h1 h2 h3 (by omega) h5 (by omega) hP hD hS (lv_sub hl [0, 1] rfl)
      · skip
        have c_126 := zji_ne (a := mo) (b := 0) (by omega) (by omega) c_126
        refine lv_aload_n hx hb dX4_step_129 rfl (lv_at hl 0 rfl) ?_
        refine lv_iconst (v := nI 1) hx hb dX4_step_130 (by decide) ?_
        refine lv_ldc2 (v := 2) hx hb hown (zh (w := .constantLong RX4 50 (2)) hts 4 rfl) dX4_step_131 ?_
        refine zl_ (y := lN 2) rfl ?_
        refine zc_v (wc := [(m_, .inr (4, [.int (nI 0), .int nn_, .long le_, .int sh_, .ref ab_, .ref be_, .long (lN ca_), .long (lN cb_), .long oc_, .long st_, .int bs_, .int tr_, .int sp_, .ref rr_])), (rr_, .inl (cI, 152, .inl g))]) (wr := []) hP hD hS hA [0, 1] [] rfl rfl (by decide) (by decide) (va_runV (As := [.int (nI 1), .long (lN 2)]) (rest := []) ⟨hx, hb, hml, hown, hts⟩ (ct_X4_times l D cI cJ cD m_ ab_ be_ rr_ (nI 0) nn_ sh_ bs_ tr_ sp_ le_ (lN ca_) (lN cb_) oc_ st_ 1 NB 2 g H.size (by decide) (by decide) h2) (cwV 2 hts gX4_step_X4_times rfl rfl rfl (by decide +kernel) ⟨Nat.le_of_ble_eq_true rfl, Nat.le_of_ble_eq_true rfl⟩) (zPreV (wc := [(m_, .inr (4, [.int (nI 0), .int nn_, .long le_, .int sh_, .ref ab_, .ref be_, .long (lN ca_), .long (lN cb_), .long oc_, .long st_, .int bs_, .int tr_, .int sp_, .ref rr_])), (rr_, .inl (cI, 152, .inl g))]) hK hP hD 4 0 rfl rfl zTb (fun _ _ _ => trivial)) rfl rfl hl.1 rfl (lv_room (Nat.le_of_ble_eq_true rfl)) dX4_step_134 ⟨Nat.le_of_ble_eq_true rfl, Nat.le_of_ble_eq_true rfl⟩) (fun u H locs hw hP hD hS => ?_)
        obtain ⟨g2_12, rfl⟩ : ∃ z, z = u := ⟨_, rfl⟩
        have hP : va_P D cl5 [(m_, .inr (4, [.int (nI 0), .int nn_, .long le_, .int sh_, .ref ab_, .ref be_, .long (lN ca_), .long (lN cb_), .long oc_, .long st_, .int bs_, .int tr_, .int sp_, .ref rr_])), (rr_, .inl (cI, 152, .inl g2_12))] H := hP.sub [0, 1] rfl
        have hD : va_D A [(m_, .inr (4, [.int (nI 0), .int nn_, .long le_, .int sh_, .ref ab_, .ref be_, .long (lN ca_), .long (lN cb_), .long oc_, .long st_, .int bs_, .int tr_, .int sp_, .ref rr_])), (rr_, .inl (cI, 152, .inl g2_12))] := hD.sub [0, 1] (by decide) rfl
        have hw : modL g2_12 1 (NB * 2) ∧ modF g g2_12 1 := hw
        obtain ⟨hL_134, hF_134⟩ := hw
        refine lv_aload_n hx hb dX4_step_137 rfl (lv_at hl 0 rfl) ?_
        refine zc_i (wc := [(m_, .inr (4, [.int (nI 0), .int nn_, .long le_, .int sh_, .ref ab_, .ref be_, .long (lN ca_), .long (lN cb_), .long oc_, .long st_, .int bs_, .int tr_, .int sp_, .ref rr_])), (rr_, .inl (cI, 152, .inl g2_12))]) (wr := []) hP hD hS hA [0, 1] [] rfl rfl (by decide) (by decide) (va_runV (As := []) (rest := []) ⟨hx, hb, hml, hown, hts⟩ (ct_X4_compare l D cI cJ cD m_ ab_ be_ rr_ (nI 0) nn_ sh_ bs_ tr_ sp_ le_ (lN ca_) (lN cb_) oc_ st_ NA (NB * 2) g2_12 H.size (modL_keep hF_134 (by decide) h1) hL_134 (by omega) (by omega)) (cwV 0 hts gX4_step_X4_compare rfl rfl rfl (by decide +kernel) ⟨Nat.le_of_ble_eq_true rfl, Nat.le_of_ble_eq_true rfl⟩) (zPreV (wc := [(m_, .inr (4, [.int (nI 0), .int nn_, .long le_, .int sh_, .ref ab_, .ref be_, .long (lN ca_), .long (lN cb_), .long oc_, .long st_, .int bs_, .int tr_, .int sp_, .ref rr_])), (rr_, .inl (cI, 152, .inl g2_12))]) hK hP hD 4 0 rfl rfl zTb (fun _ _ _ => trivial)) rfl rfl hl.1 rfl (lv_room (Nat.le_of_ble_eq_true rfl)) dX4_step_138 ⟨Nat.le_of_ble_eq_true rfl, Nat.le_of_ble_eq_true rfl⟩) (fun r_13 u H locs hw hP hD hS => ?_)
        have hP : va_P D cl5 [(m_, .inr (4, [.int (nI 0), .int nn_, .long le_, .int sh_, .ref ab_, .ref be_, .long (lN ca_), .long (lN cb_), .long oc_, .long st_, .int bs_, .int tr_, .int sp_, .ref rr_])), (rr_, .inl (cI, 152, .inl g2_12))] H := hP.sub [0, 1] rfl
        have hD : va_D A [(m_, .inr (4, [.int (nI 0), .int nn_, .long le_, .int sh_, .ref ab_, .ref be_, .long (lN ca_), .long (lN cb_), .long oc_, .long st_, .int bs_, .int tr_, .int sp_, .ref rr_])), (rr_, .inl (cI, 152, .inl g2_12))] := hD.sub [0, 1] (by decide) rfl
        have hw : r_13 = cmpI NA (NB * 2) := hw
        subst hw
        refine lv_if_lt (tgt := 148) hx hb dX4_step_141 (by decide) (fun c_141 => ?_) (fun c_141 => ?_)
        · skip
          have hc1 := cmpI_lt0 c_141
          refine lv_iconst (v := nI 0) hx hb dX4_step_148 (by decide) ?_
          refine lv_istore (lv' := [(15, .int (nI 0)), (0, .ref m_), (13, .long (lN pp - lN 0))]) hx hb dX4_step_149 hl (by decide) rfl (fun ls hl => ?_)
          refine lv_aload_n hx hb dX4_step_151 rfl (lv_at hl 1 rfl) ?_
          refine lv_iconst (v := nI 1) hx hb dX4_step_152 (by decide) ?_
          refine zc_v (wc := [(m_, .inr (4, [.int (nI 0), .int nn_, .long le_, .int sh_, .ref ab_, .ref be_, .long (lN ca_), .long (lN cb_), .long oc_, .long st_, .int bs_, .int tr_, .int sp_, .ref rr_])), (rr_, .inl (cI, 152, .inl g2_12))]) (wr := []) hP hD hS hA [0, 1] [] rfl rfl (by decide) (by decide) (va_runV (As := [.int (nI 1)]) (rest := []) ⟨hx, hb, hml, hown, hts⟩ (ct_X4_half l D cI cJ cD m_ ab_ be_ rr_ (nI 0) nn_ sh_ bs_ tr_ sp_ le_ (lN ca_) (lN cb_) oc_ st_ 1 (NB * 2) g2_12 H.size (by decide) hL_134 (by omega)) (cwV 1 hts gX4_step_X4_half rfl rfl rfl (by decide +kernel) ⟨Nat.le_of_ble_eq_true rfl, Nat.le_of_ble_eq_true rfl⟩) (zPreV (wc := [(m_, .inr (4, [.int (nI 0), .int nn_, .long le_, .int sh_, .ref ab_, .ref be_, .long (lN ca_), .long (lN cb_), .long oc_, .long st_, .int bs_, .int tr_, .int sp_, .ref rr_])), (rr_, .inl (cI, 152, .inl g2_12))]) hK hP hD 4 0 rfl rfl zTb (fun _ _ _ => trivial)) rfl rfl hl.1 rfl (lv_room (Nat.le_of_ble_eq_true rfl)) dX4_step_153 ⟨Nat.le_of_ble_eq_true rfl, Nat.le_of_ble_eq_true rfl⟩) (fun u H locs hw hP hD hS => ?_)
          obtain ⟨g2_M, rfl⟩ : ∃ z, z = u := ⟨_, rfl⟩
          have hP : va_P D cl5 [(m_, .inr (4, [.int (nI 0), .int nn_, .long le_, .int sh_, .ref ab_, .ref be_, .long (lN ca_), .long (lN cb_), .long oc_, .long st_, .int bs_, .int tr_, .int sp_, .ref rr_])), (rr_, .inl (cI, 152, .inl g2_M))] H := hP.sub [0, 1] rfl
          have hD : va_D A [(m_, .inr (4, [.int (nI 0), .int nn_, .long le_, .int sh_, .ref ab_, .ref be_, .long (lN ca_), .long (lN cb_), .long oc_, .long st_, .int bs_, .int tr_, .int sp_, .ref rr_])), (rr_, .inl (cI, 152, .inl g2_M))] := hD.sub [0, 1] (by decide) rfl
          have hw : modL g2_M 1 ((NB * 2) / 2) ∧ modF g2_12 g2_M 1 := hw
          obtain ⟨hL_153, hF_153⟩ := hw
          have hLB : modL g2_M 1 NB := by rw [show NB = NB * 2 / 2 by omega]; exact hL_153
          refine lv_iload hx hb dX4_step_156 (lv_at hl 0 rfl) ?_
          refine lv_if_eq (tgt := 124) hx hb dX4_step_158 (by decide) (fun c_158 => ?_) (fun c_158 => ?_)
          · skip
            have c_158 := zji_eq (a := 0) (b := 0) (by omega) (by omega) c_158
            exact ih xx yy NA NB pp 0 g2_M _ _ _ (by omega) ex ey hx1 hx2 hy1 hy2 hcd (modL_keep hF_153 (by decide) (modL_keep hF_134 (by decide) h1)) hLB h3 h4 h5 (by decide) (fun _ => hc1) hP hD hS (lv_sub hl [1, 2, 0] rfl)
          · skip
            exact absurd c_158 (by decide)
        · skip
          have hc1 := cmpI_nlt0 c_141
          have hub := st_ub (X := 2 ^ 70) (Y := 2 ^ 70) (A := NA) (B := NB) (by omega) h4 h5 (Nat.le_refl _)
          have hdc := st_dec (A := NA) (B := NB) (by omega) h3.2.2.1
          refine lv_iconst (v := nI 1) hx hb dX4_step_144 (by decide) ?_
          refine lv_goto (tgt := 149) hx hb dX4_step_145 (by decide) ?_
          refine lv_istore (lv' := [(15, .int (nI 1)), (0, .ref m_), (13, .long (lN pp - lN 0))]) hx hb dX4_step_149 hl (by decide) rfl (fun ls hl => ?_)
          refine lv_aload_n hx hb dX4_step_151 rfl (lv_at hl 1 rfl) ?_
          refine lv_iconst (v := nI 1) hx hb dX4_step_152 (by decide) ?_
          refine zc_v (wc := [(m_, .inr (4, [.int (nI 0), .int nn_, .long le_, .int sh_, .ref ab_, .ref be_, .long (lN ca_), .long (lN cb_), .long oc_, .long st_, .int bs_, .int tr_, .int sp_, .ref rr_])), (rr_, .inl (cI, 152, .inl g2_12))]) (wr := []) hP hD hS hA [0, 1] [] rfl rfl (by decide) (by decide) (va_runV (As := [.int (nI 1)]) (rest := []) ⟨hx, hb, hml, hown, hts⟩ (ct_X4_half l D cI cJ cD m_ ab_ be_ rr_ (nI 0) nn_ sh_ bs_ tr_ sp_ le_ (lN ca_) (lN cb_) oc_ st_ 1 (NB * 2) g2_12 H.size (by decide) hL_134 (by omega)) (cwV 1 hts gX4_step_X4_half rfl rfl rfl (by decide +kernel) ⟨Nat.le_of_ble_eq_true rfl, Nat.le_of_ble_eq_true rfl⟩) (zPreV (wc := [(m_, .inr (4, [.int (nI 0), .int nn_, .long le_, .int sh_, .ref ab_, .ref be_, .long (lN ca_), .long (lN cb_), .long oc_, .long st_, .int bs_, .int tr_, .int sp_, .ref rr_])), (rr_, .inl (cI, 152, .inl g2_12))]) hK hP hD 4 0 rfl rfl zTb (fun _ _ _ => trivial)) rfl rfl hl.1 rfl (lv_room (Nat.le_of_ble_eq_true rfl)) dX4_step_153 ⟨Nat.le_of_ble_eq_true rfl, Nat.le_of_ble_eq_true rfl⟩) (fun u H locs hw hP hD hS => ?_)
          obtain ⟨g2_M, rfl⟩ : ∃ z, z = u := ⟨_, rfl⟩
          have hP : va_P D cl5 [(m_, .inr (4, [.int (nI 0), .int nn_, .long le_, .int sh_, .ref ab_, .ref be_, .long (lN ca_), .long (lN cb_), .long oc_, .long st_, .int bs_, .int tr_, .int sp_, .ref rr_])), (rr_, .inl (cI, 152, .inl g2_M))] H := hP.sub [0, 1] rfl
          have hD : va_D A [(m_, .inr (4, [.int (nI 0), .int nn_, .long le_, .int sh_, .ref ab_, .ref be_, .long (lN ca_), .long (lN cb_), .long oc_, .long st_, .int bs_, .int tr_, .int sp_, .ref rr_])), (rr_, .inl (cI, 152, .inl g2_M))] := hD.sub [0, 1] (by decide) rfl
          have hw : modL g2_M 1 ((NB * 2) / 2) ∧ modF g2_12 g2_M 1 := hw
          obtain ⟨hL_153, hF_153⟩ := hw
          have hLB : modL g2_M 1 NB := by rw [show NB = NB * 2 / 2 by omega]; exact hL_153
          refine lv_iload hx hb dX4_step_156 (lv_at hl 0 rfl) ?_
          refine lv_if_eq (tgt := 124) hx hb dX4_step_158 (by decide) (fun c_158 => ?_) (fun c_158 => ?_)
          · skip
            exact absurd c_158 (by decide)
          · skip
            have c_158 := zji_ne (a := 1) (b := 0) (by omega) (by omega) c_158
            refine lv_aload_n hx hb dX4_step_161 rfl (lv_at hl 1 rfl) ?_
            refine zc_v (wc := [(m_, .inr (4, [.int (nI 0), .int nn_, .long le_, .int sh_, .ref ab_, .ref be_, .long (lN ca_), .long (lN cb_), .long oc_, .long st_, .int bs_, .int tr_, .int sp_, .ref rr_])), (rr_, .inl (cI, 152, .inl g2_M))]) (wr := []) hP hD hS hA [0, 1] [] rfl rfl (by decide) (by decide) (va_runV (As := []) (rest := []) ⟨hx, hb, hml, hown, hts⟩ (ct_X4_down l D cI cJ cD m_ ab_ be_ rr_ (nI 0) nn_ sh_ bs_ tr_ sp_ le_ (lN ca_) (lN cb_) oc_ st_ NA NB g2_M H.size (modL_keep hF_153 (by decide) (modL_keep hF_134 (by decide) h1)) hLB (by omega)) (cwV 0 hts gX4_step_X4_down rfl rfl rfl (by decide +kernel) ⟨Nat.le_of_ble_eq_true rfl, Nat.le_of_ble_eq_true rfl⟩) (zPreV (wc := [(m_, .inr (4, [.int (nI 0), .int nn_, .long le_, .int sh_, .ref ab_, .ref be_, .long (lN ca_), .long (lN cb_), .long oc_, .long st_, .int bs_, .int tr_, .int sp_, .ref rr_])), (rr_, .inl (cI, 152, .inl g2_M))]) hK hP hD 4 0 rfl rfl zTb (fun _ _ _ => trivial)) rfl rfl hl.1 rfl (lv_room (Nat.le_of_ble_eq_true rfl)) dX4_step_162 ⟨Nat.le_of_ble_eq_true rfl, Nat.le_of_ble_eq_true rfl⟩) (fun u H locs hw hP hD hS => ?_)
            obtain ⟨g2_17, rfl⟩ : ∃ z, z = u := ⟨_, rfl⟩
            have hP : va_P D cl5 [(m_, .inr (4, [.int (nI 0), .int nn_, .long le_, .int sh_, .ref ab_, .ref be_, .long (lN ca_), .long (lN cb_), .long oc_, .long st_, .int bs_, .int tr_, .int sp_, .ref rr_])), (rr_, .inl (cI, 152, .inl g2_17))] H := hP.sub [0, 1] rfl
            have hD : va_D A [(m_, .inr (4, [.int (nI 0), .int nn_, .long le_, .int sh_, .ref ab_, .ref be_, .long (lN ca_), .long (lN cb_), .long oc_, .long st_, .int bs_, .int tr_, .int sp_, .ref rr_])), (rr_, .inl (cI, 152, .inl g2_17))] := hD.sub [0, 1] (by decide) rfl
            have hw : modL g2_17 0 (if NA % 2 = 0 then NA / 2 else NA) ∧ modL g2_17 1 (if NA % 2 = 0 then NB else NB * 2) := hw
            obtain ⟨hA_162, hB_162⟩ := hw
            refine lv_lload hx hb dX4_step_165 (lv_at hl 2 rfl) ?_
            refine lv_lconst (v := lN 1) hx hb dX4_step_167 rfl ?_
            refine lv_ladd hx hb dX4_step_168 ?_
            refine zl_ (y := lN (pp + 1) - lN 0) (lp_inc pp) ?_
            refine lv_lstore (lv' := [(13, .long (lN (pp + 1) - lN 0)), (15, .int (nI 1)), (0, .ref m_)]) hx hb dX4_step_169 hl (by decide) rfl (fun ls hl => ?_)
            refine lv_goto (tgt := 124) hx hb dX4_step_171 (by decide) ?_
            exact ih xx yy (if NA % 2 = 0 then NA / 2 else NA) (if NA % 2 = 0 then NB else NB * 2) (pp + 1) 1 g2_17 _ _ _ (by omega) ex ey hx1 hx2 hy1 hy2 hcd hA_162 hB_162 (st_down h3 (by omega)) hub.1 hub.2 (by decide) (fun q => absurd q (by decide)) hP hD hS (lv_sub hl [2, 0, 1] rfl)
  refine lv_aload_n hx hb dX4_step_0 rfl (lv_at hl 0 rfl) ?_
  refine lv_iload_n hx hb dX4_step_1 rfl (lv_at hl 1 rfl) ?_
  refine zc_i (wc := []) (wr := [(m_, .inr (4, [.int th_, .int nn_, .long le_, .int sh_, .ref ab_, .ref be_, .long (lN ca_), .long (lN cb_), .long oc_, .long st_, .int bs_, .int tr_, .int sp_, .ref rr_])), (rr_, .inl (cI, 152, .inl g_))]) hP hD hS hA [] [0, 1] rfl rfl (by decide) (by decide) (va_runS (As := [.int x_]) (rest := [.ref m_]) ⟨hx, hb, hml, hown, hts⟩ (ct_X4_isPart l D cI cJ cD x_ H.size ) (va_cwS 1 hts gX4_step_X4_isPart rfl rfl rfl (by decide +kernel) ⟨Nat.le_of_ble_eq_true rfl, Nat.le_of_ble_eq_true rfl⟩) (zPreS (wc := []) hK (hP.sub [] rfl) (hD.sub [] (by decide) rfl) zTb (fun _ _ _ => trivial)) rfl rfl hl.1 rfl (lv_room (Nat.le_of_ble_eq_true rfl)) dX4_step_2 ⟨Nat.le_of_ble_eq_true rfl, Nat.le_of_ble_eq_true rfl⟩) (fun r_18 u H locs hw hP hD hS => ?_)
  have hP : va_P D cl5 [(m_, .inr (4, [.int th_, .int nn_, .long le_, .int sh_, .ref ab_, .ref be_, .long (lN ca_), .long (lN cb_), .long oc_, .long st_, .int bs_, .int tr_, .int sp_, .ref rr_])), (rr_, .inl (cI, 152, .inl g_))] H := hP.sub [0, 1] rfl
  have hD : va_D A [(m_, .inr (4, [.int th_, .int nn_, .long le_, .int sh_, .ref ab_, .ref be_, .long (lN ca_), .long (lN cb_), .long oc_, .long st_, .int bs_, .int tr_, .int sp_, .ref rr_])), (rr_, .inl (cI, 152, .inl g_))] := hD.sub [0, 1] (by decide) rfl
  have hw : r_18 = nI (ptI x_) ∧ ptI x_ ≤ 1 := hw
  obtain ⟨rfl, hb_2⟩ := hw
  refine lv_if_eq (tgt := 19) hx hb dX4_step_5 (by decide) (fun c_5 => ?_) (fun c_5 => ?_)
  · skip
    have c_5 := zji_eq (a := ptI x_) (b := 0) (by omega) (by omega) c_5
    have hcd : cd2 (ptI x_) (ptI y_) = 1 := cd2_a c_5
    refine lv_iconst (v := nI 1) hx hb dX4_step_19 (by decide) ?_
    refine va_put (D := D) (ci := 4) (v := .int (nI 1)) (ty := .int) (C := RX4) (T := TX4) (N := 14) hx hb hts nX4_step_4 tyX4 tyX4_ok nmX4 hown hK hP hD hS 0 rfl rfl 0 (by decide) (zh (w := .fieldLink RX4 47 "FretRootsModel" "thrown" "I") hts 1 rfl) (fun _ h9 => h9) rfl (by decide +kernel) rfl rfl (Nat.le_of_ble_eq_true rfl) dX4_step_20 (fun H locs hP hD hS => ?_)
    have hP : va_P D cl5 [(m_, .inr (4, [.int (nI 1), .int nn_, .long le_, .int sh_, .ref ab_, .ref be_, .long (lN ca_), .long (lN cb_), .long oc_, .long st_, .int bs_, .int tr_, .int sp_, .ref rr_])), (rr_, .inl (cI, 152, .inl g_))] H := hP
    have hD : va_D A [(m_, .inr (4, [.int (nI 1), .int nn_, .long le_, .int sh_, .ref ab_, .ref be_, .long (lN ca_), .long (lN cb_), .long oc_, .long st_, .int bs_, .int tr_, .int sp_, .ref rr_])), (rr_, .inl (cI, 152, .inl g_))] := hD
    refine lv_aload_n hx hb dX4_step_23 rfl (lv_at hl 0 rfl) ?_
    refine va_get (D := D) (ci := 4) (v := .int (nI 1)) (C := RX4) (T := TX4) (N := 14) hx hb hts nX4_step_4 hown hK hP 0 rfl rfl 0 (by decide) (zh (w := .fieldLink RX4 47 "FretRootsModel" "thrown" "I") hts 1 rfl) (fun _ h9 => h9) rfl dX4_step_24 ?_
    refine lv_if_le (tgt := 32) hx hb dX4_step_27 (by decide) (fun c_27 => ?_) (fun c_27 => ?_)
    · skip
      exact absurd c_27 (by decide)
    · skip
      have c_27 := zji_nle (a := 1) (b := 0) (by omega) (by omega) c_27
      refine lv_iconst (v := nI 0) hx hb dX4_step_30 (by decide) ?_
      subst hQ
      exact ze_z hx hb hr hlocks (nI 1, g_, ca_, cb_, oc_, st_) (by first | exact Or.inl rfl | exact Or.inr rfl | omega) (⟨by rw [hcd], Or.inl rfl, fun q => absurd q (by omega), fun _ => ⟨rfl, rfl, rfl, rfl⟩⟩) hP hK hD hS dX4_step_31
  · skip
    have c_5 := zji_ne (a := ptI x_) (b := 0) (by omega) (by omega) c_5
    refine lv_iload_n hx hb dX4_step_8 rfl (lv_at hl 2 rfl) ?_
    refine zc_i (wc := []) (wr := [(m_, .inr (4, [.int th_, .int nn_, .long le_, .int sh_, .ref ab_, .ref be_, .long (lN ca_), .long (lN cb_), .long oc_, .long st_, .int bs_, .int tr_, .int sp_, .ref rr_])), (rr_, .inl (cI, 152, .inl g_))]) hP hD hS hA [] [0, 1] rfl rfl (by decide) (by decide) (va_runS (As := [.int y_]) (rest := [.ref m_]) ⟨hx, hb, hml, hown, hts⟩ (ct_X4_isPart l D cI cJ cD y_ H.size ) (va_cwS 1 hts gX4_step_X4_isPart rfl rfl rfl (by decide +kernel) ⟨Nat.le_of_ble_eq_true rfl, Nat.le_of_ble_eq_true rfl⟩) (zPreS (wc := []) hK (hP.sub [] rfl) (hD.sub [] (by decide) rfl) zTb (fun _ _ _ => trivial)) rfl rfl hl.1 rfl (lv_room (Nat.le_of_ble_eq_true rfl)) dX4_step_9 ⟨Nat.le_of_ble_eq_true rfl, Nat.le_of_ble_eq_true rfl⟩) (fun r_19 u H locs hw hP hD hS => ?_)
    have hP : va_P D cl5 [(m_, .inr (4, [.int th_, .int nn_, .long le_, .int sh_, .ref ab_, .ref be_, .long (lN ca_), .long (lN cb_), .long oc_, .long st_, .int bs_, .int tr_, .int sp_, .ref rr_])), (rr_, .inl (cI, 152, .inl g_))] H := hP.sub [0, 1] rfl
    have hD : va_D A [(m_, .inr (4, [.int th_, .int nn_, .long le_, .int sh_, .ref ab_, .ref be_, .long (lN ca_), .long (lN cb_), .long oc_, .long st_, .int bs_, .int tr_, .int sp_, .ref rr_])), (rr_, .inl (cI, 152, .inl g_))] := hD.sub [0, 1] (by decide) rfl
    have hw : r_19 = nI (ptI y_) ∧ ptI y_ ≤ 1 := hw
    obtain ⟨rfl, hb_9⟩ := hw
    refine lv_if_eq (tgt := 19) hx hb dX4_step_12 (by decide) (fun c_12 => ?_) (fun c_12 => ?_)
    · skip
      have c_12 := zji_eq (a := ptI y_) (b := 0) (by omega) (by omega) c_12
      have hcd : cd2 (ptI x_) (ptI y_) = 1 := cd2_b c_12
      refine lv_iconst (v := nI 1) hx hb dX4_step_19 (by decide) ?_
      refine va_put (D := D) (ci := 4) (v := .int (nI 1)) (ty := .int) (C := RX4) (T := TX4) (N := 14) hx hb hts nX4_step_4 tyX4 tyX4_ok nmX4 hown hK hP hD hS 0 rfl rfl 0 (by decide) (zh (w := .fieldLink RX4 47 "FretRootsModel" "thrown" "I") hts 1 rfl) (fun _ h9 => h9) rfl (by decide +kernel) rfl rfl (Nat.le_of_ble_eq_true rfl) dX4_step_20 (fun H locs hP hD hS => ?_)
      have hP : va_P D cl5 [(m_, .inr (4, [.int (nI 1), .int nn_, .long le_, .int sh_, .ref ab_, .ref be_, .long (lN ca_), .long (lN cb_), .long oc_, .long st_, .int bs_, .int tr_, .int sp_, .ref rr_])), (rr_, .inl (cI, 152, .inl g_))] H := hP
      have hD : va_D A [(m_, .inr (4, [.int (nI 1), .int nn_, .long le_, .int sh_, .ref ab_, .ref be_, .long (lN ca_), .long (lN cb_), .long oc_, .long st_, .int bs_, .int tr_, .int sp_, .ref rr_])), (rr_, .inl (cI, 152, .inl g_))] := hD
      refine lv_aload_n hx hb dX4_step_23 rfl (lv_at hl 0 rfl) ?_
      refine va_get (D := D) (ci := 4) (v := .int (nI 1)) (C := RX4) (T := TX4) (N := 14) hx hb hts nX4_step_4 hown hK hP 0 rfl rfl 0 (by decide) (zh (w := .fieldLink RX4 47 "FretRootsModel" "thrown" "I") hts 1 rfl) (fun _ h9 => h9) rfl dX4_step_24 ?_
      refine lv_if_le (tgt := 32) hx hb dX4_step_27 (by decide) (fun c_27 => ?_) (fun c_27 => ?_)
      · skip
        exact absurd c_27 (by decide)
      · skip
        have c_27 := zji_nle (a := 1) (b := 0) (by omega) (by omega) c_27
        refine lv_iconst (v := nI 0) hx hb dX4_step_30 (by decide) ?_
        subst hQ
        exact ze_z hx hb hr hlocks (nI 1, g_, ca_, cb_, oc_, st_) (by first | exact Or.inl rfl | exact Or.inr rfl | omega) (⟨by rw [hcd], Or.inl rfl, fun q => absurd q (by omega), fun _ => ⟨rfl, rfl, rfl, rfl⟩⟩) hP hK hD hS dX4_step_31
    · skip
      have c_12 := zji_ne (a := ptI y_) (b := 0) (by omega) (by omega) c_12
      have hcd : cd2 (ptI x_) (ptI y_) = 0 := cd2_0 c_5 c_12
      obtain ⟨xx, ex, hx1, hx2⟩ := pt_ok c_5
      obtain ⟨yy, ey, hy1, hy2⟩ := pt_ok c_12
      obtain ⟨ch1, ch2, ch3, ch4, ch5⟩ := hch
      have hsb := st_begin ch1 ch2 ch3 hx1 hy1
      have g1 := Nat.gcd_pos_of_pos_left yy hx1
      have g2 := Nat.gcd_le_left yy hx1
      have xa := Nat.div_le_self xx (Nat.gcd xx yy)
      have ya := Nat.div_le_self yy (Nat.gcd xx yy)
      have xa1 : 1 ≤ xx / Nat.gcd xx yy := gcd_div_pos hx1
      have ya1 : 1 ≤ yy / Nat.gcd xx yy := gcd_div_pos' hy1
      have g3 := Nat.gcd_pos_of_pos_left (yy / Nat.gcd xx yy) ch2
      have g4 := Nat.gcd_le_left (yy / Nat.gcd xx yy) ch2
      have g5 := Nat.gcd_pos_of_pos_left cb_ xa1
      have g6 := Nat.gcd_le_left cb_ xa1
      have q1 := Nat.div_le_self ca_ (Nat.gcd ca_ (yy / Nat.gcd xx yy))
      have q2 := Nat.div_le_self (xx / Nat.gcd xx yy) (Nat.gcd (xx / Nat.gcd xx yy) cb_)
      have q3 := Nat.div_le_self cb_ (Nat.gcd (xx / Nat.gcd xx yy) cb_)
      have q4 := Nat.div_le_self (yy / Nat.gcd xx yy) (Nat.gcd ca_ (yy / Nat.gcd xx yy))
      have hA70 : ca_ / Nat.gcd ca_ (yy / Nat.gcd xx yy) * (xx / Nat.gcd xx yy / Nat.gcd (xx / Nat.gcd xx yy) cb_) < 2 ^ 70 := Nat.lt_of_le_of_lt (Nat.mul_le_mul (Nat.le_trans q1 ch4) (Nat.le_trans q2 (Nat.le_trans xa hx2))) (by decide)
      have hB70 : cb_ / Nat.gcd (xx / Nat.gcd xx yy) cb_ * (yy / Nat.gcd xx yy / Nat.gcd ca_ (yy / Nat.gcd xx yy)) < 2 ^ 70 := Nat.lt_of_le_of_lt (Nat.mul_le_mul (Nat.le_trans q3 ch5) (Nat.le_trans q4 (Nat.le_trans ya hy2))) (by decide)
      refine lv_iconst (v := nI 0) hx hb dX4_step_15 (by decide) ?_
      refine lv_goto (tgt := 20) hx hb dX4_step_16 (by decide) ?_
      refine va_put (D := D) (ci := 4) (v := .int (nI 0)) (ty := .int) (C := RX4) (T := TX4) (N := 14) hx hb hts nX4_step_4 tyX4 tyX4_ok nmX4 hown hK hP hD hS 0 rfl rfl 0 (by decide) (zh (w := .fieldLink RX4 47 "FretRootsModel" "thrown" "I") hts 1 rfl) (fun _ h9 => h9) rfl (by decide +kernel) rfl rfl (Nat.le_of_ble_eq_true rfl) dX4_step_20 (fun H locs hP hD hS => ?_)
      have hP : va_P D cl5 [(m_, .inr (4, [.int (nI 0), .int nn_, .long le_, .int sh_, .ref ab_, .ref be_, .long (lN ca_), .long (lN cb_), .long oc_, .long st_, .int bs_, .int tr_, .int sp_, .ref rr_])), (rr_, .inl (cI, 152, .inl g_))] H := hP
      have hD : va_D A [(m_, .inr (4, [.int (nI 0), .int nn_, .long le_, .int sh_, .ref ab_, .ref be_, .long (lN ca_), .long (lN cb_), .long oc_, .long st_, .int bs_, .int tr_, .int sp_, .ref rr_])), (rr_, .inl (cI, 152, .inl g_))] := hD
      refine lv_aload_n hx hb dX4_step_23 rfl (lv_at hl 0 rfl) ?_
      refine va_get (D := D) (ci := 4) (v := .int (nI 0)) (C := RX4) (T := TX4) (N := 14) hx hb hts nX4_step_4 hown hK hP 0 rfl rfl 0 (by decide) (zh (w := .fieldLink RX4 47 "FretRootsModel" "thrown" "I") hts 1 rfl) (fun _ h9 => h9) rfl dX4_step_24 ?_
      refine lv_if_le (tgt := 32) hx hb dX4_step_27 (by decide) (fun c_27 => ?_) (fun c_27 => ?_)
      · skip
        have c_27 := zji_le (a := 0) (b := 0) (by omega) (by omega) c_27
        refine lv_iload_n hx hb dX4_step_32 rfl (lv_at hl 1 rfl) ?_
        refine zi_ (y := nI xx) (ex) ?_
        refine lv_i2l (v := lN xx) hx hb dX4_step_33 (nI_l (by omega)) ?_
        refine lv_iload_n hx hb dX4_step_34 rfl (lv_at hl 2 rfl) ?_
        refine zi_ (y := nI yy) (ey) ?_
        refine lv_i2l (v := lN yy) hx hb dX4_step_35 (nI_l (by omega)) ?_
        refine zc_l (wc := []) (wr := [(m_, .inr (4, [.int (nI 0), .int nn_, .long le_, .int sh_, .ref ab_, .ref be_, .long (lN ca_), .long (lN cb_), .long oc_, .long st_, .int bs_, .int tr_, .int sp_, .ref rr_])), (rr_, .inl (cI, 152, .inl g_))]) hP hD hS hA [] [0, 1] rfl rfl (by decide) (by decide) (va_runS (As := [.long (lN xx), .long (lN yy)]) (rest := []) ⟨hx, hb, hml, hown, hts⟩ (ct_X4_divisor l D cI cJ cD xx yy H.size (by omega) (by omega)) (va_cwS 2 hts gX4_step_X4_divisor rfl rfl rfl (by decide +kernel) ⟨Nat.le_of_ble_eq_true rfl, Nat.le_of_ble_eq_true rfl⟩) (zPreS (wc := []) hK (hP.sub [] rfl) (hD.sub [] (by decide) rfl) zTb (fun _ _ _ => trivial)) rfl rfl hl.1 rfl (lv_room (Nat.le_of_ble_eq_true rfl)) dX4_step_36 ⟨Nat.le_of_ble_eq_true rfl, Nat.le_of_ble_eq_true rfl⟩) (fun r_20 u H locs hw hP hD hS => ?_)
        have hP : va_P D cl5 [(m_, .inr (4, [.int (nI 0), .int nn_, .long le_, .int sh_, .ref ab_, .ref be_, .long (lN ca_), .long (lN cb_), .long oc_, .long st_, .int bs_, .int tr_, .int sp_, .ref rr_])), (rr_, .inl (cI, 152, .inl g_))] H := hP.sub [0, 1] rfl
        have hD : va_D A [(m_, .inr (4, [.int (nI 0), .int nn_, .long le_, .int sh_, .ref ab_, .ref be_, .long (lN ca_), .long (lN cb_), .long oc_, .long st_, .int bs_, .int tr_, .int sp_, .ref rr_])), (rr_, .inl (cI, 152, .inl g_))] := hD.sub [0, 1] (by decide) rfl
        have hw : r_20 = lN (Nat.gcd xx yy) := hw
        subst hw
        refine lv_lstore_n (lv' := [(3, .long (lN (Nat.gcd xx yy))), (0, .ref m_), (1, .int x_), (2, .int y_)]) hx hb dX4_step_39 rfl hl (by decide) rfl (fun ls hl => ?_)
        refine lv_iload_n hx hb dX4_step_40 rfl (lv_at hl 2 rfl) ?_
        refine zi_ (y := nI xx) (ex) ?_
        refine lv_i2l (v := lN xx) hx hb dX4_step_41 (nI_l (by omega)) ?_
        refine lv_lload_n hx hb dX4_step_42 rfl (lv_at hl 0 rfl) ?_
        refine lv_ldiv hx hb dX4_step_43 (zlne0 (by omega) (by omega)) ?_
        refine zl_ (y := lN (xx / (Nat.gcd xx yy))) (pk_lDiv (by omega) (by omega) (by omega)) ?_
        refine lv_lstore (lv' := [(5, .long (lN (xx / (Nat.gcd xx yy)))), (3, .long (lN (Nat.gcd xx yy))), (0, .ref m_), (1, .int x_), (2, .int y_)]) hx hb dX4_step_44 hl (by decide) rfl (fun ls hl => ?_)
        refine lv_iload_n hx hb dX4_step_46 rfl (lv_at hl 4 rfl) ?_
        refine zi_ (y := nI yy) (ey) ?_
        refine lv_i2l (v := lN yy) hx hb dX4_step_47 (nI_l (by omega)) ?_
        refine lv_lload_n hx hb dX4_step_48 rfl (lv_at hl 1 rfl) ?_
        refine lv_ldiv hx hb dX4_step_49 (zlne0 (by omega) (by omega)) ?_
        refine zl_ (y := lN (yy / (Nat.gcd xx yy))) (pk_lDiv (by omega) (by omega) (by omega)) ?_
        refine lv_lstore (lv' := [(7, .long (lN (yy / (Nat.gcd xx yy)))), (5, .long (lN (xx / (Nat.gcd xx yy)))), (3, .long (lN (Nat.gcd xx yy))), (0, .ref m_), (1, .int x_), (2, .int y_)]) hx hb dX4_step_50 hl (by decide) rfl (fun ls hl => ?_)
        refine lv_aload_n hx hb dX4_step_52 rfl (lv_at hl 3 rfl) ?_
        refine va_get (D := D) (ci := 4) (v := .long (lN ca_)) (C := RX4) (T := TX4) (N := 14) hx hb hts nX4_step_4 hown hK hP 0 rfl rfl 6 (by decide) (zh (w := .fieldLink RX4 26 "FretRootsModel" "chainAbove" "J") hts 2 rfl) (fun _ h9 => h9) rfl dX4_step_53 ?_
        refine lv_lload hx hb dX4_step_56 (lv_at hl 0 rfl) ?_
        refine zc_l (wc := []) (wr := [(m_, .inr (4, [.int (nI 0), .int nn_, .long le_, .int sh_, .ref ab_, .ref be_, .long (lN ca_), .long (lN cb_), .long oc_, .long st_, .int bs_, .int tr_, .int sp_, .ref rr_])), (rr_, .inl (cI, 152, .inl g_))]) hP hD hS hA [] [0, 1] rfl rfl (by decide) (by decide) (va_runS (As := [.long (lN ca_), .long (lN (yy / (Nat.gcd xx yy)))]) (rest := []) ⟨hx, hb, hml, hown, hts⟩ (ct_X4_divisor l D cI cJ cD ca_ (yy / (Nat.gcd xx yy)) H.size (by omega) (by omega)) (va_cwS 2 hts gX4_step_X4_divisor rfl rfl rfl (by decide +kernel) ⟨Nat.le_of_ble_eq_true rfl, Nat.le_of_ble_eq_true rfl⟩) (zPreS (wc := []) hK (hP.sub [] rfl) (hD.sub [] (by decide) rfl) zTb (fun _ _ _ => trivial)) rfl rfl hl.1 rfl (lv_room (Nat.le_of_ble_eq_true rfl)) dX4_step_58 ⟨Nat.le_of_ble_eq_true rfl, Nat.le_of_ble_eq_true rfl⟩) (fun r_21 u H locs hw hP hD hS => ?_)
        have hP : va_P D cl5 [(m_, .inr (4, [.int (nI 0), .int nn_, .long le_, .int sh_, .ref ab_, .ref be_, .long (lN ca_), .long (lN cb_), .long oc_, .long st_, .int bs_, .int tr_, .int sp_, .ref rr_])), (rr_, .inl (cI, 152, .inl g_))] H := hP.sub [0, 1] rfl
        have hD : va_D A [(m_, .inr (4, [.int (nI 0), .int nn_, .long le_, .int sh_, .ref ab_, .ref be_, .long (lN ca_), .long (lN cb_), .long oc_, .long st_, .int bs_, .int tr_, .int sp_, .ref rr_])), (rr_, .inl (cI, 152, .inl g_))] := hD.sub [0, 1] (by decide) rfl
        have hw : r_21 = lN (Nat.gcd ca_ (yy / (Nat.gcd xx yy))) := hw
        subst hw
        refine lv_lstore (lv' := [(9, .long (lN (Nat.gcd ca_ (yy / (Nat.gcd xx yy))))), (7, .long (lN (yy / (Nat.gcd xx yy)))), (5, .long (lN (xx / (Nat.gcd xx yy)))), (3, .long (lN (Nat.gcd xx yy))), (0, .ref m_), (1, .int x_), (2, .int y_)]) hx hb dX4_step_61 hl (by decide) rfl (fun ls hl => ?_)
        refine lv_lload hx hb dX4_step_63 (lv_at hl 2 rfl) ?_
        refine lv_aload_n hx hb dX4_step_65 rfl (lv_at hl 4 rfl) ?_
        refine va_get (D := D) (ci := 4) (v := .long (lN cb_)) (C := RX4) (T := TX4) (N := 14) hx hb hts nX4_step_4 hown hK hP 0 rfl rfl 7 (by decide) (zh (w := .fieldLink RX4 29 "FretRootsModel" "chainBelow" "J") hts 3 rfl) (fun _ h9 => h9) rfl dX4_step_66 ?_
        refine zc_l (wc := []) (wr := [(m_, .inr (4, [.int (nI 0), .int nn_, .long le_, .int sh_, .ref ab_, .ref be_, .long (lN ca_), .long (lN cb_), .long oc_, .long st_, .int bs_, .int tr_, .int sp_, .ref rr_])), (rr_, .inl (cI, 152, .inl g_))]) hP hD hS hA [] [0, 1] rfl rfl (by decide) (by decide) (va_runS (As := [.long (lN (xx / (Nat.gcd xx yy))), .long (lN cb_)]) (rest := []) ⟨hx, hb, hml, hown, hts⟩ (ct_X4_divisor l D cI cJ cD (xx / (Nat.gcd xx yy)) cb_ H.size (by omega) (by omega)) (va_cwS 2 hts gX4_step_X4_divisor rfl rfl rfl (by decide +kernel) ⟨Nat.le_of_ble_eq_true rfl, Nat.le_of_ble_eq_true rfl⟩) (zPreS (wc := []) hK (hP.sub [] rfl) (hD.sub [] (by decide) rfl) zTb (fun _ _ _ => trivial)) rfl rfl hl.1 rfl (lv_room (Nat.le_of_ble_eq_true rfl)) dX4_step_69 ⟨Nat.le_of_ble_eq_true rfl, Nat.le_of_ble_eq_true rfl⟩) (fun r_22 u H locs hw hP hD hS => ?_)
        have hP : va_P D cl5 [(m_, .inr (4, [.int (nI 0), .int nn_, .long le_, .int sh_, .ref ab_, .ref be_, .long (lN ca_), .long (lN cb_), .long oc_, .long st_, .int bs_, .int tr_, .int sp_, .ref rr_])), (rr_, .inl (cI, 152, .inl g_))] H := hP.sub [0, 1] rfl
        have hD : va_D A [(m_, .inr (4, [.int (nI 0), .int nn_, .long le_, .int sh_, .ref ab_, .ref be_, .long (lN ca_), .long (lN cb_), .long oc_, .long st_, .int bs_, .int tr_, .int sp_, .ref rr_])), (rr_, .inl (cI, 152, .inl g_))] := hD.sub [0, 1] (by decide) rfl
        have hw : r_22 = lN (Nat.gcd (xx / (Nat.gcd xx yy)) cb_) := hw
        subst hw
        refine lv_lstore (lv' := [(11, .long (lN (Nat.gcd (xx / (Nat.gcd xx yy)) cb_))), (9, .long (lN (Nat.gcd ca_ (yy / (Nat.gcd xx yy))))), (7, .long (lN (yy / (Nat.gcd xx yy)))), (5, .long (lN (xx / (Nat.gcd xx yy)))), (3, .long (lN (Nat.gcd xx yy))), (0, .ref m_), (1, .int x_), (2, .int y_)]) hx hb dX4_step_72 hl (by decide) rfl (fun ls hl => ?_)
        refine lv_aload_n hx hb dX4_step_74 rfl (lv_at hl 5 rfl) ?_
        refine lv_iconst (v := nI 0) hx hb dX4_step_75 (by decide) ?_
        refine lv_aload_n hx hb dX4_step_76 rfl (lv_at hl 5 rfl) ?_
        refine va_get (D := D) (ci := 4) (v := .long (lN ca_)) (C := RX4) (T := TX4) (N := 14) hx hb hts nX4_step_4 hown hK hP 0 rfl rfl 6 (by decide) (zh (w := .fieldLink RX4 26 "FretRootsModel" "chainAbove" "J") hts 2 rfl) (fun _ h9 => h9) rfl dX4_step_77 ?_
        refine lv_lload hx hb dX4_step_80 (lv_at hl 1 rfl) ?_
        refine lv_ldiv hx hb dX4_step_82 (zlne0 (by omega) (by omega)) ?_
        refine zl_ (y := lN (ca_ / (Nat.gcd ca_ (yy / (Nat.gcd xx yy))))) (pk_lDiv (by omega) (by omega) (by omega)) ?_
        refine zc_v (wc := [(m_, .inr (4, [.int (nI 0), .int nn_, .long le_, .int sh_, .ref ab_, .ref be_, .long (lN ca_), .long (lN cb_), .long oc_, .long st_, .int bs_, .int tr_, .int sp_, .ref rr_])), (rr_, .inl (cI, 152, .inl g_))]) (wr := []) hP hD hS hA [0, 1] [] rfl rfl (by decide) (by decide) (va_runV (As := [.int (nI 0), .long (lN (ca_ / (Nat.gcd ca_ (yy / (Nat.gcd xx yy)))))]) (rest := []) ⟨hx, hb, hml, hown, hts⟩ (ct_X4_set l D cI cJ cD m_ ab_ be_ rr_ (nI 0) nn_ sh_ bs_ tr_ sp_ le_ (lN ca_) (lN cb_) oc_ st_ 0 (ca_ / (Nat.gcd ca_ (yy / (Nat.gcd xx yy)))) g_ H.size (by decide) (by omega)) (cwV 2 hts gX4_step_X4_set rfl rfl rfl (by decide +kernel) ⟨Nat.le_of_ble_eq_true rfl, Nat.le_of_ble_eq_true rfl⟩) (zPreV (wc := [(m_, .inr (4, [.int (nI 0), .int nn_, .long le_, .int sh_, .ref ab_, .ref be_, .long (lN ca_), .long (lN cb_), .long oc_, .long st_, .int bs_, .int tr_, .int sp_, .ref rr_])), (rr_, .inl (cI, 152, .inl g_))]) hK hP hD 4 0 rfl rfl zTb (fun _ _ _ => trivial)) rfl rfl hl.1 rfl (lv_room (Nat.le_of_ble_eq_true rfl)) dX4_step_83 ⟨Nat.le_of_ble_eq_true rfl, Nat.le_of_ble_eq_true rfl⟩) (fun u H locs hw hP hD hS => ?_)
        obtain ⟨g2_24, rfl⟩ : ∃ z, z = u := ⟨_, rfl⟩
        have hP : va_P D cl5 [(m_, .inr (4, [.int (nI 0), .int nn_, .long le_, .int sh_, .ref ab_, .ref be_, .long (lN ca_), .long (lN cb_), .long oc_, .long st_, .int bs_, .int tr_, .int sp_, .ref rr_])), (rr_, .inl (cI, 152, .inl g2_24))] H := hP.sub [0, 1] rfl
        have hD : va_D A [(m_, .inr (4, [.int (nI 0), .int nn_, .long le_, .int sh_, .ref ab_, .ref be_, .long (lN ca_), .long (lN cb_), .long oc_, .long st_, .int bs_, .int tr_, .int sp_, .ref rr_])), (rr_, .inl (cI, 152, .inl g2_24))] := hD.sub [0, 1] (by decide) rfl
        have hw : modL g2_24 0 (ca_ / (Nat.gcd ca_ (yy / (Nat.gcd xx yy)))) ∧ modF g_ g2_24 0 := hw
        obtain ⟨hL_83, hF_83⟩ := hw
        refine lv_aload_n hx hb dX4_step_86 rfl (lv_at hl 5 rfl) ?_
        refine lv_iconst (v := nI 0) hx hb dX4_step_87 (by decide) ?_
        refine lv_lload hx hb dX4_step_88 (lv_at hl 3 rfl) ?_
        refine lv_lload hx hb dX4_step_90 (lv_at hl 0 rfl) ?_
        refine lv_ldiv hx hb dX4_step_92 (zlne0 (by omega) (by omega)) ?_
        refine zl_ (y := lN ((xx / (Nat.gcd xx yy)) / (Nat.gcd (xx / (Nat.gcd xx yy)) cb_))) (pk_lDiv (by omega) (by omega) (by omega)) ?_
        refine zc_v (wc := [(m_, .inr (4, [.int (nI 0), .int nn_, .long le_, .int sh_, .ref ab_, .ref be_, .long (lN ca_), .long (lN cb_), .long oc_, .long st_, .int bs_, .int tr_, .int sp_, .ref rr_])), (rr_, .inl (cI, 152, .inl g2_24))]) (wr := []) hP hD hS hA [0, 1] [] rfl rfl (by decide) (by decide) (va_runV (As := [.int (nI 0), .long (lN ((xx / (Nat.gcd xx yy)) / (Nat.gcd (xx / (Nat.gcd xx yy)) cb_)))]) (rest := []) ⟨hx, hb, hml, hown, hts⟩ (ct_X4_times l D cI cJ cD m_ ab_ be_ rr_ (nI 0) nn_ sh_ bs_ tr_ sp_ le_ (lN ca_) (lN cb_) oc_ st_ 0 (ca_ / Nat.gcd ca_ (yy / Nat.gcd xx yy)) ((xx / (Nat.gcd xx yy)) / (Nat.gcd (xx / (Nat.gcd xx yy)) cb_)) g2_24 H.size (by decide) (by omega) hL_83) (cwV 2 hts gX4_step_X4_times rfl rfl rfl (by decide +kernel) ⟨Nat.le_of_ble_eq_true rfl, Nat.le_of_ble_eq_true rfl⟩) (zPreV (wc := [(m_, .inr (4, [.int (nI 0), .int nn_, .long le_, .int sh_, .ref ab_, .ref be_, .long (lN ca_), .long (lN cb_), .long oc_, .long st_, .int bs_, .int tr_, .int sp_, .ref rr_])), (rr_, .inl (cI, 152, .inl g2_24))]) hK hP hD 4 0 rfl rfl zTb (fun _ _ _ => trivial)) rfl rfl hl.1 rfl (lv_room (Nat.le_of_ble_eq_true rfl)) dX4_step_93 ⟨Nat.le_of_ble_eq_true rfl, Nat.le_of_ble_eq_true rfl⟩) (fun u H locs hw hP hD hS => ?_)
        obtain ⟨g2_26, rfl⟩ : ∃ z, z = u := ⟨_, rfl⟩
        have hP : va_P D cl5 [(m_, .inr (4, [.int (nI 0), .int nn_, .long le_, .int sh_, .ref ab_, .ref be_, .long (lN ca_), .long (lN cb_), .long oc_, .long st_, .int bs_, .int tr_, .int sp_, .ref rr_])), (rr_, .inl (cI, 152, .inl g2_26))] H := hP.sub [0, 1] rfl
        have hD : va_D A [(m_, .inr (4, [.int (nI 0), .int nn_, .long le_, .int sh_, .ref ab_, .ref be_, .long (lN ca_), .long (lN cb_), .long oc_, .long st_, .int bs_, .int tr_, .int sp_, .ref rr_])), (rr_, .inl (cI, 152, .inl g2_26))] := hD.sub [0, 1] (by decide) rfl
        have hw : modL g2_26 0 ((ca_ / Nat.gcd ca_ (yy / Nat.gcd xx yy)) * ((xx / (Nat.gcd xx yy)) / (Nat.gcd (xx / (Nat.gcd xx yy)) cb_))) ∧ modF g2_24 g2_26 0 := hw
        obtain ⟨hL_93, hF_93⟩ := hw
        refine lv_aload_n hx hb dX4_step_96 rfl (lv_at hl 5 rfl) ?_
        refine lv_iconst (v := nI 1) hx hb dX4_step_97 (by decide) ?_
        refine lv_aload_n hx hb dX4_step_98 rfl (lv_at hl 5 rfl) ?_
        refine va_get (D := D) (ci := 4) (v := .long (lN cb_)) (C := RX4) (T := TX4) (N := 14) hx hb hts nX4_step_4 hown hK hP 0 rfl rfl 7 (by decide) (zh (w := .fieldLink RX4 29 "FretRootsModel" "chainBelow" "J") hts 3 rfl) (fun _ h9 => h9) rfl dX4_step_99 ?_
        refine lv_lload hx hb dX4_step_102 (lv_at hl 0 rfl) ?_
        refine lv_ldiv hx hb dX4_step_104 (zlne0 (by omega) (by omega)) ?_
        refine zl_ (y := lN (cb_ / (Nat.gcd (xx / (Nat.gcd xx yy)) cb_))) (pk_lDiv (by omega) (by omega) (by omega)) ?_
        refine zc_v (wc := [(m_, .inr (4, [.int (nI 0), .int nn_, .long le_, .int sh_, .ref ab_, .ref be_, .long (lN ca_), .long (lN cb_), .long oc_, .long st_, .int bs_, .int tr_, .int sp_, .ref rr_])), (rr_, .inl (cI, 152, .inl g2_26))]) (wr := []) hP hD hS hA [0, 1] [] rfl rfl (by decide) (by decide) (va_runV (As := [.int (nI 1), .long (lN (cb_ / (Nat.gcd (xx / (Nat.gcd xx yy)) cb_)))]) (rest := []) ⟨hx, hb, hml, hown, hts⟩ (ct_X4_set l D cI cJ cD m_ ab_ be_ rr_ (nI 0) nn_ sh_ bs_ tr_ sp_ le_ (lN ca_) (lN cb_) oc_ st_ 1 (cb_ / (Nat.gcd (xx / (Nat.gcd xx yy)) cb_)) g2_26 H.size (by decide) (by omega)) (cwV 2 hts gX4_step_X4_set rfl rfl rfl (by decide +kernel) ⟨Nat.le_of_ble_eq_true rfl, Nat.le_of_ble_eq_true rfl⟩) (zPreV (wc := [(m_, .inr (4, [.int (nI 0), .int nn_, .long le_, .int sh_, .ref ab_, .ref be_, .long (lN ca_), .long (lN cb_), .long oc_, .long st_, .int bs_, .int tr_, .int sp_, .ref rr_])), (rr_, .inl (cI, 152, .inl g2_26))]) hK hP hD 4 0 rfl rfl zTb (fun _ _ _ => trivial)) rfl rfl hl.1 rfl (lv_room (Nat.le_of_ble_eq_true rfl)) dX4_step_105 ⟨Nat.le_of_ble_eq_true rfl, Nat.le_of_ble_eq_true rfl⟩) (fun u H locs hw hP hD hS => ?_)
        obtain ⟨g2_28, rfl⟩ : ∃ z, z = u := ⟨_, rfl⟩
        have hP : va_P D cl5 [(m_, .inr (4, [.int (nI 0), .int nn_, .long le_, .int sh_, .ref ab_, .ref be_, .long (lN ca_), .long (lN cb_), .long oc_, .long st_, .int bs_, .int tr_, .int sp_, .ref rr_])), (rr_, .inl (cI, 152, .inl g2_28))] H := hP.sub [0, 1] rfl
        have hD : va_D A [(m_, .inr (4, [.int (nI 0), .int nn_, .long le_, .int sh_, .ref ab_, .ref be_, .long (lN ca_), .long (lN cb_), .long oc_, .long st_, .int bs_, .int tr_, .int sp_, .ref rr_])), (rr_, .inl (cI, 152, .inl g2_28))] := hD.sub [0, 1] (by decide) rfl
        have hw : modL g2_28 1 (cb_ / (Nat.gcd (xx / (Nat.gcd xx yy)) cb_)) ∧ modF g2_26 g2_28 1 := hw
        obtain ⟨hL_105, hF_105⟩ := hw
        refine lv_aload_n hx hb dX4_step_108 rfl (lv_at hl 5 rfl) ?_
        refine lv_iconst (v := nI 1) hx hb dX4_step_109 (by decide) ?_
        refine lv_lload hx hb dX4_step_110 (lv_at hl 2 rfl) ?_
        refine lv_lload hx hb dX4_step_112 (lv_at hl 1 rfl) ?_
        refine lv_ldiv hx hb dX4_step_114 (zlne0 (by omega) (by omega)) ?_
        refine zl_ (y := lN ((yy / (Nat.gcd xx yy)) / (Nat.gcd ca_ (yy / (Nat.gcd xx yy))))) (pk_lDiv (by omega) (by omega) (by omega)) ?_
        refine zc_v (wc := [(m_, .inr (4, [.int (nI 0), .int nn_, .long le_, .int sh_, .ref ab_, .ref be_, .long (lN ca_), .long (lN cb_), .long oc_, .long st_, .int bs_, .int tr_, .int sp_, .ref rr_])), (rr_, .inl (cI, 152, .inl g2_28))]) (wr := []) hP hD hS hA [0, 1] [] rfl rfl (by decide) (by decide) (va_runV (As := [.int (nI 1), .long (lN ((yy / (Nat.gcd xx yy)) / (Nat.gcd ca_ (yy / (Nat.gcd xx yy)))))]) (rest := []) ⟨hx, hb, hml, hown, hts⟩ (ct_X4_times l D cI cJ cD m_ ab_ be_ rr_ (nI 0) nn_ sh_ bs_ tr_ sp_ le_ (lN ca_) (lN cb_) oc_ st_ 1 (cb_ / Nat.gcd (xx / Nat.gcd xx yy) cb_) ((yy / (Nat.gcd xx yy)) / (Nat.gcd ca_ (yy / (Nat.gcd xx yy)))) g2_28 H.size (by decide) (by omega) hL_105) (cwV 2 hts gX4_step_X4_times rfl rfl rfl (by decide +kernel) ⟨Nat.le_of_ble_eq_true rfl, Nat.le_of_ble_eq_true rfl⟩) (zPreV (wc := [(m_, .inr (4, [.int (nI 0), .int nn_, .long le_, .int sh_, .ref ab_, .ref be_, .long (lN ca_), .long (lN cb_), .long oc_, .long st_, .int bs_, .int tr_, .int sp_, .ref rr_])), (rr_, .inl (cI, 152, .inl g2_28))]) hK hP hD 4 0 rfl rfl zTb (fun _ _ _ => trivial)) rfl rfl hl.1 rfl (lv_room (Nat.le_of_ble_eq_true rfl)) dX4_step_115 ⟨Nat.le_of_ble_eq_true rfl, Nat.le_of_ble_eq_true rfl⟩) (fun u H locs hw hP hD hS => ?_)
        obtain ⟨g2_30, rfl⟩ : ∃ z, z = u := ⟨_, rfl⟩
        have hP : va_P D cl5 [(m_, .inr (4, [.int (nI 0), .int nn_, .long le_, .int sh_, .ref ab_, .ref be_, .long (lN ca_), .long (lN cb_), .long oc_, .long st_, .int bs_, .int tr_, .int sp_, .ref rr_])), (rr_, .inl (cI, 152, .inl g2_30))] H := hP.sub [0, 1] rfl
        have hD : va_D A [(m_, .inr (4, [.int (nI 0), .int nn_, .long le_, .int sh_, .ref ab_, .ref be_, .long (lN ca_), .long (lN cb_), .long oc_, .long st_, .int bs_, .int tr_, .int sp_, .ref rr_])), (rr_, .inl (cI, 152, .inl g2_30))] := hD.sub [0, 1] (by decide) rfl
        have hw : modL g2_30 1 ((cb_ / Nat.gcd (xx / Nat.gcd xx yy) cb_) * ((yy / (Nat.gcd xx yy)) / (Nat.gcd ca_ (yy / (Nat.gcd xx yy))))) ∧ modF g2_28 g2_30 1 := hw
        obtain ⟨hL_115, hF_115⟩ := hw
        refine lv_lconst (v := lN 0) hx hb dX4_step_118 rfl ?_
        refine zl_ (y := lN 0 - lN 0) (by decide) ?_
        refine lv_lstore (lv' := [(13, .long (lN 0 - lN 0)), (11, .long (lN (Nat.gcd (xx / (Nat.gcd xx yy)) cb_))), (9, .long (lN (Nat.gcd ca_ (yy / (Nat.gcd xx yy))))), (7, .long (lN (yy / (Nat.gcd xx yy)))), (5, .long (lN (xx / (Nat.gcd xx yy)))), (3, .long (lN (Nat.gcd xx yy))), (0, .ref m_), (1, .int x_), (2, .int y_)]) hx hb dX4_step_119 hl (by decide) rfl (fun ls hl => ?_)
        refine lv_iconst (v := nI 1) hx hb dX4_step_121 (by decide) ?_
        refine lv_istore (lv' := [(15, .int (nI 1)), (13, .long (lN 0 - lN 0)), (11, .long (lN (Nat.gcd (xx / (Nat.gcd xx yy)) cb_))), (9, .long (lN (Nat.gcd ca_ (yy / (Nat.gcd xx yy))))), (7, .long (lN (yy / (Nat.gcd xx yy)))), (5, .long (lN (xx / (Nat.gcd xx yy)))), (3, .long (lN (Nat.gcd xx yy))), (0, .ref m_), (1, .int x_), (2, .int y_)]) hx hb dX4_step_122 hl (by decide) rfl (fun ls hl => ?_)
        exact lp_124 ((2 * ((ca_ / Nat.gcd ca_ (yy / Nat.gcd xx yy) * (xx / Nat.gcd xx yy / Nat.gcd (xx / Nat.gcd xx yy) cb_)) - (cb_ / Nat.gcd (xx / Nat.gcd xx yy) cb_ * (yy / Nat.gcd xx yy / Nat.gcd ca_ (yy / Nat.gcd xx yy)))) + 1) + 1) xx yy (ca_ / Nat.gcd ca_ (yy / Nat.gcd xx yy) * (xx / Nat.gcd xx yy / Nat.gcd (xx / Nat.gcd xx yy) cb_)) (cb_ / Nat.gcd (xx / Nat.gcd xx yy) cb_ * (yy / Nat.gcd xx yy / Nat.gcd ca_ (yy / Nat.gcd xx yy))) 0 1 g2_30 _ _ _ (Nat.lt_succ_self _) ex ey hx1 hx2 hy1 hy2 hcd (modL_keep hF_115 (by decide) (modL_keep hF_105 (by decide) hL_93)) hL_115 hsb hA70 hB70 (by decide) (fun q => absurd q (by decide)) hP hD hS (lv_sub hl [7, 1, 0] rfl)
      · skip
        exact absurd c_27 (by decide)
