/-! ===== the law's loop ===== -/
set_option maxHeartbeats 8000000 in
set_option maxRecDepth 100000 in
theorem lw_loop {p : Program} {l : Launch} {e : Env} {s : State} {m : MethodId} {below : List Frame} {meth : Method} {c : Code} {D : va_G} {cI cJ cD : ClassId} {A : Nat → Prop} {b_ L_ : Nat} {xs_ : Nat → Int32} {o_ ro_ ja_ jb_ sr_ se_ br_ be_ tr_ te_ ch_ lf_ ld_ ri_ rd_ m_ ab_ bb_ rr_ ou_ od_ n_ : Nat} {r_ : Nat → UInt64}
    (C : lwC p l s m meth c D cI cJ cD A b_ L_ xs_) (hAs : ∀ q, A q → s.heap.size ≤ q) (hn1 : 1 ≤ n_) (hn : n_ ≤ 24) :
    ∀ (n9 i_ cc_ ss_ : Nat), L_ + 2 ≤ i_ + n9 → 1 ≤ i_ → i_ ≤ L_ + 1 → cc_ + n9 ≤ 600000 → ss_ + 6 * n9 ≤ 7000000 → lwH p l e s m below meth c D cI cJ cD A b_ o_ ro_ ja_ jb_ sr_ se_ br_ be_ tr_ te_ ch_ lf_ ld_ ri_ rd_ m_ ab_ bb_ rr_ ou_ od_ n_ r_ (lw_Z below #[Value.ref b_] s) 38 i_ cc_ ss_ := by
  intro n9
  induction n9 with
  | zero => intro i_ cc_ ss_ h1 _ h3; exact absurd h1 (by omega)
  | succ n9 ih =>
    intro i_ cc_ ss_ h1 h2 h3 h4 h5 h_ w_ bs_ tl_ sp_ ca_ cb_ oc_ st_ th_ wl_ wr_ es_ eb_ et_ fl_ fr_ fo_ fa_ fb_ ga_ gb_ gr_ xa_ xb_ fd_ H locs ls d hI hd hP hD hS hl
    obtain ⟨hx, hb, hr, hml, hown, hts, hX, hbl, hlocks, hK, hA, hbA, hE, hl9, hL⟩ := id C
    have hX2 : va_X b_ L_ xs_ (s.setDrawn d) s.heap := va_X.moved (u := s) (Vm.Alike.refl s.vm) hX
    refine lv_iload hx hb dL_law_38 (lv_at hl 5 rfl) ?_
    refine lv_aload_n hx hb dL_law_40 rfl (lv_at hl 0 rfl) ?_
    refine va_slen hx hb hX2 hbl hbA hS dL_law_41 ?_
    refine lv_iconst (v := nI 5) hx hb dL_law_42 (by decide) ?_
    refine lv_isub hx hb dL_law_43 ?_
    refine lv_icmp_gt (tgt := 1442) hx hb dL_law_44 (by decide) (fun c_44 => ?_) (fun c_44 => ?_)
    · refine lv_iconst (v := 1) hx hb dL_law_1442 (by decide) ?_
      refine va_forget (fun q hq => hAs _ (hS.2.2 q hq)) ?_
      refine W.widen (k := 644291) (n := 7163197) (by omega) (by omega) ?_
      exact lw_ret hd hx hb hr hlocks dL_law_1443
    · have hi : i_ + 5 ≤ L_ := lw_gt hL h2 (by omega) c_44
      have nx : lwH p l e s m below meth c D cI cJ cD A b_ o_ ro_ ja_ jb_ sr_ se_ br_ be_ tr_ te_ ch_ lf_ ld_ ri_ rd_ m_ ab_ bb_ rr_ ou_ od_ n_ r_ (lw_Z below #[Value.ref b_] s) 1436 i_ (cc_ + 1) (ss_ + 6) := by
        intro h_ w_ bs_ tl_ sp_ ca_ cb_ oc_ st_ th_ wl_ wr_ es_ eb_ et_ fl_ fr_ fo_ fa_ fb_ ga_ gb_ gr_ xa_ xb_ fd_ H locs ls d hI hd hP hD hS hl
        refine lv_iinc (v := nI (i_ + 5)) (lv' := [(5, .int (nI (i_ + 5))), (0, .ref b_), (1, .ref o_), (2, .ref m_), (3, .ref ou_), (4, .ref od_)]) hx hb dL_law_1436 hl (k := 5) rfl (z_inc i_ 5) (by decide) rfl (fun ls hl => ?_)
        refine lv_goto (tgt := 38) hx hb dL_law_1439 (by decide) ?_
        exact ih (i_ + 5) (cc_ + 1) (ss_ + 6) (by omega) (by omega) (by omega) (by omega) (by omega) h_ w_ bs_ tl_ sp_ ca_ cb_ oc_ st_ th_ wl_ wr_ es_ eb_ et_ fl_ fr_ fo_ fa_ fb_ ga_ gb_ gr_ xa_ xb_ fd_ H locs ls d hI hd hP hD hS (lv_sub hl [1, 2, 3, 4, 5, 0] rfl)
      refine lv_aload_n hx hb dL_law_47 rfl (lv_at hl 0 rfl) ?_
      refine lv_iload hx hb dL_law_48 (lv_at hl 5 rfl) ?_
      refine va_sld hx hb hX2 hbl hbA hS (i := nI i_) (vp_in_nI (by omega) (by omega)) dL_law_50 ?_
      refine zi_ (y := xs_ i_) (by rw [nI_clamp (by omega)]) ?_
      refine lv_bipush (v := nI 31) hx hb dL_law_51 (by decide) ?_
      refine lv_iand hx hb dL_law_53 ?_
      obtain ⟨k9, hk9, ek9⟩ := and31 (xs_ i_)
      refine zi_ (y := nI k9) ek9 ?_
      rcases (show k9 = 0 ∨ k9 = 1 ∨ k9 = 2 ∨ k9 = 3 ∨ k9 = 4 ∨ k9 = 5 ∨ k9 = 6 ∨ k9 = 7 ∨ k9 = 8 ∨ k9 = 9 ∨ k9 = 10 ∨ k9 = 11 ∨ k9 = 12 ∨ k9 = 13 ∨ k9 = 14 ∨ k9 = 15 ∨ k9 = 16 ∨ k9 = 17 ∨ k9 = 18 ∨ k9 = 19 ∨ k9 = 20 ∨ k9 = 21 ∨ k9 = 22 ∨ k9 = 23 ∨ k9 = 24 ∨ k9 = 25 ∨ k9 = 26 ∨ k9 = 27 ∨ k9 = 28 ∨ k9 = 29 ∨ k9 = 30 ∨ k9 = 31 by omega) with rfl | rfl | rfl | rfl | rfl | rfl | rfl | rfl | rfl | rfl | rfl | rfl | rfl | rfl | rfl | rfl | rfl | rfl | rfl | rfl | rfl | rfl | rfl | rfl | rfl | rfl | rfl | rfl | rfl | rfl | rfl | rfl
      · refine lv_tableIn (x := nI 0) (off := 86) (tgt := 140) hx hb dL_law_54 (by decide) (by decide) (by decide) (by decide) ?_
        exact lwc_0 C hn1 hn hi (by omega) (by omega) nx h_ w_ bs_ tl_ sp_ ca_ cb_ oc_ st_ th_ wl_ wr_ es_ eb_ et_ fl_ fr_ fo_ fa_ fb_ ga_ gb_ gr_ xa_ xb_ fd_ H locs ls d hI hd hP hD hS hl
      · refine lv_tableIn (x := nI 1) (off := 166) (tgt := 220) hx hb dL_law_54 (by decide) (by decide) (by decide) (by decide) ?_
        exact lwc_1 C hn1 hn hi (by omega) (by omega) nx h_ w_ bs_ tl_ sp_ ca_ cb_ oc_ st_ th_ wl_ wr_ es_ eb_ et_ fl_ fr_ fo_ fa_ fb_ ga_ gb_ gr_ xa_ xb_ fd_ H locs ls d hI hd hP hD hS hl
      · refine lv_tableIn (x := nI 2) (off := 249) (tgt := 303) hx hb dL_law_54 (by decide) (by decide) (by decide) (by decide) ?_
        exact lwc_2 C hn1 hn hi (by omega) (by omega) nx h_ w_ bs_ tl_ sp_ ca_ cb_ oc_ st_ th_ wl_ wr_ es_ eb_ et_ fl_ fr_ fo_ fa_ fb_ ga_ gb_ gr_ xa_ xb_ fd_ H locs ls d hI hd hP hD hS hl
      · refine lv_tableIn (x := nI 3) (off := 312) (tgt := 366) hx hb dL_law_54 (by decide) (by decide) (by decide) (by decide) ?_
        exact lwc_3 C hn1 hn hi (by omega) (by omega) nx h_ w_ bs_ tl_ sp_ ca_ cb_ oc_ st_ th_ wl_ wr_ es_ eb_ et_ fl_ fr_ fo_ fa_ fb_ ga_ gb_ gr_ xa_ xb_ fd_ H locs ls d hI hd hP hD hS hl
      · refine lv_tableIn (x := nI 4) (off := 372) (tgt := 426) hx hb dL_law_54 (by decide) (by decide) (by decide) (by decide) ?_
        exact lwc_4 C hn1 hn hi (by omega) (by omega) nx h_ w_ bs_ tl_ sp_ ca_ cb_ oc_ st_ th_ wl_ wr_ es_ eb_ et_ fl_ fr_ fo_ fa_ fb_ ga_ gb_ gr_ xa_ xb_ fd_ H locs ls d hI hd hP hD hS hl
      · refine lv_tableIn (x := nI 5) (off := 440) (tgt := 494) hx hb dL_law_54 (by decide) (by decide) (by decide) (by decide) ?_
        exact lwc_5 C hn1 hn hi (by omega) (by omega) nx h_ w_ bs_ tl_ sp_ ca_ cb_ oc_ st_ th_ wl_ wr_ es_ eb_ et_ fl_ fr_ fo_ fa_ fb_ ga_ gb_ gr_ xa_ xb_ fd_ H locs ls d hI hd hP hD hS hl
      · refine lv_tableIn (x := nI 6) (off := 495) (tgt := 549) hx hb dL_law_54 (by decide) (by decide) (by decide) (by decide) ?_
        exact lwc_6 C hn1 hn hi (by omega) (by omega) nx h_ w_ bs_ tl_ sp_ ca_ cb_ oc_ st_ th_ wl_ wr_ es_ eb_ et_ fl_ fr_ fo_ fa_ fb_ ga_ gb_ gr_ xa_ xb_ fd_ H locs ls d hI hd hP hD hS hl
      · refine lv_tableIn (x := nI 7) (off := 551) (tgt := 605) hx hb dL_law_54 (by decide) (by decide) (by decide) (by decide) ?_
        exact lwc_7 C hn1 hn hi (by omega) (by omega) nx h_ w_ bs_ tl_ sp_ ca_ cb_ oc_ st_ th_ wl_ wr_ es_ eb_ et_ fl_ fr_ fo_ fa_ fb_ ga_ gb_ gr_ xa_ xb_ fd_ H locs ls d hI hd hP hD hS hl
      · refine lv_tableIn (x := nI 8) (off := 619) (tgt := 673) hx hb dL_law_54 (by decide) (by decide) (by decide) (by decide) ?_
        exact lwc_8 C hn1 hn hi (by omega) (by omega) nx h_ w_ bs_ tl_ sp_ ca_ cb_ oc_ st_ th_ wl_ wr_ es_ eb_ et_ fl_ fr_ fo_ fa_ fb_ ga_ gb_ gr_ xa_ xb_ fd_ H locs ls d hI hd hP hD hS hl
      · refine lv_tableIn (x := nI 9) (off := 694) (tgt := 748) hx hb dL_law_54 (by decide) (by decide) (by decide) (by decide) ?_
        exact lwc_9 C hn1 hn hi (by omega) (by omega) nx h_ w_ bs_ tl_ sp_ ca_ cb_ oc_ st_ th_ wl_ wr_ es_ eb_ et_ fl_ fr_ fo_ fa_ fb_ ga_ gb_ gr_ xa_ xb_ fd_ H locs ls d hI hd hP hD hS hl
      · refine lv_tableIn (x := nI 10) (off := 705) (tgt := 759) hx hb dL_law_54 (by decide) (by decide) (by decide) (by decide) ?_
        exact lwc_10 C hn1 hn hi (by omega) (by omega) nx h_ w_ bs_ tl_ sp_ ca_ cb_ oc_ st_ th_ wl_ wr_ es_ eb_ et_ fl_ fr_ fo_ fa_ fb_ ga_ gb_ gr_ xa_ xb_ fd_ H locs ls d hI hd hP hD hS hl
      · refine lv_tableIn (x := nI 11) (off := 760) (tgt := 814) hx hb dL_law_54 (by decide) (by decide) (by decide) (by decide) ?_
        exact lwc_11 C hn1 hn hi (by omega) (by omega) nx h_ w_ bs_ tl_ sp_ ca_ cb_ oc_ st_ th_ wl_ wr_ es_ eb_ et_ fl_ fr_ fo_ fa_ fb_ ga_ gb_ gr_ xa_ xb_ fd_ H locs ls d hI hd hP hD hS hl
      · refine lv_tableIn (x := nI 12) (off := 851) (tgt := 905) hx hb dL_law_54 (by decide) (by decide) (by decide) (by decide) ?_
        exact lwc_12 C hn1 hn hi (by omega) (by omega) nx h_ w_ bs_ tl_ sp_ ca_ cb_ oc_ st_ th_ wl_ wr_ es_ eb_ et_ fl_ fr_ fo_ fa_ fb_ ga_ gb_ gr_ xa_ xb_ fd_ H locs ls d hI hd hP hD hS hl
      · refine lv_tableIn (x := nI 13) (off := 911) (tgt := 965) hx hb dL_law_54 (by decide) (by decide) (by decide) (by decide) ?_
        exact lwc_13 C hn1 hn hi (by omega) (by omega) nx h_ w_ bs_ tl_ sp_ ca_ cb_ oc_ st_ th_ wl_ wr_ es_ eb_ et_ fl_ fr_ fo_ fa_ fb_ ga_ gb_ gr_ xa_ xb_ fd_ H locs ls d hI hd hP hD hS hl
      · refine lv_tableIn (x := nI 14) (off := 990) (tgt := 1044) hx hb dL_law_54 (by decide) (by decide) (by decide) (by decide) ?_
        exact lwc_14 C hn1 hn hi (by omega) (by omega) nx h_ w_ bs_ tl_ sp_ ca_ cb_ oc_ st_ th_ wl_ wr_ es_ eb_ et_ fl_ fr_ fo_ fa_ fb_ ga_ gb_ gr_ xa_ xb_ fd_ H locs ls d hI hd hP hD hS hl
      · refine lv_tableIn (x := nI 15) (off := 1003) (tgt := 1057) hx hb dL_law_54 (by decide) (by decide) (by decide) (by decide) ?_
        exact lwc_15 C hn1 hn hi (by omega) (by omega) nx h_ w_ bs_ tl_ sp_ ca_ cb_ oc_ st_ th_ wl_ wr_ es_ eb_ et_ fl_ fr_ fo_ fa_ fb_ ga_ gb_ gr_ xa_ xb_ fd_ H locs ls d hI hd hP hD hS hl
      · refine lv_tableIn (x := nI 16) (off := 1114) (tgt := 1168) hx hb dL_law_54 (by decide) (by decide) (by decide) (by decide) ?_
        exact lwc_16 C hn1 hn hi (by omega) (by omega) nx h_ w_ bs_ tl_ sp_ ca_ cb_ oc_ st_ th_ wl_ wr_ es_ eb_ et_ fl_ fr_ fo_ fa_ fb_ ga_ gb_ gr_ xa_ xb_ fd_ H locs ls d hI hd hP hD hS hl
      · refine lv_tableIn (x := nI 17) (off := 1245) (tgt := 1299) hx hb dL_law_54 (by decide) (by decide) (by decide) (by decide) ?_
        exact lwc_17 C hn1 hn hi (by omega) (by omega) nx h_ w_ bs_ tl_ sp_ ca_ cb_ oc_ st_ th_ wl_ wr_ es_ eb_ et_ fl_ fr_ fo_ fa_ fb_ ga_ gb_ gr_ xa_ xb_ fd_ H locs ls d hI hd hP hD hS hl
      · refine lv_tableOut (x := nI 18) (tgt := 1436) hx hb dL_law_54 (by decide) (by decide) ?_
        exact W.widen (k := cc_ + 1) (n := ss_ + 6) (Nat.le_add_right _ _) (Nat.le_add_right _ _) (nx h_ w_ bs_ tl_ sp_ ca_ cb_ oc_ st_ th_ wl_ wr_ es_ eb_ et_ fl_ fr_ fo_ fa_ fb_ ga_ gb_ gr_ xa_ xb_ fd_ H locs ls d hI hd hP hD hS hl)
      · refine lv_tableOut (x := nI 19) (tgt := 1436) hx hb dL_law_54 (by decide) (by decide) ?_
        exact W.widen (k := cc_ + 1) (n := ss_ + 6) (Nat.le_add_right _ _) (Nat.le_add_right _ _) (nx h_ w_ bs_ tl_ sp_ ca_ cb_ oc_ st_ th_ wl_ wr_ es_ eb_ et_ fl_ fr_ fo_ fa_ fb_ ga_ gb_ gr_ xa_ xb_ fd_ H locs ls d hI hd hP hD hS hl)
      · refine lv_tableOut (x := nI 20) (tgt := 1436) hx hb dL_law_54 (by decide) (by decide) ?_
        exact W.widen (k := cc_ + 1) (n := ss_ + 6) (Nat.le_add_right _ _) (Nat.le_add_right _ _) (nx h_ w_ bs_ tl_ sp_ ca_ cb_ oc_ st_ th_ wl_ wr_ es_ eb_ et_ fl_ fr_ fo_ fa_ fb_ ga_ gb_ gr_ xa_ xb_ fd_ H locs ls d hI hd hP hD hS hl)
      · refine lv_tableOut (x := nI 21) (tgt := 1436) hx hb dL_law_54 (by decide) (by decide) ?_
        exact W.widen (k := cc_ + 1) (n := ss_ + 6) (Nat.le_add_right _ _) (Nat.le_add_right _ _) (nx h_ w_ bs_ tl_ sp_ ca_ cb_ oc_ st_ th_ wl_ wr_ es_ eb_ et_ fl_ fr_ fo_ fa_ fb_ ga_ gb_ gr_ xa_ xb_ fd_ H locs ls d hI hd hP hD hS hl)
      · refine lv_tableOut (x := nI 22) (tgt := 1436) hx hb dL_law_54 (by decide) (by decide) ?_
        exact W.widen (k := cc_ + 1) (n := ss_ + 6) (Nat.le_add_right _ _) (Nat.le_add_right _ _) (nx h_ w_ bs_ tl_ sp_ ca_ cb_ oc_ st_ th_ wl_ wr_ es_ eb_ et_ fl_ fr_ fo_ fa_ fb_ ga_ gb_ gr_ xa_ xb_ fd_ H locs ls d hI hd hP hD hS hl)
      · refine lv_tableOut (x := nI 23) (tgt := 1436) hx hb dL_law_54 (by decide) (by decide) ?_
        exact W.widen (k := cc_ + 1) (n := ss_ + 6) (Nat.le_add_right _ _) (Nat.le_add_right _ _) (nx h_ w_ bs_ tl_ sp_ ca_ cb_ oc_ st_ th_ wl_ wr_ es_ eb_ et_ fl_ fr_ fo_ fa_ fb_ ga_ gb_ gr_ xa_ xb_ fd_ H locs ls d hI hd hP hD hS hl)
      · refine lv_tableOut (x := nI 24) (tgt := 1436) hx hb dL_law_54 (by decide) (by decide) ?_
        exact W.widen (k := cc_ + 1) (n := ss_ + 6) (Nat.le_add_right _ _) (Nat.le_add_right _ _) (nx h_ w_ bs_ tl_ sp_ ca_ cb_ oc_ st_ th_ wl_ wr_ es_ eb_ et_ fl_ fr_ fo_ fa_ fb_ ga_ gb_ gr_ xa_ xb_ fd_ H locs ls d hI hd hP hD hS hl)
      · refine lv_tableOut (x := nI 25) (tgt := 1436) hx hb dL_law_54 (by decide) (by decide) ?_
        exact W.widen (k := cc_ + 1) (n := ss_ + 6) (Nat.le_add_right _ _) (Nat.le_add_right _ _) (nx h_ w_ bs_ tl_ sp_ ca_ cb_ oc_ st_ th_ wl_ wr_ es_ eb_ et_ fl_ fr_ fo_ fa_ fb_ ga_ gb_ gr_ xa_ xb_ fd_ H locs ls d hI hd hP hD hS hl)
      · refine lv_tableOut (x := nI 26) (tgt := 1436) hx hb dL_law_54 (by decide) (by decide) ?_
        exact W.widen (k := cc_ + 1) (n := ss_ + 6) (Nat.le_add_right _ _) (Nat.le_add_right _ _) (nx h_ w_ bs_ tl_ sp_ ca_ cb_ oc_ st_ th_ wl_ wr_ es_ eb_ et_ fl_ fr_ fo_ fa_ fb_ ga_ gb_ gr_ xa_ xb_ fd_ H locs ls d hI hd hP hD hS hl)
      · refine lv_tableOut (x := nI 27) (tgt := 1436) hx hb dL_law_54 (by decide) (by decide) ?_
        exact W.widen (k := cc_ + 1) (n := ss_ + 6) (Nat.le_add_right _ _) (Nat.le_add_right _ _) (nx h_ w_ bs_ tl_ sp_ ca_ cb_ oc_ st_ th_ wl_ wr_ es_ eb_ et_ fl_ fr_ fo_ fa_ fb_ ga_ gb_ gr_ xa_ xb_ fd_ H locs ls d hI hd hP hD hS hl)
      · refine lv_tableOut (x := nI 28) (tgt := 1436) hx hb dL_law_54 (by decide) (by decide) ?_
        exact W.widen (k := cc_ + 1) (n := ss_ + 6) (Nat.le_add_right _ _) (Nat.le_add_right _ _) (nx h_ w_ bs_ tl_ sp_ ca_ cb_ oc_ st_ th_ wl_ wr_ es_ eb_ et_ fl_ fr_ fo_ fa_ fb_ ga_ gb_ gr_ xa_ xb_ fd_ H locs ls d hI hd hP hD hS hl)
      · refine lv_tableOut (x := nI 29) (tgt := 1436) hx hb dL_law_54 (by decide) (by decide) ?_
        exact W.widen (k := cc_ + 1) (n := ss_ + 6) (Nat.le_add_right _ _) (Nat.le_add_right _ _) (nx h_ w_ bs_ tl_ sp_ ca_ cb_ oc_ st_ th_ wl_ wr_ es_ eb_ et_ fl_ fr_ fo_ fa_ fb_ ga_ gb_ gr_ xa_ xb_ fd_ H locs ls d hI hd hP hD hS hl)
      · refine lv_tableOut (x := nI 30) (tgt := 1436) hx hb dL_law_54 (by decide) (by decide) ?_
        exact W.widen (k := cc_ + 1) (n := ss_ + 6) (Nat.le_add_right _ _) (Nat.le_add_right _ _) (nx h_ w_ bs_ tl_ sp_ ca_ cb_ oc_ st_ th_ wl_ wr_ es_ eb_ et_ fl_ fr_ fo_ fa_ fb_ ga_ gb_ gr_ xa_ xb_ fd_ H locs ls d hI hd hP hD hS hl)
      · refine lv_tableOut (x := nI 31) (tgt := 1436) hx hb dL_law_54 (by decide) (by decide) ?_
        exact W.widen (k := cc_ + 1) (n := ss_ + 6) (Nat.le_add_right _ _) (Nat.le_add_right _ _) (nx h_ w_ bs_ tl_ sp_ ca_ cb_ oc_ st_ th_ wl_ wr_ es_ eb_ et_ fl_ fr_ fo_ fa_ fb_ ga_ gb_ gr_ xa_ xb_ fd_ H locs ls d hI hd hP hD hS hl)
