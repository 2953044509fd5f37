/-! ===== the class's chain ===== -/
def nChain (U : State) : Prop := va_Nw (.methodLinkNest RX1 24 yX3_commonDivisor RX3) U ∧ va_Nw (.methodLinkNest RX1 28 yX3_quotient RX3) U
theorem nChain_calling (U : State) (g : JFrame) (mk : MethodId) (a : Array Value) (h : nChain U) : nChain (U.calling g mk a) := ⟨va_Nw.same rfl rfl h.1, va_Nw.same rfl rfl h.2⟩
theorem nChain_warm {s U : State} (hW : s.WarmedH U.vm) (h : nChain s) : nChain U := ⟨va_Nw.warmM hW h.1, va_Nw.warmM hW h.2⟩
theorem z_and1l {a : Nat} (h : a < 2 ^ 64) : lN a &&& lN 1 = lN (a % 2) := by
  apply Int64.toBitVec_inj.mp
  apply BitVec.eq_of_toNat_eq
  show ((BitVec.ofNat 64 a) &&& (BitVec.ofNat 64 1)).toNat = (BitVec.ofNat 64 (a % 2)).toNat
  rw [BitVec.toNat_and, BitVec.toNat_ofNat, BitVec.toNat_ofNat, BitVec.toNat_ofNat, Nat.mod_eq_of_lt h]
  have h2 := Nat.and_two_pow_sub_one_eq_mod a 1
  rw [show (1 % 2 ^ 64 : Nat) = 2 ^ 1 - 1 from rfl, h2]
  omega
theorem tw_next {n i : Nat} (h : n % 2 ^ i = 0) (h2 : n / 2 ^ i % 2 = 0) : n % 2 ^ (i + 1) = 0 := by
  rw [Nat.pow_succ, Nat.mod_mul, h, h2, Nat.mul_zero]
theorem tw_eq {n t : Nat} (h : n % 2 ^ t = 0) : n / 2 ^ t * 2 ^ t = n := Nat.div_mul_cancel (Nat.dvd_of_mod_eq_zero h)
def poN (a b : Nat) : Int64 := if a * b ≤ 1000000000000000 then lN (a * b) else -1
theorem po_1 {a b : Nat} (hb : 1 ≤ b) (h : a ≤ 1000000000000000 / b) : poN a b = lN (a * b) := by
  unfold poN; rw [if_pos ((Nat.le_div_iff_mul_le hb).mp h)]
theorem po_2 {a b : Nat} (hb : 1 ≤ b) (h : 1000000000000000 / b < a) : poN a b = -1 := by
  unfold poN; rw [if_neg (fun q => absurd ((Nat.le_div_iff_mul_le hb).mpr q) (by omega))]
theorem lN_nm1 {n : Nat} (h : n < 2 ^ 63) : ¬ lN n = -1 := by
  intro q
  have := congrArg Int64.toInt q
  rw [pk_lT h] at this
  have e : (-1 : Int64).toInt = -1 := by decide
  omega
theorem po_ok {a b : Nat} (h : ¬ poN a b = -1) : a * b ≤ 1000000000000000 ∧ poN a b = lN (a * b) := by
  unfold poN at *
  split at h
  · rename_i q; rw [if_pos q]; exact ⟨q, rfl⟩
  · exact absurd rfl h
theorem po_no {a b : Nat} (h : poN a b = -1) : ¬ a * b ≤ 1000000000000000 := by
  intro q
  unfold poN at h
  rw [if_pos q] at h
  exact lN_nm1 (by omega) h
theorem z_sub64 {a b : Nat} (ha : a < 2 ^ 30) (hb : b < 2 ^ 30) : (nI a - nI b).toInt64 = lN a - lN b := by
  apply Int64.toInt_inj.mp
  rw [Int32.toInt_toInt64, pk_sub_toInt ha hb, Int64.toInt_sub, pk_lT (by omega), pk_lT (by omega), Int.bmod_eq_of_le (by omega) (by omega)]
theorem oc_sum (oc : Int64) (tp tq i j : Nat) : oc + (lN tp - lN tq) - (lN j - lN i) = oc + (lN (tp + i) - lN (tq + j)) := by
  rw [← lN_add, ← lN_add]
  generalize lN tp = a
  generalize lN tq = b
  generalize lN i = c
  generalize lN j = d
  grind
theorem kp_dec (i : Nat) : (nI 0 - nI i) + Int32.ofInt (-1) = nI 0 - nI (i + 1) := by
  rw [← nI_add]
  have e : Int32.ofInt (-1) = - nI 1 := rfl
  rw [e]
  generalize nI i = x
  generalize nI 1 = y
  grind
theorem kp_inc (i j : Nat) : (nI j - nI i) + Int32.ofInt 1 = nI (j + 1) - nI i := by
  rw [← nI_add]
  have e : Int32.ofInt 1 = nI 1 := rfl
  rw [e]
  generalize nI i = x
  generalize nI 1 = y
  generalize nI j = z
  grind
/-- the odd parts and the twos between -/
def odI (oa ob P Q tp tq : Nat) : Prop := Nat.Coprime oa ob ∧ oa % 2 = 1 ∧ ob % 2 = 1 ∧ oa * 2 ^ tp * Q = P * (ob * 2 ^ tq)
theorem od_rel {oa ob P Q tp tq i j : Nat} (h : odI oa ob P Q tp tq) (hij : i = 0 ∨ j = 0) : stI (oa * 2 ^ j) (ob * 2 ^ i) P Q (tp + i) (tq + j) := by
  obtain ⟨h1, h2, h3, h4⟩ := h
  have c1 : Nat.Coprime 2 ob := odd_cop (by omega)
  have c2 : Nat.Coprime 2 oa := odd_cop (by omega)
  refine ⟨?_, Nat.mul_pos (by omega) (Nat.pow_pos (by decide)), Nat.mul_pos (by omega) (Nat.pow_pos (by decide)), ?_⟩
  · rcases hij with rfl | rfl
    · rw [Nat.pow_zero, Nat.mul_one]; exact Nat.Coprime.mul_left h1 (Nat.Coprime.pow_left _ c1)
    · rw [Nat.pow_zero, Nat.mul_one]; exact Nat.Coprime.mul_right h1 (Nat.Coprime.pow_right _ c2.symm)
  · rw [Nat.pow_add, Nat.pow_add]
    have e : oa * 2 ^ j * Q * (2 ^ tp * 2 ^ i) = (oa * 2 ^ tp * Q) * (2 ^ j * 2 ^ i) := by grind
    rw [e, h4]; grind
theorem norm_up : ∀ (k a b : Nat), a - b < k → 1 ≤ b → b ≤ a → ∃ i, b * 2 ^ i ≤ a ∧ a < 2 * (b * 2 ^ i) := by
  intro k
  induction k with
  | zero => intro a b h; omega
  | succ k ih =>
    intro a b h h1 h2
    rcases Nat.lt_or_ge a (2 * b) with q | q
    · exact ⟨0, by omega, by omega⟩
    · obtain ⟨i, i1, i2⟩ := ih a (b * 2) (by omega) (by omega) (by omega)
      have e : b * 2 ^ (i + 1) = b * 2 * 2 ^ i := by rw [Nat.pow_succ, Nat.mul_comm (2 ^ i) 2, ← Nat.mul_assoc]
      exact ⟨i + 1, by rw [e]; exact i1, by rw [e]; exact i2⟩
theorem norm_dn : ∀ (k a b : Nat), b - a < k → 1 ≤ a → a < 2 * b → ∃ j, b ≤ a * 2 ^ j ∧ a * 2 ^ j < 2 * b := by
  intro k
  induction k with
  | zero => intro a b h; omega
  | succ k ih =>
    intro a b h h1 h2
    rcases Nat.lt_or_ge a b with q | q
    · obtain ⟨i, i1, i2⟩ := ih (a * 2) b (by omega) (by omega) (by omega)
      have e : a * 2 ^ (i + 1) = a * 2 * 2 ^ i := by rw [Nat.pow_succ, Nat.mul_comm (2 ^ i) 2, ← Nat.mul_assoc]
      exact ⟨i + 1, by rw [e]; exact i1, by rw [e]; exact i2⟩
    · exact ⟨0, by omega, by omega⟩
theorem od_ex {oa ob P Q tp tq : Nat} (h : odI oa ob P Q tp tq) : ∃ A B p q, stR A B P Q p q ∧ oa ≤ A ∧ ob ≤ B := by
  have ha : 1 ≤ oa := by have := h.2.1; omega
  have hb : 1 ≤ ob := by have := h.2.2.1; omega
  rcases Nat.lt_or_ge oa ob with q | q
  · obtain ⟨j, j1, j2⟩ := norm_dn _ oa ob (Nat.lt_succ_self _) ha (by omega)
    have hr := od_rel (i := 0) (j := j) h (Or.inl rfl)
    rw [Nat.pow_zero, Nat.mul_one] at hr
    exact ⟨_, _, _, _, ⟨hr, j1, j2⟩, Nat.le_mul_of_pos_right _ (Nat.pow_pos (by decide)), Nat.le_refl _⟩
  · obtain ⟨i, i1, i2⟩ := norm_up _ oa ob (Nat.lt_succ_self _) hb q
    have hr := od_rel (i := i) (j := 0) h (Or.inr rfl)
    rw [Nat.pow_zero, Nat.mul_one] at hr
    exact ⟨_, _, _, _, ⟨hr, i1, i2⟩, Nat.le_refl _, Nat.le_mul_of_pos_right _ (Nat.pow_pos (by decide))⟩
def stE (P Q ca cb : Nat) (oc st : Int64) (r : Int32) (ca2 cb2 : Nat) (oc2 st2 : Int64) : Prop :=
  ∃ A B p q, stR A B P Q p q ∧ ((A ≤ 1000000000000000 ∧ B ≤ 1000000000000000 ∧ r = nI 1 ∧ ca2 = A ∧ cb2 = B ∧ oc2 = oc + (lN p - lN q) ∧ st2 = st + lN 1) ∨ (¬ (A ≤ 1000000000000000 ∧ B ≤ 1000000000000000) ∧ r = nI 0 ∧ ca2 = ca ∧ cb2 = cb ∧ oc2 = oc ∧ st2 = st))
theorem od_no {oa ob P Q tp tq ca cb : Nat} {oc st : Int64} (h : odI oa ob P Q tp tq) (h2 : ¬ (oa ≤ 1000000000000000 ∧ ob ≤ 1000000000000000)) : stE P Q ca cb oc st (nI 0) ca cb oc st := by
  obtain ⟨A, B, p, q, hR, h3, h4⟩ := od_ex h
  exact ⟨A, B, p, q, hR, Or.inr ⟨fun z => h2 ⟨by omega, by omega⟩, rfl, rfl, rfl, rfl, rfl⟩⟩
theorem st_begin2 {ca cb a b : Nat} (h : Nat.Coprime ca cb) (h1 : 1 ≤ ca) (h2 : 1 ≤ cb) (hab : Nat.Coprime a b) (hx : 1 ≤ a) (hy : 1 ≤ b) :
    stI (ca / Nat.gcd ca b * (a / Nat.gcd a cb)) (cb / Nat.gcd a cb * (b / Nat.gcd ca b)) (ca * a) (cb * b) 0 0 := by
  have := st_begin h h1 h2 hx hy
  rw [show Nat.gcd a b = 1 from hab, Nat.div_one, Nat.div_one] at this
  exact this
theorem od_of {u v w z t1 t2 t3 t4 P Q : Nat} (h : stI (u * v) (w * z) P Q 0 0) (d1 : u % 2 ^ t1 = 0) (o1 : u / 2 ^ t1 % 2 = 1) (d2 : v % 2 ^ t2 = 0) (o2 : v / 2 ^ t2 % 2 = 1) (d3 : w % 2 ^ t3 = 0) (o3 : w / 2 ^ t3 % 2 = 1) (d4 : z % 2 ^ t4 = 0) (o4 : z / 2 ^ t4 % 2 = 1) :
    odI (u / 2 ^ t1 * (v / 2 ^ t2)) (w / 2 ^ t3 * (z / 2 ^ t4)) P Q (t1 + t2) (t3 + t4) := by
  obtain ⟨h1, -, -, h4⟩ := h
  rw [Nat.pow_zero, Nat.mul_one, Nat.mul_one] at h4
  have e1 := tw_eq d1
  have e2 := tw_eq d2
  have e3 := tw_eq d3
  have e4 := tw_eq d4
  have k1 : u / 2 ^ t1 * (v / 2 ^ t2) ∣ u * v := Nat.mul_dvd_mul ⟨2 ^ t1, e1.symm⟩ ⟨2 ^ t2, e2.symm⟩
  have k2 : w / 2 ^ t3 * (z / 2 ^ t4) ∣ w * z := Nat.mul_dvd_mul ⟨2 ^ t3, e3.symm⟩ ⟨2 ^ t4, e4.symm⟩
  refine ⟨Nat.Coprime.coprime_dvd_left k1 (Nat.Coprime.symm (Nat.Coprime.coprime_dvd_left k2 h1.symm)), by rw [Nat.mul_mod, o1, o2], by rw [Nat.mul_mod, o3, o4], ?_⟩
  rw [Nat.pow_add, Nat.pow_add]
  generalize u / 2 ^ t1 = a1 at *
  generalize v / 2 ^ t2 = a2 at *
  generalize w / 2 ^ t3 = a3 at *
  generalize z / 2 ^ t4 = a4 at *
  have f1 : a1 * a2 * (2 ^ t1 * 2 ^ t2) = u * v := by rw [← e1, ← e2]; grind
  have f2 : a3 * a4 * (2 ^ t3 * 2 ^ t4) = w * z := by rw [← e3, ← e4]; grind
  rw [f1, f2]
  exact h4
theorem st_scale {A B ca cb a b p q : Nat} (d : Nat) (h : stR A B (ca * a) (cb * b) p q) : stR A B (ca * (a * d)) (cb * (b * d)) p q := by
  refine ⟨⟨h.1.1, h.1.2.1, h.1.2.2.1, ?_⟩, h.2⟩
  have e := congrArg (· * d) h.1.2.2.2
  have e1 : A * (cb * (b * d)) * 2 ^ p = A * (cb * b) * 2 ^ p * d := by grind
  have e2 : ca * (a * d) * B * 2 ^ q = ca * a * B * 2 ^ q * d := by grind
  rw [e1, e2]; exact e
theorem stE_D {ca cb x y : Nat} {oc st : Int64} {r : Int32} {c2 d2 : Nat} {o2 s2 : Int64} (hx : 1 ≤ x) (h : stE (ca * (x / Nat.gcd x y)) (cb * (y / Nat.gcd x y)) ca cb oc st r c2 d2 o2 s2) : stD ca cb x y oc st r c2 d2 o2 s2 := by
  obtain ⟨A, B, p, q, hR, h⟩ := h
  have := st_scale (Nat.gcd x y) hR
  rw [Nat.div_mul_cancel (Nat.gcd_dvd_left x y), Nat.div_mul_cancel (Nat.gcd_dvd_right x y)] at this
  exact ⟨A, B, p, q, this, h⟩
