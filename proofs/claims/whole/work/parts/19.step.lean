/-! ===== a step of the chain ===== -/
/-- A / B * 2 ^ p = P / Q * 2 ^ q, in lowest terms -/
def stI (A B P Q p q : Nat) : Prop := Nat.Coprime A B ∧ 1 ≤ A ∧ 1 ≤ B ∧ A * Q * 2 ^ p = P * B * 2 ^ q
def stR (A B P Q p q : Nat) : Prop := stI A B P Q p q ∧ B ≤ A ∧ A < 2 * B
theorem st_one {A B C E P Q p q r s : Nat} (hP : 1 ≤ P) (hQ : 1 ≤ Q) (h1 : stR A B P Q p q) (h2 : stR C E P Q r s) : A = C ∧ B = E ∧ p + s = r + q := by
  obtain ⟨⟨a1, a2, a3, a4⟩, a5, a6⟩ := h1
  obtain ⟨⟨b1, b2, b3, b4⟩, b5, b6⟩ := h2
  have key : A * E * 2 ^ (p + s) = C * B * 2 ^ (r + q) := by
    have e1 : (A * Q * 2 ^ p) * (P * E * 2 ^ s) = (P * B * 2 ^ q) * (C * Q * 2 ^ r) := by rw [a4, b4]
    have e2 : (P * Q) * (A * E * 2 ^ (p + s)) = (P * Q) * (C * B * 2 ^ (r + q)) := by
      rw [Nat.pow_add, Nat.pow_add]; grind
    exact Nat.eq_of_mul_eq_mul_left (Nat.mul_pos hP hQ) e2
  have hd : p + s = r + q := by
    have step : ∀ {A B C E u v : Nat}, B ≤ A → C < 2 * E → 1 ≤ B → A * E * 2 ^ u = C * B * 2 ^ v → u ≤ v := by
      intro A B C E u v h1 h2 h4 h3
      rcases Nat.lt_or_ge v u with h | h
      · exfalso
        have e1 : A * E * 2 ^ u = A * E * 2 ^ (u - v) * 2 ^ v := by rw [Nat.mul_assoc (A * E) (2 ^ (u - v)) (2 ^ v), ← Nat.pow_add, Nat.sub_add_cancel (by omega)]
        rw [e1] at h3
        have h5 := Nat.eq_of_mul_eq_mul_right (Nat.pow_pos (by decide)) h3
        have h6 : 2 ^ 1 ≤ 2 ^ (u - v) := Nat.pow_le_pow_right (by decide) (by omega)
        have h7 : A * E * 2 ^ 1 ≤ A * E * 2 ^ (u - v) := Nat.mul_le_mul_left _ h6
        have h8 : B * E ≤ A * E := Nat.mul_le_mul_right _ h1
        have h9 : C * B < 2 * E * B := Nat.mul_lt_mul_of_pos_right h2 h4
        have h10 : 2 * E * B = B * E * 2 := by grind
        omega
      · exact h
    have u1 := step a5 b6 a3 key
    have u2 := step b5 a6 b3 key.symm
    omega
  rw [hd] at key
  have key2 := Nat.eq_of_mul_eq_mul_right (Nat.pow_pos (by decide)) key
  have d1 : A ∣ C := a1.dvd_of_dvd_mul_right ⟨E, key2.symm⟩
  have d2 : C ∣ A := b1.dvd_of_dvd_mul_right ⟨B, key2⟩
  have e1 : A = C := Nat.dvd_antisymm d1 d2
  subst e1
  have e2 : E = B := Nat.eq_of_mul_eq_mul_left a2 key2
  exact ⟨rfl, e2.symm, hd⟩
theorem odd_cop {B : Nat} (h : ¬ B % 2 = 0) : Nat.Coprime 2 B := by
  unfold Nat.Coprime
  rw [Nat.gcd_rec, show B % 2 = 1 by omega]
  exact Nat.gcd_one_left 2
theorem st_down {A B P Q p q : Nat} (h : stI A B P Q p q) (h2 : 2 * B ≤ A) : stI (if A % 2 = 0 then A / 2 else A) (if A % 2 = 0 then B else B * 2) P Q (p + 1) q := by
  obtain ⟨a1, a2, a3, a4⟩ := h
  by_cases e : A % 2 = 0
  · rw [if_pos e, if_pos e]
    have h3 : A / 2 * 2 = A := by omega
    refine ⟨a1.coprime_div_left ⟨A / 2, by omega⟩, by omega, a3, ?_⟩
    rw [← a4, Nat.pow_succ]
    conv => rhs; rw [← h3]
    grind
  · rw [if_neg e, if_neg e]
    refine ⟨Nat.Coprime.mul_right a1 (odd_cop e).symm, a2, by omega, ?_⟩
    rw [Nat.pow_succ]
    have := congrArg (· * 2) a4
    grind
theorem st_dec {A B : Nat} (h2 : 2 * B ≤ A) (h3 : 1 ≤ B) : (if A % 2 = 0 then A / 2 else A) - (if A % 2 = 0 then B else B * 2) < A - B := by
  by_cases e : A % 2 = 0
  · rw [if_pos e, if_pos e]; omega
  · rw [if_neg e, if_neg e]; omega
theorem st_ub {A B X Y : Nat} (h2 : 2 * B ≤ A) (hX : A < X) (hY : B < Y) (hXY : X ≤ Y) : (if A % 2 = 0 then A / 2 else A) < X ∧ (if A % 2 = 0 then B else B * 2) < Y := by
  by_cases e : A % 2 = 0
  · rw [if_pos e, if_pos e]; omega
  · rw [if_neg e, if_neg e]; omega
theorem st_halfB {A B P Q p q : Nat} (h : stI A B P Q p q) (e : B % 2 = 0) : stI A (B / 2) P Q p (q + 1) := by
  obtain ⟨a1, a2, a3, a4⟩ := h
  have h3 : B / 2 * 2 = B := by omega
  refine ⟨a1.coprime_div_right ⟨B / 2, by omega⟩, a2, by omega, ?_⟩
  rw [a4, Nat.pow_succ]
  conv => lhs; rw [← h3]
  grind
theorem st_twA {A B P Q p q : Nat} (h : stI A B P Q p q) (e : ¬ B % 2 = 0) : stI (A * 2) B P Q p (q + 1) := by
  obtain ⟨a1, a2, a3, a4⟩ := h
  refine ⟨Nat.Coprime.mul_left a1 (odd_cop e), by omega, a3, ?_⟩
  rw [Nat.pow_succ]
  have := congrArg (· * 2) a4
  grind
/-- the beginning: both fractions without common divisors -/
theorem st_begin {ca cb x y : Nat} (h : Nat.Coprime ca cb) (h1 : 1 ≤ ca) (h2 : 1 ≤ cb) (hx : 1 ≤ x) (hy : 1 ≤ y) :
    stI (ca / Nat.gcd ca (y / Nat.gcd x y) * (x / Nat.gcd x y / Nat.gcd (x / Nat.gcd x y) cb)) (cb / Nat.gcd (x / Nat.gcd x y) cb * (y / Nat.gcd x y / Nat.gcd ca (y / Nat.gcd x y))) (ca * x) (cb * y) 0 0 := by
  have hd := Nat.gcd_pos_of_pos_left y hx
  have hab : Nat.Coprime (x / Nat.gcd x y) (y / Nat.gcd x y) := Nat.coprime_div_gcd_div_gcd hd
  have ex : x / Nat.gcd x y * Nat.gcd x y = x := Nat.div_mul_cancel (Nat.gcd_dvd_left x y)
  have ey : y / Nat.gcd x y * Nat.gcd x y = y := Nat.div_mul_cancel (Nat.gcd_dvd_right x y)
  have ha1 : 1 ≤ x / Nat.gcd x y := gcd_div_pos hx
  have hb1 : 1 ≤ y / Nat.gcd x y := gcd_div_pos' hy
  generalize Nat.gcd x y = d at *
  generalize x / d = a at *
  generalize y / d = b at *
  have he := Nat.gcd_pos_of_pos_left b h1
  have hf := Nat.gcd_pos_of_pos_left cb ha1
  have c1 : Nat.Coprime (ca / Nat.gcd ca b) (b / Nat.gcd ca b) := Nat.coprime_div_gcd_div_gcd he
  have c2 : Nat.Coprime (a / Nat.gcd a cb) (cb / Nat.gcd a cb) := Nat.coprime_div_gcd_div_gcd hf
  have e1 : ca / Nat.gcd ca b * Nat.gcd ca b = ca := Nat.div_mul_cancel (Nat.gcd_dvd_left ca b)
  have e2 : b / Nat.gcd ca b * Nat.gcd ca b = b := Nat.div_mul_cancel (Nat.gcd_dvd_right ca b)
  have e3 : a / Nat.gcd a cb * Nat.gcd a cb = a := Nat.div_mul_cancel (Nat.gcd_dvd_left a cb)
  have e4 : cb / Nat.gcd a cb * Nat.gcd a cb = cb := Nat.div_mul_cancel (Nat.gcd_dvd_right a cb)
  have p1 : 1 ≤ ca / Nat.gcd ca b := gcd_div_pos h1
  have p2 : 1 ≤ b / Nat.gcd ca b := gcd_div_pos' hb1
  have p3 : 1 ≤ a / Nat.gcd a cb := gcd_div_pos ha1
  have p4 : 1 ≤ cb / Nat.gcd a cb := gcd_div_pos' h2
  have c3 : Nat.Coprime (ca / Nat.gcd ca b) (cb / Nat.gcd a cb) := (h.coprime_div_left (Nat.gcd_dvd_left ca b)).coprime_div_right (Nat.gcd_dvd_right a cb)
  have c4 : Nat.Coprime (a / Nat.gcd a cb) (b / Nat.gcd ca b) := (hab.coprime_div_left (Nat.gcd_dvd_left a cb)).coprime_div_right (Nat.gcd_dvd_right ca b)
  generalize Nat.gcd ca b = g at *
  generalize Nat.gcd a cb = k at *
  generalize ca / g = u at *
  generalize b / g = z at *
  generalize a / k = v at *
  generalize cb / k = w at *
  refine ⟨Nat.Coprime.mul_left (Nat.Coprime.mul_right c3 c1) (Nat.Coprime.mul_right c2 c4), Nat.mul_pos p1 p3, Nat.mul_pos p4 p2, ?_⟩
  rw [← ex, ← ey, ← e1, ← e4, ← e2, ← e3]
  grind
theorem told_gt {N : Nat} (h : lN 1000000000000000 < toldL N) : ¬ N ≤ 1000000000000000 := by
  intro q
  unfold toldL at h
  rw [if_pos q] at h
  have := zjl_lt (by decide) (by omega) h
  omega
theorem told_ngt {N : Nat} (h : ¬ lN 1000000000000000 < toldL N) : N ≤ 1000000000000000 := by
  rcases Nat.lt_or_ge 1000000000000000 N with q | q
  · exfalso; apply h; unfold toldL; rw [if_neg (by omega)]; exact (pk_lLT (by decide) (by decide)).mpr (by decide)
  · exact q
theorem told_le {N : Nat} (h : toldL N ≤ lN 1000000000000000) : N ≤ 1000000000000000 := told_ngt (fun q => absurd h (Int64.not_le.mpr q))
theorem told_nle {N : Nat} (h : ¬ toldL N ≤ lN 1000000000000000) : ¬ N ≤ 1000000000000000 := told_gt (Int64.not_le.mp h)
theorem told_eq {N : Nat} (h : N ≤ 1000000000000000) : toldL N = lN N := if_pos h
theorem lp_inc (p : Nat) : (lN p - lN 0) + lN 1 = lN (p + 1) - lN 0 := by
  rw [lN_sub (Nat.zero_le _), lN_sub (Nat.zero_le _), lN_add]; rfl
theorem lp_dec (p q : Nat) : (lN p - lN q) - lN 1 = lN p - lN (q + 1) := by
  rw [← lN_add]
  apply Int64.toBitVec_inj.mp
  simp only [Int64.toBitVec_sub, Int64.toBitVec_add]
  rw [BitVec.sub_sub]
/-- what a step does to the chain and what it answers -/
def stD (ca cb x y : Nat) (oc st : Int64) (r : Int32) (ca2 cb2 : Nat) (oc2 st2 : Int64) : Prop :=
  ∃ A B p q, stR A B (ca * x) (cb * y) p q ∧ ((A ≤ 1000000000000000 ∧ B ≤ 1000000000000000 ∧ r = nI 1 ∧ ca2 = A ∧ cb2 = B ∧ oc2 = oc + (lN p - lN q) ∧ st2 = st + lN 1) ∨ (¬ (A ≤ 1000000000000000 ∧ B ≤ 1000000000000000) ∧ r = nI 0 ∧ ca2 = ca ∧ cb2 = cb ∧ oc2 = oc ∧ st2 = st))
def chOK (ca cb : Nat) : Prop := Nat.Coprime ca cb ∧ 1 ≤ ca ∧ 1 ≤ cb ∧ ca ≤ 1000000000000000 ∧ cb ≤ 1000000000000000
theorem lp_diff {p q r s : Nat} (h : p + s = r + q) : lN p - lN q = lN r - lN s := by
  have e : lN p + lN s = lN r + lN q := by rw [lN_add, lN_add, h]
  have e2 := congrArg (fun z => z - lN q - lN s) e
  apply Int64.toBitVec_inj.mp
  have e3 := congrArg Int64.toBitVec e2
  simp only [Int64.toBitVec_sub, Int64.toBitVec_add] at e3 ⊢
  have f1 : ∀ a b c : BitVec 64, a + b - c - b = a - c := by intro a b c; rw [BitVec.sub_sub, BitVec.add_comm c b, ← BitVec.sub_sub, BitVec.add_sub_cancel]
  have f2 : ∀ a b c : BitVec 64, a + b - b - c = a - c := by intro a b c; rw [BitVec.add_sub_cancel]
  rw [f1, f2] at e3
  exact e3
theorem stD_one {ca cb x y : Nat} {oc st : Int64} {r1 r2 : Int32} {a1 b1 a2 b2 : Nat} {o1 s1 o2 s2 : Int64} (hP : 1 ≤ ca * x) (hQ : 1 ≤ cb * y) (h1 : stD ca cb x y oc st r1 a1 b1 o1 s1) (h2 : stD ca cb x y oc st r2 a2 b2 o2 s2) : r1 = r2 ∧ a1 = a2 ∧ b1 = b2 ∧ o1 = o2 ∧ s1 = s2 := by
  obtain ⟨A, B, p, q, hR, h1⟩ := h1
  obtain ⟨C, E, r, s, hR2, h2⟩ := h2
  obtain ⟨rfl, rfl, hd⟩ := st_one hP hQ hR hR2
  have hl := lp_diff hd
  rcases h1 with ⟨x1, x2, rfl, rfl, rfl, rfl, rfl⟩ | ⟨x1, rfl, rfl, rfl, rfl, rfl⟩ <;> rcases h2 with ⟨y1, y2, rfl, rfl, rfl, rfl, rfl⟩ | ⟨y1, rfl, rfl, rfl, rfl, rfl⟩
  · exact ⟨rfl, rfl, rfl, by rw [hl], rfl⟩
  · exact absurd ⟨x1, x2⟩ y1
  · exact absurd ⟨y1, y2⟩ x1
  · exact ⟨rfl, rfl, rfl, rfl, rfl⟩
theorem stD_ok {ca cb x y : Nat} {oc st : Int64} {r : Int32} {a b : Nat} {o s : Int64} (h0 : chOK ca cb) (h : stD ca cb x y oc st r a b o s) : chOK a b := by
  obtain ⟨A, B, p, q, hR, h⟩ := h
  rcases h with ⟨x1, x2, -, rfl, rfl, -, -⟩ | ⟨-, -, rfl, rfl, -, -⟩
  · exact ⟨hR.1.1, hR.1.2.1, hR.1.2.2.1, x1, x2⟩
  · exact h0
