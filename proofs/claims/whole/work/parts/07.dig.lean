/-! ===== the reference's numbers: two of 76 digits of 15 bits in one row ===== -/
def modP (g : Nat → Int32) (x k N : Nat) : Prop := ∀ j, j < k → g (76 * x + j) = nI (N / 32768 ^ j % 32768)
def modL (g : Nat → Int32) (x N : Nat) : Prop := modP g x 76 N
def modR (g : Nat → Int32) (x k N : Nat) : Prop := ∀ j, k ≤ j → j < 76 → g (76 * x + j) = nI (N / 32768 ^ j % 32768)
def modF (g0 g : Nat → Int32) (x : Nat) : Prop := ∀ j, (j < 76 * x ∨ 76 * x + 76 ≤ j) → g j = g0 j
theorem modF_rf (g : Nat → Int32) (x : Nat) : modF g g x := fun _ _ => rfl
theorem modF_tr {g g1 g2 : Nat → Int32} {x : Nat} (h1 : modF g g1 x) (h2 : modF g1 g2 x) : modF g g2 x := fun j hj => (h2 j hj).trans (h1 j hj)
theorem modL_keep {g0 g : Nat → Int32} {x y N : Nat} (h : modF g0 g x) (hxy : x ≠ y) (hL : modL g0 y N) : modL g y N := by
  intro j hj
  rw [h _ (by rcases Nat.lt_or_gt_of_ne hxy with q | q <;> omega)]
  exact hL j hj
theorem modP_snoc {g : Nat → Int32} {x k N : Nat} (h : modP g x k N) : modP (upd g (76 * x + k) (nI (N / 32768 ^ k % 32768))) x (k + 1) N := by
  intro j hj
  by_cases e : j = k
  · subst e; exact pk_us
  · rw [pk_un (by omega)]; exact h j (by omega)
theorem modR_snoc {g : Nat → Int32} {x k N : Nat} {v : Int32} (h : modR g x k N) : modR (upd g (76 * x + k) v) x (k + 1) N := by
  intro j h1 h2
  rw [pk_un (by omega)]; exact h j (by omega) h2
theorem modF_upd {g0 g : Nat → Int32} {x k : Nat} {v : Int32} (h : modF g0 g x) (hk : k < 76) : modF g0 (upd g (76 * x + k) v) x := by
  intro j hj
  rw [pk_un (by omega)]; exact h j hj
theorem modL_R {g : Nat → Int32} {x N : Nat} (h : modL g x N) : modR g x 0 N := fun j _ h2 => h j h2
theorem e_pos (i : Nat) : 0 < 32768 ^ i := Nat.pow_pos (by decide)
theorem z_and15 (a : Nat) : nI a &&& nI 32767 = nI (a % 32768) := by
  apply Int32.toBitVec_inj.mp
  apply BitVec.eq_of_toNat_eq
  show ((BitVec.ofNat 32 a) &&& (BitVec.ofNat 32 32767)).toNat = (BitVec.ofNat 32 (a % 32768)).toNat
  rw [BitVec.toNat_and, BitVec.toNat_ofNat, BitVec.toNat_ofNat, BitVec.toNat_ofNat]
  have h2 := Nat.and_two_pow_sub_one_eq_mod (a % 2 ^ 32) 15
  rw [show (32767 % 2 ^ 32 : Nat) = 2 ^ 15 - 1 from rfl, h2]
  omega
theorem z_and15l {a : Nat} (h : a < 2 ^ 64) : lN a &&& lN 32767 = lN (a % 32768) := by
  apply Int64.toBitVec_inj.mp
  apply BitVec.eq_of_toNat_eq
  show ((BitVec.ofNat 64 a) &&& (BitVec.ofNat 64 32767)).toNat = (BitVec.ofNat 64 (a % 32768)).toNat
  rw [BitVec.toNat_and, BitVec.toNat_ofNat, BitVec.toNat_ofNat, BitVec.toNat_ofNat, Nat.mod_eq_of_lt h]
  have h2 := Nat.and_two_pow_sub_one_eq_mod a 15
  rw [show (32767 % 2 ^ 64 : Nat) = 2 ^ 15 - 1 from rfl, h2]
  have h3 : a % 32768 < 32768 := Nat.mod_lt _ (by decide)
  rw [Nat.mod_eq_of_lt (a := a % 32768) (by omega)]
theorem z_and1 (a : Nat) : nI a &&& nI 1 = nI (a % 2) := by
  apply Int32.toBitVec_inj.mp
  apply BitVec.eq_of_toNat_eq
  show ((BitVec.ofNat 32 a) &&& (BitVec.ofNat 32 1)).toNat = (BitVec.ofNat 32 (a % 2)).toNat
  rw [BitVec.toNat_and, BitVec.toNat_ofNat, BitVec.toNat_ofNat, BitVec.toNat_ofNat]
  have h2 := Nat.and_two_pow_sub_one_eq_mod (a % 2 ^ 32) 1
  rw [show (1 % 2 ^ 32 : Nat) = 2 ^ 1 - 1 from rfl, h2]
  omega
theorem set_pow (k : Nat) : (2 : Nat) ^ (15 * k) = 32768 ^ k := by rw [Nat.pow_mul]
theorem set_digit (v k : Nat) : nI (v / 2 ^ (15 * k)) &&& nI 32767 = nI (v / 32768 ^ k % 32768) := by rw [z_and15, set_pow]
theorem set_zero {v k : Nat} (h : v < 2 ^ 63) (hk : 5 ≤ k) : nI 0 = nI (v / 32768 ^ k % 32768) := by
  have h1 : (32768 : Nat) ^ 5 ≤ 32768 ^ k := Nat.pow_le_pow_right (by decide) hk
  rw [Nat.div_eq_of_lt (Nat.lt_of_lt_of_le (Nat.lt_trans h (by decide)) h1)]
theorem t_bound {v l o m t h c : Nat} (hv : v < 32768) (hl : l < 32768) (ho : o < 32768) (hm : m < 32768) (ht : t < 32768) (hh : h < 32768) (hc : c < 2 ^ 18) : v * l + o * m + t * h + c < 2 ^ 32 := by
  have h1 : v * l ≤ 32767 * 32767 := Nat.mul_le_mul (by omega) (by omega)
  have h2 : o * m ≤ 32767 * 32767 := Nat.mul_le_mul (by omega) (by omega)
  have h3 : t * h ≤ 32767 * 32767 := Nat.mul_le_mul (by omega) (by omega)
  omega
theorem t_split (f : Nat) : f = f % 32768 + 32768 * (f / 32768 % 32768) + 32768 * 32768 * (f / 1073741824) := by omega
/-- one digit on -/
theorem t_step {f N k c o t q : Nat} (hE : f * (N % 32768 ^ k) = N * f % 32768 ^ k + 32768 ^ k * (c + f / 32768 % 32768 * o + f / 1073741824 * t) + 32768 ^ (k + 1) * (f / 1073741824 * o))
    (hq : q = N / 32768 ^ k % 32768 * (f % 32768) + o * (f / 32768 % 32768) + t * (f / 1073741824) + c) :
    q % 32768 = N * f / 32768 ^ k % 32768 ∧ f * (N % 32768 ^ (k + 1)) = N * f % 32768 ^ (k + 1) + 32768 ^ (k + 1) * (q / 32768 + f / 32768 % 32768 * (N / 32768 ^ k % 32768) + f / 1073741824 * o) + 32768 ^ (k + 1 + 1) * (f / 1073741824 * (N / 32768 ^ k % 32768)) := by
  have hX := e_pos k
  have hs := t_split f
  have hN : N % 32768 ^ (k + 1) = N % 32768 ^ k + 32768 ^ k * (N / 32768 ^ k % 32768) := by rw [Nat.pow_succ, Nat.mod_mul]
  have hR : N * f % 32768 ^ (k + 1) = N * f % 32768 ^ k + 32768 ^ k * (N * f / 32768 ^ k % 32768) := by rw [Nat.pow_succ, Nat.mod_mul]
  have hdm := Nat.div_add_mod q 32768
  have hRlt : N * f % 32768 ^ k < 32768 ^ k := Nat.mod_lt _ hX
  have hmod : f * (N % 32768 ^ (k + 1)) % 32768 ^ (k + 1) = N * f % 32768 ^ (k + 1) := by
    rw [Nat.mul_mod, Nat.mod_mod, ← Nat.mul_mod, Nat.mul_comm]
  rw [Nat.pow_succ] at hE
  generalize hX' : 32768 ^ k = X at *
  have eX : (32768 : Nat) ^ (k + 1) = X * 32768 := by rw [Nat.pow_succ, hX']
  have eXX : (32768 : Nat) ^ (k + 1 + 1) = X * 32768 * 32768 := by rw [Nat.pow_succ, eX]
  rw [eX] at hN hR hmod ⊢
  rw [eXX]
  generalize f % 32768 = l at *
  generalize f / 32768 % 32768 = m at *
  generalize f / 1073741824 = h at *
  generalize N / X % 32768 = v at *
  generalize N % X = a at *
  generalize N * f % X = R at *
  generalize N * f / X % 32768 = e at *
  generalize q / 32768 = q1 at *
  generalize hq0 : q % 32768 = q0 at *
  have hq0' : q0 < 32768 := by rw [← hq0]; exact Nat.mod_lt _ (by decide)
  have key : f * (N % (X * 32768)) = (R + X * q0) + X * 32768 * (q1 + m * v + h * o + 32768 * (h * v)) := by
    rw [hN, Nat.mul_add, hE]
    have h1 : f * (X * v) = X * (l * v) + X * 32768 * (m * v) + X * 32768 * 32768 * (h * v) := by
      rw [hs]; grind
    rw [h1]
    have h2 : X * q = X * (32768 * q1) + X * q0 := by rw [← hdm]; grind
    rw [hq] at h2
    grind
  have hlt : R + X * q0 < X * 32768 := by
    have := Nat.mul_le_mul_left X (show q0 ≤ 32767 by omega)
    omega
  have e1 : R + X * q0 = R + X * e := by
    rw [key, Nat.add_mul_mod_self_left, Nat.mod_eq_of_lt hlt, hR] at hmod
    exact hmod
  have e2 : q0 = e := Nat.eq_of_mul_eq_mul_left hX (by omega)
  refine ⟨e2, ?_⟩
  rw [key, hR, e2]
  grind
theorem t_init (f N : Nat) : f * (N % 32768 ^ 0) = N * f % 32768 ^ 0 + 32768 ^ 0 * (0 + f / 32768 % 32768 * 0 + f / 1073741824 * 0) + 32768 ^ (0 + 1) * (f / 1073741824 * 0) := by
  simp [Nat.mod_one]
theorem e_top {N i : Nat} (hi : 1 ≤ i) : N / 32768 ^ (i - 1) = 32768 * (N / 32768 ^ i) + N / 32768 ^ (i - 1) % 32768 := by
  obtain ⟨k, rfl⟩ : ∃ k, i = k + 1 := ⟨i - 1, by omega⟩
  have e : N / 32768 ^ (k + 1) = N / 32768 ^ k / 32768 := by
    rw [Nat.div_div_eq_div_mul, Nat.pow_succ]
  rw [Nat.add_sub_cancel, e]; exact (Nat.div_add_mod _ _).symm
theorem e_cmp {N K i : Nat} (h : N / 32768 ^ i < K / 32768 ^ i) : N < K := by
  rcases Nat.lt_or_ge N K with h1 | h1
  · exact h1
  · have := Nat.div_le_div_right (c := 32768 ^ i) h1
    omega
theorem z_sub0 {a b : Nat} (ha : a < 2 ^ 30) (hb : b < 2 ^ 30) (h : nI a - nI b = 0) : a = b := by
  have := pk_sub_toInt ha hb
  rw [h] at this
  simp at this
  omega
theorem z_subn {a b : Nat} (ha : a < 2 ^ 30) (hb : b < 2 ^ 30) (h : ¬ nI a - nI b = 0) : a ≠ b := by
  intro q; subst q; exact h (Int32.sub_self _)
theorem z_subge {a b : Nat} (ha : a < 2 ^ 30) (hb : b < 2 ^ 30) (h : 0 ≤ nI a - nI b) : b ≤ a := by
  have := pk_sub_toInt ha hb
  rw [Int32.le_iff_toInt_le, this] at h
  simp at h
  omega
theorem z_sublt {a b : Nat} (ha : a < 2 ^ 30) (hb : b < 2 ^ 30) (h : ¬ 0 ≤ nI a - nI b) : a < b := by
  have := pk_sub_toInt ha hb
  rw [Int32.le_iff_toInt_le, this] at h
  simp at h
  omega
theorem e_1140 : (32768 : Nat) ^ 76 = 2 ^ 1140 := by rw [show (32768 : Nat) = 2 ^ 15 from rfl, ← Nat.pow_mul]
theorem e_bound {b n k B : Nat} (hb : b < 2 ^ B) (h : B * n + k < 1140) : b ^ n * 2 ^ k < 32768 ^ 76 := by
  rw [e_1140]
  have h1 : b ^ n ≤ (2 ^ B) ^ n := Nat.pow_le_pow_left (Nat.le_of_lt hb) n
  rw [← Nat.pow_mul] at h1
  have h2 : b ^ n * 2 ^ k ≤ 2 ^ (B * n) * 2 ^ k := Nat.mul_le_mul_right _ h1
  rw [← Nat.pow_add] at h2
  exact Nat.lt_of_le_of_lt h2 (Nat.pow_lt_pow_right (by decide) h)
theorem e_bound0 {b n B : Nat} (hb : b < 2 ^ B) (h : B * n < 1140) : b ^ n < 32768 ^ 76 := by
  have := e_bound (k := 0) hb h
  simpa using this
