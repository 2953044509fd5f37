theorem f_1040 : (67108864 : Nat) ^ 40 = 2 ^ 1040 := by rw [show (67108864 : Nat) = 2 ^ 26 from rfl, ← Nat.pow_mul]
theorem f_bound {b n k B : Nat} (hb : b < 2 ^ B) (h : B * n + k < 1040) : b ^ n * 2 ^ k < 67108864 ^ 40 := by
  rw [f_1040]
  have h1 : b ^ n ≤ (2 ^ B) ^ n := Nat.pow_le_pow_left (Nat.le_of_lt hb) n
  rw [← Nat.pow_mul] at h1
  have h2 : b ^ n * 2 ^ k ≤ 2 ^ (B * n) * 2 ^ k := Nat.mul_le_mul_right _ h1
  rw [← Nat.pow_add] at h2
  exact Nat.lt_of_le_of_lt h2 (Nat.pow_lt_pow_right (by decide) h)
theorem f_bound0 {b n B : Nat} (hb : b < 2 ^ B) (h : B * n < 1040) : b ^ n < 67108864 ^ 40 := by
  have := f_bound (k := 0) hb h
  simpa using this
theorem cmpI_le0 {a b : Nat} (h : cmpI a b ≤ 0) : a ≤ b := by
  rcases Nat.lt_or_ge b a with h1 | h1
  · exact absurd h (by rw [cmpI_gt h1]; decide)
  · exact h1
theorem cmpI_nle0 {a b : Nat} (h : ¬ cmpI a b ≤ 0) : b < a := by
  rcases Nat.lt_trichotomy a b with h1 | h1 | h1
  · exact absurd (by rw [cmpI_lt h1]; decide) h
  · exact absurd (by rw [cmpI_eq h1]; decide) h
  · exact h1
theorem root_self {n a : Nat} (hn : 1 ≤ n) : rootI n 0 a a := by
  refine ⟨by rw [Nat.pow_zero, Nat.mul_one]; exact Nat.le_refl _, ?_⟩
  rw [Nat.pow_zero, Nat.mul_one]
  exact Nat.pow_lt_pow_left (Nat.lt_succ_self a) (by omega)
theorem root_le {n k a w : Nat} (hn : 1 ≤ n) (h : rootI n k a w) : w ≤ a := by
  rcases Nat.lt_or_ge a w with h1 | h1
  · have h2 : a ^ n < w ^ n := Nat.pow_lt_pow_left h1 (by omega)
    have h3 : w ^ n ≤ w ^ n * 2 ^ k := Nat.le_mul_of_pos_right _ (Nat.pow_pos (by decide))
    have := h.1
    omega
  · exact h1
theorem root_oct {n j a w : Nat} (o : Nat) (h : rootI n j a w) : rootI n (j + o * n) a (w / 2 ^ o) := by
  have e : ∀ x, x ^ n * 2 ^ (j + o * n) = (x * 2 ^ o) ^ n * 2 ^ j := by
    intro x
    rw [Nat.mul_pow, ← Nat.pow_mul, Nat.pow_add, Nat.mul_assoc, Nat.mul_comm (2 ^ j)]
  have hp : 0 < 2 ^ o := Nat.pow_pos (by decide)
  refine ⟨?_, ?_⟩
  · rw [e]
    exact Nat.le_trans (Nat.mul_le_mul_right _ (Nat.pow_le_pow_left (Nat.div_mul_le_self w _) n)) h.1
  · rw [e]
    refine Nat.lt_of_lt_of_le h.2 (Nat.mul_le_mul_right _ (Nat.pow_le_pow_left ?_ n))
    have := Nat.div_add_mod w (2 ^ o)
    have h2 := Nat.mod_lt w hp
    rw [Nat.add_mul, Nat.one_mul, Nat.mul_comm]
    omega
/-- there is but one such number -/
theorem root_one {n k a w v : Nat} (h : rootI n k a w) (h2 : rootI n k a v) : w = v := by
  have key : ∀ {w v : Nat}, rootI n k a w → rootI n k a v → w ≤ v := by
    intro w v h h2
    rcases Nat.lt_or_ge v w with h3 | h3
    · have h4 : (v + 1) ^ n ≤ w ^ n := Nat.pow_le_pow_left h3 n
      have h5 := Nat.mul_le_mul_right (2 ^ k) h4
      have := h.1; have := h2.2
      omega
    · exact h3
  exact Nat.le_antisymm (key h h2) (key h2 h)
theorem ge_end {lo hi : Nat} (h : (hi - lo - 1) * 2 ^ (64 - 2) ≤ 2 ^ 37) : hi - lo ≤ 1 := by
  rcases Nat.lt_or_ge 1 (hi - lo) with h1 | h1
  · have h2 : 1 * 2 ^ (64 - 2) ≤ (hi - lo - 1) * 2 ^ (64 - 2) := Nat.mul_le_mul_right _ (by omega)
    have h3 : (2 : Nat) ^ 37 < 1 * 2 ^ (64 - 2) := by decide
    omega
  · exact h1
theorem ge_step {lo hi q i : Nat} (hm : (hi - lo - 1) * 2 ^ (i - 2) ≤ 2 ^ 37) (h1 : lo < q) (h2 : q < hi) (h3 : 2 ≤ i → q = lo + (hi - lo) / 2) : (hi - q - 1) * 2 ^ (i + 1 - 2) ≤ 2 ^ 37 ∧ (q - lo - 1) * 2 ^ (i + 1 - 2) ≤ 2 ^ 37 := by
  rcases Nat.lt_or_ge i 2 with h | h
  · have e1 : i - 2 = 0 := by omega
    have e2 : i + 1 - 2 = 0 := by omega
    rw [e1, Nat.pow_zero, Nat.mul_one] at hm
    rw [e2, Nat.pow_zero, Nat.mul_one, Nat.mul_one]
    omega
  · have h4 := h3 h
    have e2 : i + 1 - 2 = i - 2 + 1 := by omega
    rw [e2, Nat.pow_succ]
    have a1 : (hi - q - 1) * 2 ≤ hi - lo - 1 := by omega
    have a2 : (q - lo - 1) * 2 ≤ hi - lo - 1 := by omega
    have b1 := Nat.mul_le_mul_right (2 ^ (i - 2)) a1
    have b2 := Nat.mul_le_mul_right (2 ^ (i - 2)) a2
    rw [Nat.mul_assoc, Nat.mul_comm 2] at b1 b2
    omega
def cacheOK (f : Nat → Int64) (n a : Nat) : Prop := ∀ j, j < n → f j = -1 ∨ ∃ w, f j = lN w ∧ rootI n j a w
theorem cache_upd {f : Nat → Int64} {n a j w : Nat} (h : cacheOK f n a) (hw : rootI n j a w) : cacheOK (vp_updL f j (lN w)) n a := by
  intro i hi
  by_cases e : i = j
  · subst e; exact Or.inr ⟨w, pk_uLs, hw⟩
  · rw [pk_uLn e]; exact h i hi
def emI (k n w a : Nat) : Nat := if k = octI k n * n ∧ w * 2 ^ octI k n = a then 1 else 0
theorem emI_le (k n w a : Nat) : emI k n w a ≤ 1 := by unfold emI; split <;> omega
theorem em_4 {w a k n : Nat} (h : w ≤ a) : w * 2 ^ octI k n ≤ a * 4 := by
  have h1 : 2 ^ octI k n ≤ 2 ^ 2 := Nat.pow_le_pow_right (by decide) (octI_le k n)
  exact Nat.mul_le_mul h h1
theorem past_bound {x y n k : Nat} (h : y ^ n * 2 ^ k ≤ x ^ n) (hx : x < 2 ^ 20) (hn : n ≤ 24) : y ^ (2 * n) * 2 ^ (2 * k + 1) < 67108864 ^ 40 := by
  have e : y ^ (2 * n) * 2 ^ (2 * k + 1) = (y ^ n * 2 ^ k) * (y ^ n * 2 ^ k) * 2 := by
    rw [Nat.pow_succ, Nat.mul_comm 2 n, Nat.mul_comm 2 k, Nat.pow_mul, Nat.pow_mul, Nat.pow_two, Nat.pow_two]; grind
  have h1 := Nat.mul_le_mul h h
  have h2 : x ^ n * x ^ n * 2 = x ^ (n + n) * 2 ^ 1 := by rw [Nat.pow_add, Nat.pow_one]
  have h3 := f_bound (b := x) (n := n + n) (k := 1) hx (by omega)
  rw [e]
  omega
