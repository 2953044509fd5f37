/-! ===== further plain facts ===== -/
theorem z_or14 {a b : Nat} (h : a < 16384) : nI a ||| nI (b * 16384) = nI (a + b * 16384) := by
  have e : nI a ||| nI (b * 16384) = nI (a ||| b * 16384) := by
    apply Int32.toBitVec_inj.mp
    show BitVec.ofNat 32 a ||| BitVec.ofNat 32 (b * 16384) = BitVec.ofNat 32 (a ||| b * 16384)
    exact (BitVec.ofNat_or ..).symm
  rw [e]
  congr 1
  have := Nat.two_pow_add_eq_or_of_lt (i := 14) h b
  rw [Nat.or_comm, Nat.mul_comm b 16384, show (16384 : Nat) = 2 ^ 14 from rfl, ← this]
  exact Nat.add_comm _ _
theorem half_digit (N k : Nat) : nI (N / 32768 ^ k % 32768 / 2) ||| nI (N / 32768 ^ (k + 1) % 2 * 16384) = nI (N / 2 / 32768 ^ k % 32768) := by
  have e1 : N / 32768 ^ (k + 1) = N / 32768 ^ k / 32768 := by rw [Nat.div_div_eq_div_mul, Nat.pow_succ]
  have e2 : N / 2 / 32768 ^ k = N / 32768 ^ k / 2 := by rw [Nat.div_div_eq_div_mul, Nat.mul_comm, ← Nat.div_div_eq_div_mul]
  rw [e1, e2]
  generalize N / 32768 ^ k = M
  rw [z_or14 (by omega)]
  congr 1
  omega
def toldL (N : Nat) : Int64 := if N ≤ 1000000000000000 then lN N else lN 1000000000000001
theorem told_step {N j v : Nat} (hj : 1 ≤ j) (h : v = N / 32768 ^ j ∨ (1000000000000000 < N / 32768 ^ j ∧ 1000000000000000 < v)) (hv : v ≤ 30517578125) : v * 32768 + N / 32768 ^ (j - 1) % 32768 = N / 32768 ^ (j - 1) := by
  have := e_top (N := N) hj
  omega
theorem told_big {N j v : Nat} (hj : 1 ≤ j) (h : v = N / 32768 ^ j ∨ (1000000000000000 < N / 32768 ^ j ∧ 1000000000000000 < v)) (hv : 30517578125 < v) : 1000000000000000 < N / 32768 ^ (j - 1) := by
  have := e_top (N := N) hj
  omega
def rootI (n k a w : Nat) : Prop := w ^ n * 2 ^ k ≤ a ^ n ∧ a ^ n < (w + 1) ^ n * 2 ^ k
theorem cmpI_pos {a b : Nat} (h : 0 < cmpI a b) : b < a := by
  unfold cmpI at h
  split at h
  · exact absurd h (by decide)
  · split at h
    · exact absurd h (by decide)
    · omega
theorem cmpI_npos {a b : Nat} (h : ¬ 0 < cmpI a b) : a ≤ b := by
  rcases Nat.lt_or_ge b a with h1 | h1
  · exact absurd (by rw [cmpI_gt h1]; decide) h
  · exact h1
theorem cmpI_nneg {a b : Nat} (h : 0 ≤ cmpI a b) : b ≤ a := by
  rcases Nat.lt_or_ge a b with h1 | h1
  · exact absurd h (by rw [cmpI_lt h1]; decide)
  · exact h1
theorem cmpI_neg {a b : Nat} (h : ¬ 0 ≤ cmpI a b) : a < b := by
  rcases Nat.lt_trichotomy a b with h1 | h1 | h1
  · exact h1
  · exact absurd (by rw [cmpI_eq h1]; decide) h
  · exact absurd (by rw [cmpI_gt h1]; decide) h
theorem cmpI_zero {a b : Nat} (h : cmpI a b = 0) : a = b := by
  rcases Nat.lt_trichotomy a b with h1 | h1 | h1
  · exact absurd h (by rw [cmpI_lt h1]; decide)
  · exact h1
  · exact absurd h (by rw [cmpI_gt h1]; decide)
theorem cmpI_nz {a b : Nat} (h : ¬ cmpI a b = 0) : a ≠ b := fun q => h (cmpI_eq q)
def inI (v a b : Int64) : Nat := if a ≤ v ∧ v ≤ b then 1 else 0
theorem inI_le (v a b : Int64) : inI v a b ≤ 1 := by unfold inI; split <;> omega
theorem inI_1 {v a b : Int64} (h1 : a ≤ v) (h2 : v ≤ b) : inI v a b = 1 := if_pos ⟨h1, h2⟩
theorem inI_a {v a b : Int64} (h : ¬ a ≤ v) : inI v a b = 0 := if_neg (fun q => h q.1)
theorem inI_b {v a b : Int64} (h : ¬ v ≤ b) : inI v a b = 0 := if_neg (fun q => h q.2)
def ptI (v : Int32) : Nat := inI v.toInt64 (lN 1) (lN 1000000)
def npI (k : Int32) (n : Nat) : Nat := 1 - inI k.toInt64 (lN 0) (lN (2 * n))
theorem own_le {o h : Nat} (ho : o ≤ 1000000) (hh : h ≤ 16) : o * 2 ^ h ≤ 65536000000 := by
  have h1 : 2 ^ h ≤ 2 ^ 16 := Nat.pow_le_pow_right (by decide) hh
  have := Nat.mul_le_mul ho h1
  omega
theorem root_0 {n k a : Nat} (hn : 1 ≤ n) : 0 ^ n * 2 ^ k ≤ a ^ n := by
  rw [Nat.zero_pow (by omega), Nat.zero_mul]; exact Nat.zero_le _
theorem root_top {n k a : Nat} (hn : 1 ≤ n) : a ^ n < (a + 1) ^ n * 2 ^ k :=
  Nat.lt_of_lt_of_le (Nat.pow_lt_pow_left (Nat.lt_succ_self a) (by omega)) (Nat.le_mul_of_pos_right _ (Nat.pow_pos (by decide)))
