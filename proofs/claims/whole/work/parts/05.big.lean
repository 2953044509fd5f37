/-! ===== whole numbers in digits of 26 bits ===== -/
def bigL (f : Nat → Int64) (u M : Nat) : Prop := ∀ j, j < u → f j = lN (M / 67108864 ^ j % 67108864)
def bigN (u M : Nat) : Prop := M < 67108864 ^ u ∧ (u = 0 ∨ 67108864 ^ (u - 1) ≤ M)
def bigM (f : Nat → Int64) (i u N g : Nat) : Prop := (∀ j, j < i → f j = lN (N * g / 67108864 ^ j % 67108864)) ∧ ∀ j, i ≤ j → j < u → f j = lN (N / 67108864 ^ j % 67108864)
def cmpI (a b : Nat) : Int32 := if a < b then -1 else if a = b then nI 0 else nI 1
theorem cmpI_lt {a b : Nat} (h : a < b) : cmpI a b = -1 := by unfold cmpI; rw [if_pos h]
theorem cmpI_gt {a b : Nat} (h : b < a) : cmpI a b = nI 1 := by unfold cmpI; rw [if_neg (by omega), if_neg (by omega)]
theorem cmpI_eq {a b : Nat} (h : a = b) : cmpI a b = nI 0 := by unfold cmpI; rw [if_neg (by omega), if_pos h]
theorem b_pos (i : Nat) : 0 < 67108864 ^ i := Nat.pow_pos (by decide)
theorem b_26 : (2 : Nat) ^ 26 = 67108864 := rfl
theorem bdiv (M i : Nat) : M / 67108864 ^ i / 2 ^ 26 = M / 67108864 ^ (i + 1) := by
  rw [b_26, Nat.div_div_eq_div_mul, Nat.pow_succ]
theorem b_zero {M i : Nat} (h : M / 67108864 ^ i ≤ 0) : M < 67108864 ^ i := by
  rcases Nat.lt_or_ge M (67108864 ^ i) with h1 | h1
  · exact h1
  · have := Nat.div_pos h1 (b_pos i)
    omega
theorem b_le {M i : Nat} (h : 0 < M / 67108864 ^ i) : 67108864 ^ i ≤ M := by
  rcases Nat.lt_or_ge M (67108864 ^ i) with h1 | h1
  · rw [Nat.div_eq_of_lt h1] at h; omega
  · exact h1
theorem b_split (N i : Nat) : N % 67108864 ^ (i + 1) = N % 67108864 ^ i + 67108864 ^ i * (N / 67108864 ^ i % 67108864) := by
  rw [Nat.pow_succ, Nat.mod_mul]
theorem b_step (N g i : Nat) : N / 67108864 ^ i % 67108864 * g + N % 67108864 ^ i * g / 67108864 ^ i = N % 67108864 ^ (i + 1) * g / 67108864 ^ i := by
  rw [b_split, Nat.add_mul, Nat.mul_assoc, Nat.add_mul_div_left _ _ (b_pos i), Nat.add_comm]
theorem b_low (N g i : Nat) : N % 67108864 ^ (i + 1) * g / 67108864 ^ i % 67108864 = N * g / 67108864 ^ i % 67108864 := by
  have e : N * g = N % 67108864 ^ (i + 1) * g + 67108864 ^ i * (67108864 * (N / 67108864 ^ (i + 1) * g)) := by
    have h := Nat.mod_add_div N (67108864 ^ (i + 1))
    calc N * g = (N % 67108864 ^ (i + 1) + 67108864 ^ (i + 1) * (N / 67108864 ^ (i + 1))) * g := by rw [h]
      _ = _ := by rw [Nat.add_mul, Nat.pow_succ]; simp only [Nat.mul_assoc]
  rw [e, Nat.add_mul_div_left _ _ (b_pos i), Nat.add_mul_mod_self_left]
theorem b_lt (N g i : Nat) (hg : g < 2 ^ 36) : N % 67108864 ^ (i + 1) * g / 67108864 ^ i < 2 ^ 62 := by
  rw [Nat.div_lt_iff_lt_mul (b_pos i)]
  have h1 : N % 67108864 ^ (i + 1) < 67108864 ^ (i + 1) := Nat.mod_lt _ (b_pos _)
  have h2 : N % 67108864 ^ (i + 1) * g ≤ N % 67108864 ^ (i + 1) * 2 ^ 36 := Nat.mul_le_mul_left _ (Nat.le_of_lt hg)
  have h3 : N % 67108864 ^ (i + 1) * 2 ^ 36 < 67108864 ^ (i + 1) * 2 ^ 36 := Nat.mul_lt_mul_of_pos_right h1 (by decide)
  have h4 : 67108864 ^ (i + 1) * 2 ^ 36 = 2 ^ 62 * 67108864 ^ i := by
    rw [Nat.pow_succ, Nat.mul_assoc, Nat.mul_comm]
  omega
theorem b_lt1 (N g i : Nat) (hg : g < 2 ^ 36) : N / 67108864 ^ i % 67108864 * g < 2 ^ 62 := by
  have h := b_lt N g i hg
  rw [← b_step] at h
  exact Nat.lt_of_le_of_lt (Nat.le_add_right _ _) h
theorem bigL_snoc {f : Nat → Int64} {i M : Nat} (h : bigL f i M) : bigL (vp_updL f i (lN (M / 67108864 ^ i % 67108864))) (i + 1) M := by
  intro j hj
  by_cases e : j = i
  · subst e; exact pk_uLs
  · rw [pk_uLn e]; exact h j (by omega)
theorem bigM_snoc {f : Nat → Int64} {i u N g : Nat} (h : bigM f i u N g) : bigM (vp_updL f i (lN (N * g / 67108864 ^ i % 67108864))) (i + 1) u N g := by
  refine ⟨fun j hj => ?_, fun j h1 h2 => ?_⟩
  · by_cases e : j = i
    · subst e; exact pk_uLs
    · rw [pk_uLn e]; exact h.1 j (by omega)
  · rw [pk_uLn (by omega)]; exact h.2 j (by omega) h2
theorem bigN_prod {u N g : Nat} (h : bigN u N) (hg : 1 ≤ g) : u = 0 ∨ 67108864 ^ (u - 1) ≤ N * g := by
  rcases h.2 with h1 | h1
  · exact Or.inl h1
  · exact Or.inr (Nat.le_trans h1 (Nat.le_mul_of_pos_right _ hg))
theorem bigN_carry {u N g : Nat} (h : bigN u N) (hg : g < 2 ^ 36) : N * g / 67108864 ^ u < 2 ^ 63 := by
  rw [Nat.div_lt_iff_lt_mul (b_pos u)]
  have h2 : N * g ≤ N * 2 ^ 36 := Nat.mul_le_mul_left _ (Nat.le_of_lt hg)
  have h3 : N * 2 ^ 36 < 67108864 ^ u * 2 ^ 36 := Nat.mul_lt_mul_of_pos_right h.1 (by decide)
  have h4 : 67108864 ^ u * 2 ^ 36 ≤ 2 ^ 63 * 67108864 ^ u := by rw [Nat.mul_comm]; exact Nat.mul_le_mul_right _ (by decide)
  omega
theorem bigN_lt {u v N K : Nat} (h1 : bigN u N) (h2 : bigN v K) (h : u < v) : N < K := by
  rcases h2.2 with h3 | h3
  · omega
  · exact Nat.lt_of_lt_of_le h1.1 (Nat.le_trans (Nat.pow_le_pow_right (by decide) (by omega)) h3)
theorem bigN_pos {u N : Nat} (h : bigN u N) (h1 : 1 ≤ N) : 1 ≤ u := by
  rcases Nat.eq_zero_or_pos u with h2 | h2
  · subst h2; have := h.1; simp at this; omega
  · exact h2
theorem b_top {N i : Nat} (hi : 1 ≤ i) : N / 67108864 ^ (i - 1) = 67108864 * (N / 67108864 ^ i) + N / 67108864 ^ (i - 1) % 67108864 := by
  obtain ⟨k, rfl⟩ : ∃ k, i = k + 1 := ⟨i - 1, by omega⟩
  have e : N / 67108864 ^ (k + 1) = N / 67108864 ^ k / 67108864 := by
    rw [Nat.div_div_eq_div_mul, Nat.pow_succ]
  rw [Nat.add_sub_cancel, e]; exact (Nat.div_add_mod _ _).symm
theorem b_cmp {N K i : Nat} (h : N / 67108864 ^ i < K / 67108864 ^ i) : N < K := by
  rcases Nat.lt_or_ge N K with h1 | h1
  · exact h1
  · have := Nat.div_le_div_right (c := 67108864 ^ i) h1
    omega
theorem z_min (a b : Nat) (ha : a < 2 ^ 31) (hb : b < 2 ^ 31) : (if nI b < nI a then nI b else nI a) = nI (min a b) := by
  by_cases h : b < a
  · rw [if_pos (nI_lt h ha), Nat.min_eq_right (by omega)]
  · rw [if_neg (fun q => h ((nI_ltI hb ha).mp q)), Nat.min_eq_left (by omega)]
theorem z_max (a b : Nat) (ha : a < 2 ^ 31) (hb : b < 2 ^ 31) : (if nI a < nI b then nI b else nI a) = nI (max a b) := by
  by_cases h : a < b
  · rw [if_pos (nI_lt h hb), Nat.max_eq_right (by omega)]
  · rw [if_neg (fun q => h ((nI_ltI ha hb).mp q)), Nat.max_eq_left (by omega)]
