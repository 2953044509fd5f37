def octI (k n : Nat) : Nat := if k < n then 0 else if k < 2 * n then 1 else 2
theorem octI_le (k n : Nat) : octI k n ≤ 2 := by unfold octI; split <;> (try split) <;> omega
theorem octI_0 {k n : Nat} (h : k < n) : octI k n = 0 := if_pos h
theorem octI_1 {k n : Nat} (h : n ≤ k) (h2 : k < 2 * n) : octI k n = 1 := by unfold octI; rw [if_neg (by omega), if_pos h2]
theorem octI_2 {k n : Nat} (h : n ≤ k) (h2 : 2 * n ≤ k) : octI k n = 2 := by unfold octI; rw [if_neg (by omega), if_neg (by omega)]
theorem octI_in {k n : Nat} (hn : 1 ≤ n) (hk : k ≤ 2 * n) : octI k n * n ≤ k ∧ k - octI k n * n < n := by
  rcases Nat.lt_or_ge k n with h | h
  · rw [octI_0 h]; omega
  · rcases Nat.lt_or_ge k (2 * n) with h2 | h2
    · rw [octI_1 h h2]; omega
    · rw [octI_2 h h2]; omega
theorem zl_lt_of {x : Int64} {a b : Nat} (ha : a < 2 ^ 63) (hb : b < 2 ^ 63) (h1 : ¬ x < lN a) (h2 : x < lN b) : ∃ k, x = lN k ∧ a ≤ k ∧ k < b := by
  have h0 : ¬ x < 0 := fun q => h1 (Int64.lt_of_lt_of_le q (by
    show lN 0 ≤ lN a
    exact (pk_lLE (by decide) ha).mpr (Nat.zero_le _)))
  obtain ⟨k, hk, rfl⟩ := pk_lOf h0
  exact ⟨k, rfl, zjl_nlt hk ha h1, zjl_lt hk hb h2⟩
/-- whatever is guessed, the probe lies between -/
theorem probe_in {lo hi : Nat} (x : Int64) (h : lo + 1 < hi) (hh : hi < 2 ^ 62) :
    ∃ q, (if (if x < lN (hi - 1) then x else lN (hi - 1)) < lN (lo + 1) then lN (lo + 1) else (if x < lN (hi - 1) then x else lN (hi - 1))) = lN q ∧ lo < q ∧ q < hi ∧ ∀ y, x = lN y → lo < y → y < hi → q = y := by
  by_cases h1 : x < lN (hi - 1)
  · rw [if_pos h1]
    by_cases h2 : x < lN (lo + 1)
    · rw [if_pos h2]
      exact ⟨lo + 1, rfl, by omega, by omega, fun y e h3 h4 => by
        rw [e] at h2
        have := zjl_lt (by omega) (by omega) h2
        omega⟩
    · rw [if_neg h2]
      obtain ⟨k, rfl, h3, h4⟩ := zl_lt_of (by omega) (by omega) h2 h1
      exact ⟨k, rfl, by omega, by omega, fun y e _ _ => zjl_eq (by omega) (by omega) e⟩
  · rw [if_neg h1, if_neg (fun q => absurd (zjl_lt (by omega) (by omega) q) (by omega))]
    exact ⟨hi - 1, rfl, by omega, by omega, fun y e h3 h4 => by
      rw [e] at h1
      have := zjl_nlt (by omega) (by omega) h1
      omega⟩
def leI (a b : Nat) : Nat := if a ≤ b then 1 else 0
theorem leI_le (a b : Nat) : leI a b ≤ 1 := by unfold leI; split <;> omega
theorem leI_1 {a b : Nat} (h : a ≤ b) : leI a b = 1 := if_pos h
theorem leI_0 {a b : Nat} (h : b < a) : leI a b = 0 := if_neg (by omega)
theorem leI_of {a b : Nat} (h : ¬ leI a b = 0) : a ≤ b := by
  rcases Nat.lt_or_ge b a with q | q
  · exact absurd (leI_0 q) h
  · exact q
theorem leI_nof {a b : Nat} (h : leI a b = 0) : b < a := by
  rcases Nat.lt_or_ge b a with q | q
  · exact q
  · rw [leI_1 q] at h; omega
/-- the greatest common divisor by division: 200 rounds are enough for numbers of 63 bits -/
theorem gcd_round {g l i : Nat} (hl : l ≠ 0) (h : i = 0 ∨ (l < g ∧ g * l * 2 ^ (i - 1) < 2 ^ 126)) (hg : g < 2 ^ 63) (hl2 : l < 2 ^ 63) : g % l < l ∧ l * (g % l) * 2 ^ (i + 1 - 1) < 2 ^ 126 := by
  have h1 : g % l < l := Nat.mod_lt _ (by omega)
  refine ⟨h1, ?_⟩
  rw [Nat.add_sub_cancel]
  rcases Nat.eq_zero_or_pos i with h0 | h0
  · subst h0
    rw [Nat.pow_zero, Nat.mul_one]
    have h2 : l * (g % l) ≤ l * 2 ^ 63 := Nat.mul_le_mul_left _ (by omega)
    have h3 : l * 2 ^ 63 < 2 ^ 63 * 2 ^ 63 := Nat.mul_lt_mul_of_pos_right hl2 (by decide)
    have h4 : (2 : Nat) ^ 63 * 2 ^ 63 = 2 ^ 126 := by decide
    omega
  · rcases h with h | ⟨h2, h3⟩
    · omega
    · have h4 : g = l * (g / l) + g % l := (Nat.div_add_mod g l).symm
      have h5 : 1 ≤ g / l := Nat.div_pos (by omega) (by omega)
      have h6 : l ≤ l * (g / l) := Nat.le_mul_of_pos_right _ h5
      have h7 : g % l * 2 ≤ g := by omega
      obtain ⟨k, rfl⟩ : ∃ k, i = k + 1 := ⟨i - 1, by omega⟩
      rw [Nat.add_sub_cancel] at h3
      have h8 : l * (g % l) * 2 ^ (k + 1) = l * (g % l * 2) * 2 ^ k := by rw [Nat.pow_succ]; grind
      have h9 : l * (g % l * 2) * 2 ^ k ≤ l * g * 2 ^ k := Nat.mul_le_mul_right _ (Nat.mul_le_mul_left _ h7)
      rw [Nat.mul_comm l g] at h9
      omega
theorem gcd_end {g l : Nat} (h : 200 = 0 ∨ (l < g ∧ g * l * 2 ^ (200 - 1) < 2 ^ 126)) : l = 0 := by
  rcases h with h | ⟨h1, h2⟩
  · omega
  · rcases Nat.eq_zero_or_pos l with h3 | h3
    · exact h3
    · have h4 : 1 ≤ g * l := Nat.mul_pos (by omega) h3
      have h5 : 1 * 2 ^ (200 - 1) ≤ g * l * 2 ^ (200 - 1) := Nat.mul_le_mul_right _ h4
      have h6 : (2 : Nat) ^ 126 < 1 * 2 ^ (200 - 1) := by decide
      omega
theorem zi_or {x : Int32} {b : Nat} (h : b ≤ 1) (e : x = nI b) : x = 0 ∨ x = 1 := by
  rcases Nat.le_one_iff_eq_zero_or_eq_one.mp h with q | q
  · left; rw [e, q]; rfl
  · right; rw [e, q]; rfl
