theorem cmpI_lt0 {a b : Nat} (h : cmpI a b < 0) : a < b := by
  rcases Nat.lt_trichotomy a b with h1 | h1 | h1
  · exact h1
  · exact absurd h (by rw [cmpI_eq h1]; decide)
  · exact absurd h (by rw [cmpI_gt h1]; decide)
theorem cmpI_nlt0 {a b : Nat} (h : ¬ cmpI a b < 0) : b ≤ a := by
  rcases Nat.lt_or_ge a b with h1 | h1
  · exact absurd (by rw [cmpI_lt h1]; decide) h
  · exact h1
theorem near_a {n x y k : Nat} (h : ¬ x < y) (h1 : k ≤ 2 * n) (h2 : y ^ n * 2 ^ k ≤ x ^ n) (h3 : k < 2 * n → x ^ n < y ^ n * 2 ^ (k + 1)) (h4 : 2 * n ≤ k ∨ ¬ y ^ (2 * n) * 2 ^ (2 * k + 1) < x ^ (2 * n)) : nearI n x y k := by
  unfold nearI
  rw [if_neg h]
  exact ⟨k, h1, h2, h3, (if_neg (fun q => h4.elim (fun z => absurd q.1 (by omega)) (fun z => z q.2))).symm⟩
theorem near_b {n x y k : Nat} (h : ¬ x < y) (h1 : k < 2 * n) (h2 : y ^ n * 2 ^ k ≤ x ^ n) (h3 : k < 2 * n → x ^ n < y ^ n * 2 ^ (k + 1)) (h4 : y ^ (2 * n) * 2 ^ (2 * k + 1) < x ^ (2 * n)) : nearI n x y (k + 1) := by
  unfold nearI
  rw [if_neg h]
  exact ⟨k, by omega, h2, h3, (if_pos ⟨h1, h4⟩).symm⟩
theorem near_0 {n x y : Nat} (h : x < y) : nearI n x y 0 := by unfold nearI; rw [if_pos h]
theorem z_absp {A B : Nat} (hA : A < 2 ^ 62) (hB : B < 2 ^ 62) (h : 0 ≤ lN A - lN B) : lN A - lN B = lN (A - B + (B - A)) := by
  rcases Nat.lt_or_ge A B with q | q
  · exfalso
    have e : lN A - lN B = - lN (B - A) := by
      rw [← lN_sub (Nat.le_of_lt q)]; exact (Int64.neg_sub).symm
    rw [e, Int64.le_iff_toInt_le, Int64.toInt_neg, pk_lT (by omega), Int.bmod_eq_of_le (by omega) (by omega)] at h
    simp at h
    omega
  · rw [lN_sub q]; congr 1; omega
theorem z_absn {A B : Nat} (hA : A < 2 ^ 62) (hB : B < 2 ^ 62) (h : ¬ 0 ≤ lN A - lN B) : -(lN A - lN B) = lN (A - B + (B - A)) := by
  rcases Nat.lt_or_ge A B with q | q
  · rw [Int64.neg_sub, lN_sub (Nat.le_of_lt q)]; congr 1; omega
  · exfalso
    apply h
    rw [lN_sub q]
    exact (pk_lLE (by decide) (by omega)).mpr (Nat.zero_le _)
/-- the greatest such number, as a function -/
def rootS (n k a : Nat) : Nat → Nat
  | 0 => 0
  | w + 1 => if (w + 1) ^ n * 2 ^ k ≤ a ^ n then w + 1 else rootS n k a w
def rootF (n k a : Nat) : Nat := rootS n k a a
theorem rootS_ok {n k a : Nat} (hn : 1 ≤ n) : ∀ w, a ^ n < (w + 1) ^ n * 2 ^ k → rootI n k a (rootS n k a w) := by
  intro w
  induction w with
  | zero => intro h; exact ⟨root_0 hn, h⟩
  | succ w ih =>
    intro h
    unfold rootS
    by_cases q : (w + 1) ^ n * 2 ^ k ≤ a ^ n
    · rw [if_pos q]; exact ⟨q, h⟩
    · rw [if_neg q]; exact ih (by omega)
theorem rootF_ok {n k a : Nat} (hn : 1 ≤ n) : rootI n k a (rootF n k a) := rootS_ok hn a (root_top hn)
theorem root_eq {n k a w : Nat} (hn : 1 ≤ n) (h : rootI n k a w) : w = rootF n k a := root_one h (rootF_ok hn)
def upF (n a b j : Nat) : Nat := (rootF n j a - rootF n j b) + (rootF n j b - rootF n j a)
def upN (n a b t : Nat) : Prop := t ≤ 2 * n ∧ (∀ j, j ≤ 2 * n → upF n a b t ≤ upF n a b j) ∧ ∀ j, j < t → upF n a b t < upF n a b j
theorem up_one {n a b s t : Nat} (h1 : upN n a b s) (h2 : upN n a b t) : s = t := by
  rcases Nat.lt_trichotomy s t with h | h | h
  · have := h2.2.2 s h; have := h1.2.1 t h2.1; omega
  · exact h
  · have := h1.2.2 t h; have := h2.2.1 s h1.1; omega
/-- as far as place k -/
def upK (n a b k t l : Nat) : Prop := t < k ∧ l = upF n a b t ∧ (∀ j, j < k → l ≤ upF n a b j) ∧ ∀ j, j < t → l < upF n a b j
theorem up_0 (n a b : Nat) : upK n a b 1 0 (upF n a b 0) := ⟨by decide, rfl, fun j hj => by rw [show j = 0 by omega]; exact Nat.le_refl _, fun j hj => absurd hj (Nat.not_lt_zero _)⟩
theorem up_lt {n a b k t l : Nat} (h : upK n a b k t l) (h2 : upF n a b k < l) : upK n a b (k + 1) k (upF n a b k) :=
  ⟨Nat.lt_succ_self k, rfl, fun j hj => by
    rcases Nat.lt_or_ge j k with q | q
    · have := h.2.2.1 j q; omega
    · rw [show j = k by omega]; exact Nat.le_refl _, fun j hj => by have := h.2.2.1 j hj; omega⟩
theorem up_ge {n a b k t l : Nat} (h : upK n a b k t l) (h2 : l ≤ upF n a b k) : upK n a b (k + 1) t l :=
  ⟨Nat.lt_succ_of_lt h.1, h.2.1, fun j hj => by
    rcases Nat.lt_or_ge j k with q | q
    · exact h.2.2.1 j q
    · rw [show j = k by omega]; exact h2, h.2.2.2⟩
theorem up_end {n a b t l : Nat} (h : upK n a b (2 * n + 1) t l) : upN n a b t :=
  ⟨by have := h.1; omega, fun j hj => by rw [← h.2.1]; exact h.2.2.1 j (by omega), fun j hj => by rw [← h.2.1]; exact h.2.2.2 j hj⟩
def whN (j : Nat) : Nat := j + (if 4 < j then 1 else 0)
def whI (j : Nat) : Int32 := if whN j % 2 = 0 then nI (whN j / 2) else -1
theorem whI_d {j : Nat} (hj : j ≤ 11) (h : whI j = -1) : whN j % 2 = 1 := by
  have : ∀ j, j ≤ 11 → whI j = -1 → whN j % 2 = 1 := by decide +kernel
  exact this j hj h
theorem whI_w {j : Nat} (h : ¬ whI j = -1) : whN j % 2 = 0 ∧ whI j = nI (whN j / 2) := by
  unfold whI at *
  split at h
  · rename_i q; rw [if_pos q]; exact ⟨q, rfl⟩
  · exact absurd rfl h
theorem whN_le {j : Nat} (hj : j ≤ 11) : whN j ≤ 12 := by unfold whN; split <;> omega
def keyN (j w q : Nat) : Nat := if q = 2 then (if whN j % 2 = 0 then 84 else 24) else if q = 3 then (if whN j % 2 = 0 then 0 else 1) else if whN j % 2 = 0 then w * 12 * (whN j / 2 + q) else w * (2 * j + 2 * q)
def clN (k : Int32) : Nat := if k < 1 then 1 else if 24 < k then 24 else k.toNatClampNeg
theorem cl_lo {k : Int32} (h : k < 1) : clN k = 1 := if_pos h
theorem cl_hi {k : Int32} (h : ¬ k < 1) (h2 : 24 < k) : clN k = 24 := by unfold clN; rw [if_neg h, if_pos h2]
theorem cl_in {k : Int32} (h : ¬ k < 1) (h2 : ¬ 24 < k) : k = nI (clN k) ∧ 1 ≤ clN k ∧ clN k ≤ 24 := by
  have h0 : ¬ k < 0 := fun q => h (Int32.lt_of_lt_of_le q (by decide))
  obtain ⟨j, hj, rfl⟩ := nI_of h0
  have e : clN (nI j) = j := by unfold clN; rw [if_neg h, if_neg h2, nI_clamp hj]
  rw [e]
  refine ⟨rfl, ?_, ?_⟩
  · exact zji_nlt hj (by decide) h
  · exact zji_nlt (by decide) hj h2
theorem cl_1 (k : Int32) : 1 ≤ clN k ∧ clN k ≤ 24 := by
  by_cases h : k < 1
  · rw [cl_lo h]; omega
  · by_cases h2 : 24 < k
    · rw [cl_hi h h2]; omega
    · exact (cl_in h h2).2
def rlI (x a b : UInt64) : Nat := if Op.cmpValue (FP.dcmp x a) .l < 0 ∨ 0 < Op.cmpValue (FP.dcmp x b) .g then 0 else 1
theorem rl_a {x a b : UInt64} (h : Op.cmpValue (FP.dcmp x a) .l < 0) : rlI x a b = 0 := if_pos (Or.inl h)
theorem rl_b {x a b : UInt64} (h : 0 < Op.cmpValue (FP.dcmp x b) .g) : rlI x a b = 0 := if_pos (Or.inr h)
theorem rl_1 {x a b : UInt64} (h : ¬ Op.cmpValue (FP.dcmp x a) .l < 0) (h2 : ¬ 0 < Op.cmpValue (FP.dcmp x b) .g) : rlI x a b = 1 := if_neg (fun q => q.elim h h2)
def cd3 (a b c : Nat) : Nat := if a = 0 ∨ b = 0 ∨ c = 0 then 1 else 0
theorem cd2_a {a b : Nat} (h : a = 0) : cd2 a b = 1 := if_pos (Or.inl h)
theorem cd2_b {a b : Nat} (h : b = 0) : cd2 a b = 1 := if_pos (Or.inr h)
theorem cd2_0 {a b : Nat} (h : ¬ a = 0) (h2 : ¬ b = 0) : cd2 a b = 0 := if_neg (fun q => q.elim h h2)
theorem gcd_div_pos {x y : Nat} (hx : 1 ≤ x) : 1 ≤ x / Nat.gcd x y := Nat.div_pos (Nat.gcd_le_left y hx) (Nat.gcd_pos_of_pos_left y hx)
theorem gcd_div_pos' {x y : Nat} (hy : 1 ≤ y) : 1 ≤ y / Nat.gcd x y := Nat.div_pos (Nat.gcd_le_right x hy) (Nat.gcd_pos_of_pos_right x hy)
