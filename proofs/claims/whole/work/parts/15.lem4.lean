/-! ===== what the calls answer, said once for both sides ===== -/
def eqI (a b : Nat) : Nat := if a = b then 1 else 0
def frN (u : Int32) (w e : Nat) : Nat := if u = 0 then w else if e = 1 then w else w + 1
theorem frN_a {u : Int32} {w e : Nat} (h : u = 0) : frN u w e = w := if_pos h
theorem frN_b {u : Int32} {w a b : Nat} (h : ¬ u = 0) (h2 : a = b) : frN u w (eqI a b) = w := by unfold frN eqI; rw [if_neg h, if_pos h2, if_pos rfl]
theorem frN_c {u : Int32} {w a b : Nat} (h : ¬ u = 0) (h2 : a ≠ b) : frN u w (eqI a b) = w + 1 := by unfold frN eqI; rw [if_neg h, if_neg h2, if_neg (by decide)]
theorem frN_1 {u : Int32} {w e : Nat} (h : ¬ u = 0) (h2 : e ≠ 0) (h3 : e ≤ 1) : frN u w e = w := by unfold frN; rw [if_neg h, if_pos (by omega)]
theorem frN_0 {u : Int32} {w e : Nat} (h : ¬ u = 0) (h2 : e = 0) : frN u w e = w + 1 := by unfold frN; rw [if_neg h, if_neg (by omega)]
theorem lI_le {k : Int32} {a b : Nat} (ha : a < 2 ^ 31) (hb : b < 2 ^ 31) (h1 : lN a ≤ k.toInt64) (h2 : k.toInt64 ≤ lN b) : ∃ j, k = nI j ∧ a ≤ j ∧ j ≤ b := by
  rw [Int64.le_iff_toInt_le, pk_lT (by omega), Int32.toInt_toInt64] at h1
  rw [Int64.le_iff_toInt_le, pk_lT (by omega), Int32.toInt_toInt64] at h2
  have h0 : ¬ k < 0 := by rw [Int32.lt_iff_toInt_lt]; simp; omega
  obtain ⟨j, hj, rfl⟩ := nI_of h0
  rw [nI_toInt hj] at h1 h2
  exact ⟨j, rfl, by omega, by omega⟩
theorem inI_ok {v a b : Int64} (h : ¬ inI v a b = 0) : a ≤ v ∧ v ≤ b := by
  by_cases q : a ≤ v ∧ v ≤ b
  · exact q
  · exact absurd (if_neg q) h
theorem inI_okI {k : Int32} {a b : Nat} (ha : a < 2 ^ 31) (hb : b < 2 ^ 31) (h : ¬ inI k.toInt64 (lN a) (lN b) = 0) : ∃ j, k = nI j ∧ a ≤ j ∧ j ≤ b :=
  lI_le ha hb (inI_ok h).1 (inI_ok h).2
theorem inI_nI {j a b : Nat} (hj : j < 2 ^ 31) (ha : a < 2 ^ 31) (hb : b < 2 ^ 31) (h1 : a ≤ j) (h2 : j ≤ b) : inI (nI j).toInt64 (lN a) (lN b) = 1 := by
  rw [nI_l hj]
  exact inI_1 ((pk_lLE (by omega) (by omega)).mpr h1) ((pk_lLE (by omega) (by omega)).mpr h2)
theorem np_ok {k : Int32} {n : Nat} (hn : n ≤ 24) (h : npI k n = 0) : ∃ j, k = nI j ∧ j ≤ 2 * n := by
  have h1 : ¬ inI k.toInt64 (lN 0) (lN (2 * n)) = 0 := by unfold npI at h; omega
  obtain ⟨j, e, -, h2⟩ := inI_okI (by decide) (by omega) h1
  exact ⟨j, e, h2⟩
theorem np_nI {j n : Nat} (hn : n ≤ 24) (h : j ≤ 2 * n) : npI (nI j) n = 0 := by
  unfold npI
  rw [inI_nI (by omega) (by decide) (by omega) (Nat.zero_le _) h]
theorem np_le (k : Int32) (n : Nat) : npI k n ≤ 1 := by unfold npI; omega
theorem pt_le (v : Int32) : ptI v ≤ 1 := inI_le _ _ _
theorem pt_ok {v : Int32} (h : ¬ ptI v = 0) : ∃ j, v = nI j ∧ 1 ≤ j ∧ j ≤ 1000000 := inI_okI (by decide) (by decide) h
theorem pt_nI {j : Nat} (h1 : 1 ≤ j) (h2 : j ≤ 1000000) : ptI (nI j) = 1 := inI_nI (by omega) (by decide) (by decide) h1 h2
theorem in_okL {v : Int64} {a b : Nat} (ha : a < 2 ^ 63) (hb : b < 2 ^ 63) (h : ¬ inI v (lN a) (lN b) = 0) : ∃ j, v = lN j ∧ a ≤ j ∧ j ≤ b := by
  obtain ⟨h1, h2⟩ := inI_ok h
  rw [Int64.le_iff_toInt_le, pk_lT (by omega)] at h1
  rw [Int64.le_iff_toInt_le, pk_lT (by omega)] at h2
  have h0 : ¬ v < 0 := by rw [Int64.lt_iff_toInt_lt]; simp; omega
  obtain ⟨j, hj, rfl⟩ := pk_lOf h0
  rw [pk_lT hj] at h1 h2
  exact ⟨j, rfl, by omega, by omega⟩
/-- a row of just numbers: what is held at the places 0 .. 2 n -/
def jOK (n : Nat) (f : Nat → Int32) (x : Nat → Nat) : Prop := ∀ j, j ≤ 2 * n → f j = nI (x j) ∧ 1 ≤ x j ∧ x j ≤ 1000000
theorem jOK_upd {n k v : Nat} {f : Nat → Int32} {x : Nat → Nat} (h : jOK n f x) (h1 : 1 ≤ v) (h2 : v ≤ 1000000) : jOK n (upd f k (nI v)) (fun j => if j = k then v else x j) := by
  intro j hj
  by_cases e : j = k
  · subst e; simp [pk_us]; exact ⟨h1, h2⟩
  · rw [pk_un e]; simp only [if_neg e]; exact h j hj
/-- the codes of the calls that are refused: 0 for none -/
def cd2 (a b : Nat) : Nat := if a = 0 ∨ b = 0 then 1 else 0
def cdJust (k x y : Int32) (n : Nat) : Nat := if npI k n = 1 then 1 else if ptI x = 0 ∨ ptI y = 0 then 2 else 0
def prI (p : Int32) (a : Nat) : Nat := inI p.toInt64 (lN 0) (lN a)
theorem pr_le (p : Int32) (a : Nat) : prI p a ≤ 1 := inI_le _ _ _
theorem pr_ok {p : Int32} {a : Nat} (ha : a < 2 ^ 31) (h : ¬ prI p a = 0) : ∃ j, p = nI j ∧ j ≤ a := by
  obtain ⟨j, e, -, h2⟩ := inI_okI (by decide) ha h
  exact ⟨j, e, h2⟩
def cdPart (k p : Int32) (n : Nat) : Nat := if npI k n = 1 ∨ prI p 1 = 0 then 1 else 0
def inH (h : Int32) : Nat := inI h.toInt64 (lN 1) (lN 100000)
def cdBeat (a b h p : Int32) (n : Nat) : Nat := if npI a n = 1 ∨ npI b n = 1 ∨ prI p 1 = 0 then 1 else if inH h = 0 then 2 else 0
def cdCross (k a p : Int32) (n sp : Nat) : Nat := if npI k n = 1 ∨ prI p 1 = 0 then 1 else if inI a.toInt64 (lN 0) (lN sp) = 0 then 2 else 0
def inL (x : Int64) : Nat := inI x (lN 1) (lN 1000000)
def cdKey (k : Int32) (w : Int64) (p : Int32) : Nat := if prI k 11 = 0 ∨ prI p 3 = 0 then 1 else if inL w = 0 then 2 else 0
def cdFan (b t s : Int32) : Nat := if ptI b = 0 ∨ ptI t = 0 ∨ inI s.toInt64 (lN 1) (lN 1000) = 0 then 1 else 0
def cdScale (x : Int64) (y : Int32) : Nat := if inL x = 0 ∨ prI y 16 = 0 then 1 else 0
def nearN (n x y : Nat) (k : Nat) : Prop := ∃ j, j ≤ 2 * n ∧ y ^ n * 2 ^ j ≤ x ^ n ∧ (j < 2 * n → x ^ n < y ^ n * 2 ^ (j + 1)) ∧ k = (if j < 2 * n ∧ y ^ (2 * n) * 2 ^ (2 * j + 1) < x ^ (2 * n) then j + 1 else j)
def nearI (n x y k : Nat) : Prop := if x < y then k = 0 else nearN n x y k
theorem near_last {n x y i j : Nat} (hi : i ≤ 2 * n) (hj : j ≤ 2 * n) (h1 : y ^ n * 2 ^ i ≤ x ^ n) (h2 : j < 2 * n → x ^ n < y ^ n * 2 ^ (j + 1)) : i ≤ j := by
  rcases Nat.lt_or_ge j i with h | h
  · have h3 := h2 (by omega)
    have h4 : 2 ^ (j + 1) ≤ 2 ^ i := Nat.pow_le_pow_right (by decide) h
    have h5 := Nat.mul_le_mul_left (y ^ n) h4
    omega
  · exact h
theorem near_one {n x y a b : Nat} (h1 : nearI n x y a) (h2 : nearI n x y b) : a = b := by
  unfold nearI at h1 h2
  split at h1
  · rename_i h; rw [if_pos h] at h2; omega
  · rename_i h; rw [if_neg h] at h2
    obtain ⟨i, i1, i2, i3, rfl⟩ := h1
    obtain ⟨j, j1, j2, j3, rfl⟩ := h2
    have e : i = j := Nat.le_antisymm (near_last i1 j1 i2 j3) (near_last j1 i1 j2 i3)
    subst e; rfl
