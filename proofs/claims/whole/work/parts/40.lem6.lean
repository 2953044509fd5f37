/-! ===== the law's own numbers ===== -/
theorem dcmp_al {a b x y : UInt64} (h : alike64 a b = true) (h2 : alike64 x y = true) : FP.dcmp a x = FP.dcmp b y := by
  show FP.Core.cmp _ a.toNat x.toNat = FP.Core.cmp _ b.toNat y.toNat
  unfold FP.Core.cmp
  rw [al_dec h, al_dec h2]
theorem rl_al {x y a b : UInt64} (h : alike64 x y = true) : rlI x a b = rlI y a b := by
  unfold rlI; rw [dcmp_al h (al_rf a), dcmp_al h (al_rf b)]
theorem em_par {w a n k : Nat} (ha : 1 ≤ a) (h : w ^ n * 2 ^ k = a ^ n) : n ∣ k := by
  induction a using Nat.strongRecOn generalizing w k with
  | ind a ih =>
    rcases Nat.eq_zero_or_pos k with rfl | hk
    · exact Nat.dvd_zero n
    · have hodd : ∀ v, v % 2 = 1 → v ^ n % 2 = 1 := fun v hv => by rw [Nat.pow_mod, hv, Nat.one_pow]
      have he : a % 2 = 0 := by
        rcases Nat.mod_two_eq_zero_or_one a with q | q
        · exact q
        · have h1 := hodd a q
          rw [← h, show k = (k - 1) + 1 by omega, Nat.pow_succ, ← Nat.mul_assoc, Nat.mul_mod_left] at h1
          omega
      obtain ⟨c, hc⟩ : ∃ c, a = 2 * c := ⟨a / 2, by omega⟩
      have hap : a ^ n = 2 ^ n * c ^ n := by rw [hc, Nat.mul_pow]
      have hc1 : 1 ≤ c := by omega
      rcases Nat.lt_or_ge k n with q | q
      · have hw : w ^ n = 2 ^ (n - k) * c ^ n := by
          have e : 2 ^ n = 2 ^ (n - k) * 2 ^ k := by rw [← Nat.pow_add]; congr 1; omega
          rw [hap, e, Nat.mul_right_comm] at h
          exact Nat.eq_of_mul_eq_mul_right (Nat.pow_pos (by decide)) h
        have hwe : w % 2 = 0 := by
          rcases Nat.mod_two_eq_zero_or_one w with q2 | q2
          · exact q2
          · have h1 := hodd w q2
            rw [hw, show n - k = (n - k - 1) + 1 by omega, Nat.pow_succ, Nat.mul_right_comm, Nat.mul_mod_left] at h1
            omega
        obtain ⟨v, hv⟩ : ∃ v, w = 2 * v := ⟨w / 2, by omega⟩
        have h3 : v ^ n * 2 ^ k = c ^ n := by
          rw [hap, hv, Nat.mul_pow, Nat.mul_assoc] at h
          exact Nat.eq_of_mul_eq_mul_left (Nat.pow_pos (by decide)) h
        exact ih c (by omega) hc1 h3
      · have h3 : w ^ n * 2 ^ (k - n) = c ^ n := by
          have e : 2 ^ k = 2 ^ n * 2 ^ (k - n) := by rw [← Nat.pow_add]; congr 1; omega
          rw [hap, e, ← Nat.mul_assoc, Nat.mul_comm (w ^ n), Nat.mul_assoc] at h
          exact Nat.eq_of_mul_eq_mul_left (Nat.pow_pos (by decide)) h
        have h4 := ih c (by omega) hc1 h3
        have := Nat.dvd_add h4 (Nat.dvd_refl n)
        rwa [Nat.sub_add_cancel q] at this
theorem em_eq {n k w a : Nat} (hn : 1 ≤ n) (hk : k ≤ 2 * n) (ha : 1 ≤ a) : emI k n w a = eqI (w ^ n * 2 ^ k) (a ^ n) := by
  unfold emI eqI
  have hiff : (k = octI k n * n ∧ w * 2 ^ octI k n = a) ↔ w ^ n * 2 ^ k = a ^ n := by
    constructor
    · rintro ⟨h1, h2⟩
      conv => lhs; rw [h1]
      rw [Nat.pow_mul, ← Nat.mul_pow, h2]
    · intro h
      obtain ⟨j, hj⟩ := em_par ha h
      have hj2 : j ≤ 2 := by
        rcases Nat.lt_or_ge 2 j with q | q
        · have := Nat.mul_le_mul_left n (show 3 ≤ j from q); omega
        · exact q
      have ho : octI k n = j := by
        unfold octI
        rcases (show j = 0 ∨ j = 1 ∨ j = 2 by omega) with rfl | rfl | rfl
        · rw [if_pos (by omega)]
        · rw [if_neg (by omega), if_pos (by omega)]
        · rw [if_neg (by omega), if_neg (by omega)]
      rw [ho]
      refine ⟨by rw [hj, Nat.mul_comm], ?_⟩
      rw [hj, Nat.mul_comm n j, Nat.pow_mul, ← Nat.mul_pow] at h
      rcases Nat.lt_trichotomy (w * 2 ^ j) a with q | q | q
      · exact absurd h (Nat.ne_of_lt (Nat.pow_lt_pow_left q (by omega)))
      · exact q
      · exact absurd h.symm (Nat.ne_of_lt (Nat.pow_lt_pow_left q (by omega)))
  by_cases c : k = octI k n * n ∧ w * 2 ^ octI k n = a
  · rw [if_pos c, if_pos (hiff.mp c)]
  · rw [if_neg c, if_neg (fun q => c (hiff.mpr q))]
theorem al_cmp {v w : UInt64} (h : alike64 v w = true) : Op.cmpValue (FP.dcmp v w) .l = 0 ∨ (¬ Op.cmpValue (FP.dcmp v v) .l = 0 ∧ ¬ Op.cmpValue (FP.dcmp w w) .l = 0) := by
  have e1 : FP.dcmp v w = FP.dcmp v v := dcmp_al (al_rf v) (by unfold alike64 at h ⊢; rw [Bool.or_eq_true, decide_eq_true_eq, Bool.and_eq_true] at h ⊢; rcases h with q | ⟨q, r⟩; exact Or.inl q.symm; exact Or.inr ⟨r, q⟩)
  have e2 : FP.dcmp w w = FP.dcmp v v := (dcmp_al h h).symm
  rw [e1, e2]
  by_cases c : Op.cmpValue (FP.dcmp v v) .l = 0
  · exact Or.inl c
  · exact Or.inr ⟨c, c⟩
theorem pullR_al {x y z x2 y2 z2 v : UInt64} (h1 : alike64 x x2 = true) (h2 : alike64 y y2 = true) (h3 : alike64 z z2 = true) (h : pullR x y z v) : pullR x2 y2 z2 v := by
  obtain ⟨a1, a2, a3, a4, p1, p2, p3, p4, p5⟩ := h
  refine ⟨a1, a2, a3, a4, ?_, ?_, ?_, ?_, ?_⟩
  · rw [← al_mul (al_rf _) h3]; exact p1
  · rw [← al_mul (al_rf _) h2]; exact p2
  · rw [← al_mul (al_rf _) h2]; exact p3
  · rw [← al_mul (al_rf _) h1]; exact p4
  · rw [← al_mul (al_rf _) h1]; exact p5
theorem pipeR_al {x y x2 y2 v : UInt64} {o : Int32} (h1 : alike64 x x2 = true) (h2 : alike64 y y2 = true) (h : pipeR x o y v) : pipeR x2 o y2 v := by
  obtain ⟨a1, a2, a3, p1, p2, p3, p4⟩ := h
  refine ⟨a1, a2, a3, ?_, p2, ?_, p4⟩
  · rw [← al_div (al_rf _) h1]; exact p1
  · rw [← al_mul (al_rf _) h2]; exact p3
theorem al_2 {x y p : UInt64} (h : alike64 x p = true) (h2 : alike64 y p = true) : alike64 x y = true := al_tr h h2 rfl
def updN (x : Nat → Nat) (k v : Nat) : Nat → Nat := fun j => if j = k then v else x j
theorem lw_jOK {n k v : Nat} {f : Nat → Int32} {x : Nat → Nat} (h : jOK n f x) (h1 : 1 ≤ v) (h2 : v ≤ 1000000) : jOK n (upd f k (nI v)) (updN x k v) := by
  intro j hj
  unfold updN
  by_cases e : j = k
  · subst e; rw [pk_us, if_pos rfl]; exact ⟨rfl, h1, h2⟩
  · rw [pk_un e, if_neg e]; exact h j hj
theorem and31 (v : Int32) : ∃ k, k < 32 ∧ v &&& nI 31 = nI k := by
  refine ⟨v.toBitVec.toNat % 32, Nat.mod_lt _ (by decide), ?_⟩
  apply Int32.toBitVec_inj.mp
  apply BitVec.eq_of_toNat_eq
  show (v.toBitVec &&& (BitVec.ofNat 32 31)).toNat = (BitVec.ofNat 32 (v.toBitVec.toNat % 32)).toNat
  rw [BitVec.toNat_and, BitVec.toNat_ofNat, BitVec.toNat_ofNat]
  have h2 := Nat.and_two_pow_sub_one_eq_mod v.toBitVec.toNat 5
  rw [show (31 % 2 ^ 32 : Nat) = 2 ^ 5 - 1 from rfl, h2]
  have := Nat.mod_lt v.toBitVec.toNat (show 0 < 32 by decide)
  rw [Nat.mod_eq_of_lt (a := v.toBitVec.toNat % 32) (by omega)]
theorem lw_gt {L i : Nat} (hL : L ≤ 2561) (h1 : 1 ≤ i) (hi : i ≤ 3000) (h : ¬ (Int32.ofNat L - nI 5 < nI i)) : i + 5 ≤ L := by
  rcases Nat.lt_or_ge L 5 with q | q
  · exfalso
    have hl : ∀ j, j < 5 → Int32.ofNat j - nI 5 < nI 1 := by decide
    have h2 : nI 1 ≤ nI i := nI_leI (by decide) (by omega) |>.mpr h1
    exact h (Int32.lt_of_lt_of_le (hl L q) h2)
  · have e : Int32.ofNat L - nI 5 = nI (L - 5) := pk_sub q
    rw [e] at h
    have := zji_nlt (by omega) (by omega) h
    omega
theorem whl_1 {w h : Nat} (h1 : 1 ≤ w) : 1 ≤ w * 2 ^ h := Nat.mul_pos h1 (Nat.pow_pos (by decide))
theorem whl_2 {w h : Nat} (h1 : w ≤ 1000000) (h2 : h ≤ 16) : w * 2 ^ h ≤ 65536000000 := Nat.mul_le_mul h1 (Nat.pow_le_pow_right (by decide) h2)
theorem np_g {k : Int32} {n : Nat} (hn : n ≤ 24) (h : ¬ npI k n = 1) : ∃ j, k = nI j ∧ j ≤ 2 * n := np_ok hn (by have := np_le k n; omega)
theorem inI_g {v a b : Int64} (h : ¬ inI v a b = 0) : inI v a b = 1 := by have := inI_le v a b; omega
theorem nI_two {a b : Nat} (ha : a < 2 ^ 31) (hb : b < 2 ^ 31) {x : Int32} (h1 : x = nI a) (h2 : x = nI b) : a = b := zji_eq ha hb (h1.symm.trans h2)
theorem lN_two {a b : Nat} (ha : a < 2 ^ 63) (hb : b < 2 ^ 63) {x : Int64} (h1 : x = lN a) (h2 : x = lN b) : a = b := zjl_eq ha hb (h1.symm.trans h2)
theorem pr_one {p : Int32} {k j a : Nat} (hp : p = nI j) (hj : j ≤ a) (ha : a < 2 ^ 31) (hk : k < 2 ^ 31) : (p = nI k) = (j = k) := by
  apply propext
  constructor
  · intro h; exact nI_two (by omega) hk hp h
  · intro h; rw [hp, h]
def mkL (a b : Int32) : Int64 := (a.toInt64 <<< ((nI 32).toInt64 &&& 63)) ||| (b.toInt64 &&& lN 4294967295)
theorem ite_k {α : Type} {p : Int32} {j k : Nat} (hp : p = nI j) (hj : j < 2 ^ 31) (hk : k < 2 ^ 31) (a b : α) : (if p = nI k then a else b) = (if j = k then a else b) := by
  by_cases q : j = k
  · rw [if_pos q, if_pos (by rw [hp, q])]
  · rw [if_neg q, if_neg (fun h => q (nI_two hj hk hp h))]
theorem rest_p {α : Type} {p : Int32} {j : Nat} (hp : p = nI j) (hj : j ≤ 3) (a b c d : α) : (if p = 0 then a else if p = nI 1 then b else if p = nI 2 then c else d) = (if j = 0 then a else if j = 1 then b else if j = 2 then c else d) := by
  have e0 := ite_k (k := 0) hp (by omega) (by decide) a (if p = nI 1 then b else if p = nI 2 then c else d)
  have e1 := ite_k (k := 1) hp (by omega) (by decide) b (if p = nI 2 then c else d)
  have e2 := ite_k (k := 2) hp (by omega) (by decide) c d
  exact e0.trans (by rw [e1, e2])
theorem stD_ch {ca cb x y : Nat} {oc st : Int64} {r : Int32} {a b : Nat} {o s : Int64} (h : chOK ca cb) (hs : stD ca cb x y oc st r a b o s) : chOK a b := by
  obtain ⟨A, B, p, q, hR, h2⟩ := hs
  rcases h2 with ⟨h3, h4, -, rfl, rfl, -, -⟩ | ⟨-, -, rfl, rfl, -, -⟩
  · exact ⟨hR.1.1, hR.1.2.1, hR.1.2.2.1, h3, h4⟩
  · exact h
theorem ch_11 : chOK 1 1 := ⟨by decide, by decide, by decide, by decide, by decide⟩
theorem ite_0 {α : Type} {p : Int32} {j : Nat} (hp : p = nI j) (hj : j < 2 ^ 31) (a b : α) : (if p = 0 then a else b) = (if j = 0 then a else b) := ite_k (k := 0) hp hj (by decide) a b
