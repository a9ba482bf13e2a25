theorem po_1y {X M k : Nat} (hM : k = 0 ∨ M.testBit (k - 1) = false) : (X / 2 &&& M) % 2 ^ k ≤ X % 2 ^ k := by
  have e : (X / 2 &&& M) % 2 ^ k = (X % 2 ^ k / 2) &&& M := by
    refine Nat.eq_of_testBit_eq (fun i => ?_)
    rw [Nat.testBit_mod_two_pow, Nat.testBit_and, Nat.testBit_and, Nat.testBit_div_two, Nat.testBit_div_two, Nat.testBit_mod_two_pow]
    by_cases q : i + 1 < k
    · rw [decide_eq_true q, decide_eq_true (show i < k by omega), Bool.true_and, Bool.true_and]
    · rw [decide_eq_false q]
      by_cases w : i < k
      · have : M.testBit i = false := by
          rcases hM with h | h
          · omega
          · rw [show i = k - 1 by omega]; exact h
        rw [this, Bool.and_false, Bool.and_false, Bool.and_false]
      · rw [decide_eq_false w, Bool.false_and, Bool.false_and, Bool.false_and]
  rw [e]
  have h1 : (X % 2 ^ k / 2) &&& M ≤ X % 2 ^ k / 2 := Nat.and_le_left
  omega
theorem po_1 (x : Int32) {k : Nat} (hk : k < 31) (hM : k = 0 ∨ Nat.testBit 1431655765 (k - 1) = false) (hT : Nat.testBit 1431655765 k = true) : bt (jbc1 x) k = (bt x k ^^ bt x (k + 1)) := by
  have e : (ju x (nI 1) &&& 1431655765).toBitVec.toNat = x.toBitVec.toNat / 2 &&& 1431655765 := by
    rw [nat_and, nat_ju x (by decide)]
    rfl
  have hb : bt (ju x (nI 1) &&& 1431655765) k = bt x (k + 1) := by
    rw [bt_pa, e, Nat.testBit_and, hT, Bool.and_true, Nat.testBit_div_two]
    rfl
  unfold jbc1
  rw [pb_sub (by rw [e]; exact Nat.le_trans Nat.and_le_left (Nat.div_le_self _ _)) (by rw [e]; exact po_1y hM), hb]
theorem po_2 (x : Int32) {k : Nat} (hk : k + 2 < 32) (hc : 858993459 % 2 ^ k + 858993459 % 2 ^ k < 2 ^ k) (hT : Nat.testBit 858993459 k = true) : bt (jbc2 x) k = (bt x k ^^ bt x (k + 2)) := by
  unfold jbc2
  have m : (858993459 : Int32).toBitVec.toNat = 858993459 := rfl
  have h1 := pm_le x 858993459 k
  have h2 := pm_le (ju x (nI 2)) 858993459 k
  rw [m] at h1 h2
  rw [pb_add (by omega) (by omega), b_and, b_and]
  have hm : bt (858993459 : Int32) k = true := hT
  rw [hm, Bool.and_true, Bool.and_true]
  have hb : bt (ju x (nI 2)) k = bt x (2 + k) := b_ushr 2 (by omega) x k
  rw [hb, Nat.add_comm 2 k]
theorem po_2n (x : Int32) (k : Nat) (hk : k ≤ 32) : (jbc2 x).toBitVec.toNat % 2 ^ k ≤ 858993459 % 2 ^ k + 858993459 % 2 ^ k := by
  unfold jbc2
  have m : (858993459 : Int32).toBitVec.toNat = 858993459 := rfl
  have h1 := pm_le x 858993459 k
  have h2 := pm_le (ju x (nI 2)) 858993459 k
  rw [m] at h1 h2
  rw [Int32.toBitVec_add, BitVec.toNat_add, Nat.mod_mod_of_dvd _ (Nat.pow_dvd_pow 2 hk), Nat.add_mod]
  exact Nat.le_trans (Nat.mod_le _ _) (Nat.add_le_add h1 h2)
theorem po_3 (x : Int32) {k : Nat} (hk : k + 4 < 32) (hc : 858993459 % 2 ^ k + 858993459 % 2 ^ k + (858993459 % 2 ^ (k + 4) + 858993459 % 2 ^ (k + 4)) / 16 < 2 ^ k) (hT : Nat.testBit 252645135 k = true) : bt (jbc3 (jbc2 x)) k = (bt (jbc2 x) k ^^ bt (jbc2 x) (k + 4)) := by
  have h1 := po_2n x k (by omega)
  have h2 := po_2n x (k + 4) (by omega)
  generalize jbc2 x = y at h1 h2 ⊢
  unfold jbc3
  have hm : bt (252645135 : Int32) k = true := hT
  rw [b_and, hm, Bool.and_true]
  have hb : bt (ju y (nI 4)) k = bt y (4 + k) := b_ushr 4 (by omega) y k
  have h3 : (ju y (nI 4)).toBitVec.toNat % 2 ^ k ≤ (858993459 % 2 ^ (k + 4) + 858993459 % 2 ^ (k + 4)) / 16 := by
    rw [nat_ju y (by decide)]
    have e : y.toBitVec.toNat / 2 ^ 4 % 2 ^ k = y.toBitVec.toNat % 2 ^ (k + 4) / 2 ^ 4 := by
      rw [Nat.pow_add, Nat.mul_comm (2 ^ k), Nat.mod_mul_right_div_self]
    rw [e]
    exact Nat.div_le_div_right h2
  rw [pb_add (by omega) (by omega), hb, Nat.add_comm 4 k]
theorem po_4 (x : Int32) {k : Nat} (hk : k + 8 < 32) (hc : 252645135 % 2 ^ k + 252645135 % 2 ^ (k + 8) / 256 < 2 ^ k) : bt (jbc4 (jbc3 x)) k = (bt (jbc3 x) k ^^ bt (jbc3 x) (k + 8)) := by
  have m : (252645135 : Int32).toBitVec.toNat = 252645135 := rfl
  have h1 : (jbc3 x).toBitVec.toNat % 2 ^ k ≤ 252645135 % 2 ^ k := by
    unfold jbc3
    have := pm_le (x + ju x (nI 4)) 252645135 k
    rw [m] at this
    exact this
  have h2 : (jbc3 x).toBitVec.toNat % 2 ^ (k + 8) ≤ 252645135 % 2 ^ (k + 8) := by
    unfold jbc3
    have := pm_le (x + ju x (nI 4)) 252645135 (k + 8)
    rw [m] at this
    exact this
  generalize jbc3 x = y at h1 h2 ⊢
  unfold jbc4
  have hb : bt (ju y (nI 8)) k = bt y (8 + k) := b_ushr 8 (by omega) y k
  have h3 : (ju y (nI 8)).toBitVec.toNat % 2 ^ k ≤ 252645135 % 2 ^ (k + 8) / 256 := by
    rw [nat_ju y (by decide)]
    have e : y.toBitVec.toNat / 2 ^ 8 % 2 ^ k = y.toBitVec.toNat % 2 ^ (k + 8) / 2 ^ 8 := by
      rw [Nat.pow_add, Nat.mul_comm (2 ^ k), Nat.mod_mul_right_div_self]
    rw [e]
    exact Nat.div_le_div_right h2
  rw [pb_add (by omega) (by omega), hb, Nat.add_comm 8 k]
theorem po_5 (x : Int32) : bt (jbc5 x) 0 = (bt x 0 ^^ bt x 16) := by
  unfold jbc5
  have hb : bt (ju x (nI 16)) 0 = bt x (16 + 0) := b_ushr 16 (by omega) x 0
  rw [pb_add (by omega) (by rw [Nat.pow_zero, Nat.mod_one, Nat.mod_one]; omega), hb]
theorem jbc_par (x : Int32) : bt (jbc x) 0 = mx_s 32 (bt x) := by
  unfold jbc
  rw [b_and, show bt (nI 63) 0 = true from rfl, Bool.and_true, po_5]
  have q4 : ∀ k, k = 0 ∨ k = 16 → bt (jbc4 (jbc3 (jbc2 (jbc1 x)))) k = (bt (jbc3 (jbc2 (jbc1 x))) k ^^ bt (jbc3 (jbc2 (jbc1 x))) (k + 8)) := by
    intro k hk
    rcases hk with rfl | rfl <;> exact po_4 _ (by decide) (by decide)
  have q3 : ∀ k, k = 0 ∨ k = 8 ∨ k = 16 ∨ k = 24 → bt (jbc3 (jbc2 (jbc1 x))) k = (bt (jbc2 (jbc1 x)) k ^^ bt (jbc2 (jbc1 x)) (k + 4)) := by
    intro k hk
    rcases hk with rfl | rfl | rfl | rfl <;> exact po_3 _ (by decide) (by decide) (by decide)
  have q2 : ∀ j, j < 8 → bt (jbc2 (jbc1 x)) (4 * j) = (bt (jbc1 x) (4 * j) ^^ bt (jbc1 x) (4 * j + 2)) := by
    intro j hj
    have h8 : ∀ j, j < 8 → 858993459 % 2 ^ (4 * j) + 858993459 % 2 ^ (4 * j) < 2 ^ (4 * j) ∧ Nat.testBit 858993459 (4 * j) = true := by decide +kernel
    exact po_2 _ (by omega) (h8 j hj).1 (h8 j hj).2
  have q1 : ∀ j, j < 16 → bt (jbc1 x) (2 * j) = (bt x (2 * j) ^^ bt x (2 * j + 1)) := by
    intro j hj
    have h16 : ∀ j, j < 16 → (2 * j = 0 ∨ Nat.testBit 1431655765 (2 * j - 1) = false) ∧ Nat.testBit 1431655765 (2 * j) = true := by decide +kernel
    exact po_1 _ (by omega) (h16 j hj).1 (h16 j hj).2
  rw [q4 0 (Or.inl rfl), q4 16 (Or.inr rfl), q3 0 (by simp), q3 (0 + 8) (by simp), q3 16 (by simp), q3 (16 + 8) (by simp)]
  have a0 := q2 0 (by omega); have a1 := q2 1 (by omega); have a2 := q2 2 (by omega); have a3 := q2 3 (by omega)
  have a4 := q2 4 (by omega); have a5 := q2 5 (by omega); have a6 := q2 6 (by omega); have a7 := q2 7 (by omega)
  have b0 := q1 0 (by omega); have b1 := q1 1 (by omega); have b2 := q1 2 (by omega); have b3 := q1 3 (by omega)
  have b4 := q1 4 (by omega); have b5 := q1 5 (by omega); have b6 := q1 6 (by omega); have b7 := q1 7 (by omega)
  have b8 := q1 8 (by omega); have b9 := q1 9 (by omega); have b10 := q1 10 (by omega); have b11 := q1 11 (by omega)
  have b12 := q1 12 (by omega); have b13 := q1 13 (by omega); have b14 := q1 14 (by omega); have b15 := q1 15 (by omega)
  simp only [Nat.reduceAdd, Nat.reduceMul] at a0 a1 a2 a3 a4 a5 a6 a7 b0 b1 b2 b3 b4 b5 b6 b7 b8 b9 b10 b11 b12 b13 b14 b15 ⊢
  rw [a0, a1, a2, a3, a4, a5, a6, a7, b0, b1, b2, b3, b4, b5, b6, b7, b8, b9, b10, b11, b12, b13, b14, b15]
  simp only [mx_s, Bool.false_xor, bxx]
theorem jbc_odd (x : Int32) : jbc x &&& nI 1 = nI 0 ↔ mx_s 32 (bt x) = false := by
  rw [← jbc_par]
  have e : ∀ y : Int32, y &&& nI 1 = if bt y 0 = true then 1 else 0 := by
    intro y
    refine b_ext (fun i hi => ?_)
    rw [b_and, show nI 1 = 1 from rfl, b_1 i hi]
    by_cases q : i = 0
    · rw [q]
      cases bt y 0 <;> rfl
    · rw [decide_eq_false q, Bool.and_false]
      cases bt y 0
      · exact (b_0 i).symm
      · rw [if_pos rfl, b_1 i hi, decide_eq_false q]
  rw [e]
  cases bt (jbc x) 0
  · exact ⟨fun _ => rfl, fun _ => rfl⟩
  · exact ⟨fun h => absurd h (by decide), fun h => absurd h (by decide)⟩
