/-! the least bit that is set -/
theorem tz_dec : ∀ k, k < 32 → (if nI 0 < nI (2 ^ k - 1) then jz5 (jz4 (jz3 (jz2 (jz1 (nI (2 ^ k - 1)))))) else nI (2 ^ k - 1) &&& nI 32) = nI k := by decide +kernel
theorem tz_nat {X k m : Nat} (hX : X = 2 ^ k * (2 * m + 1)) (j : Nat) : (X - 1).testBit j = if j < k then true else if j = k then false else X.testBit j := by
  have hk : 0 < 2 ^ k := Nat.two_pow_pos k
  have e1 : X - 1 = 2 ^ k * (2 * m) + (2 ^ k - 1) := by
    rw [hX, Nat.mul_add, Nat.mul_one]
    omega
  have e2 : X = 2 ^ k * (2 * m + 1) + 0 := by omega
  rw [e1, Nat.testBit_two_pow_mul_add _ (by omega)]
  by_cases h : j < k
  · rw [if_pos h, if_pos h, Nat.testBit_two_pow_sub_one]
    simp [h]
  · rw [if_neg h, if_neg h]
    by_cases q : j = k
    · rw [if_pos q, q, Nat.sub_self]
      simp [Nat.testBit_zero]
    · rw [if_neg q, e2, Nat.testBit_two_pow_mul_add _ hk, if_neg h]
      obtain ⟨d, hd⟩ : ∃ d, j - k = d + 1 := ⟨j - k - 1, by omega⟩
      rw [hd, Nat.testBit_succ, Nat.testBit_succ]
      congr 1
      omega
theorem tz_low : ∀ (X : Nat), 0 < X → ∃ k m, X = 2 ^ k * (2 * m + 1) := by
  intro X
  induction X using Nat.strongRecOn with
  | ind X ih =>
    intro h
    by_cases e : X % 2 = 1
    · exact ⟨0, X / 2, by omega⟩
    · obtain ⟨k, m, hk⟩ := ih (X / 2) (by omega) (by omega)
      refine ⟨k + 1, m, ?_⟩
      have : X = 2 * (X / 2) := by omega
      rw [this, hk, Nat.pow_succ]
      have e2 : 2 ^ k * 2 * (2 * m + 1) = 2 * (2 ^ k * (2 * m + 1)) := by
        rw [Nat.mul_comm (2 ^ k) 2, Nat.mul_assoc]
      exact e2.symm
theorem bt_nat (x : Int32) (i : Nat) : bt x i = x.toBitVec.toNat.testBit i := rfl
theorem nI_bv (n : Nat) : (nI n).toBitVec = BitVec.ofNat 32 n := rfl
theorem bt_nI (n : Nat) {i : Nat} (hi : i < 32) : bt (nI n) i = n.testBit i := by
  unfold bt
  rw [nI_bv, BitVec.getLsbD_ofNat, decide_eq_true hi, Bool.true_and]
/-- numberOfTrailingZeros: the least bit that is set -/
theorem jtz_low {x : Int32} (hx : ¬ x = nI 0) : ∃ k, k < 32 ∧ jtz x = nI k ∧ bt x k = true ∧ ∀ j, j < k → bt x j = false := by
  have hX : 0 < x.toBitVec.toNat := by
    rcases Nat.eq_zero_or_pos x.toBitVec.toNat with h | h
    · exfalso
      apply hx
      apply Int32.toBitVec_inj.mp
      apply BitVec.eq_of_toNat_eq
      rw [h]; rfl
    · exact h
  obtain ⟨k, m, hkm⟩ := tz_low _ hX
  have hlt := x.toBitVec.isLt
  have hk : k < 32 := by
    rcases Nat.lt_or_ge k 32 with h | h
    · exact h
    · exfalso
      have : 2 ^ 32 ≤ 2 ^ k := Nat.pow_le_pow_right (by omega) h
      have : 2 ^ k * 1 ≤ 2 ^ k * (2 * m + 1) := Nat.mul_le_mul_left _ (by omega)
      omega
  have hbits : ∀ j, bt x j = if j < k then false else if j = k then true else bt x j := by
    intro j
    by_cases h : j < k
    · rw [if_pos h, bt_nat, show x.toBitVec.toNat = 2 ^ k * (2 * m + 1) + 0 by omega, Nat.testBit_two_pow_mul_add _ (Nat.two_pow_pos k), if_pos h]
      simp
    · rw [if_neg h]
      by_cases q : j = k
      · rw [if_pos q, q, bt_nat, show x.toBitVec.toNat = 2 ^ k * (2 * m + 1) + 0 by omega, Nat.testBit_two_pow_mul_add _ (Nat.two_pow_pos k), if_neg (by omega), Nat.sub_self]
        simp [Nat.testBit_zero]
      · rw [if_neg q]
  have hsub : (x - nI 1).toBitVec.toNat = x.toBitVec.toNat - 1 := by
    rw [Int32.toBitVec_sub, BitVec.toNat_sub]
    show (2 ^ 32 - 1 + x.toBitVec.toNat) % 2 ^ 32 = _
    omega
  have hjz : jz x = nI (2 ^ k - 1) := by
    apply b_ext
    intro i hi
    unfold jz
    rw [b_and, b_xor, b_m1 i hi, bt_nI _ hi, Nat.testBit_two_pow_sub_one, bt_nat (x - nI 1), hsub, tz_nat hkm i, hbits i]
    by_cases h : i < k
    · simp [h]
    · by_cases q : i = k
      · simp [q]
      · simp only [if_neg h, if_neg q, decide_eq_false h]
        rw [← bt_nat]
        cases bt x i <;> rfl
  refine ⟨k, hk, ?_, ?_, ?_⟩
  · unfold jtz
    rw [hjz]
    exact tz_dec k hk
  · rw [hbits k, if_neg (by omega), if_pos rfl]
  · intro j hj
    rw [hbits j, if_pos hj]
theorem gm_root_ok {m : Nat → Int32} {bd : Int32} {p : Nat} (hbd : ∀ i, 30 ≤ i → bt bd i = false) (hp : p < 30) : gm_root m bd p = nI (gm_rootN m bd p) ∧ gm_rootN m bd p < 30 := by
  unfold gm_rootN gm_root
  by_cases h : m p &&& bd = nI 0
  · rw [if_pos h, nI_clamp (by omega)]; exact ⟨rfl, hp⟩
  · rw [if_neg h]
    obtain ⟨k, hk, e, hb, -⟩ := jtz_low h
    rw [e, nI_clamp (by omega)]
    refine ⟨rfl, ?_⟩
    rcases Nat.lt_or_ge k 30 with q | q
    · exact q
    · rw [b_and, hbd k q, Bool.and_false] at hb
      exact absurd hb (by decide)
