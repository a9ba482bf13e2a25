/-! a count's parity -/
theorem pa_add {A B k : Nat} (h : A % 2 ^ k + B % 2 ^ k < 2 ^ k) : (A + B).testBit k = (A.testBit k ^^ B.testBit k) := by
  have e : (A + B) / 2 ^ k = A / 2 ^ k + B / 2 ^ k := by
    have hA := Nat.div_add_mod A (2 ^ k)
    have hB := Nat.div_add_mod B (2 ^ k)
    have hp : 0 < 2 ^ k := Nat.two_pow_pos k
    have : A + B = (A % 2 ^ k + B % 2 ^ k) + 2 ^ k * (A / 2 ^ k + B / 2 ^ k) := by
      rw [Nat.mul_add]; omega
    rw [this, Nat.add_mul_div_left _ _ hp, Nat.div_eq_of_lt h, Nat.zero_add]
  simp only [Nat.testBit_eq_decide_div_mod_eq]
  rw [e]
  rcases Nat.mod_two_eq_zero_or_one (A / 2 ^ k) with a | a <;> rcases Nat.mod_two_eq_zero_or_one (B / 2 ^ k) with b | b <;> simp [Nat.add_mod, a, b]
theorem pa_sub {A B k : Nat} (h1 : B ≤ A) (h : B % 2 ^ k ≤ A % 2 ^ k) : (A - B).testBit k = (A.testBit k ^^ B.testBit k) := by
  have hs : (A - B) % 2 ^ k + B % 2 ^ k < 2 ^ k := by
    have hA := Nat.div_add_mod A (2 ^ k)
    have hB := Nat.div_add_mod B (2 ^ k)
    have hp : 0 < 2 ^ k := Nat.two_pow_pos k
    have hq : B / 2 ^ k ≤ A / 2 ^ k := Nat.div_le_div_right h1
    have e : A - B = (A % 2 ^ k - B % 2 ^ k) + 2 ^ k * (A / 2 ^ k - B / 2 ^ k) := by
      rw [Nat.mul_sub]
      have : 2 ^ k * (B / 2 ^ k) ≤ 2 ^ k * (A / 2 ^ k) := Nat.mul_le_mul_left _ hq
      omega
    rw [e, Nat.add_mul_mod_self_left, Nat.mod_eq_of_lt (by have := Nat.mod_lt A hp; omega)]
    have := Nat.mod_lt A hp
    omega
  have := pa_add hs
  rw [Nat.sub_add_cancel h1] at this
  rw [this]
  cases (A - B).testBit k <;> cases B.testBit k <;> rfl
theorem pa_mask (a m k : Nat) : (a &&& m) % 2 ^ k ≤ m % 2 ^ k := by
  rw [Nat.and_mod_two_pow]
  exact Nat.and_le_right
theorem bt_pa (x : Int32) (i : Nat) : bt x i = x.toBitVec.toNat.testBit i := rfl
theorem nat_and (x y : Int32) : (x &&& y).toBitVec.toNat = x.toBitVec.toNat &&& y.toBitVec.toNat := by
  rw [Int32.toBitVec_and, BitVec.toNat_and]
/-- the lowest place of a field of a sum without carry into it -/
theorem pb_add {x y : Int32} {k : Nat} (hk : k < 32) (h : x.toBitVec.toNat % 2 ^ k + y.toBitVec.toNat % 2 ^ k < 2 ^ k) : bt (x + y) k = (bt x k ^^ bt y k) := by
  rw [bt_pa, bt_pa, bt_pa, Int32.toBitVec_add, BitVec.toNat_add, Nat.testBit_mod_two_pow, ← pa_add h, decide_eq_true hk, Bool.true_and]
theorem pb_sub {x y : Int32} {k : Nat} (h1 : y.toBitVec.toNat ≤ x.toBitVec.toNat) (h : y.toBitVec.toNat % 2 ^ k ≤ x.toBitVec.toNat % 2 ^ k) : bt (x - y) k = (bt x k ^^ bt y k) := by
  have e : (x - y).toBitVec.toNat = x.toBitVec.toNat - y.toBitVec.toNat := by
    rw [Int32.toBitVec_sub]
    exact BitVec.toNat_sub_of_le h1
  rw [bt_pa, bt_pa, bt_pa, e, pa_sub h1 h]
theorem nat_ju (x : Int32) {n : Nat} (hn : n < 32) : (ju x (nI n)).toBitVec.toNat = x.toBitVec.toNat / 2 ^ n := by
  refine Nat.eq_of_testBit_eq (fun i => ?_)
  have := b_ushr n hn x i
  rw [Nat.testBit_div_two_pow, Nat.add_comm i n]
  exact this
/-- what a sum of masked halves is below a place -/
theorem pm_le (x m : Int32) (k : Nat) : (x &&& m).toBitVec.toNat % 2 ^ k ≤ m.toBitVec.toNat % 2 ^ k := by
  rw [nat_and]; exact pa_mask _ _ _
