/-! Int32 by its bits: the family of kit/laws/BITS.to-paste, and what we need beside it -/
def bt (x : Int32) (i : Nat) : Bool := x.toBitVec.getLsbD i
theorem b_ext {x y : Int32} (h : ∀ i, i < 32 → bt x i = bt y i) : x = y := Int32.toBitVec_inj.mp (BitVec.eq_of_getLsbD_eq (fun i hi => h i hi))
theorem b_or (x y : Int32) (i : Nat) : bt (x ||| y) i = (bt x i || bt y i) := by unfold bt; rw [Int32.toBitVec_or, BitVec.getLsbD_or]
theorem b_and (x y : Int32) (i : Nat) : bt (x &&& y) i = (bt x i && bt y i) := by unfold bt; rw [Int32.toBitVec_and, BitVec.getLsbD_and]
theorem b_xor (x y : Int32) (i : Nat) : bt (x ^^^ y) i = (bt x i ^^ bt y i) := by unfold bt; rw [Int32.toBitVec_xor, BitVec.getLsbD_xor]
theorem b_big {x : Int32} {i : Nat} (h : 32 ≤ i) : bt x i = false := BitVec.getLsbD_of_ge _ _ h
theorem b_255 (i : Nat) : bt 255 i = decide (i < 8) := by
  rcases Nat.lt_or_ge i 32 with h | h
  · exact (by decide +kernel : ∀ i, i < 32 → bt 255 i = decide (i < 8)) i h
  · rw [b_big h, decide_eq_false (by omega)]
theorem b_65535 (i : Nat) : bt 65535 i = decide (i < 16) := by
  rcases Nat.lt_or_ge i 32 with h | h
  · exact (by decide +kernel : ∀ i, i < 32 → bt 65535 i = decide (i < 16)) i h
  · rw [b_big h, decide_eq_false (by omega)]
theorem b_m1 : ∀ i, i < 32 → bt (-1) i = true := by decide +kernel
theorem b_0 (i : Nat) : bt 0 i = false := BitVec.getLsbD_zero
theorem s_l : ∀ n, n < 32 → ((nI n &&& 31).toBitVec.smod 32).toNat = n := by decide +kernel
theorem s_u : ∀ n, n < 32 → (((nI n).toUInt32 &&& Int32.toUInt32 31).toBitVec % 32).toNat = n := by decide +kernel
theorem b_shl (n : Nat) (hn : n < 32) (x : Int32) {i : Nat} (hi : i < 32) : bt (x <<< (nI n &&& 31)) i = (decide (n ≤ i) && bt x (i - n)) := by
  unfold bt
  rw [Int32.toBitVec_shiftLeft]
  show (x.toBitVec <<< ((nI n &&& 31).toBitVec.smod 32).toNat).getLsbD i = _
  rw [s_l n hn, BitVec.getLsbD_shiftLeft]
  rcases Nat.lt_or_ge i n with h | h
  · simp [h, Nat.not_le.mpr h]
  · simp [hi, h, Nat.not_lt.mpr h]
theorem b_ushr (n : Nat) (hn : n < 32) (x : Int32) (i : Nat) : bt ((x.toUInt32 >>> ((nI n).toUInt32 &&& Int32.toUInt32 31)).toInt32) i = bt x (n + i) := by
  show (x.toUInt32 >>> ((nI n).toUInt32 &&& Int32.toUInt32 31)).toBitVec.getLsbD i = x.toUInt32.toBitVec.getLsbD (n + i)
  rw [UInt32.toBitVec_shiftRight]
  show (x.toUInt32.toBitVec >>> (((nI n).toUInt32 &&& Int32.toUInt32 31).toBitVec % 32).toNat).getLsbD i = _
  rw [s_u n hn, BitVec.getLsbD_ushiftRight]
theorem b_1 : ∀ i, i < 32 → bt 1 i = decide (i = 0) := by decide +kernel
theorem jb_bt (x : Int32) {p : Nat} (hp : p < 32) : jb x (nI p) = if bt x p = true then 1 else 0 := by
  apply b_ext
  intro i hi
  unfold jb
  rw [b_and, b_1 i hi, show bt (ju x (nI p)) i = bt x (p + i) from b_ushr p hp x i]
  by_cases e : i = 0
  · subst e
    rw [Nat.add_zero]
    cases bt x p
    · rw [if_neg (by decide), b_0]; rfl
    · rw [if_pos rfl, b_1 0 (by decide)]; rfl
  · rw [decide_eq_false e, Bool.and_false]
    split
    · rw [b_1 i hi, decide_eq_false e]
    · rw [b_0]
theorem jb_0 {x : Int32} {p : Nat} (hp : p < 32) : jb x (nI p) = nI 0 ↔ bt x p = false := by
  rw [jb_bt x hp]
  cases bt x p
  · rw [if_neg (by decide)]; exact ⟨fun _ => rfl, fun _ => rfl⟩
  · rw [if_pos rfl]; exact ⟨fun h => absurd h (by decide), fun h => absurd h (by decide)⟩
theorem jb_n0 {x : Int32} {p : Nat} (hp : p < 32) : ¬ jb x (nI p) = nI 0 ↔ bt x p = true := by
  rw [jb_0 hp]
  cases bt x p <;> decide
theorem bt_jsh {p i : Nat} (hp : p < 32) (hi : i < 32) : bt (jsh (nI 1) (nI p)) i = decide (i = p) := by
  unfold jsh
  rw [b_shl p hp _ hi]
  by_cases e : p ≤ i
  · rw [decide_eq_true e, Bool.true_and]
    show bt 1 (i - p) = _
    rw [b_1 _ (by omega)]
    by_cases q : i = p
    · rw [decide_eq_true q, decide_eq_true (by omega)]
    · rw [decide_eq_false q, decide_eq_false (by omega)]
  · rw [decide_eq_false e, Bool.false_and, decide_eq_false (by omega)]
theorem bt_or1 (x : Int32) {p i : Nat} (hp : p < 32) (hi : i < 32) : bt (x ||| jsh (nI 1) (nI p)) i = (bt x i || decide (i = p)) := by rw [b_or, bt_jsh hp hi]
theorem bt_xor1 (x : Int32) {p i : Nat} (hp : p < 32) (hi : i < 32) : bt (x ^^^ jsh (nI 1) (nI p)) i = (bt x i ^^ decide (i = p)) := by rw [b_xor, bt_jsh hp hi]
/-! Int64 by its bits -/
def btl (x : Int64) (i : Nat) : Bool := x.toBitVec.getLsbD i
theorem l_ext {x y : Int64} (h : ∀ i, i < 64 → btl x i = btl y i) : x = y := Int64.toBitVec_inj.mp (BitVec.eq_of_getLsbD_eq (fun i hi => h i hi))
theorem l_or (x y : Int64) (i : Nat) : btl (x ||| y) i = (btl x i || btl y i) := by unfold btl; rw [Int64.toBitVec_or, BitVec.getLsbD_or]
theorem l_and (x y : Int64) (i : Nat) : btl (x &&& y) i = (btl x i && btl y i) := by unfold btl; rw [Int64.toBitVec_and, BitVec.getLsbD_and]
theorem l_xor (x y : Int64) (i : Nat) : btl (x ^^^ y) i = (btl x i ^^ btl y i) := by unfold btl; rw [Int64.toBitVec_xor, BitVec.getLsbD_xor]
theorem l_0 (i : Nat) : btl 0 i = false := BitVec.getLsbD_zero
theorem l_1 : ∀ i, i < 64 → btl 1 i = decide (i = 0) := by decide +kernel
theorem sl_l : ∀ n, n < 64 → (((nI n).toInt64 &&& 63).toBitVec.smod 64).toNat = n := by decide +kernel
theorem sl_u : ∀ n, n < 64 → (((nI n).toInt64.toUInt64 &&& Int64.toUInt64 63).toBitVec % 64).toNat = n := by decide +kernel
theorem l_ushr (n : Nat) (hn : n < 64) (x : Int64) (i : Nat) : btl (jul x (nI n)) i = btl x (n + i) := by
  show (x.toUInt64 >>> ((nI n).toInt64.toUInt64 &&& Int64.toUInt64 63)).toBitVec.getLsbD i = x.toUInt64.toBitVec.getLsbD (n + i)
  rw [UInt64.toBitVec_shiftRight]
  show (x.toUInt64.toBitVec >>> (((nI n).toInt64.toUInt64 &&& Int64.toUInt64 63).toBitVec % 64).toNat).getLsbD i = _
  rw [sl_u n hn, BitVec.getLsbD_ushiftRight]
theorem l_shl (n : Nat) (hn : n < 64) (x : Int64) {i : Nat} (hi : i < 64) : btl (jshl x (nI n)) i = (decide (n ≤ i) && btl x (i - n)) := by
  unfold btl jshl
  rw [Int64.toBitVec_shiftLeft]
  show (x.toBitVec <<< (((nI n).toInt64 &&& 63).toBitVec.smod 64).toNat).getLsbD i = _
  rw [sl_l n hn, BitVec.getLsbD_shiftLeft]
  rcases Nat.lt_or_ge i n with h | h
  · simp [h, Nat.not_le.mpr h]
  · simp [hi, h, Nat.not_lt.mpr h]
theorem l_sshr (n : Nat) (hn : n < 64) (x : Int64) {i : Nat} (hi : i < 64) : btl (jsrl x (nI n)) i = if n + i < 64 then btl x (n + i) else btl x 63 := by
  unfold btl jsrl
  rw [Int64.toBitVec_shiftRight]
  show (x.toBitVec.sshiftRight (((nI n).toInt64 &&& 63).toBitVec.smod 64).toNat).getLsbD i = _
  rw [sl_l n hn, BitVec.getLsbD_sshiftRight, BitVec.msb_eq_getLsbD_last]
  simp [hi]
theorem jbl_bt (x : Int64) {p : Nat} (hp : p < 64) : jbl x (nI p) = if btl x p = true then 1 else 0 := by
  apply l_ext
  intro i hi
  unfold jbl
  rw [l_and, l_1 i hi, l_ushr p hp]
  by_cases e : i = 0
  · subst e
    rw [Nat.add_zero]
    cases btl x p
    · rw [if_neg (by decide), l_0]; rfl
    · rw [if_pos rfl, l_1 0 (by decide)]; rfl
  · rw [decide_eq_false e, Bool.and_false]
    split
    · rw [l_1 i hi, decide_eq_false e]
    · rw [l_0]
theorem jbl_0 {x : Int64} {p : Nat} (hp : p < 64) : jbl x (nI p) = 0 ↔ btl x p = false := by
  rw [jbl_bt x hp]
  cases btl x p
  · rw [if_neg (by decide)]; exact ⟨fun _ => rfl, fun _ => rfl⟩
  · rw [if_pos rfl]; exact ⟨fun h => absurd h (by decide), fun h => absurd h (by decide)⟩
theorem jbls_bt (x : Int64) {p : Nat} (hp : p < 64) : jbls x (nI p) = if btl x p = true then 1 else 0 := by
  apply l_ext
  intro i hi
  unfold jbls
  rw [l_and, l_1 i hi, l_sshr p hp x hi]
  by_cases e : i = 0
  · subst e
    rw [Nat.add_zero, if_pos hp]
    cases btl x p
    · rw [if_neg (by decide), l_0]; rfl
    · rw [if_pos rfl, l_1 0 (by decide)]; rfl
  · rw [decide_eq_false e, Bool.and_false]
    split
    · rw [l_1 i hi, decide_eq_false e]
    · rw [l_0]
theorem btl_1 {p i : Nat} (hp : p < 64) (hi : i < 64) : btl (jshl 1 (nI p)) i = decide (i = p) := by
  rw [l_shl p hp _ hi]
  by_cases e : p ≤ i
  · rw [decide_eq_true e, Bool.true_and, l_1 _ (by omega)]
    by_cases q : i = p
    · rw [decide_eq_true q, decide_eq_true (by omega)]
    · rw [decide_eq_false q, decide_eq_false (by omega)]
  · rw [decide_eq_false e, Bool.false_and, decide_eq_false (by omega)]
theorem btl_or1 (x : Int64) {p i : Nat} (hp : p < 64) (hi : i < 64) : btl (x ||| jshl 1 (nI p)) i = (btl x i || decide (i = p)) := by rw [l_or, btl_1 hp hi]
theorem btl_xor1 (x : Int64) {p i : Nat} (hp : p < 64) (hi : i < 64) : btl (x ^^^ jshl 1 (nI p)) i = (btl x i ^^ decide (i = p)) := by rw [l_xor, btl_1 hp hi]
