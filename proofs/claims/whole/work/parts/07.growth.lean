/-! what the walk over the branches keeps -/
theorem gm_cn_le (x : Int32) : ∀ n, gm_cn x n ≤ n
  | 0 => Nat.le_refl 0
  | n + 1 => by
    have ih := gm_cn_le x n
    unfold gm_cn
    split <;> omega
theorem gm_cn_lt {x : Int32} {p : Nat} (h : jb x (nI p) = nI 0) : ∀ n, p < n → gm_cn x n < n
  | 0, hp => absurd hp (Nat.not_lt_zero p)
  | n + 1, hp => by
    unfold gm_cn
    by_cases e : p = n
    · subst e
      rw [if_pos h]
      have := gm_cn_le x p
      omega
    · have ih := gm_cn_lt h n (by omega)
      split <;> omega
theorem gm_cn_same {x y : Int32} : ∀ n, n ≤ 32 → (∀ q, q < n → bt x q = bt y q) → gm_cn x n = gm_cn y n
  | 0, _, _ => rfl
  | n + 1, hn, h => by
    unfold gm_cn
    rw [gm_cn_same n (by omega) (fun q hq => h q (by omega)), jb_bt x (by omega), jb_bt y (by omega), h n (by omega)]
theorem gm_cn_add {x : Int32} {p : Nat} (hx : jb x (nI p) = nI 0) : ∀ n, n ≤ 32 → p < n → gm_cn (x ||| jsh (nI 1) (nI p)) n = gm_cn x n + 1
  | 0, _, hp => absurd hp (Nat.not_lt_zero p)
  | n + 1, hn, hp => by
    have hx' : bt x p = false := (jb_0 (by omega)).mp hx
    unfold gm_cn
    by_cases e : p = n
    · subst e
      rw [gm_cn_same (y := x) p (by omega) (fun q hq => by rw [bt_or1 x (by omega) (by omega), decide_eq_false (by omega), Bool.or_false]), if_pos hx, if_neg]
      rw [jb_0 (by omega), bt_or1 x (by omega) (by omega), hx']
      simp
    · rw [gm_cn_add hx n (by omega) (by omega)]
      have : jb (x ||| jsh (nI 1) (nI p)) (nI n) = jb x (nI n) := by
        rw [jb_bt _ (by omega), jb_bt _ (by omega), bt_or1 x (by omega) (by omega), decide_eq_false (by omega), Bool.or_false]
      rw [this]
      split <;> omega
theorem gm_reach_cn {u : Int32 × (Nat → Int32) × (Nat → Nat) × Nat} {p : Nat} {y : Int32} (hp : p < 30) (h : u.2.2.2 = gm_cn u.1 30) : (gm_reach u p y).2.2.2 = gm_cn (gm_reach u p y).1 30 := by
  unfold gm_reach
  by_cases c : jb u.1 (nI p) = nI 0
  · rw [if_pos c]
    show u.2.2.2 + 1 = gm_cn (u.1 ||| jsh (nI 1) (nI p)) 30
    rw [gm_cn_add c 30 (by omega) hp, h]
  · rw [if_neg c]; exact h
theorem gm_reach_lt {u : Int32 × (Nat → Int32) × (Nat → Nat) × Nat} {p : Nat} {y : Int32} (hp : p < 30) (h : ∀ q, u.2.2.1 q < 30) : ∀ q, (gm_reach u p y).2.2.1 q < 30 := by
  unfold gm_reach
  split
  · exact gd_uN_lt h hp
  · exact h
theorem gm_oe_lt {a c : Nat → Nat} (ha : ∀ q, a q < 30) (hc : ∀ q, c q < 30) (e p : Nat) : gm_oe a c e p < 30 := by
  unfold gm_oe
  split
  · exact hc e
  · exact ha e
/-- what the walk keeps: its length is the number of points seen, its points are points, what reached them is an edge or nothing -/
def gm_RB (x : Int32) : Prop := x = -1 ∨ (x = nI (gm_eN x) ∧ gm_eN x < 60)
theorem gm_RB_nI {e : Nat} (h : e < 60) : gm_RB (nI e) := by
  refine Or.inr ?_
  unfold gm_eN
  rw [nI_clamp (by omega)]
  exact ⟨rfl, h⟩
def gm_WI (u : Int32 × (Nat → Int32) × (Nat → Nat) × Nat) : Prop := u.2.2.2 = gm_cn u.1 30 ∧ (∀ q, u.2.2.1 q < 30) ∧ ∀ q, gm_RB (u.2.1 q)
theorem gm_reach_WI {u : Int32 × (Nat → Int32) × (Nat → Nat) × Nat} {p : Nat} {y : Int32} (hp : p < 30) (hy : gm_RB y) (h : gm_WI u) : gm_WI (gm_reach u p y) := by
  refine ⟨gm_reach_cn hp h.1, gm_reach_lt hp h.2.1, ?_⟩
  unfold gm_reach
  split
  · intro q
    show gm_RB (upd u.2.1 p y q)
    unfold upd
    split
    · exact hy
    · exact h.2.2 q
  · exact h.2.2
theorem gm_wo_WI {u : Int32 × (Nat → Int32) × (Nat → Nat) × Nat} {a c : Nat → Nat} {br : Int64} {p : Nat} (ha : ∀ q, a q < 30) (hc : ∀ q, c q < 30) (h : gm_WI u) : ∀ n, n ≤ 60 → gm_WI (gm_wo u a c br p n)
  | 0, _ => h
  | n + 1, hn => by
    have ih := gm_wo_WI (br := br) (p := p) ha hc h n (by omega)
    unfold gm_wo
    repeat' split
    · exact ih
    · exact gm_reach_WI (gm_oe_lt ha hc _ _) (gm_RB_nI (by omega)) ih
    · exact ih
    · exact gm_reach_WI (gm_oe_lt ha hc _ _) (gm_RB_nI (by omega)) ih
    · exact ih
theorem gm_cn_zero : ∀ n, n ≤ 32 → gm_cn (nI 0) n = 0
  | 0, _ => rfl
  | n + 1, hn => by
    unfold gm_cn
    rw [if_pos ((jb_0 (x := nI 0) (by omega)).mpr (b_0 n)), gm_cn_zero n (by omega)]
theorem gm_w1_WI {r : Nat → Int32} {k l : Nat → Nat} {m : Nat → Int32} {bd : Int32} {P : Nat} (hr : ∀ q, gm_RB (r q)) (hk : ∀ q, k q < 30) (hrt : ∀ p, p < P → l p = p → gm_root m bd p = nI (gm_rootN m bd p) ∧ gm_rootN m bd p < 30) : ∀ n, n ≤ P → gm_WI (gm_w1 r k l m bd n)
  | 0, _ => ⟨(gm_cn_zero 30 (by omega)).symm, hk, hr⟩
  | n + 1, hn => by
    have ih := gm_w1_WI hr hk hrt n (by omega)
    unfold gm_w1
    split
    · next c => exact gm_reach_WI (hrt n (by omega) c).2 (Or.inl rfl) ih
    · exact ih
theorem gm_w2_WI {u : Int32 × (Nat → Int32) × (Nat → Nat) × Nat} {E : Nat} {a c : Nat → Nat} {br : Int64} (hE : E ≤ 60) (ha : ∀ q, a q < 30) (hc : ∀ q, c q < 30) (h : gm_WI u) : ∀ n, gm_WI (gm_w2 u E a c br n)
  | 0 => h
  | n + 1 => by
    have ih := gm_w2_WI (br := br) hE ha hc h n
    unfold gm_w2
    split
    · exact ih
    · exact gm_wo_WI ha hc ih E hE
theorem gm_walk_WI {r : Nat → Int32} {k l : Nat → Nat} {m : Nat → Int32} {bd : Int32} {P E : Nat} {a c : Nat → Nat} {br : Int64} (hr : ∀ q, gm_RB (r q)) (hk : ∀ q, k q < 30) (hrt : ∀ p, p < P → l p = p → gm_root m bd p = nI (gm_rootN m bd p) ∧ gm_rootN m bd p < 30) (hE : E ≤ 60) (ha : ∀ q, a q < 30) (hc : ∀ q, c q < 30) : gm_WI (gm_walk r k l m bd P E a c br) :=
  gm_w2_WI hE ha hc (gm_w1_WI hr hk hrt P (Nat.le_refl P)) P
