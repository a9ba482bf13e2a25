/-! arguments that are places -/
theorem gm_ix {x : Int32} {n : Nat} (hn : n < 2 ^ 31) (h0 : ¬ x < nI 0) (h1 : ¬ nI n ≤ x) : x = nI (gm_eN x) ∧ gm_eN x < n := by
  have h0' : ¬ x < 0 := h0
  obtain ⟨j, hj, rfl⟩ := nI_of h0'
  unfold gm_eN
  rw [nI_clamp hj]
  refine ⟨rfl, ?_⟩
  rcases Nat.lt_or_ge j n with q | q
  · exact q
  · exact absurd (nI_le q hj) h1
theorem gm_has_nat {n : Nat} {x : Int32} (hn : n < 2 ^ 31) (h : gm_has n x = true) : x = nI (gm_eN x) ∧ gm_eN x < n := by
  unfold gm_has at h
  have h2 : ¬ x < nI 0 ∧ ¬ nI n ≤ x := by simpa using h
  exact gm_ix hn h2.1 h2.2
theorem gm_has_nI {n j : Nat} (hn : n < 2 ^ 31) (hj : j < 2 ^ 31) : gm_has n (nI j) = decide (j < n) := by
  unfold gm_has
  rw [decide_eq_false (show ¬ nI j < nI 0 from nI_nlt (Nat.zero_le j) hj)]
  by_cases h : j < n
  · rw [decide_eq_true h, decide_eq_false (nI_ge h hn)]; rfl
  · rw [decide_eq_false h, decide_eq_true (nI_le (by omega) hj)]; rfl
theorem gm_join_nat {n : Nat} {bd x y : Int32} (hn : n < 2 ^ 31) (h : gm_join n bd x y = true) : (x = nI (gm_eN x) ∧ gm_eN x < n) ∧ (y = nI (gm_eN y) ∧ gm_eN y < n) := by
  unfold gm_join at h
  cases h1 : gm_has n x
  · rw [h1] at h; exact absurd h (by simp)
  · cases h2 : gm_has n y
    · rw [h1, h2] at h; exact absurd h (by simp)
    · exact ⟨gm_has_nat hn h1, gm_has_nat hn h2⟩
theorem gm_rng {x : Int32} {k n : Nat} (hk : k < 2 ^ 31) (hn : n < 2 ^ 31) (h0 : ¬ x < nI k) (h1 : ¬ nI n < x) : x = nI (gm_eN x) ∧ k ≤ gm_eN x ∧ gm_eN x ≤ n := by
  have hx : ¬ x < 0 := by
    intro q
    apply h0
    rw [Int32.lt_iff_toInt_lt] at q ⊢
    rw [nI_toInt hk]
    have : (0 : Int32).toInt = 0 := Int32.toInt_zero
    omega
  obtain ⟨j, hj, rfl⟩ := nI_of hx
  unfold gm_eN
  rw [nI_clamp hj]
  refine ⟨rfl, ?_, ?_⟩
  · rcases Nat.lt_or_ge j k with q | q
    · exact absurd (nI_lt q hk) h0
    · exact q
  · rcases Nat.lt_or_ge n j with q | q
    · exact absurd (nI_lt q hj) h1
    · exact q
theorem gd_out5 {x : Int32} (c0 : ¬ x = 0) (c1 : ¬ x = 1) (c2 : ¬ x = 2) (c3 : ¬ x = 3) (c4 : ¬ x = 4) : x.toInt < 0 ∨ 4 < x.toInt := by
  have e0 := lv_neT c0 (a := 0) rfl
  have e1 := lv_neT c1 (a := 1) rfl
  have e2 := lv_neT c2 (a := 2) rfl
  have e3 := lv_neT c3 (a := 3) rfl
  have e4 := lv_neT c4 (a := 4) rfl
  omega
