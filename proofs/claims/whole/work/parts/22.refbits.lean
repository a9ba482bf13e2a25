theorem b_sshr (n : Nat) (hn : n < 32) (x : Int32) {i : Nat} (hi : i < 32) : bt (x >>> (nI n &&& 31)) i = if n + i < 32 then bt x (n + i) else bt x 31 := by
  unfold bt
  rw [Int32.toBitVec_shiftRight]
  show (x.toBitVec.sshiftRight ((nI n &&& 31).toBitVec.smod 32).toNat).getLsbD i = _
  rw [s_l n hn, BitVec.getLsbD_sshiftRight, BitVec.msb_eq_getLsbD_last]
  simp [hi]
theorem jbs_bt (x : Int32) {p : Nat} (hp : p < 32) : jbs x (nI p) = if bt x p = true then 1 else 0 := by
  apply b_ext
  intro i hi
  unfold jbs
  rw [b_and, b_1 i hi, show bt (jsr x (nI p)) i = if p + i < 32 then bt x (p + i) else bt x 31 from b_sshr p hp x hi]
  by_cases e : i = 0
  · subst e
    rw [Nat.add_zero, if_pos hp]
    cases bt x p
    · rw [if_neg (by decide), b_0]; rfl
    · rw [if_pos rfl, b_1 0 (by decide)]; rfl
  · rw [decide_eq_false e, Bool.and_false]
    split
    · rw [b_1 i hi, decide_eq_false e]
    · rw [b_0]
theorem jbs_0 {x : Int32} {p : Nat} (hp : p < 32) : jbs x (nI p) = nI 0 ↔ bt x p = false := by
  rw [jbs_bt x hp]
  cases bt x p
  · rw [if_neg (by decide)]; exact ⟨fun _ => rfl, fun _ => rfl⟩
  · rw [if_pos rfl]; exact ⟨fun h => absurd h (by decide), fun h => absurd h (by decide)⟩
theorem b30_ne {x : Int32} (h : b30 x) (hx : ¬ x = nI 0) : ∃ k, k < 30 ∧ bt x k = true := by
  obtain ⟨k, hk, -, hb, -⟩ := jtz_low hx
  refine ⟨k, ?_, hb⟩
  rcases Nat.lt_or_ge k 30 with q | q
  · exact q
  · rw [h k q] at hb
    exact absurd hb (by decide)
theorem mr_hi_at {x : Int32} : ∀ n, n ≤ 32 → (∃ k, k < n ∧ bt x k = true) → ∃ k, k < n ∧ mr_hi x n = nI k ∧ bt x k = true ∧ ∀ j, k < j → j < n → bt x j = false
  | 0, _, ⟨k, hk, _⟩ => absurd hk (Nat.not_lt_zero k)
  | n + 1, hn, ⟨k, hk, hb⟩ => by
    unfold mr_hi
    by_cases c : jbs x (nI n) = nI 0
    · have hc := (jbs_0 (by omega)).mp c
      rw [if_pos c]
      have hkn : k < n := by
        rcases Nat.lt_or_ge k n with q | q
        · exact q
        · have : k = n := by omega
          rw [this, hc] at hb
          exact absurd hb (by decide)
      obtain ⟨j, hj, e, hbj, hmax⟩ := mr_hi_at n (by omega) ⟨k, hkn, hb⟩
      refine ⟨j, by omega, e, hbj, fun i h1 h2 => ?_⟩
      rcases Nat.lt_or_ge i n with q | q
      · exact hmax i h1 q
      · have : i = n := by omega
        rw [this]; exact hc
    · rw [if_neg c]
      refine ⟨n, by omega, rfl, ?_, fun i h1 h2 => absurd h2 (by omega)⟩
      cases hbn : bt x n
      · exact absurd ((jbs_0 (by omega)).mpr hbn) c
      · rfl
theorem mr_hi_ok {x : Int32} (h : b30 x) (hx : ¬ x = nI 0) : mr_hi x 30 = nI (gm_eN (mr_hi x 30)) ∧ gm_eN (mr_hi x 30) < 30 := by
  obtain ⟨k, hk, e, -, -⟩ := mr_hi_at 30 (by omega) (b30_ne h hx)
  unfold gm_eN
  rw [e, nI_clamp (by omega)]
  exact ⟨rfl, hk⟩
theorem b30_jsh {p : Nat} (hp : p < 30) : b30 (jsh (nI 1) (nI p)) := by
  intro i hi
  rcases Nat.lt_or_ge i 32 with h | h
  · rw [bt_jsh (by omega) h, decide_eq_false (by omega)]
  · exact b_big h
theorem b30_syn {n : Nat → Nat} {b : Nat → Bool} {x : Int64} (hn : ∀ q, n q < 30) : ∀ k, b30 (mr_syn n b x k)
  | 0 => b30_0
  | k + 1 => by
    have ih := b30_syn (b := b) (x := x) hn k
    unfold mr_syn
    repeat' split
    · exact ih
    · exact b30_xor ih (b30_jsh (hn k))
    · exact ih
theorem b30_lf {rp : Nat → Int32} {re : Nat → Int64} {x : Int32} (hr : ∀ q, b30 (rp q)) (hx : b30 x) : ∀ n, b30 (mr_lf rp re x n).1
  | 0 => hx
  | n + 1 => by
    have ih := b30_lf (re := re) hr hx n
    unfold mr_lf
    split
    · exact ih
    · split
      · exact ih
      · exact b30_xor ih (hr _)
theorem b30_lf' {rp : Nat → Int32} {re : Nat → Int64} {x : Int32} (hr : ∀ q, q < 30 → b30 (rp q)) (hx : b30 x) : ∀ n, b30 (mr_lf rp re x n).1
  | 0 => hx
  | n + 1 => by
    have ih := b30_lf' (re := re) hr hx n
    unfold mr_lf
    split
    · exact ih
    · split
      · exact ih
      · exact b30_xor ih (hr _ (by omega))
theorem b30_c1 {n l : Nat → Nat} {b : Nat → Bool} {h : Bool} {v : Nat → Int32} {E : Nat} {s : (Nat → Int32) × (Nat → Int64) × (Nat → Bool) × Nat × Int64} (hn : ∀ q, n q < 30) (hs : ∀ q, q < 30 → b30 (s.1 q)) : ∀ q, q < 30 → b30 ((mr_c1 n l b h v E s).1 q) := by
  intro q hq
  have hq1 := b30_lf' (re := s.2.1) hs (b30_syn (b := b) (x := jshl 1 (nI (gm_eN (mr_nx s.2.2.1 h l v E)))) hn (2 * E)) 30
  unfold mr_c1
  split
  · exact hs q hq
  · show b30 (upd _ _ _ q)
    unfold upd
    split
    · exact hq1
    · exact hs q hq
theorem b30_mch {n l : Nat → Nat} {b : Nat → Bool} {h : Bool} {v : Nat → Int32} {E : Nat} {u : (Nat → Int32) × (Nat → Int64) × (Nat → Bool) × Nat × Int64} (hn : ∀ q, n q < 30) (hu : ∀ q, q < 30 → b30 (u.1 q)) : ∀ i q, q < 30 → b30 ((mr_ch n l b h v E u i).1 q)
  | 0 => hu
  | i + 1 => b30_c1 hn (b30_mch hn hu i)
theorem mr_c1_tk {n l : Nat → Nat} {b : Nat → Bool} {h : Bool} {v : Nat → Int32} {E : Nat} {s : (Nat → Int32) × (Nat → Int64) × (Nat → Bool) × Nat × Int64} : (mr_c1 n l b h v E s).2.2.1 = gd_uB s.2.2.1 (gm_eN (mr_nx s.2.2.1 h l v E)) true := by
  unfold mr_c1
  split <;> rfl
/-- how many of the first n are taken -/
def mr_tk (t : Nat → Bool) : Nat → Nat
  | 0 => 0
  | n + 1 => if t n = true then mr_tk t n + 1 else mr_tk t n
theorem mr_tk_free {t : Nat → Bool} : ∀ n, mr_tk t n < n → ∃ e, e < n ∧ t e = false
  | 0, h => absurd h (Nat.not_lt_zero _)
  | n + 1, h => by
    unfold mr_tk at h
    cases ht : t n
    · exact ⟨n, Nat.lt_succ_self n, ht⟩
    · rw [ht, if_pos rfl] at h
      obtain ⟨e, he, q⟩ := mr_tk_free (t := t) n (by omega)
      exact ⟨e, by omega, q⟩
theorem mr_tk_up {t : Nat → Bool} {e : Nat} : ∀ n, mr_tk (gd_uB t e true) n ≤ mr_tk t n + 1
  | 0 => Nat.zero_le _
  | n + 1 => by
    have ih := mr_tk_up (t := t) (e := e) n
    have same : ∀ m, m ≤ e → mr_tk (gd_uB t e true) m = mr_tk t m := by
      intro m
      induction m with
      | zero => intro _; rfl
      | succ m ihm =>
        intro hm
        unfold mr_tk
        rw [ihm (by omega), show gd_uB t e true m = t m by unfold gd_uB; rw [if_neg (by omega)]]
    by_cases q : n = e
    · have h1 := same n (by omega)
      unfold mr_tk
      rw [h1]
      split <;> split <;> omega
    · unfold mr_tk
      rw [show gd_uB t e true n = t n by unfold gd_uB; rw [if_neg q]]
      split <;> omega
theorem mr_ff_at (f : Nat → Bool) : ∀ (n q : Nat), q < n → mr_ff f n q = false
  | 0, q, h => absurd h (Nat.not_lt_zero q)
  | n + 1, q, h => by
    show gd_uB (mr_ff f n) n false q = false
    unfold gd_uB
    by_cases e : q = n
    · rw [if_pos e]
    · rw [if_neg e]; exact mr_ff_at f n q (by omega)
theorem mr_tk_0 {t : Nat → Bool} : ∀ n, (∀ q, q < n → t q = false) → mr_tk t n = 0
  | 0, _ => rfl
  | n + 1, h => by
    unfold mr_tk
    rw [h n (by omega), if_neg (by decide), mr_tk_0 n (fun q hq => h q (by omega))]
theorem mr_ch_tk {n l : Nat → Nat} {b : Nat → Bool} {h : Bool} {v : Nat → Int32} {E : Nat} {u : (Nat → Int32) × (Nat → Int64) × (Nat → Bool) × Nat × Int64} (h0 : mr_tk u.2.2.1 E = 0) : ∀ i, mr_tk (mr_ch n l b h v E u i).2.2.1 E ≤ i
  | 0 => by rw [show mr_ch n l b h v E u 0 = u from rfl, h0]; exact Nat.le_refl 0
  | i + 1 => by
    have ih := mr_ch_tk (n := n) (l := l) (b := b) (h := h) (v := v) h0 i
    have e : (mr_ch n l b h v E u (i + 1)).2.2.1 = gd_uB (mr_ch n l b h v E u i).2.2.1 (gm_eN (mr_nx (mr_ch n l b h v E u i).2.2.1 h l v E)) true := mr_c1_tk
    rw [e]
    have := mr_tk_up (t := (mr_ch n l b h v E u i).2.2.1) (e := gm_eN (mr_nx (mr_ch n l b h v E u i).2.2.1 h l v E)) E
    omega
theorem mr_ch_some {n l : Nat → Nat} {b : Nat → Bool} {h : Bool} {v : Nat → Int32} {E : Nat} {u : (Nat → Int32) × (Nat → Int64) × (Nat → Bool) × Nat × Int64} (hE : E ≤ 60) (h0 : mr_tk u.2.2.1 E = 0) {i : Nat} (hi : i < E) : ¬ mr_nx (mr_ch n l b h v E u i).2.2.1 h l v E = -1 := by
  have h1 := mr_ch_tk (n := n) (l := l) (b := b) (h := h) (v := v) h0 i
  obtain ⟨e, he, q⟩ := mr_tk_free (t := (mr_ch n l b h v E u i).2.2.1) E (by omega)
  exact mr_nx_some q E hE he
