/-! the order of the edges: put in one by one, or picked one by one -/
theorem so_ins (wt : Nat → Int32) (x : Nat) : ∀ (n : Nat) (o : Nat → Nat),
    (gm_ins wt x n o).1 ≤ n ∧ (∀ q, q < (gm_ins wt x n o).1 → (gm_ins wt x n o).2 q = o q) ∧ (∀ q, (gm_ins wt x n o).1 < q → q ≤ n → (gm_ins wt x n o).2 q = o (q - 1)) ∧ (∀ q, n < q → (gm_ins wt x n o).2 q = o q) ∧
    (0 < (gm_ins wt x n o).1 → wt (o ((gm_ins wt x n o).1 - 1)) ≤ wt x) ∧ (∀ q, (gm_ins wt x n o).1 ≤ q → q < n → ¬ wt (o q) ≤ wt x)
  | 0, o => ⟨Nat.le_refl _, fun _ _ => rfl, fun q h1 h2 => absurd h1 (by show ¬ 0 < q; omega), fun _ _ => rfl, fun h => absurd h (Nat.lt_irrefl _), fun q _ h => absurd h (Nat.not_lt_zero q)⟩
  | n + 1, o => by
    rw [gm_ins]
    by_cases c : wt (o n) ≤ wt x
    · rw [if_pos c]
      refine ⟨Nat.le_refl _, fun _ _ => rfl, fun q h1 h2 => absurd h1 (by show ¬ n + 1 < q; omega), fun _ _ => rfl, fun _ => c, fun q h1 h2 => absurd h2 (by have h1 : n + 1 ≤ q := h1; omega)⟩
    · rw [if_neg c]
      obtain ⟨h1, h2, h3, h4, h5, h6⟩ := so_ins wt x n (gd_uN o (n + 1) (o n))
      have u1 : ∀ q, q ≠ n + 1 → gd_uN o (n + 1) (o n) q = o q := fun q hq => by unfold gd_uN; rw [if_neg hq]
      have u2 : gd_uN o (n + 1) (o n) (n + 1) = o n := by unfold gd_uN; rw [if_pos rfl]
      generalize gm_ins wt x n (gd_uN o (n + 1) (o n)) = r at h1 h2 h3 h4 h5 h6 ⊢
      refine ⟨by omega, fun q hq => by rw [h2 q hq, u1 q (by omega)], fun q hq hn => ?_, fun q hq => by rw [h4 q (by omega), u1 q (by omega)], fun hq => ?_, fun q hq hn => ?_⟩
      · by_cases e : q = n + 1
        · rw [e, h4 _ (Nat.lt_succ_self n), u2]; rfl
        · rw [h3 q hq (by omega), u1 _ (by omega)]
      · have := h5 hq
        rw [u1 _ (by omega)] at this
        exact this
      · by_cases e : q = n
        · rw [e]; exact c
        · have := h6 q hq (by omega)
          rw [u1 _ (by omega)] at this
          exact this
/-- o is the numbers below n, by weight, then by number -/
def so_S (wt : Nat → Int32) (o : Nat → Nat) (n : Nat) : Prop := (∀ i, i < n → o i < n) ∧ (∀ i j, i < j → j < n → wt (o i) < wt (o j) ∨ (wt (o i) = wt (o j) ∧ o i < o j)) ∧ ∀ e, e < n → ∃ i, i < n ∧ o i = e
theorem so_step {wt : Nat → Int32} {o : Nat → Nat} {n : Nat} (w : Int32) (h : so_S wt o n) : so_S (upd wt n w) (gm_insO (upd wt n w) o n) (n + 1) := by
  obtain ⟨h1, h2, h3⟩ := h
  have uw : ∀ q, q < n → upd wt n w q = wt q := fun q hq => by unfold upd; rw [if_neg (by omega)]
  obtain ⟨g1, g2, g3, g4, g5, g6⟩ := so_ins (upd wt n w) n n o
  unfold gm_insO
  generalize hr : gm_ins (upd wt n w) n n o = r at g1 g2 g3 g4 g5 g6 ⊢
  obtain ⟨ps, o1⟩ := r
  dsimp only at g1 g2 g3 g4 g5 g6 ⊢
  have p0 : gd_uN o1 ps n ps = n := by unfold gd_uN; rw [if_pos rfl]
  have p1 : ∀ q, q < ps → gd_uN o1 ps n q = o q := fun q hq => by unfold gd_uN; rw [if_neg (by omega)]; exact g2 q hq
  have p2 : ∀ q, ps < q → q ≤ n → gd_uN o1 ps n q = o (q - 1) := fun q hq hn => by unfold gd_uN; rw [if_neg (by omega)]; exact g3 q hq hn
  refine ⟨fun i hi => ?_, fun i j hij hj => ?_, fun e he => ?_⟩
  · rcases Nat.lt_trichotomy i ps with q | q | q
    · rw [p1 i q]; have := h1 i (by omega); omega
    · rw [q, p0]; omega
    · rw [p2 i q (by omega)]; have := h1 (i - 1) (by omega); omega
  · rcases Nat.lt_trichotomy j ps with q | q | q
    · rw [p1 i (by omega), p1 j q, uw _ (h1 i (by omega)), uw _ (h1 j (by omega))]
      exact h2 i j hij (by omega)
    · rw [q, p0, p1 i (by omega)]
      have q5 := g5 (by omega)
      have hin := h1 i (by omega)
      have key : wt (o i) ≤ wt (o (ps - 1)) := by
        by_cases e : i = ps - 1
        · rw [e]; exact Int32.le_refl _
        · rcases h2 i (ps - 1) (by omega) (by omega) with w | w
          · exact Int32.le_of_lt w
          · rw [w.1]; exact Int32.le_refl _
      rw [uw _ (h1 (ps - 1) (by omega))] at q5
      rw [uw _ hin]
      have k2 := Int32.le_trans key q5
      simp only [i_le, i_lt, i_eq] at k2 ⊢
      omega
    · rw [p2 j q (by omega)]
      rcases Nat.lt_trichotomy i ps with q' | q' | q'
      · rw [p1 i q', uw _ (h1 i (by omega)), uw _ (h1 (j - 1) (by omega))]
        exact h2 i (j - 1) (by omega) (by omega)
      · rw [q', p0]
        left
        exact Int32.not_le.mp (g6 (j - 1) (by omega) (by omega))
      · rw [p2 i q' (by omega), uw _ (h1 (i - 1) (by omega)), uw _ (h1 (j - 1) (by omega))]
        exact h2 (i - 1) (j - 1) (by omega) (by omega)
  · by_cases q : e = n
    · exact ⟨ps, by omega, by rw [p0, q]⟩
    · obtain ⟨i, hi, e1⟩ := h3 e (by omega)
      by_cases q2 : i < ps
      · exact ⟨i, by omega, by rw [p1 i q2, e1]⟩
      · exact ⟨i + 1, by omega, by rw [p2 (i + 1) (by omega) (by omega)]; exact e1⟩
theorem so_po (o : Nat → Nat) (wt : Nat → Int32) (b : Bool) (k : Nat → Nat) (f g : Nat → Int32) : ∀ n, so_S (gm_po o wt b k f g n).2 (gm_po o wt b k f g n).1 n ∧ ∀ e, e < n → (gm_po o wt b k f g n).2 e = gm_wt b k f g e
  | 0 => ⟨⟨fun i h => absurd h (Nat.not_lt_zero i), fun _ j _ h => absurd h (Nat.not_lt_zero j), fun e h => absurd h (Nat.not_lt_zero e)⟩, fun e h => absurd h (Nat.not_lt_zero e)⟩
  | n + 1 => by
    obtain ⟨h1, h2⟩ := so_po o wt b k f g n
    refine ⟨so_step _ h1, fun e he => ?_⟩
    show upd (gm_po o wt b k f g n).2 n (gm_wt b k f g n) e = _
    unfold upd
    by_cases q : e = n
    · rw [if_pos q, q]
    · rw [if_neg q]; exact h2 e (by omega)
/-- the reference's next one: the least of those that are not taken -/
theorem so_nx (tk : Nat → Bool) (h : Bool) (l : Nat → Nat) (v : Nat → Int32) : ∀ n, n ≤ 60 →
    (mr_nx tk h l v n = -1 ∧ ∀ e, e < n → tk e = true) ∨ ∃ m, mr_nx tk h l v n = nI m ∧ m < n ∧ tk m = false ∧ ∀ e, e < n → tk e = false → mr_ord h l v m < mr_ord h l v e ∨ (mr_ord h l v m = mr_ord h l v e ∧ m ≤ e)
  | 0, _ => Or.inl ⟨rfl, fun e h => absurd h (Nat.not_lt_zero e)⟩
  | n + 1, hn => by
    have ih := so_nx tk h l v n (by omega)
    have hne : ∀ m, m < 60 → ¬ nI m = -1 := by
      intro m hm w
      have := congrArg Int32.toInt w
      rw [nI_toInt (by omega)] at this
      have h2 : (-1 : Int32).toInt = -1 := rfl
      omega
    rw [mr_nx]
    by_cases ht : tk n = true
    · rw [if_pos ht]
      rcases ih with ⟨h1, h2⟩ | ⟨m, h1, h2, h3, h4⟩
      · refine Or.inl ⟨h1, fun e he => ?_⟩
        by_cases q : e = n
        · rw [q]; exact ht
        · exact h2 e (by omega)
      · refine Or.inr ⟨m, h1, by omega, h3, fun e he hte => h4 e ?_ hte⟩
        have : e ≠ n := fun q => by rw [q, ht] at hte; cases hte
        omega
    · rw [if_neg ht]
      have htf : tk n = false := by simpa using ht
      rcases ih with ⟨h1, h2⟩ | ⟨m, h1, h2, h3, h4⟩
      · rw [if_pos h1]
        refine Or.inr ⟨n, rfl, by omega, htf, fun e he hte => ?_⟩
        have : e = n := by
          by_cases q : e = n
          · exact q
          · rw [h2 e (by omega)] at hte; cases hte
        rw [this]
        exact Or.inr ⟨rfl, Nat.le_refl _⟩
      · rw [h1, if_neg (hne m (by omega))]
        have em : gm_eN (nI m) = m := nI_clamp (by omega)
        rw [em]
        by_cases c : mr_ord h l v m ≤ mr_ord h l v n
        · rw [if_pos c]
          refine Or.inr ⟨m, rfl, by omega, h3, fun e he hte => ?_⟩
          by_cases q : e = n
          · rw [q]
            simp only [i_le, i_lt, i_eq] at c ⊢
            omega
          · exact h4 e (by omega) hte
        · rw [if_neg c]
          refine Or.inr ⟨n, rfl, by omega, htf, fun e he hte => ?_⟩
          by_cases q : e = n
          · rw [q]; exact Or.inr ⟨rfl, Nat.le_refl _⟩
          · have := h4 e (by omega) hte
            left
            simp only [i_le, i_lt, i_eq] at c this ⊢
            omega
theorem so_pick {tk : Nat → Bool} {h : Bool} {l : Nat → Nat} {v wt : Nat → Int32} {o : Nat → Nat} {E i : Nat} (hE : E ≤ 60) (hs : so_S wt o E) (hw : ∀ e, e < E → wt e = mr_ord h l v e) (hi : i < E) (ht : ∀ e, e < E → (tk e = true ↔ ∃ j, j < i ∧ o j = e)) : mr_nx tk h l v E = nI (o i) := by
  obtain ⟨h1, h2, h3⟩ := hs
  have hoi : tk (o i) = false := by
    by_cases q : tk (o i) = true
    · obtain ⟨j, hj, e⟩ := (ht _ (h1 i hi)).mp q
      rcases h2 j i hj hi with w | w
      · rw [e] at w; exact absurd w Int32.lt_irrefl
      · omega
    · simpa using q
  rcases so_nx tk h l v E hE with ⟨g1, g2⟩ | ⟨m, g1, g2, g3, g4⟩
  · rw [g2 _ (h1 i hi)] at hoi; cases hoi
  · rw [g1]
    obtain ⟨j, hj, e⟩ := h3 m g2
    have hji : ¬ j < i := fun q => by rw [(ht m g2).mpr ⟨j, q, e⟩] at g3; cases g3
    by_cases q : j = i
    · rw [← e, q]
    · exfalso
      have a := h2 i j (by omega) hj
      have b := g4 (o i) (h1 i hi) hoi
      rw [← hw _ g2, ← hw _ (h1 i hi)] at b
      rw [e] at a
      simp only [i_lt, i_eq] at a b
      omega
