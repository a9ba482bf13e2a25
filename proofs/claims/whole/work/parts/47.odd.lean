/-! growing: which clusters are odd -/
theorem mx_ext {n m : Nat} (h : n ≤ m) {f : Nat → Bool} (hf : ∀ i, n ≤ i → i < m → f i = false) : mx_s m f = mx_s n f := by
  induction m with
  | zero => rw [show n = 0 by omega]
  | succ m ih =>
    by_cases q : n = m + 1
    · rw [q]
    · rw [mx_s1, ih (by omega) (fun i h1 h2 => hf i h1 (by omega)), hf m (by omega) (by omega), Bool.xor_false]
theorem od_fo2 {a : Nat → Nat} {b : Nat → Bool} {fr : Int32} {c : Nat} : ∀ n, (mr_fo a b fr c n).2 = true ↔ ∃ q, q < n ∧ a q = c ∧ b q = true
  | 0 => ⟨fun h => absurd (show false = true from h) (by decide), fun ⟨q, h, _⟩ => absurd h (Nat.not_lt_zero q)⟩
  | n + 1 => by
    have ih := od_fo2 (a := a) (b := b) (fr := fr) (c := c) n
    rw [mr_fo]
    by_cases q : a n = c
    · rw [if_pos q]
      show ((mr_fo a b fr c n).2 || b n) = true ↔ _
      rw [Bool.or_eq_true, ih]
      constructor
      · rintro (⟨p, hp, h1⟩ | h1)
        · exact ⟨p, by omega, h1⟩
        · exact ⟨n, Nat.lt_succ_self n, q, h1⟩
      · rintro ⟨p, hp, h1, h2⟩
        by_cases w : p = n
        · exact Or.inr (w ▸ h2)
        · exact Or.inl ⟨p, by omega, h1, h2⟩
    · rw [if_neg q, ih]
      constructor
      · rintro ⟨p, hp, h1⟩; exact ⟨p, by omega, h1⟩
      · rintro ⟨p, hp, h1, h2⟩
        have : p ≠ n := fun w => q (w ▸ h1)
        exact ⟨p, by omega, h1, h2⟩
theorem od_fo1 {a : Nat → Nat} {b : Nat → Bool} {fr : Int32} {c : Nat} : ∀ n, n ≤ 32 → ∃ k, k ≤ n ∧ (mr_fo a b fr c n).1 = nI k ∧ decide (k % 2 = 1) = mx_s n (fun q => decide (a q = c) && bt fr q)
  | 0, _ => ⟨0, Nat.le_refl _, rfl, rfl⟩
  | n + 1, hn => by
    obtain ⟨k, hk, e1, e2⟩ := od_fo1 (a := a) (b := b) (fr := fr) (c := c) n (by omega)
    rw [mr_fo, mx_s1, ← e2]
    by_cases q : a n = c
    · rw [if_pos q, decide_eq_true q, Bool.true_and]
      show ∃ k', k' ≤ n + 1 ∧ (mr_fo a b fr c n).1 + jbs fr (nI n) = nI k' ∧ _
      rw [e1, jbs_bt fr (by omega)]
      cases bt fr n
      · exact ⟨k, by omega, by rw [if_neg (by decide)]; show nI k + nI 0 = _; rw [nI_add]; rfl, by rw [Bool.xor_false]⟩
      · refine ⟨k + 1, by omega, by rw [if_pos rfl]; show nI k + nI 1 = _; rw [nI_add], ?_⟩
        rw [Bool.xor_true]
        by_cases w : k % 2 = 1
        · rw [decide_eq_true w, decide_eq_false (by omega)]; rfl
        · rw [decide_eq_false w, decide_eq_true (by omega)]; rfl
    · rw [if_neg q, decide_eq_false q, Bool.false_and, Bool.xor_false]
      exact ⟨k, by omega, e1, rfl⟩
theorem od_par : ∀ k, k ≤ 32 → decide (mr_par (nI k) = nI 1) = decide (k % 2 = 1) := by decide +kernel
theorem od_is {a : Nat → Nat} {b : Nat → Bool} {fr : Int32} {P c : Nat} (hP : P ≤ 30) : mr_is a b fr P c = (mx_s P (fun q => decide (a q = c) && bt fr q) && !(mr_fo a b fr c P).2) := by
  obtain ⟨k, hk, e1, e2⟩ := od_fo1 (a := a) (b := b) (fr := fr) (c := c) P (by omega)
  unfold mr_is
  rw [e1, od_par k (by omega), e2]
theorem mr_is_congr {a a' : Nat → Nat} {b : Nat → Bool} {fr : Int32} {P c : Nat} (h : ∀ p, p < P → a p = a' p) (hP : P ≤ 30) : mr_is a b fr P c = mr_is a' b fr P c := by
  rw [od_is hP, od_is hP]
  congr 1
  · exact mx_congr (fun q hq => by rw [h q hq])
  · congr 1
    have e1 := od_fo2 (a := a) (b := b) (fr := fr) (c := c) P
    have e2 := od_fo2 (a := a') (b := b) (fr := fr) (c := c) P
    have e3 : (∃ q, q < P ∧ a q = c ∧ b q = true) ↔ ∃ q, q < P ∧ a' q = c ∧ b q = true := ⟨fun ⟨q, h1, h2⟩ => ⟨q, h1, by rw [← h q h1]; exact h2⟩, fun ⟨q, h1, h2⟩ => ⟨q, h1, by rw [h q h1]; exact h2⟩⟩
    rw [e3, ← e2] at e1
    cases h1 : (mr_fo a b fr c P).2 <;> cases h2 : (mr_fo a' b fr c P).2 <;> simp_all
section ODD
variable {L : Nat → Nat} {M : Nat → Int32} {P : Nat} {bd fr : Int32} {b : Nat → Bool}
/-- members, as the class keeps them -/
def od_M (L : Nat → Nat) (M : Nat → Int32) (P : Nat) : Prop := ∀ p, p < P → L p = p → ∀ q, q < 32 → bt (M p) q = (decide (q < P) && decide (L q = p))
theorem od_isOdd (hP : P ≤ 30) (hM : od_M L M P) (hB : gr_B P bd fr b) {p : Nat} (hp : p < P) (hl : L p = p) : gm_isOdd bd fr (M p) = mr_is L b fr P p := by
  have m := hM p hp hl
  have e1 : (!decide (jbc (M p &&& fr) &&& nI 1 = nI 0)) = mx_s P (fun q => decide (L q = p) && bt fr q) := by
    have e2 : mx_s 32 (bt (M p &&& fr)) = mx_s P (fun q => decide (L q = p) && bt fr q) := by
      have e3 : mx_s 32 (bt (M p &&& fr)) = mx_s 32 (fun q => decide (L q = p) && bt fr q) := mx_congr (fun q hq => by
        rw [b_and, m q hq]
        by_cases w : q < P
        · rw [decide_eq_true w, Bool.true_and]
        · rw [hB.2.2.1 q (by omega), Bool.and_false, Bool.and_false])
      rw [e3]
      exact mx_ext (by omega) (fun i h1 _ => by rw [hB.2.2.1 i h1, Bool.and_false])
    rw [← e2]
    cases h : mx_s 32 (bt (M p &&& fr))
    · rw [decide_eq_true ((jbc_odd _).mpr h)]; rfl
    · rw [decide_eq_false (fun w => by rw [(jbc_odd _).mp w] at h; cases h)]; rfl
  have e4 : decide (M p &&& bd = nI 0) = !(mr_fo L b fr p P).2 := by
    have e5 := od_fo2 (a := L) (b := b) (fr := fr) (c := p) P
    cases h : (mr_fo L b fr p P).2
    · rw [h] at e5
      have : ¬ ∃ q, q < P ∧ L q = p ∧ b q = true := fun w => absurd (e5.mpr w) (by decide)
      rw [decide_eq_true]
      · rfl
      · refine b_ext (fun q hq => ?_)
        rw [b_and, m q hq, show bt (nI 0) q = false from b_0 q]
        by_cases w : q < P
        · by_cases w2 : L q = p
          · have hb : bt bd q = false := by
              by_cases w3 : bt bd q = true
              · rw [hB.1 q w] at w3; exact absurd ⟨q, w, w2, w3⟩ this
              · simpa using w3
            rw [hb, Bool.and_false]
          · rw [decide_eq_false w2, Bool.and_false]; rfl
        · rw [decide_eq_false w]; rfl
    · rw [h] at e5
      obtain ⟨q, w1, w2, w3⟩ := e5.mp rfl
      rw [decide_eq_false]
      · rfl
      · intro w
        have := congrArg (fun x => bt x q) w
        rw [b_and, m q (by omega), show bt (nI 0) q = false from b_0 q, decide_eq_true w1, decide_eq_true w2, hB.1 q w1, w3] at this
        exact absurd this (by decide)
  unfold gm_isOdd
  rw [e4, e1, od_is hP, Bool.and_comm]
def od_L (L : Nat → Nat) (P : Nat) : Prop := ∀ p, p < P → L p ≤ p ∧ L (L p) = L p
theorem od_pts (hP : P ≤ 30) (hL : od_L L P) (hM : od_M L M P) (hB : gr_B P bd fr b) : ∀ n, n ≤ P → ∀ q, q < 32 → bt (gm_pts L M bd fr n) q = (decide (q < P) && (decide (L q < n) && mr_is L b fr P (L q)))
  | 0, _, q, hq => by
    show bt (nI 0) q = _
    rw [show bt (nI 0) q = false from b_0 q, decide_eq_false (Nat.not_lt_zero _), Bool.false_and, Bool.and_false]
  | n + 1, hn, q, hq => by
    have ih := od_pts hP hL hM hB n (by omega) q hq
    rw [gm_pts]
    have key : ∀ x : Bool, (L n = n → gm_isOdd bd fr (M n) = x) → (¬ L n = n ∨ x = false ∨ True) → True := fun _ _ _ => trivial
    by_cases c : L n = n
    · rw [if_pos c]
      have ho := od_isOdd hP hM hB (show n < P by omega) c
      rw [ho]
      cases hx : mr_is L b fr P n
      · rw [if_pos rfl, ih]
        by_cases w : q < P
        · rw [decide_eq_true w, Bool.true_and, Bool.true_and]
          by_cases w2 : L q = n
          · rw [w2, hx, Bool.and_false, Bool.and_false]
          · by_cases w3 : L q < n
            · rw [decide_eq_true w3, decide_eq_true (show L q < n + 1 by omega)]
            · rw [decide_eq_false w3, decide_eq_false (show ¬ L q < n + 1 by omega)]
        · rw [decide_eq_false w]; rfl
      · rw [if_neg (by decide), b_or, ih, hM n (by omega) c q hq]
        by_cases w : q < P
        · rw [decide_eq_true w, Bool.true_and, Bool.true_and, Bool.true_and]
          by_cases w2 : L q = n
          · rw [decide_eq_true w2, Bool.or_true, w2, hx, decide_eq_true (Nat.lt_succ_self n)]; rfl
          · rw [decide_eq_false w2, Bool.or_false]
            by_cases w3 : L q < n
            · rw [decide_eq_true w3, decide_eq_true (show L q < n + 1 by omega)]
            · rw [decide_eq_false w3, decide_eq_false (show ¬ L q < n + 1 by omega)]
        · rw [decide_eq_false w]; rfl
    · rw [if_neg c, ih]
      by_cases w : q < P
      · rw [decide_eq_true w, Bool.true_and, Bool.true_and]
        have w2 : L q ≠ n := fun e => c (by rw [← e]; exact (hL q w).2)
        by_cases w3 : L q < n
        · rw [decide_eq_true w3, decide_eq_true (show L q < n + 1 by omega)]
        · rw [decide_eq_false w3, decide_eq_false (show ¬ L q < n + 1 by omega)]
      · rw [decide_eq_false w]; rfl
end ODD
theorem od_fs {o : Nat → Bool} {a : Nat → Nat} {c : Nat} {v : Bool} : ∀ n p, mr_fs o a c v n p = if p < n ∧ a p = c then v else o p
  | 0, p => by rw [if_neg (fun h => absurd h.1 (Nat.not_lt_zero p))]; rfl
  | n + 1, p => by
    have ih := od_fs (o := o) (a := a) (c := c) (v := v) n p
    rw [mr_fs]
    by_cases q : a n = c
    · rw [if_pos q]
      unfold gd_uB
      by_cases w : p = n
      · rw [if_pos w, if_pos ⟨by omega, by rw [w]; exact q⟩]
      · rw [if_neg w, ih]
        by_cases w2 : p < n ∧ a p = c
        · rw [if_pos w2, if_pos ⟨by omega, w2.2⟩]
        · rw [if_neg w2, if_neg (fun h => w2 ⟨by omega, h.2⟩)]
    · rw [if_neg q, ih]
      by_cases w2 : p < n ∧ a p = c
      · rw [if_pos w2, if_pos ⟨by omega, w2.2⟩]
      · rw [if_neg w2, if_neg (fun h => w2 ⟨by
          have : p ≠ n := fun e => q (e ▸ h.2)
          omega, h.2⟩)]
theorem od_fd1 {o : Nat → Bool} {a : Nat → Nat} {b : Nat → Bool} {fr : Int32} {P : Nat} : ∀ n p, p < P → (mr_fd o a b fr P n).1 p = if a p < n then mr_is a b fr P (a p) else o p
  | 0, p, _ => by rw [if_neg (Nat.not_lt_zero _)]; rfl
  | n + 1, p, hp => by
    have ih := od_fd1 (o := o) (a := a) (b := b) (fr := fr) n p hp
    rw [mr_fd]
    show mr_fs (mr_fd o a b fr P n).1 a n (mr_is a b fr P n) P p = _
    rw [od_fs]
    by_cases q : a p = n
    · rw [if_pos ⟨hp, q⟩, if_pos (by omega), q]
    · rw [if_neg (fun h => q h.2), ih]
      by_cases w : a p < n
      · rw [if_pos w, if_pos (by omega)]
      · rw [if_neg w, if_neg (by omega)]
theorem od_fd2 {o : Nat → Bool} {a : Nat → Nat} {b : Nat → Bool} {fr : Int32} {P : Nat} : ∀ n, (mr_fd o a b fr P n).2 = true ↔ ∃ c, c < n ∧ mr_is a b fr P c = true
  | 0 => ⟨fun h => absurd (show false = true from h) (by decide), fun ⟨q, h, _⟩ => absurd h (Nat.not_lt_zero q)⟩
  | n + 1 => by
    have ih := od_fd2 (o := o) (a := a) (b := b) (fr := fr) (P := P) n
    rw [mr_fd]
    show ((mr_fd o a b fr P n).2 || mr_is a b fr P n) = true ↔ _
    rw [Bool.or_eq_true, ih]
    constructor
    · rintro (⟨p, hp, h1⟩ | h1)
      · exact ⟨p, by omega, h1⟩
      · exact ⟨n, Nat.lt_succ_self n, h1⟩
    · rintro ⟨p, hp, h1⟩
      by_cases w : p = n
      · exact Or.inr (w ▸ h1)
      · exact Or.inl ⟨p, by omega, h1⟩
theorem od_both {L A : Nat → Nat} {M : Nat → Int32} {P : Nat} {bd fr : Int32} {b O : Nat → Bool} (hP : P ≤ 30) (hA : ∀ p, p < P → L p = A p) (hL : od_L L P) (hM : od_M L M P) (hB : gr_B P bd fr b) :
    (∀ p, p < P → bt (gm_pts L M bd fr P) p = (mr_fd O A b fr P P).1 p) ∧ (gm_pts L M bd fr P = nI 0 ↔ (mr_fd O A b fr P P).2 = false) := by
  have hp := od_pts hP hL hM hB P (Nat.le_refl _)
  have his : ∀ c, mr_is L b fr P c = mr_is A b fr P c := fun c => mr_is_congr hA hP
  refine ⟨fun p h => ?_, ?_⟩
  · rw [hp p (by omega), od_fd1 P p h, decide_eq_true h, Bool.true_and]
    have h1 := hL p h
    rw [decide_eq_true (show L p < P by omega), Bool.true_and, ← hA p h, if_pos (by omega), his]
  · constructor
    · intro h
      cases h2 : (mr_fd O A b fr P P).2
      · rfl
      · exfalso
        obtain ⟨c, hc, h3⟩ := (od_fd2 P).mp h2
        have h4 := h3
        rw [od_is hP, Bool.and_eq_true] at h4
        obtain ⟨q, hq, h5⟩ := mx_true h4.1
        have h6 : A q = c ∧ bt fr q = true := by simpa using h5
        have h7 := hp q (by omega)
        rw [h, show bt (nI 0) q = false from b_0 q, decide_eq_true hq, Bool.true_and] at h7
        have h8 := hL q hq
        rw [decide_eq_true (show L q < P by omega), Bool.true_and, hA q hq, h6.1, his, h3] at h7
        exact absurd h7 (by decide)
    · intro h
      refine b_ext (fun q hq => ?_)
      rw [hp q hq, show bt (nI 0) q = false from b_0 q]
      by_cases w : q < P
      · rw [decide_eq_true w, Bool.true_and]
        have h8 := hL q w
        have : mr_is L b fr P (L q) = false := by
          cases h9 : mr_is L b fr P (L q)
          · rfl
          · have := (od_fd2 (o := O) (a := A) (b := b) (fr := fr) P).mpr ⟨L q, by omega, by rw [← his]; exact h9⟩
            rw [h] at this; cases this
        rw [this, Bool.and_false]
      · rw [decide_eq_false w]; rfl
