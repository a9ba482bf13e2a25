/-! sums over GF(2), forests, independent sets: nothing of the machine -/
/-- xor over the first n -/
def mx_s : Nat → (Nat → Bool) → Bool
  | 0, _ => false
  | n + 1, f => mx_s n f ^^ f n
theorem mx_s0 (f : Nat → Bool) : mx_s 0 f = false := rfl
theorem mx_s1 (n : Nat) (f : Nat → Bool) : mx_s (n + 1) f = (mx_s n f ^^ f n) := rfl
theorem mx_congr {n : Nat} {f g : Nat → Bool} (h : ∀ i, i < n → f i = g i) : mx_s n f = mx_s n g := by
  induction n with
  | zero => rfl
  | succ n ih => rw [mx_s1, mx_s1, ih (fun i hi => h i (Nat.lt_succ_of_lt hi)), h n (Nat.lt_succ_self n)]
theorem mx_false {n : Nat} {f : Nat → Bool} (h : ∀ i, i < n → f i = false) : mx_s n f = false := by
  induction n with
  | zero => rfl
  | succ n ih => rw [mx_s1, ih (fun i hi => h i (Nat.lt_succ_of_lt hi)), h n (Nat.lt_succ_self n)]; rfl
theorem mx_xor (n : Nat) (f g : Nat → Bool) : mx_s n (fun i => f i ^^ g i) = (mx_s n f ^^ mx_s n g) := by
  induction n with
  | zero => rfl
  | succ n ih =>
    rw [mx_s1, mx_s1, mx_s1, ih]
    generalize mx_s n f = a; generalize mx_s n g = b; generalize f n = c; generalize g n = d
    cases a <;> cases b <;> cases c <;> cases d <;> rfl
theorem mx_and (n : Nat) (b : Bool) (f : Nat → Bool) : mx_s n (fun i => b && f i) = (b && mx_s n f) := by
  cases b
  · exact mx_false (fun _ _ => rfl)
  · exact mx_congr (fun _ _ => rfl)
theorem mx_swap (n m : Nat) (f : Nat → Nat → Bool) : mx_s n (fun i => mx_s m (fun j => f i j)) = mx_s m (fun j => mx_s n (fun i => f i j)) := by
  induction n with
  | zero => exact (mx_false (fun _ _ => rfl)).symm
  | succ n ih =>
    rw [mx_s1, ih, ← mx_xor]
    exact mx_congr (fun _ _ => rfl)
theorem mx_one {n k : Nat} (hk : k < n) {f : Nat → Bool} (h : ∀ i, i < n → i ≠ k → f i = false) : mx_s n f = f k := by
  induction n with
  | zero => exact absurd hk (Nat.not_lt_zero k)
  | succ n ih =>
    rw [mx_s1]
    by_cases e : k = n
    · subst e
      rw [mx_false (fun i hi => h i (Nat.lt_succ_of_lt hi) (Nat.ne_of_lt hi))]
      exact Bool.false_xor _
    · rw [ih (by omega) (fun i hi => h i (Nat.lt_succ_of_lt hi)), h n (Nat.lt_succ_self n) (fun q => e q.symm)]
      exact Bool.xor_false _
theorem mx_true {n : Nat} {f : Nat → Bool} (h : mx_s n f = true) : ∃ i, i < n ∧ f i = true := by
  induction n with
  | zero => exact absurd (show false = true from h) (by decide)
  | succ n ih =>
    rw [mx_s1] at h
    by_cases e : f n = true
    · exact ⟨n, Nat.lt_succ_self n, e⟩
    · have e2 : f n = false := by simpa using e
      rw [e2, Bool.xor_false] at h
      obtain ⟨i, hi, q⟩ := ih h
      exact ⟨i, Nat.lt_succ_of_lt hi, q⟩
/-! ===== forests: clusters that were made one by branches, one by one ===== -/
/-- how many (odd or not) of the edges F end at p -/
def fo_d (ne : Nat) (a b : Nat → Nat) (F : Nat → Bool) (p : Nat) : Bool := mx_s ne (fun e => F e && ((a e == p) ^^ (b e == p)))
/-- B, the branches, and cl, each point's cluster, as they come about -/
def fo_I (ne np : Nat) (a b : Nat → Nat) (B : Nat → Bool) (cl : Nat → Nat) : Prop :=
  (∀ e, e < ne → B e = true → cl (a e) = cl (b e)) ∧
  (∀ D : Nat → Bool, (∀ e, D e = true → B e = true) → (∃ e, e < ne ∧ D e = true) → ∀ r : Nat → Nat, ∃ p, p < np ∧ p ≠ r (cl p) ∧ fo_d ne a b D p = true) ∧
  (∀ S : Nat → Bool, (∀ e, e < ne → B e = true → S (a e) = S (b e)) → ∀ p q, p < np → q < np → cl p = cl q → S p = S q)
theorem fo_nil (ne np : Nat) (a b : Nat → Nat) : fo_I ne np a b (fun _ => false) (fun p => p) := by
  refine ⟨fun e _ h => absurd (show false = true from h) (by decide), fun D hD ⟨e, _, h⟩ => absurd (show false = true from hD e h) (by decide), fun S _ p q _ _ h => by rw [show p = q from h]⟩
/-- the sum over a set of points of which each edge of D has both ends or none is even -/
theorem fo_even {ne np : Nat} {a b : Nat → Nat} (hab : ∀ e, e < ne → a e < np ∧ b e < np ∧ a e ≠ b e) {D X : Nat → Bool} (h : ∀ e, e < ne → D e = true → X (a e) = X (b e)) :
    mx_s np (fun p => X p && fo_d ne a b D p) = false := by
  have e1 : mx_s np (fun p => X p && fo_d ne a b D p) = mx_s np (fun p => mx_s ne (fun e => X p && (D e && ((a e == p) ^^ (b e == p))))) :=
    mx_congr (fun p _ => (mx_and ne (X p) _).symm)
  rw [e1, mx_swap]
  refine mx_false (fun e he => ?_)
  obtain ⟨ha, hb, hne⟩ := hab e he
  have e2 : mx_s np (fun p => X p && (D e && ((a e == p) ^^ (b e == p)))) = (mx_s np (fun p => X p && (D e && (a e == p))) ^^ mx_s np (fun p => X p && (D e && (b e == p)))) := by
    rw [← mx_xor]
    refine mx_congr (fun p _ => ?_)
    generalize X p = x; generalize D e = d; generalize (a e == p) = y; generalize (b e == p) = z
    cases x <;> cases d <;> cases y <;> cases z <;> rfl
  have e3 : ∀ c : Nat, c < np → mx_s np (fun p => X p && (D e && (c == p))) = (X c && D e) := by
    intro c hc
    rw [mx_one hc (fun i _ hi => by
      have : (c == i) = false := by simpa using (fun q => hi q.symm)
      rw [this, Bool.and_false, Bool.and_false])]
    rw [show (c == c) = true by simp, Bool.and_true]
  rw [e2, e3 _ ha, e3 _ hb]
  cases hd : D e
  · rw [Bool.and_false, Bool.and_false]; rfl
  · rw [h e he hd]
    generalize X (b e) = x
    cases x <;> rfl
theorem fo_add {ne np : Nat} {a b : Nat → Nat} {B : Nat → Bool} {cl cl' : Nat → Nat} {k : Nat} (hab : ∀ e, e < ne → a e < np ∧ b e < np ∧ a e ≠ b e) (h : fo_I ne np a b B cl) (hk : k < ne) (hd : cl (a k) ≠ cl (b k))
    {z : Nat} (hz : ∀ p, cl' p = if cl p = cl (a k) ∨ cl p = cl (b k) then z else cl p) (hzz : z = cl (a k) ∨ z = cl (b k)) : fo_I ne np a b (fun e => B e || (e == k)) cl' := by
  obtain ⟨h1, h2, h3⟩ := h
  have hka : cl' (a k) = z := by rw [hz, if_pos (Or.inl rfl)]
  have hkb : cl' (b k) = z := by rw [hz, if_pos (Or.inr rfl)]
  have hsame : ∀ p q, cl p = cl q → cl' p = cl' q := fun p q e => by rw [hz, hz, e]
  have hB : ∀ e, (B e || (e == k)) = true → B e = true ∨ e = k := by
    intro e he
    rcases Bool.or_eq_true _ _ ▸ he with q | q
    · exact Or.inl q
    · exact Or.inr (by simpa using q)
  refine ⟨fun e he hb => ?_, fun D hD hne r => ?_, fun S hS p q hp hq hpq => ?_⟩
  · rcases hB e hb with q | q
    · exact hsame _ _ (h1 e he q)
    · rw [q, hka, hkb]
  · by_cases hDk : D k = true
    · -- the last branch is in D: on each of its sides there is a point with an odd number
      have side : ∀ c : Nat, c = cl (a k) ∨ c = cl (b k) → ∃ p, p < np ∧ cl p = c ∧ fo_d ne a b D p = true := by
        intro c hc
        have h0 : mx_s np (fun p => (cl p == c) && fo_d ne a b (fun e => D e && !(e == k)) p) = false := by
          refine fo_even hab (X := fun p => cl p == c) (fun e he hde => ?_)
          have q1 : D e = true ∧ ¬ e = k := by simpa using hde
          rcases hB e (hD e q1.1) with q | q
          · show (cl (a e) == c) = (cl (b e) == c)
            rw [h1 e he q]
          · exact absurd q q1.2
        have hone : ∀ p, fo_d ne a b (fun e => e == k) p = ((a k == p) ^^ (b k == p)) := by
          intro p
          unfold fo_d
          rw [mx_one hk (fun i _ hi => by
            have : (i == k) = false := by simpa using hi
            show ((i == k) && _) = false
            rw [this]; rfl)]
          simp
        have hsplit : ∀ p, fo_d ne a b D p = (fo_d ne a b (fun e => D e && !(e == k)) p ^^ fo_d ne a b (fun e => e == k) p) := by
          intro p
          unfold fo_d
          rw [← mx_xor]
          refine mx_congr (fun e _ => ?_)
          by_cases q : e = k
          · rw [q]
            simp [hDk]
          · have : (e == k) = false := by simpa using q
            show (D e && _) = ((D e && !(e == k)) && _ ^^ (e == k) && _)
            rw [this]
            simp
        have hsum : mx_s np (fun p => (cl p == c) && fo_d ne a b D p) = true := by
          have e1 : mx_s np (fun p => (cl p == c) && fo_d ne a b D p) = (mx_s np (fun p => (cl p == c) && fo_d ne a b (fun e => D e && !(e == k)) p) ^^ mx_s np (fun p => (cl p == c) && ((a k == p) ^^ (b k == p)))) := by
            rw [← mx_xor]
            refine mx_congr (fun p _ => ?_)
            rw [hsplit p, hone p]
            generalize (cl p == c) = x; generalize fo_d ne a b (fun e => D e && !(e == k)) p = y; generalize ((a k == p) ^^ (b k == p)) = w
            cases x <;> cases y <;> cases w <;> rfl
          rw [e1, h0, Bool.false_xor]
          obtain ⟨ha, hb, hne2⟩ := hab k hk
          rcases hc with hc | hc
          · rw [mx_one ha (fun i _ hi => ?_)]
            · have : (b k == a k) = false := by simpa using (fun q => hne2 q.symm)
              rw [this, hc]
              simp
            · by_cases q : i = b k
              · have : (cl i == c) = false := by rw [q, hc]; simpa using (fun w => hd w.symm)
                rw [this]; rfl
              · have q1 : (a k == i) = false := by simpa using (fun w => hi w.symm)
                have q2 : (b k == i) = false := by simpa using (fun w => q w.symm)
                rw [q1, q2]; simp
          · rw [mx_one hb (fun i _ hi => ?_)]
            · have : (a k == b k) = false := by simpa using hne2
              rw [this, hc]
              simp
            · by_cases q : i = a k
              · have : (cl i == c) = false := by rw [q, hc]; simpa using hd
                rw [this]; rfl
              · have q1 : (b k == i) = false := by simpa using (fun w => hi w.symm)
                have q2 : (a k == i) = false := by simpa using (fun w => q w.symm)
                rw [q1, q2]; simp
        obtain ⟨p, hp, hq⟩ := mx_true hsum
        have hq2 : cl p = c ∧ fo_d ne a b D p = true := by simpa using hq
        exact ⟨p, hp, hq2⟩
      obtain ⟨p, hp, hpc, hpd⟩ := side _ (Or.inl rfl)
      obtain ⟨q, hq, hqc, hqd⟩ := side _ (Or.inr rfl)
      have hp' : cl' p = z := by rw [hz, if_pos (Or.inl hpc)]
      have hq' : cl' q = z := by rw [hz, if_pos (Or.inr hqc)]
      by_cases e : p = r z
      · refine ⟨q, hq, fun w => ?_, hqd⟩
        rw [hq', ← e] at w
        exact hd (by rw [← hpc, ← hqc, w])
      · exact ⟨p, hp, by rw [hp']; exact e, hpd⟩
    · have hD' : ∀ e, D e = true → B e = true := by
        intro e he
        rcases hB e (hD e he) with q | q
        · exact q
        · exact absurd (q ▸ he) hDk
      obtain ⟨p, hp, hpr, hpd⟩ := h2 D hD' hne (fun c => if c = cl (a k) ∨ c = cl (b k) then r z else r c)
      refine ⟨p, hp, ?_, hpd⟩
      rw [hz]
      by_cases q : cl p = cl (a k) ∨ cl p = cl (b k)
      · rw [if_pos q] at hpr ⊢
        exact hpr
      · rw [if_neg q] at hpr ⊢
        exact hpr
  · have hS1 : ∀ p q, p < np → q < np → cl p = cl q → S p = S q := h3 S (fun e he hb => hS e he (by show (B e || _) = true; rw [hb]; rfl))
    obtain ⟨ha, hb, -⟩ := hab k hk
    have hSk : S (a k) = S (b k) := hS k hk (by simp)
    have toA : ∀ p, p < np → (cl p = cl (a k) ∨ cl p = cl (b k)) → S p = S (a k) := by
      intro p hp h
      rcases h with h | h
      · exact hS1 _ _ hp ha h
      · rw [hS1 _ _ hp hb h, hSk]
    rw [hz, hz] at hpq
    by_cases q1 : cl p = cl (a k) ∨ cl p = cl (b k)
    · by_cases q2 : cl q = cl (a k) ∨ cl q = cl (b k)
      · rw [toA p hp q1, toA q hq q2]
      · rw [if_pos q1, if_neg q2] at hpq
        rcases hzz with w | w
        · exact absurd (Or.inl (by rw [← hpq, w])) q2
        · exact absurd (Or.inr (by rw [← hpq, w])) q2
    · by_cases q2 : cl q = cl (a k) ∨ cl q = cl (b k)
      · rw [if_neg q1, if_pos q2] at hpq
        rcases hzz with w | w
        · exact absurd (Or.inl (by rw [hpq, w])) q1
        · exact absurd (Or.inr (by rw [hpq, w])) q1
      · rw [if_neg q1, if_neg q2] at hpq
        exact hS1 _ _ hp hq hpq
theorem fo_dx (ne : Nat) (a b : Nat → Nat) (F G : Nat → Bool) (p : Nat) : fo_d ne a b (fun e => F e ^^ G e) p = (fo_d ne a b F p ^^ fo_d ne a b G p) := by
  unfold fo_d
  rw [← mx_xor]
  refine mx_congr (fun e _ => ?_)
  dsimp only
  generalize F e = x; generalize G e = y; generalize ((a e == p) ^^ (b e == p)) = w
  cases x <;> cases y <;> cases w <;> rfl
/-- two sets of branches that are alike, odd or even, at all points but each cluster's root are the same -/
theorem fo_uniq {ne np : Nat} {a b : Nat → Nat} {B : Nat → Bool} {cl : Nat → Nat} (h : fo_I ne np a b B cl) (r : Nat → Nat) {F G : Nat → Bool} (hF : ∀ e, F e = true → B e = true) (hG : ∀ e, G e = true → B e = true)
    (hd : ∀ p, p < np → p ≠ r (cl p) → fo_d ne a b F p = fo_d ne a b G p) : ∀ e, e < ne → F e = G e := by
  intro e he
  by_cases q : F e = G e
  · exact q
  · exfalso
    obtain ⟨p, hp, hpr, hpd⟩ := h.2.1 (fun e => F e ^^ G e) (fun i hi => by
      by_cases w : F i = true
      · exact hF i w
      · have w2 : F i = false := by simpa using w
        have hi' : (F i ^^ G i) = true := hi
        rw [w2, Bool.false_xor] at hi'
        exact hG i hi') ⟨e, he, by
      show (F e ^^ G e) = true
      revert q
      cases F e <;> cases G e <;> decide⟩ r
    rw [fo_dx, hd p hp hpr, Bool.xor_self] at hpd
    exact absurd hpd (by decide)
/-! ===== chosen edges: independent sets, taken one by one ===== -/
/-- the syndrome of the set F, by the edges' own syndromes v -/
def ch_s (ne : Nat) (v : Nat → Nat → Bool) (F : Nat → Bool) (p : Nat) : Bool := mx_s ne (fun e => F e && v e p)
theorem ch_sx (ne : Nat) (v : Nat → Nat → Bool) (F G : Nat → Bool) (p : Nat) : ch_s ne v (fun e => F e ^^ G e) p = (ch_s ne v F p ^^ ch_s ne v G p) := by
  unfold ch_s
  rw [← mx_xor]
  refine mx_congr (fun e _ => ?_)
  dsimp only
  generalize F e = x; generalize G e = y; generalize v e p = w
  cases x <;> cases y <;> cases w <;> rfl
theorem ch_s1 {ne : Nat} {v : Nat → Nat → Bool} {k : Nat} (hk : k < ne) (p : Nat) : ch_s ne v (fun e => e == k) p = v k p := by
  unfold ch_s
  rw [mx_one hk (fun i _ hi => by
    have : (i == k) = false := by simpa using hi
    show ((i == k) && _) = false
    rw [this]; rfl)]
  simp
theorem ch_s0 (ne : Nat) (v : Nat → Nat → Bool) (p : Nat) : ch_s ne v (fun _ => false) p = false := mx_false (fun _ _ => rfl)
/-- w is the syndrome of a set of edges of C -/
def ch_in (ne np : Nat) (v : Nat → Nat → Bool) (C : Nat → Bool) (w : Nat → Bool) : Prop := ∃ F : Nat → Bool, (∀ e, F e = true → C e = true) ∧ ∀ p, p < np → ch_s ne v F p = w p
/-- no set of edges of C but the empty one has an empty syndrome -/
def ch_free (ne np : Nat) (v : Nat → Nat → Bool) (C : Nat → Bool) : Prop := ∀ F : Nat → Bool, (∀ e, F e = true → C e = true) → (∀ p, p < np → ch_s ne v F p = false) → ∀ e, e < ne → F e = false
theorem ch_free0 (ne np : Nat) (v : Nat → Nat → Bool) : ch_free ne np v (fun _ => false) := by
  intro F hF _ e _
  by_cases q : F e = true
  · exact absurd (show false = true from hF e q) (by decide)
  · simpa using q
theorem ch_free1 {ne np : Nat} {v : Nat → Nat → Bool} {C : Nat → Bool} {k : Nat} (hk : k < ne) (h : ch_free ne np v C) (hn : ¬ ch_in ne np v C (v k)) : ch_free ne np v (fun e => C e || (e == k)) := by
  intro F hF hz
  have hC : ∀ e, F e = true → e ≠ k → C e = true := by
    intro e he hne
    have q : (C e || (e == k)) = true := hF e he
    have : (e == k) = false := by simpa using hne
    rw [this, Bool.or_false] at q
    exact q
  by_cases hFk : F k = true
  · exfalso
    refine hn ⟨fun e => F e ^^ (e == k), fun e he => ?_, fun p hp => ?_⟩
    · have he : (F e ^^ (e == k)) = true := he
      by_cases q : e = k
      · rw [q, hFk] at he
        simp at he
      · have q2 : (e == k) = false := by simpa using q
        rw [q2, Bool.xor_false] at he
        exact hC e he q
    · rw [ch_sx, hz p hp, ch_s1 hk, Bool.false_xor]
  · refine h F (fun e he => ?_) hz
    by_cases q : e = k
    · exact absurd (q ▸ he) hFk
    · exact hC e he q
theorem ch_uniq {ne np : Nat} {v : Nat → Nat → Bool} {C : Nat → Bool} (h : ch_free ne np v C) {F G : Nat → Bool} (hF : ∀ e, F e = true → C e = true) (hG : ∀ e, G e = true → C e = true) (hs : ∀ p, p < np → ch_s ne v F p = ch_s ne v G p) : ∀ e, e < ne → F e = G e := by
  intro e he
  have q := h (fun e => F e ^^ G e) (fun i hi => by
    by_cases w : F i = true
    · exact hF i w
    · have w2 : F i = false := by simpa using w
      have hi' : (F i ^^ G i) = true := hi
      rw [w2, Bool.false_xor] at hi'
      exact hG i hi') (fun p hp => by rw [ch_sx, hs p hp, Bool.xor_self]) e he
  have q2 : (F e ^^ G e) = false := q
  revert q2
  cases F e <;> cases G e <;> decide
