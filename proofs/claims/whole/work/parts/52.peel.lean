/-! the class's fix: a walk from the roots, peeled from its end -/
section PEE
variable {a c : Nat → Nat} {P E : Nat} {br : Int64} {L : Nat → Nat} {R : Nat → Nat}
def pe_W (a c : Nat → Nat) (P E : Nat) (br : Int64) (L R : Nat → Nat) (u : Int32 × (Nat → Int32) × (Nat → Nat) × Nat) : Prop :=
  (∀ i, i < u.2.2.2 → u.2.2.1 i < P ∧ bt u.1 (u.2.2.1 i) = true) ∧ (∀ p, bt u.1 p = true → p < P ∧ ∃ i, i < u.2.2.2 ∧ u.2.2.1 i = p) ∧ (∀ i j, i < u.2.2.2 → j < u.2.2.2 → u.2.2.1 i = u.2.2.1 j → i = j) ∧
  (∀ i, i < u.2.2.2 → (u.2.1 (u.2.2.1 i) = -1 ∧ u.2.2.1 i = R (L (u.2.2.1 i))) ∨ ∃ e, e < E ∧ u.2.1 (u.2.2.1 i) = nI e ∧ btl br e = true ∧ ∃ j, j < i ∧ ((a e = u.2.2.1 i ∧ c e = u.2.2.1 j) ∨ (c e = u.2.2.1 i ∧ a e = u.2.2.1 j)))
/-- what was seen, and the walk, go on -/
def pe_le (u u' : Int32 × (Nat → Int32) × (Nat → Nat) × Nat) : Prop := (∀ p, bt u.1 p = true → bt u'.1 p = true) ∧ u.2.2.2 ≤ u'.2.2.2 ∧ ∀ i, i < u.2.2.2 → u'.2.2.1 i = u.2.2.1 i
theorem pe_le.refl (u : Int32 × (Nat → Int32) × (Nat → Nat) × Nat) : pe_le u u := ⟨fun _ h => h, Nat.le_refl _, fun _ _ => rfl⟩
theorem pe_le.trans {u v w : Int32 × (Nat → Int32) × (Nat → Nat) × Nat} (h1 : pe_le u v) (h2 : pe_le v w) : pe_le u w :=
  ⟨fun p h => h2.1 p (h1.1 p h), Nat.le_trans h1.2.1 h2.2.1, fun i hi => by rw [h2.2.2 i (Nat.lt_of_lt_of_le hi h1.2.1), h1.2.2 i hi]⟩
theorem pe_reach (hP : P ≤ 30) {u : Int32 × (Nat → Int32) × (Nat → Nat) × Nat} (h : pe_W a c P E br L R u) {p : Nat} (hp : p < P) {y : Int32}
    (hy : (y = -1 ∧ p = R (L p)) ∨ ∃ e, e < E ∧ y = nI e ∧ btl br e = true ∧ ∃ j, j < u.2.2.2 ∧ ((a e = p ∧ c e = u.2.2.1 j) ∨ (c e = p ∧ a e = u.2.2.1 j))) :
    pe_W a c P E br L R (gm_reach u p y) ∧ pe_le u (gm_reach u p y) ∧ bt (gm_reach u p y).1 p = true := by
  unfold gm_reach
  cases hs : bt u.1 p
  · rw [if_pos ((jb_0 (by omega)).mpr hs)]
    obtain ⟨h1, h2, h3, h4⟩ := h
    have hwi : ∀ i, i < u.2.2.2 → gd_uN u.2.2.1 u.2.2.2 p i = u.2.2.1 i := fun i hi => by unfold gd_uN; rw [if_neg (by omega)]
    have hww : gd_uN u.2.2.1 u.2.2.2 p u.2.2.2 = p := by unfold gd_uN; rw [if_pos rfl]
    have hne : ∀ i, i < u.2.2.2 → u.2.2.1 i ≠ p := fun i hi q => by
      have := (h1 i hi).2
      rw [q, hs] at this; cases this
    have hbt : ∀ q, q < 32 → bt (u.1 ||| jsh (nI 1) (nI p)) q = (bt u.1 q || decide (q = p)) := fun q hq => bt_or1 _ (by omega) hq
    have hself : bt (u.1 ||| jsh (nI 1) (nI p)) p = true := by rw [hbt p (by omega), decide_eq_true rfl, Bool.or_true]
    have hmono : ∀ q, bt u.1 q = true → bt (u.1 ||| jsh (nI 1) (nI p)) q = true := fun q hq => by
      rw [b_or, hq]; rfl
    refine ⟨⟨fun i hi => ?_, fun q hq => ?_, fun i j hi hj hij => ?_, fun i hi => ?_⟩, ⟨hmono, Nat.le_succ _, hwi⟩, hself⟩
    · dsimp only at hi ⊢
      by_cases z : i = u.2.2.2
      · rw [z, hww]; exact ⟨hp, hself⟩
      · rw [hwi i (by omega)]
        exact ⟨(h1 i (by omega)).1, hmono _ (h1 i (by omega)).2⟩
    · dsimp only at hq ⊢
      by_cases z : q = p
      · rw [z]; exact ⟨hp, u.2.2.2, Nat.lt_succ_self _, hww⟩
      · have hq2 : bt u.1 q = true := by
          by_cases z2 : q < 32
          · rw [hbt q z2, decide_eq_false z, Bool.or_false] at hq; exact hq
          · rw [b_big (by omega)] at hq; cases hq
        obtain ⟨g1, i, g2, g3⟩ := h2 q hq2
        exact ⟨g1, i, by omega, by rw [hwi i g2]; exact g3⟩
    · dsimp only at hi hj hij
      by_cases z : i = u.2.2.2
      · by_cases z2 : j = u.2.2.2
        · rw [z, z2]
        · rw [z, hww, hwi j (by omega)] at hij
          exact absurd hij.symm (hne j (by omega))
      · by_cases z2 : j = u.2.2.2
        · rw [z2, hww, hwi i (by omega)] at hij
          exact absurd hij (hne i (by omega))
        · rw [hwi i (by omega), hwi j (by omega)] at hij
          exact h3 i j (by omega) (by omega) hij
    · dsimp only at hi ⊢
      by_cases z : i = u.2.2.2
      · rw [z, hww, fe_upd]
        rcases hy with hy | ⟨e, he, w1, w2, j, hj, w3⟩
        · exact Or.inl hy
        · exact Or.inr ⟨e, he, w1, w2, j, hj, by rw [hwi j hj]; exact w3⟩
      · rw [hwi i (by omega), fe_updn (hne i (by omega))]
        rcases h4 i (by omega) with w | ⟨e, he, w1, w2, j, hj, w3⟩
        · exact Or.inl w
        · exact Or.inr ⟨e, he, w1, w2, j, hj, by rw [hwi j (by omega)]; exact w3⟩
  · rw [if_neg (fun w => by rw [(jb_0 (by omega)).mp w] at hs; cases hs)]
    exact ⟨h, pe_le.refl u, hs⟩
theorem pe_wo (hP : P ≤ 30) (hE60 : E ≤ 60) (hab : ∀ e, e < E → a e < P ∧ c e < P ∧ a e ≠ c e) {u : Int32 × (Nat → Int32) × (Nat → Nat) × Nat} (h : pe_W a c P E br L R u) {i0 p : Nat} (hi0 : i0 < u.2.2.2) (hp : u.2.2.1 i0 = p) : ∀ n, n ≤ E →
    pe_W a c P E br L R (gm_wo u a c br p n) ∧ pe_le u (gm_wo u a c br p n) ∧ ∀ e, e < n → btl br e = true → (a e = p → bt (gm_wo u a c br p n).1 (c e) = true) ∧ (c e = p → bt (gm_wo u a c br p n).1 (a e) = true)
  | 0, _ => ⟨h, pe_le.refl u, fun e he => absurd he (Nat.not_lt_zero e)⟩
  | n + 1, hn => by
    obtain ⟨h1, h2, h3⟩ := pe_wo hP hE60 hab h hi0 hp n (by omega)
    obtain ⟨x1, x2, x3⟩ := hab n (by omega)
    have hpos : ∃ j, j < (gm_wo u a c br p n).2.2.2 ∧ (gm_wo u a c br p n).2.2.1 j = p := ⟨i0, Nat.lt_of_lt_of_le hi0 h2.2.1, by rw [h2.2.2 i0 hi0]; exact hp⟩
    rw [gm_wo]
    generalize gm_wo u a c br p n = G at h1 h2 h3 hpos ⊢
    have stay : (btl br n = true → a n ≠ p ∧ c n ≠ p) → pe_W a c P E br L R G ∧ pe_le u G ∧ ∀ e, e < n + 1 → btl br e = true → (a e = p → bt G.1 (c e) = true) ∧ (c e = p → bt G.1 (a e) = true) := by
      intro q
      refine ⟨h1, h2, fun e he hb => ?_⟩
      by_cases z : e = n
      · rw [z] at hb ⊢
        exact ⟨fun w => absurd w (q hb).1, fun w => absurd w (q hb).2⟩
      · exact h3 e (by omega) hb
    obtain ⟨j, hj, ej⟩ := hpos
    have go : ∀ o, btl br n = true → o < P → ((a n = o ∧ c n = p) ∨ (c n = o ∧ a n = p)) → (a n = p → o = c n) → (c n = p → o = a n) → pe_W a c P E br L R (gm_reach G o (nI n)) ∧ pe_le u (gm_reach G o (nI n)) ∧ ∀ e, e < n + 1 → btl br e = true → (a e = p → bt (gm_reach G o (nI n)).1 (c e) = true) ∧ (c e = p → bt (gm_reach G o (nI n)).1 (a e) = true) := by
      intro o hb ho hend q1 q2
      obtain ⟨g1, g2, g3⟩ := pe_reach hP h1 ho (y := nI n) (Or.inr ⟨n, by omega, rfl, hb, j, hj, by rw [ej]; exact hend⟩)
      refine ⟨g1, h2.trans g2, fun e he hb2 => ?_⟩
      by_cases z : e = n
      · rw [z]
        exact ⟨fun w => by rw [← q1 w]; exact g3, fun w => by rw [← q2 w]; exact g3⟩
      · obtain ⟨w1, w2⟩ := h3 e (by omega) hb2
        exact ⟨fun w => g2.1 _ (w1 w), fun w => g2.1 _ (w2 w)⟩
    by_cases c1 : a n = p
    · rw [if_pos c1]
      cases hb : btl br n
      · rw [if_pos ((jbl_0 (by omega)).mpr hb)]
        exact stay (fun q => by rw [hb] at q; cases q)
      · rw [if_neg (fun w => by rw [(jbl_0 (by omega)).mp w] at hb; cases hb)]
        have eo : gm_oe a c n p = c n := by unfold gm_oe; rw [if_pos c1]
        rw [eo]
        exact go (c n) hb x2 (Or.inr ⟨rfl, c1⟩) (fun _ => rfl) (fun w => absurd (c1.trans w.symm) x3)
    · rw [if_neg c1]
      by_cases c2 : c n = p
      · rw [if_pos c2]
        cases hb : btl br n
        · rw [if_pos ((jbl_0 (by omega)).mpr hb)]
          exact stay (fun q => by rw [hb] at q; cases q)
        · rw [if_neg (fun w => by rw [(jbl_0 (by omega)).mp w] at hb; cases hb)]
          have eo : gm_oe a c n p = a n := by unfold gm_oe; rw [if_neg c1]
          rw [eo]
          exact go (a n) hb x1 (Or.inl ⟨rfl, c2⟩) (fun w => absurd w c1) (fun _ => rfl)
      · rw [if_neg c2]
        exact stay (fun _ => ⟨c1, c2⟩)
theorem pe_w2 (hP : P ≤ 30) (hE60 : E ≤ 60) (hab : ∀ e, e < E → a e < P ∧ c e < P ∧ a e ≠ c e) {u : Int32 × (Nat → Int32) × (Nat → Nat) × Nat} (h : pe_W a c P E br L R u) : ∀ n,
    pe_W a c P E br L R (gm_w2 u E a c br n) ∧ pe_le u (gm_w2 u E a c br n) ∧ ∀ i, i < n → i < (gm_w2 u E a c br n).2.2.2 → ∀ e, e < E → btl br e = true → (a e = (gm_w2 u E a c br n).2.2.1 i → bt (gm_w2 u E a c br n).1 (c e) = true) ∧ (c e = (gm_w2 u E a c br n).2.2.1 i → bt (gm_w2 u E a c br n).1 (a e) = true)
  | 0 => ⟨h, pe_le.refl u, fun i hi => absurd hi (Nat.not_lt_zero i)⟩
  | n + 1 => by
    obtain ⟨h1, h2, h3⟩ := pe_w2 hP hE60 hab h n
    rw [gm_w2]
    generalize gm_w2 u E a c br n = G at h1 h2 h3 ⊢
    by_cases q : G.2.2.2 ≤ n
    · rw [if_pos q]
      refine ⟨h1, h2, fun i hi hw => h3 i (by omega) hw⟩
    · rw [if_neg q]
      obtain ⟨g1, g2, g3⟩ := pe_wo hP hE60 hab h1 (i0 := n) (p := G.2.2.1 n) (by omega) rfl E (Nat.le_refl _)
      refine ⟨g1, h2.trans g2, fun i hi hw e he hb => ?_⟩
      by_cases z : i = n
      · rw [z, g2.2.2 n (by omega)]
        exact g3 e he hb
      · obtain ⟨w1, w2⟩ := h3 i (by omega) (by omega) e he hb
        rw [g2.2.2 i (by omega)]
        exact ⟨fun w => g2.1 _ (w1 w), fun w => g2.1 _ (w2 w)⟩
theorem pe_w1 (hP : P ≤ 30) {r0 : Nat → Int32} {k0 : Nat → Nat} {M : Nat → Int32} {bd : Int32} (hR : ∀ p, p < P → L p = p → gm_rootN M bd p = R p ∧ R p < P ∧ L (R p) = p) : ∀ n, n ≤ P →
    pe_W a c P E br L R (gm_w1 r0 k0 L M bd n) ∧ ∀ p, p < n → L p = p → bt (gm_w1 r0 k0 L M bd n).1 (R p) = true
  | 0, _ => by
    refine ⟨⟨fun i hi => absurd hi (Nat.not_lt_zero i), fun p hp => ?_, fun i j hi => absurd hi (Nat.not_lt_zero i), fun i hi => absurd hi (Nat.not_lt_zero i)⟩, fun p hp => absurd hp (Nat.not_lt_zero p)⟩
    have : bt (nI 0) p = false := b_0 p
    rw [show (gm_w1 r0 k0 L M bd 0).1 = nI 0 from rfl, this] at hp
    cases hp
  | n + 1, hn => by
    obtain ⟨h1, h2⟩ := pe_w1 hP hR (r0 := r0) (k0 := k0) n (by omega)
    rw [gm_w1]
    by_cases q : L n = n
    · rw [if_pos q]
      obtain ⟨e1, e2, e3⟩ := hR n (by omega) q
      rw [e1]
      obtain ⟨g1, g2, g3⟩ := pe_reach hP h1 e2 (y := -1) (Or.inl ⟨rfl, by rw [e3]⟩)
      refine ⟨g1, fun p hp hl => ?_⟩
      by_cases z : p = n
      · rw [z]; exact g3
      · exact g2.1 _ (h2 p (by omega) hl)
    · rw [if_neg q]
      refine ⟨h1, fun p hp hl => ?_⟩
      have : p ≠ n := fun z => q (z ▸ hl)
      exact h2 p (by omega) hl
/-- peeling from the walk's end -/
theorem pe_pl (hP : P ≤ 30) (hE60 : E ≤ 60) (hab : ∀ e, e < E → a e < P ∧ c e < P ∧ a e ≠ c e) {fr : Int32} {u : Int32 × (Nat → Int32) × (Nat → Nat) × Nat} (h : pe_W a c P E br L R u) : ∀ i, i ≤ u.2.2.2 →
    (∀ e, btl (gm_pl u.2.1 u.2.2.1 u.2.2.2 a c fr 0 i).2 e = true → e < E ∧ btl br e = true ∧ ∃ j, u.2.2.2 - i ≤ j ∧ j < u.2.2.2 ∧ u.2.1 (u.2.2.1 j) = nI e) ∧
    (∀ j, j < u.2.2.2 - i → bt (gm_pl u.2.1 u.2.2.1 u.2.2.2 a c fr 0 i).1 (u.2.2.1 j) = (bt fr (u.2.2.1 j) ^^ fo_d E a c (btl (gm_pl u.2.1 u.2.2.1 u.2.2.2 a c fr 0 i).2) (u.2.2.1 j))) ∧
    (∀ j, u.2.2.2 - i ≤ j → j < u.2.2.2 → ¬ u.2.1 (u.2.2.1 j) = -1 → fo_d E a c (btl (gm_pl u.2.1 u.2.2.1 u.2.2.2 a c fr 0 i).2) (u.2.2.1 j) = bt fr (u.2.2.1 j))
  | 0, _ => by
    have hz : ∀ e, btl (0 : Int64) e = false := l_0
    refine ⟨fun e he => ?_, fun j hj => ?_, fun j h1 h2 => by omega⟩
    · rw [show (gm_pl u.2.1 u.2.2.1 u.2.2.2 a c fr 0 0).2 = 0 from rfl, hz] at he; cases he
    · show bt fr _ = _
      have : fo_d E a c (btl (gm_pl u.2.1 u.2.2.1 u.2.2.2 a c fr 0 0).2) (u.2.2.1 j) = false := mx_false (fun e _ => by
        show (btl 0 e && _) = false
        rw [hz]; rfl)
      rw [this, Bool.xor_false]
  | i + 1, hi => by
    obtain ⟨i1, i2, i3⟩ := pe_pl hP hE60 hab (fr := fr) h i (by omega)
    obtain ⟨p1, p2, p3, p4⟩ := h
    obtain ⟨j0, hj0⟩ : ∃ j0, j0 = u.2.2.2 - i - 1 := ⟨_, rfl⟩
    rw [gm_pl, ← hj0]
    generalize gm_pl u.2.1 u.2.2.1 u.2.2.2 a c fr 0 i = G at i1 i2 i3 ⊢
    have hq := p1 j0 (by omega)
    have i2q := i2 j0 (by omega)
    have same : (¬ u.2.1 (u.2.2.1 j0) = -1 → fo_d E a c (btl G.2) (u.2.2.1 j0) = bt fr (u.2.2.1 j0)) →
        (∀ e, btl G.2 e = true → e < E ∧ btl br e = true ∧ ∃ j, u.2.2.2 - (i + 1) ≤ j ∧ j < u.2.2.2 ∧ u.2.1 (u.2.2.1 j) = nI e) ∧
        (∀ j, j < u.2.2.2 - (i + 1) → bt G.1 (u.2.2.1 j) = (bt fr (u.2.2.1 j) ^^ fo_d E a c (btl G.2) (u.2.2.1 j))) ∧
        (∀ j, u.2.2.2 - (i + 1) ≤ j → j < u.2.2.2 → ¬ u.2.1 (u.2.2.1 j) = -1 → fo_d E a c (btl G.2) (u.2.2.1 j) = bt fr (u.2.2.1 j)) := by
      intro hh
      refine ⟨fun e he => ?_, fun j hj => i2 j (by omega), fun j h1 h2 h3 => ?_⟩
      · obtain ⟨g1, g2, j, g3, g4, g5⟩ := i1 e he
        exact ⟨g1, g2, j, by omega, g4, g5⟩
      · by_cases z : j = j0
        · rw [z] at h3 ⊢; exact hh h3
        · exact i3 j (by omega) h2 h3
    by_cases c1 : u.2.1 (u.2.2.1 j0) = -1
    · rw [if_pos c1]
      exact same (fun w => absurd c1 w)
    · rw [if_neg c1]
      cases ho : bt G.1 (u.2.2.1 j0)
      · rw [if_pos ((jb_0 (by omega)).mpr ho)]
        refine same (fun _ => ?_)
        rw [ho] at i2q
        revert i2q
        cases bt fr (u.2.2.1 j0) <;> cases fo_d E a c (btl G.2) (u.2.2.1 j0) <;> decide
      · rw [if_neg (fun w => by rw [(jb_0 (by omega)).mp w] at ho; cases ho)]
        rcases p4 j0 (by omega) with w | ⟨e, he, w1, w2, j1, hj1, w3⟩
        · exact absurd w.1 c1
        · obtain ⟨x1, x2, x3⟩ := hab e he
          have hge : gm_eN (u.2.1 (u.2.2.1 j0)) = e := by rw [w1]; exact nI_clamp (by omega)
          have hoe : gm_oe a c e (u.2.2.1 j0) = u.2.2.1 j1 := by
            unfold gm_oe
            rcases w3 with w3 | w3
            · rw [if_pos w3.1, w3.2]
            · rw [if_neg (fun z => x3 (z.trans w3.1.symm)), w3.2]
          rw [hge, hoe, w1]
          have hjj : u.2.2.1 j0 ≠ u.2.2.1 j1 := fun z => by have := p3 j0 j1 (by omega) (by omega) z; omega
          have hends : ∀ p, ((a e == p) ^^ (c e == p)) = (decide (p = u.2.2.1 j0) ^^ decide (p = u.2.2.1 j1)) := by
            intro p
            have beq : ∀ x y : Nat, (x == y) = decide (y = x) := fun x y => by
              by_cases z : x = y
              · rw [z]; simp
              · have : (x == y) = false := by simpa using z
                rw [this, decide_eq_false (fun q => z q.symm)]
            rw [beq, beq]
            rcases w3 with w3 | w3
            · rw [w3.1, w3.2]
            · rw [w3.1, w3.2, Bool.xor_comm]
          have hnew : btl G.2 e = false := by
            cases z : btl G.2 e
            · rfl
            · exfalso
              obtain ⟨-, -, j, g3, g4, g5⟩ := i1 e z
              rcases p4 j g4 with q | ⟨e', he', q1, -, j', hj', q3⟩
              · rw [g5] at q
                have := congrArg Int32.toInt q.1
                rw [nI_toInt (by omega)] at this
                have h2 : (-1 : Int32).toInt = -1 := rfl
                omega
              · have ee : e' = e := by
                  rw [g5] at q1
                  exact ((nI_eq (by omega) (by omega)).mp q1).symm
                rw [ee] at q3
                have k1 : u.2.2.1 j0 ≠ u.2.2.1 j := fun z2 => by have := p3 j0 j (by omega) g4 z2; omega
                have k2 : u.2.2.1 j1 ≠ u.2.2.1 j := fun z2 => by have := p3 j1 j (by omega) g4 z2; omega
                rcases w3 with w3 | w3 <;> rcases q3 with q3 | q3
                · exact k1 (w3.1.symm.trans q3.1)
                · exact k2 (w3.2.symm.trans q3.1)
                · exact k2 (w3.2.symm.trans q3.1)
                · exact k1 (w3.1.symm.trans q3.1)
          have hB : btl (G.2 ||| jshl 1 (nI e)) = fun k => btl G.2 k ^^ (k == e) := by
            funext k
            by_cases z : k < 64
            · rw [btl_or1 _ (by omega) z]
              by_cases z2 : k = e
              · rw [z2, hnew, decide_eq_true rfl]; simp
              · have : (k == e) = false := by simpa using z2
                rw [decide_eq_false z2, this, Bool.or_false, Bool.xor_false]
            · have q1 : ∀ y : Int64, btl y k = false := fun y => BitVec.getLsbD_of_ge _ _ (by omega)
              have q2 : (k == e) = false := by simp; omega
              rw [q1, q1, q2]; rfl
          have hfo : ∀ p, fo_d E a c (btl (G.2 ||| jshl 1 (nI e))) p = (fo_d E a c (btl G.2) p ^^ (decide (p = u.2.2.1 j0) ^^ decide (p = u.2.2.1 j1))) := fun p => by
            rw [hB, fo_dx, fl_one he, hends]
          have hj1P := (p1 j1 (by omega)).1
          refine ⟨fun k hk => ?_, fun j hj => ?_, fun j g1 g2 g3 => ?_⟩
          · by_cases z : k = e
            · rw [z]
              exact ⟨he, w2, j0, by omega, by omega, w1⟩
            · have hk : btl (G.2 ||| jshl 1 (nI e)) k = true := hk
              rw [hB] at hk
              have z2 : (k == e) = false := by simpa using z
              have hk : (btl G.2 k ^^ (k == e)) = true := hk
              rw [z2, Bool.xor_false] at hk
              obtain ⟨g1, g2, j, g3, g4, g5⟩ := i1 k hk
              exact ⟨g1, g2, j, by omega, g4, g5⟩
          · show bt (G.1 ^^^ jsh (nI 1) (nI (u.2.2.1 j1))) (u.2.2.1 j) = (bt fr (u.2.2.1 j) ^^ fo_d E a c (btl (G.2 ||| jshl 1 (nI e))) (u.2.2.1 j))
            have hjP := (p1 j (by omega)).1
            rw [bt_xor1 _ (by omega) (by omega), hfo, i2 j (by omega), decide_eq_false (show ¬ u.2.2.1 j = u.2.2.1 j0 from fun z => by have := p3 j j0 (by omega) (by omega) z; omega), Bool.false_xor, bxx]
          · show fo_d E a c (btl (G.2 ||| jshl 1 (nI e))) (u.2.2.1 j) = bt fr (u.2.2.1 j)
            rw [hfo]
            by_cases z : j = j0
            · rw [z, decide_eq_true rfl, decide_eq_false hjj]
              rw [ho] at i2q
              revert i2q
              cases bt fr (u.2.2.1 j0) <;> cases fo_d E a c (btl G.2) (u.2.2.1 j0) <;> decide
            · rw [decide_eq_false (show ¬ u.2.2.1 j = u.2.2.1 j0 from fun z2 => z (p3 j j0 (by omega) (by omega) z2)), decide_eq_false (show ¬ u.2.2.1 j = u.2.2.1 j1 from fun z2 => by have := p3 j j1 (by omega) (by omega) z2; omega), Bool.xor_self, Bool.xor_false]
              exact i3 j (by omega) g2 g3
end PEE
