/-! the reference's fix: a flood from the root without one branch -/
theorem fl_rt {a : Nat → Nat} {b : Nat → Bool} {c : Nat} : ∀ g p, (mr_rt a b c g p = c ∧ ∀ q, p ≤ q → q < p + g → ¬ (a q = c ∧ b q = true)) ∨ (p ≤ mr_rt a b c g p ∧ mr_rt a b c g p < p + g ∧ a (mr_rt a b c g p) = c ∧ b (mr_rt a b c g p) = true ∧ ∀ q, p ≤ q → q < mr_rt a b c g p → ¬ (a q = c ∧ b q = true))
  | 0, p => Or.inl ⟨rfl, fun q h1 h2 => by omega⟩
  | g + 1, p => by
    have ih := fl_rt (a := a) (b := b) (c := c) g (p + 1)
    rw [mr_rt]
    by_cases h1 : a p = c ∧ b p = true
    · rw [if_pos h1.1, if_neg (by rw [h1.2]; decide)]
      exact Or.inr ⟨Nat.le_refl _, by omega, h1.1, h1.2, fun q q1 q2 => by omega⟩
    · have e : (if a p = c then (if b p = false then mr_rt a b c g (p + 1) else p) else mr_rt a b c g (p + 1)) = mr_rt a b c g (p + 1) := by
        by_cases w : a p = c
        · rw [if_pos w]
          have : b p = false := by
            by_cases w2 : b p = true
            · exact absurd ⟨w, w2⟩ h1
            · simpa using w2
          rw [if_pos this]
        · rw [if_neg w]
      rw [e]
      rcases ih with ⟨q1, q2⟩ | ⟨q1, q2, q3, q4, q5⟩
      · refine Or.inl ⟨q1, fun q w1 w2 => ?_⟩
        by_cases w : q = p
        · rw [w]; exact h1
        · exact q2 q (by omega) (by omega)
      · refine Or.inr ⟨by omega, by omega, q3, q4, fun q w1 w2 => ?_⟩
        by_cases w : q = p
        · rw [w]; exact h1
        · exact q5 q (by omega) w2
theorem fl_ff (f : Nat → Bool) : ∀ n p, p < n → mr_ff f n p = false := fun n p h => mr_ff_at f n p h
section FLO
variable {gA gC nN : Nat → Nat} {P E : Nat} {br : Int64} {x r : Nat}
/-- each point that is reached has a way there -/
def fl_W (gA gC : Nat → Nat) (P E : Nat) (br : Int64) (x r : Nat) (w : Nat → Bool) : Prop := w r = true ∧ ∀ q, q < P → w q = true → ∃ D : Nat → Bool, (∀ e, D e = true → btl br e = true ∧ e ≠ x) ∧ ∀ p, p < P → fo_d E gA gC D p = (decide (p = q) ^^ decide (p = r))
theorem fl_one {k : Nat} (hk : k < E) (p : Nat) : fo_d E gA gC (fun e => e == k) p = ((gA k == p) ^^ (gC k == p)) := by
  unfold fo_d
  rw [mx_one hk (fun i _ hi => by
    have : (i == k) = false := by simpa using hi
    show ((i == k) && _) = false
    rw [this]; rfl)]
  simp
theorem fl_ps (hE60 : E ≤ 60) (hab : ∀ e, e < E → gA e < P ∧ gC e < P ∧ gA e ≠ gC e) (hn : ∀ e, e < E → nN (2 * e) = gA e ∧ nN (2 * e + 1) = gC e) {w : Nat → Bool} (h : fl_W gA gC P E br x r w) : ∀ n, n ≤ E → fl_W gA gC P E br x r (mr_ps br nN x w n).1
  | 0, _ => h
  | n + 1, hN => by
    have ih := fl_ps hE60 hab hn h n (by omega)
    obtain ⟨n0, n1⟩ := hn n (by omega)
    obtain ⟨a1, a2, a3⟩ := hab n (by omega)
    rw [mr_ps, n0, n1]
    by_cases c1 : n = x
    · rw [if_pos c1]; exact ih
    · rw [if_neg c1]
      by_cases c2 : jbls br (nI n) = 0
      · rw [if_pos c2]; exact ih
      · rw [if_neg c2]
        have hb : btl br n = true := by
          cases q : btl br n
          · rw [jbls_bt br (by omega), q] at c2
            exact absurd rfl c2
          · rfl
        generalize mr_ps br nN x w n = G at ih ⊢
        by_cases c3 : G.1 (gA n) = G.1 (gC n)
        · rw [if_pos c3]; exact ih
        · rw [if_neg c3]
          obtain ⟨i1, i2⟩ := ih
          -- the one that was reached, and the other
          have key : ∀ q q', q < P → G.1 q = true → (∀ p, ((gA n == p) ^^ (gC n == p)) = (decide (p = q) ^^ decide (p = q'))) → ∃ D : Nat → Bool, (∀ e, D e = true → btl br e = true ∧ e ≠ x) ∧ ∀ p, p < P → fo_d E gA gC D p = (decide (p = q') ^^ decide (p = r)) := by
            intro q q' hq hg hp
            obtain ⟨D, d1, d2⟩ := i2 q hq hg
            refine ⟨fun e => D e ^^ (e == n), fun e he => ?_, fun p hpP => ?_⟩
            · by_cases w2 : e = n
              · rw [w2]; exact ⟨hb, c1⟩
              · have w3 : (e == n) = false := by simpa using w2
                have he : (D e ^^ (e == n)) = true := he
                rw [w3, Bool.xor_false] at he
                exact d1 e he
            · rw [fo_dx, d2 p hpP, fl_one (by omega), hp p]
              cases decide (p = q) <;> cases decide (p = q') <;> cases decide (p = r) <;> rfl
          have beq : ∀ u v : Nat, (u == v) = decide (v = u) := fun u v => by
            by_cases w2 : u = v
            · rw [w2]; simp
            · have : (u == v) = false := by simpa using w2
              rw [this, decide_eq_false (fun z => w2 z.symm)]
          have hboth : (∃ D : Nat → Bool, (∀ e, D e = true → btl br e = true ∧ e ≠ x) ∧ ∀ p, p < P → fo_d E gA gC D p = (decide (p = gA n) ^^ decide (p = r))) ∧ (∃ D : Nat → Bool, (∀ e, D e = true → btl br e = true ∧ e ≠ x) ∧ ∀ p, p < P → fo_d E gA gC D p = (decide (p = gC n) ^^ decide (p = r))) := by
            cases q1 : G.1 (gA n)
            · have q2 : G.1 (gC n) = true := by
                cases q2 : G.1 (gC n)
                · rw [q1, q2] at c3; exact absurd rfl c3
                · rfl
              exact ⟨key (gC n) (gA n) a2 q2 (fun p => by rw [beq, beq, Bool.xor_comm]), i2 _ a2 q2⟩
            · exact ⟨i2 _ a1 q1, key (gA n) (gC n) a1 q1 (fun p => by rw [beq, beq])⟩
          refine ⟨?_, fun q hq hw => ?_⟩
          · show gd_uB (gd_uB G.1 (gA n) true) (gC n) true r = true
            unfold gd_uB
            by_cases w2 : r = gC n
            · rw [if_pos w2]
            · rw [if_neg w2]
              by_cases w3 : r = gA n
              · rw [if_pos w3]
              · rw [if_neg w3]; exact i1
          · by_cases w2 : q = gC n
            · rw [w2]; exact hboth.2
            · by_cases w3 : q = gA n
              · rw [w3]; exact hboth.1
              · have hw : gd_uB (gd_uB G.1 (gA n) true) (gC n) true q = true := hw
                rw [fe_uBn w2, fe_uBn w3] at hw
                exact i2 q hq hw
theorem fl_still (hE60 : E ≤ 60) (hn : ∀ e, e < E → nN (2 * e) = gA e ∧ nN (2 * e + 1) = gC e) {w : Nat → Bool} : ∀ n, n ≤ E → (mr_ps br nN x w n).2 = false → (mr_ps br nN x w n).1 = w ∧ ∀ e, e < n → e ≠ x → btl br e = true → w (gA e) = w (gC e)
  | 0, _, _ => ⟨rfl, fun e h => absurd h (Nat.not_lt_zero e)⟩
  | n + 1, hN, h => by
    obtain ⟨n0, n1⟩ := hn n (by omega)
    have ih := fl_still hE60 hn (w := w) n (by omega)
    rw [mr_ps, n0, n1] at h ⊢
    have close : ∀ (q : ∀ e, e < n → e ≠ x → btl br e = true → w (gA e) = w (gC e)), (n ≠ x → btl br n = true → w (gA n) = w (gC n)) → ∀ e, e < n + 1 → e ≠ x → btl br e = true → w (gA e) = w (gC e) := by
      intro q q2 e he h1 h2
      by_cases w2 : e = n
      · rw [w2] at h1 h2 ⊢; exact q2 h1 h2
      · exact q e (by omega) h1 h2
    by_cases c1 : n = x
    · rw [if_pos c1] at h ⊢
      obtain ⟨i1, i2⟩ := ih h
      exact ⟨i1, close i2 (fun z => absurd c1 z)⟩
    · rw [if_neg c1] at h ⊢
      by_cases c2 : jbls br (nI n) = 0
      · rw [if_pos c2] at h ⊢
        obtain ⟨i1, i2⟩ := ih h
        refine ⟨i1, close i2 (fun _ z => ?_)⟩
        rw [jbls_bt br (by omega), z] at c2
        exact absurd c2 (by decide)
      · rw [if_neg c2] at h ⊢
        by_cases c3 : (mr_ps br nN x w n).1 (gA n) = (mr_ps br nN x w n).1 (gC n)
        · rw [if_pos c3] at h ⊢
          obtain ⟨i1, i2⟩ := ih h
          refine ⟨i1, close i2 (fun _ _ => ?_)⟩
          rw [i1] at c3
          exact c3
        · rw [if_neg c3] at h
          cases h
theorem fl_fl (hE60 : E ≤ 60) (hn30 : ∀ q, nN q < 30) (hab : ∀ e, e < E → gA e < P ∧ gC e < P ∧ gA e ≠ gC e) (hn : ∀ e, e < E → nN (2 * e) = gA e ∧ nN (2 * e + 1) = gC e) : ∀ g (w : Nat → Bool), mr_cf w 30 ≤ g → fl_W gA gC P E br x r w →
    fl_W gA gC P E br x r (mr_fl br nN x E g w) ∧ ∀ e, e < E → e ≠ x → btl br e = true → mr_fl br nN x E g w (gA e) = mr_fl br nN x E g w (gC e)
  | 0, w, hc, h => by
    rw [mr_fl]
    have hf : (mr_ps br nN x w E).2 = false := by
      cases q : (mr_ps br nN x w E).2
      · rfl
      · have := mr_ps_dec hn30 q
        omega
    obtain ⟨i1, i2⟩ := fl_still hE60 hn E (Nat.le_refl _) hf
    rw [i1]
    exact ⟨h, i2⟩
  | g + 1, w, hc, h => by
    rw [mr_fl]
    cases q : (mr_ps br nN x w E).2
    · rw [if_pos rfl]
      obtain ⟨i1, i2⟩ := fl_still hE60 hn E (Nat.le_refl _) q
      rw [i1]
      exact ⟨h, i2⟩
    · rw [if_neg (by decide)]
      have := mr_ps_dec hn30 q
      exact fl_fl hE60 hn30 hab hn g _ (by omega) (fl_ps hE60 hab hn h E (Nat.le_refl _))
end FLO
theorem fl_ct {a : Nat → Nat} {w : Nat → Bool} {fr : Int32} {c : Nat} : ∀ n, n ≤ 32 → ∃ k, k ≤ n ∧ mr_ct a w fr c n = nI k ∧ decide (k % 2 = 1) = mx_s n (fun q => (decide (a q = c) && !w q) && bt fr q)
  | 0, _ => ⟨0, Nat.le_refl _, rfl, rfl⟩
  | n + 1, hn => by
    obtain ⟨k, hk, e1, e2⟩ := fl_ct (a := a) (w := w) (fr := fr) (c := c) n (by omega)
    rw [mr_ct, mx_s1, ← e2, e1]
    have z0 : nI k + nI 0 = nI k := nI_add k 0
    by_cases q : a n = c
    · rw [if_pos q, decide_eq_true q, Bool.true_and]
      cases hw : w n
      · rw [if_neg (by decide), jbs_bt fr (by omega)]
        cases bt fr n
        · refine ⟨k, by omega, ?_, ?_⟩
          · rw [if_neg (by decide)]; exact z0
          · rw [Bool.and_false, Bool.xor_false]
        · refine ⟨k + 1, by omega, ?_, ?_⟩
          · rw [if_pos rfl]; exact nI_add k 1
          · rw [Bool.not_false, Bool.true_and, Bool.xor_true]
            by_cases w : k % 2 = 1
            · rw [decide_eq_true w, decide_eq_false (by omega)]; rfl
            · rw [decide_eq_false w, decide_eq_true (by omega)]; rfl
      · rw [if_pos rfl]
        exact ⟨k, by omega, z0, by rw [Bool.not_true, Bool.false_and, Bool.xor_false]⟩
    · rw [if_neg q, decide_eq_false q]
      exact ⟨k, by omega, z0, by rw [Bool.false_and, Bool.false_and, Bool.xor_false]⟩
/-- a set of points, and what of the edges F leads out of it -/
theorem fl_cut {ne np : Nat} {a b : Nat → Nat} (hab : ∀ e, e < ne → a e < np ∧ b e < np ∧ a e ≠ b e) (F X : Nat → Bool) :
    mx_s np (fun p => X p && fo_d ne a b F p) = mx_s ne (fun e => F e && (X (a e) ^^ X (b e))) := by
  have e1 : mx_s np (fun p => X p && fo_d ne a b F p) = mx_s np (fun p => mx_s ne (fun e => X p && (F e && ((a e == p) ^^ (b e == p))))) :=
    mx_congr (fun p _ => (mx_and ne (X p) _).symm)
  rw [e1, mx_swap]
  refine mx_congr (fun e he => ?_)
  obtain ⟨ha, hb, hne⟩ := hab e he
  have e2 : mx_s np (fun p => X p && (F e && ((a e == p) ^^ (b e == p)))) = (mx_s np (fun p => X p && (F e && (a e == p))) ^^ mx_s np (fun p => X p && (F e && (b e == p)))) := by
    rw [← mx_xor]
    refine mx_congr (fun p _ => ?_)
    generalize X p = x; generalize F e = d; generalize (a e == p) = y; generalize (b e == p) = z
    cases x <;> cases d <;> cases y <;> cases z <;> rfl
  have e3 : ∀ c : Nat, c < np → mx_s np (fun p => X p && (F e && (c == p))) = (X c && F e) := by
    intro c hc
    rw [mx_one hc (fun i _ hi => by
      have : (c == i) = false := by simpa using (fun q => hi q.symm)
      rw [this, Bool.and_false, Bool.and_false])]
    rw [show (c == c) = true by simp, Bool.and_true]
  rw [e2, e3 _ ha, e3 _ hb]
  cases F e <;> cases X (a e) <;> cases X (b e) <;> rfl
/-- whether a branch is of the fix: whatever set of branches has the fired points' parity at all points but the roots -/
theorem fl_isf {gA gC nN : Nat → Nat} {P E : Nat} {br : Int64} {L a : Nat → Nat} {b : Nat → Bool} {fr : Int32} (hP : P ≤ 30) (hE60 : E ≤ 60) (hn30 : ∀ q, nN q < 30) (hab : ∀ e, e < E → gA e < P ∧ gC e < P ∧ gA e ≠ gC e) (hn : ∀ e, e < E → nN (2 * e) = gA e ∧ nN (2 * e + 1) = gC e)
    (hL : od_L L P) (ha : ∀ p, p < P → L p = a p) (hI : fo_I E P gA gC (btl br) (jo_cl L P)) {F : Nat → Bool} (hF : ∀ e, F e = true → btl br e = true) (hd : ∀ p, p < P → p ≠ mr_rt a b (L p) P 0 → fo_d E gA gC F p = bt fr p) (w : Nat → Bool) {x : Nat} (hx : x < E) (hb : btl br x = true) :
    mr_isf a b w fr br nN P E x = F x := by
  obtain ⟨x1, x2, x3⟩ := hab x hx
  obtain ⟨n0, n1⟩ := hn x hx
  obtain ⟨c, hc⟩ : ∃ c, c = L (gA x) := ⟨_, rfl⟩
  have hac : a (nN (2 * x)) = c := by rw [n0, ← ha _ x1, hc]
  have hcl : ∀ p, p < P → jo_cl L P p = L p := fun p hp => by unfold jo_cl; rw [if_pos hp]
  have hcc : L c = c := by rw [hc]; exact (hL _ x1).2
  have hcP : c < P := by rw [hc]; have := (hL _ x1).1; omega
  obtain ⟨r, hr⟩ : ∃ r, r = mr_rt a b c P 0 := ⟨_, rfl⟩
  have hrP : r < P ∧ L r = c := by
    rcases fl_rt (a := a) (b := b) (c := c) P 0 with ⟨q1, -⟩ | ⟨-, q2, q3, -⟩
    · rw [hr, q1]; exact ⟨hcP, hcc⟩
    · rw [← hr] at q2 q3
      exact ⟨by omega, by rw [ha r (by omega)]; exact q3⟩
  have hw0 : fl_W gA gC P E br x r (gd_uB (mr_ff w P) r true) := by
    refine ⟨fe_uB, fun q hq hw => ?_⟩
    have hqr : q = r := by
      by_cases z : q = r
      · exact z
      · rw [fe_uBn z, mr_ff_at w P q hq] at hw; cases hw
    refine ⟨fun _ => false, fun e he => absurd (show false = true from he) (by decide), fun p _ => ?_⟩
    have : fo_d E gA gC (fun _ => false) p = false := mx_false (fun _ _ => rfl)
    rw [this, hqr, Bool.xor_self]
  obtain ⟨W, hW⟩ : ∃ W, W = mr_wf a b w br nN P E x := ⟨_, rfl⟩
  have hWe : W = mr_fl br nN x E 30 (gd_uB (mr_ff w P) r true) := by rw [hW, mr_wf, hac, hr]
  obtain ⟨⟨f1, f2⟩, f3⟩ := fl_fl hE60 hn30 hab hn 30 _ (mr_cf_le _ 30) hw0
  rw [← hWe] at f1 f2 f3
  -- just one end of the branch is reached
  have hone : W (gA x) ≠ W (gC x) := by
    intro heq
    cases h1 : W (gA x)
    · have h2 : W (gC x) = false := by rw [← heq]; exact h1
      have hS : ∀ e, e < E → btl br e = true → W (gA e) = W (gC e) := fun e he hbe => by
        by_cases z : e = x
        · rw [z]; exact heq
        · exact f3 e he z hbe
      have := hI.2.2 W hS (gA x) r x1 hrP.1 (by rw [hcl _ x1, hcl _ hrP.1, hrP.2, hc])
      rw [h1, f1] at this; cases this
    · have h2 : W (gC x) = true := by rw [← heq]; exact h1
      obtain ⟨D1, a1, a2⟩ := f2 _ x1 h1
      obtain ⟨D2, b1, b2⟩ := f2 _ x2 h2
      obtain ⟨p, hp, -, q⟩ := hI.2.1 (fun e => (D1 e ^^ D2 e) ^^ (e == x)) (fun e he => by
        by_cases z : e = x
        · rw [z]; exact hb
        · have z2 : (e == x) = false := by simpa using z
          have he : ((D1 e ^^ D2 e) ^^ (e == x)) = true := he
          rw [z2, Bool.xor_false] at he
          by_cases z3 : D1 e = true
          · exact (a1 e z3).1
          · have z4 : D1 e = false := by simpa using z3
            rw [z4, Bool.false_xor] at he
            exact (b1 e he).1) ⟨x, hx, by
        have q1 : D1 x = false := by
          by_cases z : D1 x = true
          · exact absurd rfl (a1 x z).2
          · simpa using z
        have q2 : D2 x = false := by
          by_cases z : D2 x = true
          · exact absurd rfl (b1 x z).2
          · simpa using z
        show ((D1 x ^^ D2 x) ^^ (x == x)) = true
        rw [q1, q2]; simp⟩ (fun _ => r)
      rw [fo_dx E gA gC (fun e => D1 e ^^ D2 e) (fun e => e == x) p, fo_dx, a2 p hp, b2 p hp, fl_one hx] at q
      have beq : ∀ u v : Nat, (u == v) = decide (v = u) := fun u v => by
        by_cases w2 : u = v
        · rw [w2]; simp
        · have : (u == v) = false := by simpa using w2
          rw [this, decide_eq_false (fun z => w2 z.symm)]
      rw [beq, beq] at q
      revert q
      cases decide (p = gA x) <;> cases decide (p = gC x) <;> cases decide (p = r) <;> decide
  unfold mr_isf
  rw [hac, ← hW]
  obtain ⟨k, hk, e1, e2⟩ := fl_ct (a := a) (w := W) (fr := fr) (c := c) P (by omega)
  rw [e1, od_par k (by omega), e2]
  have e3 : mx_s P (fun q => (decide (a q = c) && !W q) && bt fr q) = mx_s P (fun q => (decide (L q = c) && !W q) && fo_d E gA gC F q) := mx_congr (fun q hq => by
    rw [← ha q hq]
    by_cases z : L q = c
    · cases h1 : W q
      · have : q ≠ mr_rt a b (L q) P 0 := fun z2 => by
          rw [z, ← hr] at z2
          rw [z2, f1] at h1; cases h1
        rw [hd q hq this]
      · rw [Bool.not_true, Bool.and_false]; rfl
    · rw [decide_eq_false z]; rfl)
  rw [e3, fl_cut hab F (fun q => decide (L q = c) && !W q), mx_one hx (fun e he hne => ?_)]
  · have l1 : L (gC x) = c := by
      have := hI.1 x hx hb
      rw [hcl _ x1, hcl _ x2] at this
      rw [← this, hc]
    show (F x && ((decide (L (gA x) = c) && !W (gA x)) ^^ (decide (L (gC x) = c) && !W (gC x)))) = F x
    rw [decide_eq_true hc.symm, decide_eq_true l1, Bool.true_and, Bool.true_and]
    revert hone
    cases W (gA x) <;> cases W (gC x) <;> cases F x <;> decide
  · cases hFe : F e
    · rfl
    · have hbe := hF e hFe
      obtain ⟨y1, y2, -⟩ := hab e he
      have l1 := hI.1 e he hbe
      rw [hcl _ y1, hcl _ y2] at l1
      show (true && ((decide (L (gA e) = c) && !W (gA e)) ^^ (decide (L (gC e) = c) && !W (gC e)))) = false
      rw [l1, f3 e he hne hbe, Bool.xor_self]; rfl
theorem fl_fx {gA gC nN : Nat → Nat} {P E : Nat} {br : Int64} {L a : Nat → Nat} {b : Nat → Bool} {fr : Int32} (hP : P ≤ 30) (hE60 : E ≤ 60) (hn30 : ∀ q, nN q < 30) (hab : ∀ e, e < E → gA e < P ∧ gC e < P ∧ gA e ≠ gC e) (hn : ∀ e, e < E → nN (2 * e) = gA e ∧ nN (2 * e + 1) = gC e)
    (hL : od_L L P) (ha : ∀ p, p < P → L p = a p) (hI : fo_I E P gA gC (btl br) (jo_cl L P)) {F : Nat → Bool} (hF : ∀ e, F e = true → btl br e = true) (hd : ∀ p, p < P → p ≠ mr_rt a b (L p) P 0 → fo_d E gA gC F p = bt fr p) (w : Nat → Bool) : ∀ n, n ≤ E → ∀ e, e < 64 → btl (mr_fx a b w fr br 0 nN P E n).1 e = (decide (e < n) && F e)
  | 0, _, e, he => by
    rw [decide_eq_false (Nat.not_lt_zero e)]
    exact l_0 e
  | n + 1, hN, e, he => by
    have ih := fl_fx hP hE60 hn30 hab hn hL ha hI hF hd w n (by omega) e he
    rw [mr_fx]
    cases hb : btl br n
    · rw [if_neg (by rw [jbls_bt br (by omega), hb]; decide), ih]
      by_cases z : e = n
      · have : F n = false := by
          by_cases z2 : F n = true
          · rw [hF n z2] at hb; cases hb
          · simpa using z2
        rw [z, this, Bool.and_false, Bool.and_false]
      · by_cases z2 : e < n
        · rw [decide_eq_true z2, decide_eq_true (by omega)]
        · rw [decide_eq_false z2, decide_eq_false (by omega)]
    · rw [if_pos (by rw [jbls_bt br (by omega), hb]; rfl)]
      have hi := fl_isf hP hE60 hn30 hab hn hL ha hI hF hd (mr_fx a b w fr br 0 nN P E n).2 (show n < E by omega) hb
      rw [hi]
      cases hf : F n
      · rw [if_pos rfl]
        show btl (mr_fx a b w fr br 0 nN P E n).1 e = _
        rw [ih]
        by_cases z : e = n
        · rw [z, hf, Bool.and_false, Bool.and_false]
        · by_cases z2 : e < n
          · rw [decide_eq_true z2, decide_eq_true (by omega)]
          · rw [decide_eq_false z2, decide_eq_false (by omega)]
      · rw [if_neg (by decide)]
        show btl ((mr_fx a b w fr br 0 nN P E n).1 ||| jshl 1 (nI n)) e = _
        rw [btl_or1 _ (by omega) he, ih]
        by_cases z : e = n
        · rw [z, hf, decide_eq_true rfl, Bool.or_true, decide_eq_true (Nat.lt_succ_self n)]; rfl
        · rw [decide_eq_false z, Bool.or_false]
          by_cases z2 : e < n
          · rw [decide_eq_true z2, decide_eq_true (by omega)]
          · rw [decide_eq_false z2, decide_eq_false (by omega)]
