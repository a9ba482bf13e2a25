/-! growing: clusters that become one -/
theorem jo_jn {f : Nat → Nat} {hi lo : Nat} : ∀ n p, gm_jn f hi lo n p = if p < n ∧ f p = hi then lo else f p
  | 0, p => by rw [if_neg (fun h => absurd h.1 (Nat.not_lt_zero p))]; rfl
  | n + 1, p => by
    have ih := jo_jn (f := f) (hi := hi) (lo := lo) n
    have hn : gm_jn f hi lo n n = f n := by rw [ih n, if_neg (fun h => absurd h.1 (Nat.lt_irrefl n))]
    rw [gm_jn, hn]
    by_cases q : f n = hi
    · rw [if_pos q]
      unfold gd_uN
      by_cases w : p = n
      · rw [if_pos w, if_pos ⟨by omega, by rw [w]; exact q⟩]
      · rw [if_neg w, ih p]
        by_cases w2 : p < n ∧ f p = hi
        · rw [if_pos w2, if_pos ⟨by omega, w2.2⟩]
        · rw [if_neg w2, if_neg (fun h => w2 ⟨by omega, h.2⟩)]
    · rw [if_neg q, ih p]
      by_cases w2 : p < n ∧ f p = hi
      · rw [if_pos w2, if_pos ⟨by omega, w2.2⟩]
      · rw [if_neg w2, if_neg (fun h => w2 ⟨by
          have : p ≠ n := fun e => q (e ▸ h.2)
          omega, h.2⟩)]
theorem jo_mg {f : Nat → Nat} {o n : Nat} : ∀ k p, mr_mg f o n k p = if p < k ∧ f p = o then n else f p
  | 0, p => by rw [if_neg (fun h => absurd h.1 (Nat.not_lt_zero p))]; rfl
  | k + 1, p => by
    have ih := jo_mg (f := f) (o := o) (n := n) k
    have hk : mr_mg f o n k k = f k := by rw [ih k, if_neg (fun h => absurd h.1 (Nat.lt_irrefl k))]
    rw [mr_mg, hk]
    unfold gd_uN
    by_cases w : p = k
    · rw [if_pos w]
      by_cases q : f k = o
      · rw [if_pos q, if_pos ⟨by omega, by rw [w]; exact q⟩]
      · rw [if_neg q, if_neg (fun h => q (by rw [← w]; exact h.2)), w]
    · rw [if_neg w, ih p]
      by_cases w2 : p < k ∧ f p = o
      · rw [if_pos w2, if_pos ⟨by omega, w2.2⟩]
      · rw [if_neg w2, if_neg (fun h => w2 ⟨by omega, h.2⟩)]
theorem jo_merge {f : Nat → Nat} {x y P p : Nat} : mr_merge f x y P p = if p < P ∧ f p = max x y then min x y else f p := by
  unfold mr_merge
  by_cases c : y ≤ x
  · rw [if_pos c, jo_mg, Nat.max_eq_left c, Nat.min_eq_right c]
  · rw [if_neg c, jo_mg, Nat.max_eq_right (by omega), Nat.min_eq_left (by omega)]
theorem jo_tot {a a' : Nat → Nat} {h : Nat} (hh : a h = h) (hs : ∀ p, a' p = p ↔ (a p = p ∧ p ≠ h)) : ∀ n, mr_tot a n = mr_tot a' n + (if h < n then 1 else 0)
  | 0 => rfl
  | n + 1 => by
    have ih := jo_tot hh hs n
    rw [mr_tot, mr_tot, ih]
    have q := hs n
    by_cases c : n = h
    · subst c
      rw [if_pos hh, if_neg (fun w => (q.mp w).2 rfl), if_neg (Nat.lt_irrefl _), if_pos (Nat.lt_succ_self _)]
    · by_cases w : a n = n
      · rw [if_pos w, if_pos (q.mpr ⟨w, c⟩)]
        by_cases w2 : h < n
        · rw [if_pos w2, if_pos (by omega)]
        · rw [if_neg w2, if_neg (by omega)]
      · rw [if_neg w, if_neg (fun w3 => w (q.mp w3).1)]
        by_cases w2 : h < n
        · rw [if_pos w2, if_pos (by omega)]
        · rw [if_neg w2, if_neg (by omega)]
theorem jo_tot_congr {a a' : Nat → Nat} : ∀ n, (∀ p, p < n → (a p = p ↔ a' p = p)) → mr_tot a n = mr_tot a' n
  | 0, _ => rfl
  | n + 1, h => by
    rw [mr_tot, mr_tot, jo_tot_congr n (fun p hp => h p (by omega))]
    have q := h n (Nat.lt_succ_self n)
    by_cases w : a n = n
    · rw [if_pos w, if_pos (q.mp w)]
    · rw [if_neg w, if_neg (fun z => w (q.mpr z))]
def jo_cl (L : Nat → Nat) (P p : Nat) : Nat := if p < P then L p else p + 30
/-- labels, members, how many, branches: both sides -/
def jo_I (a c : Nat → Nat) (P E : Nat) (L : Nat → Nat) (M : Nat → Int32) (Cn : Int32) (Br : Int64) (A : Nat → Nat) (X : Int64) : Prop :=
  (∀ p, p < P → L p = A p) ∧ od_L L P ∧ od_M L M P ∧ Cn = nI (mr_tot A P) ∧ Br = X ∧ fo_I E P a c (btl Br) (jo_cl L P)
theorem jo_step {a c : Nat → Nat} {P E : Nat} (hP : P ≤ 30) (hE60 : E ≤ 60) (hab : ∀ e, e < E → a e < P ∧ c e < P ∧ a e ≠ c e) {L : Nat → Nat} {M : Nat → Int32} {Cn : Int32} {Br X : Int64} {A : Nat → Nat} (h : jo_I a c P E L M Cn Br A X) {e : Nat} (he : e < E) (hd : L (a e) ≠ L (c e)) :
    jo_I a c P E (gm_jn L (max (L (a e)) (L (c e))) (min (L (a e)) (L (c e))) P) (gm_joinM M (L (a e)) (L (c e))) (Cn - nI 1) (Br ||| jshl 1 (nI e)) (mr_merge A (A (a e)) (A (c e)) P) (X ||| jshl 1 (nI e)) := by
  obtain ⟨h1, h2, h3, h4, h5, h6⟩ := h
  obtain ⟨ha, hc, hne⟩ := hab e he
  rw [← h1 _ ha, ← h1 _ hc]
  obtain ⟨x, hx⟩ : ∃ x, x = L (a e) := ⟨_, rfl⟩
  obtain ⟨y, hy⟩ : ∃ y, y = L (c e) := ⟨_, rfl⟩
  have hxa := h2 _ ha
  have hyc := h2 _ hc
  have hxx : L x = x := by rw [hx]; exact hxa.2
  have hyy : L y = y := by rw [hy]; exact hyc.2
  have hxP : x < P := by rw [hx]; omega
  have hyP : y < P := by rw [hy]; omega
  rw [← hx, ← hy] at hd ⊢
  obtain ⟨hi, ehi⟩ : ∃ hi, hi = max x y := ⟨_, rfl⟩
  obtain ⟨lo, elo⟩ : ∃ lo, lo = min x y := ⟨_, rfl⟩
  have hlohi : lo < hi := by omega
  have hhi : L hi = hi := by
    rcases (show hi = x ∨ hi = y by omega) with w | w <;> rw [w] <;> assumption
  have hlo : L lo = lo := by
    rcases (show lo = x ∨ lo = y by omega) with w | w <;> rw [w] <;> assumption
  have hhiP : hi < P := by omega
  have hjn : ∀ p, p < P → gm_jn L (max x y) (min x y) P p = if L p = hi then lo else L p := fun p hp => by
    rw [jo_jn, ← ehi, ← elo]
    by_cases w : L p = hi
    · rw [if_pos ⟨hp, w⟩, if_pos w]
    · rw [if_neg (fun z => w z.2), if_neg w]
  have hmg : ∀ p, p < P → mr_merge A x y P p = if L p = hi then lo else L p := fun p hp => by
    rw [jo_merge, ← ehi, ← elo, ← h1 p hp]
    by_cases w : L p = hi
    · rw [if_pos ⟨hp, w⟩, if_pos w]
    · rw [if_neg (fun z => w z.2), if_neg w]
  refine ⟨fun p hp => by rw [hjn p hp, hmg p hp], fun p hp => ?_, fun p hp hl q hq => ?_, ?_, by rw [h5], ?_⟩
  · have h2p := h2 p hp
    rw [hjn p hp]
    by_cases w : L p = hi
    · rw [if_pos w, hjn lo (by omega), hlo, if_neg (by omega)]
      exact ⟨by omega, rfl⟩
    · rw [if_neg w, hjn (L p) (by omega), h2p.2, if_neg w]
      exact ⟨h2p.1, rfl⟩
  · rw [hjn p hp] at hl
    have w : ¬ L p = hi := fun w => by
      rw [if_pos w] at hl
      rw [← hl, hlo] at w
      omega
    rw [if_neg w] at hl
    have hpn : p ≠ hi := fun z => w (by rw [z]; exact hhi)
    have e2 : (decide (q < P) && decide (gm_jn L (max x y) (min x y) P q = p)) = (decide (q < P) && decide ((if L q = hi then lo else L q) = p)) := by
      by_cases z : q < P
      · rw [hjn q z]
      · rw [decide_eq_false z]; rfl
    rw [e2]
    unfold gm_joinM
    rw [← ehi, ← elo]
    by_cases z : p = lo
    · rw [z, fe_upd, b_or, h3 lo (by omega) hlo q hq, h3 hi hhiP hhi q hq]
      by_cases z2 : q < P
      · rw [decide_eq_true z2, Bool.true_and, Bool.true_and, Bool.true_and]
        by_cases z3 : L q = hi
        · rw [if_pos z3, decide_eq_true z3, decide_eq_true rfl, Bool.or_true]
        · rw [if_neg z3, decide_eq_false z3, Bool.or_false]
      · rw [decide_eq_false z2]; rfl
    · rw [fe_updn z, h3 p hp hl q hq]
      by_cases z2 : q < P
      · rw [decide_eq_true z2, Bool.true_and, Bool.true_and]
        by_cases z3 : L q = hi
        · rw [if_pos z3, decide_eq_false (fun z4 => hpn (z4.symm.trans z3)), decide_eq_false (fun z4 => z z4.symm)]
        · rw [if_neg z3]
      · rw [decide_eq_false z2]; rfl
  · -- how many
    have t1 : mr_tot A P = mr_tot (fun p => if p < P then L p else p) P := jo_tot_congr P (fun p hp => by
      show _ ↔ (if p < P then L p else p) = p
      rw [if_pos hp, h1 p hp])
    have t2 : mr_tot (mr_merge A x y P) P = mr_tot (fun p => if p = hi then hi + 1 else if p < P then L p else p) P := jo_tot_congr P (fun p hp => by
      show _ ↔ (if p = hi then hi + 1 else if p < P then L p else p) = p
      rw [hmg p hp, if_pos hp]
      by_cases w : p = hi
      · rw [if_pos w, w, if_pos hhi]
        exact ⟨fun z => by omega, fun z => by omega⟩
      · rw [if_neg w]
        by_cases w2 : L p = hi
        · rw [if_pos w2, w2]
          refine ⟨fun z => ?_, fun z => absurd z.symm w⟩
          rw [← z, hlo] at w2
          omega
        · rw [if_neg w2])
    have t3 := jo_tot (a := fun p => if p < P then L p else p) (a' := fun p => if p = hi then hi + 1 else if p < P then L p else p) (h := hi) (by show (if hi < P then L hi else hi) = hi; rw [if_pos hhiP, hhi]) (fun p => by
      show (if p = hi then hi + 1 else if p < P then L p else p) = p ↔ ((if p < P then L p else p) = p ∧ p ≠ hi)
      by_cases w : p = hi
      · rw [if_pos w]
        exact ⟨fun z => by omega, fun z => absurd w z.2⟩
      · rw [if_neg w]
        exact ⟨fun z => ⟨z, w⟩, fun z => z.1⟩) P
    rw [if_pos hhiP, ← t1, ← t2] at t3
    rw [h4, t3]
    exact pk_sub (by omega)
  · -- the forest
    have hB : btl (Br ||| jshl 1 (nI e)) = fun i => btl Br i || (i == e) := by
      funext i
      by_cases w : i < 64
      · rw [btl_or1 _ (by omega) w]; rfl
      · have q1 : ∀ z : Int64, btl z i = false := fun z => BitVec.getLsbD_of_ge _ _ (by omega)
        have q2 : (i == e) = false := by simp; omega
        rw [q1, q1, q2]; rfl
    rw [hB]
    have ca : jo_cl L P (a e) = x := by unfold jo_cl; rw [if_pos ha, hx]
    have cc : jo_cl L P (c e) = y := by unfold jo_cl; rw [if_pos hc, hy]
    refine fo_add hab h6 he (by rw [ca, cc]; exact hd) (z := lo) (fun p => ?_) (by rw [ca, cc]; omega)
    rw [ca, cc]
    unfold jo_cl
    by_cases w : p < P
    · rw [if_pos w, if_pos w, hjn p w]
      by_cases w2 : L p = hi
      · rw [if_pos w2, if_pos (by omega)]
      · rw [if_neg w2]
        by_cases w3 : L p = x ∨ L p = y
        · rw [if_pos w3]; omega
        · rw [if_neg w3]
    · rw [if_neg w, if_neg w, if_neg (by omega)]
theorem jo_both {gA gC gL nN nL : Nat → Nat} {P E : Nat} (hP : P ≤ 30) (hE60 : E ≤ 60) (hE : gr_E gA gC gL nN nL P E) {L : Nat → Nat} {M : Nat → Int32} {Cn : Int32} {Br X : Int64} {A : Nat → Nat} (h : jo_I gA gC P E L M Cn Br A X) {sz : Nat → Int32} {fed : Int64} {U : Nat → Bool}
    (hU : ∀ e, e < E → U e = (btl fed e && !fe_lt (sz e) (nI (gL e)))) : ∀ n, n ≤ E →
    jo_I gA gC P E (gm_jf L M Cn Br P sz gA gC gL fed n).1 (gm_jf L M Cn Br P sz gA gC gL fed n).2.1 (gm_jf L M Cn Br P sz gA gC gL fed n).2.2.1 (gm_jf L M Cn Br P sz gA gC gL fed n).2.2.2 (mr_mj A X nN U P n).1 (mr_mj A X nN U P n).2
  | 0, _ => h
  | n + 1, hn => by
    have ih := jo_both hP hE60 hE h hU n (by omega)
    obtain ⟨n0, n1, -, ha, hc, -⟩ := hE n (by omega)
    have hab : ∀ e, e < E → gA e < P ∧ gC e < P ∧ gA e ≠ gC e := fun e he => ⟨(hE e he).2.2.2.1, (hE e he).2.2.2.2.1, (hE e he).2.2.2.2.2.1⟩
    rw [gm_jf, mr_mj, n0, n1]
    have hu := hU n (by omega)
    cases hf : btl fed n
    · rw [hf, Bool.false_and] at hu
      rw [if_pos ((jbl_0 (by omega)).mpr hf), if_pos hu]
      exact ih
    · rw [hf, Bool.true_and] at hu
      rw [if_neg (fun w => by rw [(jbl_0 (by omega)).mp w] at hf; cases hf)]
      by_cases w : sz n < nI (gL n)
      · rw [show fe_lt (sz n) (nI (gL n)) = true from decide_eq_true w] at hu
        rw [if_pos w, if_pos (show U n = false from hu)]
        exact ih
      · rw [show fe_lt (sz n) (nI (gL n)) = false from decide_eq_false w] at hu
        rw [if_neg w, if_neg (show ¬ U n = false by rw [hu]; decide)]
        generalize gm_jf L M Cn Br P sz gA gC gL fed n = F at ih ⊢
        generalize mr_mj A X nN U P n = G at ih ⊢
        have e1 := ih.1 _ ha
        have e2 := ih.1 _ hc
        by_cases w2 : F.1 (gA n) = F.1 (gC n)
        · rw [if_pos w2, if_pos (by rw [← e1, ← e2]; exact w2)]
          exact ih
        · rw [if_neg w2, if_neg (by rw [← e1, ← e2]; exact w2)]
          exact jo_step hP hE60 hab ih (by omega) w2
