/-! beliefs: the least and the next of what comes to a point, against the least of the others -/
theorem i_le {x y : Int32} : x ≤ y ↔ x.toInt ≤ y.toInt := Int32.le_iff_toInt_le
theorem i_lt {x y : Int32} : x < y ↔ x.toInt < y.toInt := Int32.lt_iff_toInt_lt
theorem i_eq {x y : Int32} : x = y ↔ x.toInt = y.toInt := Int32.toInt_inj.symm
theorem bd_eq (x : Int32) : gm_bd x = mr_wi x := by
  unfold gm_bd mr_wi jmax jmin
  by_cases h1 : x ≤ nI 1000
  · rw [if_pos h1]
    by_cases h2 : x < nI 1000
    · rw [if_pos h2]
      by_cases h3 : (-1000 : Int32) ≤ x
      · rw [if_pos h3]
        by_cases h4 : (-1000 : Int32) < x
        · rw [if_pos h4]
        · rw [if_neg h4]
          exact Int32.le_antisymm h3 (Int32.not_lt.mp h4)
      · rw [if_neg h3, if_neg (fun h => h3 (Int32.le_of_lt h))]
    · have e : x = nI 1000 := Int32.le_antisymm h1 (Int32.not_lt.mp h2)
      subst e
      decide
  · rw [if_neg h1, if_neg (fun h => h1 (Int32.le_of_lt h))]
    decide
theorem jabs_eq (y : Int32) : jabs y = if nI 0 ≤ y then y else -y := by
  unfold jabs
  rw [Int32.zero_sub]
  rfl
/-- what has come to the points after the first j of what is sent -/
def bq_g (n : Nat → Nat) (T : Nat → Int32) (fr : Int32) : Nat → (Nat → Int32) × (Nat → Int32) × Int32
  | 0 => ((fun _ => nI 1000), (fun _ => nI 1000), fr)
  | j + 1 => gm_g1 (bq_g n T fr j) (n j) (T j)
def bq_T (t s : Nat → Int32) (j : Nat) : Int32 := if j % 2 = 0 then t (j / 2) else s (j / 2)
theorem bq_gat {a c n : Nat → Nat} {t s : Nat → Int32} {fr : Int32} {E : Nat} (hn : ∀ e, e < E → n (2 * e) = a e ∧ n (2 * e + 1) = c e) : ∀ e, e ≤ E → gm_gat a c t s fr e = bq_g n (bq_T t s) fr (2 * e)
  | 0, _ => rfl
  | e + 1, he => by
    have ih := bq_gat (t := t) (s := s) (fr := fr) hn e (by omega)
    obtain ⟨h0, h1⟩ := hn e (by omega)
    rw [show 2 * (e + 1) = 2 * e + 1 + 1 by omega, gm_gat, bq_g, bq_g, ← ih, h0, h1]
    unfold bq_T
    rw [if_pos (by omega), if_neg (by omega), show 2 * e / 2 = e by omega, show (2 * e + 1) / 2 = e by omega]
/-- least, below: of what comes to p but by k -/
theorem bq_ne {l : Nat → Int32} {x p : Nat} (y : Int32) (h : p ≠ x) : gm_gl l x y p = l p := by
  unfold gm_gl
  split
  · rfl
  · unfold upd; rw [if_neg h]
theorem bq_nn {l n : Nat → Int32} {x p : Nat} (y : Int32) (h : p ≠ x) : gm_gn l n x y p = n p := by
  unfold gm_gn
  split
  · split
    · rfl
    · unfold upd; rw [if_neg h]
  · unfold upd; rw [if_neg h]
def bq_ok (L N K an : Int32) : Prop := L ≤ K ∧ (K = L → an = N) ∧ (¬ K = L → an = L)
theorem bq_i1 {L N y : Int32} (h : L ≤ N) : (if L ≤ y then L else y) ≤ (if L ≤ y then (if N ≤ y then N else y) else L) := by
  by_cases a : L ≤ y
  · rw [if_pos a, if_pos a]
    by_cases b : N ≤ y
    · rw [if_pos b]; exact h
    · rw [if_neg b]; exact a
  · rw [if_neg a, if_neg a]
    simp only [i_le] at *
    omega
theorem bq_i2 {L N y : Int32} (h : L ≤ N) : bq_ok (if L ≤ y then L else y) (if L ≤ y then (if N ≤ y then N else y) else L) y L := by
  unfold bq_ok
  by_cases a : L ≤ y
  · rw [if_pos a, if_pos a]
    refine ⟨a, fun e => ?_, fun _ => rfl⟩
    subst e
    by_cases b : N ≤ y
    · rw [if_pos b]; exact Int32.le_antisymm h b
    · rw [if_neg b]
  · rw [if_neg a, if_neg a]
    exact ⟨Int32.le_refl _, fun _ => rfl, fun q => absurd rfl q⟩
theorem bq_i3 {L N y K an : Int32} (h : L ≤ N) (hk : bq_ok L N K an) : bq_ok (if L ≤ y then L else y) (if L ≤ y then (if N ≤ y then N else y) else L) K (if an ≤ y then an else y) := by
  obtain ⟨h1, h2, h3⟩ := hk
  unfold bq_ok
  by_cases a : L ≤ y
  · rw [if_pos a, if_pos a]
    refine ⟨h1, fun e => by rw [h2 e], fun e => by rw [h3 e, if_pos a]⟩
  · rw [if_neg a, if_neg a]
    have hyL : y ≤ L := by simp only [i_le] at *; omega
    refine ⟨Int32.le_trans hyL h1, fun e => absurd (by rw [← e]; exact h1) a, fun e => ?_⟩
    by_cases q : K = L
    · rw [h2 q, if_neg (fun w => a (Int32.le_trans h w))]
    · rw [h3 q, if_neg a]
theorem bq_min {T z : Nat → Int32} {n : Nat → Nat} {p : Nat} {fr : Int32} {b0 : Bool} {M : Nat} (hz : ∀ j, j < M → n j = p → z j = T j) : ∀ j, j ≤ M →
    (bq_g n T fr j).1 p ≤ (bq_g n T fr j).2.1 p ∧
    (∀ k, j ≤ k → (mr_an z n k p b0 j).1 = (bq_g n T fr j).1 p) ∧
    (∀ k, k < j → n k = p → bq_ok ((bq_g n T fr j).1 p) ((bq_g n T fr j).2.1 p) (jabs (T k)) (mr_an z n k p b0 j).1)
  | 0, _ => ⟨Int32.le_refl _, fun _ _ => rfl, fun k h => absurd h (Nat.not_lt_zero k)⟩
  | j + 1, hM => by
    obtain ⟨h1, h2, h3⟩ := bq_min (fr := fr) (b0 := b0) hz j (by omega)
    have e1 : (bq_g n T fr (j + 1)).1 = gm_gl (bq_g n T fr j).1 (n j) (T j) := rfl
    have e2 : (bq_g n T fr (j + 1)).2.1 = gm_gn (bq_g n T fr j).1 (bq_g n T fr j).2.1 (n j) (T j) := rfl
    rw [e1, e2]
    by_cases hp : n j = p
    · have hzj := hz j (by omega) hp
      have hmin : ∀ k, k ≠ j → (mr_an z n k p b0 (j + 1)).1 = if (mr_an z n k p b0 j).1 ≤ jabs (T j) then (mr_an z n k p b0 j).1 else jabs (T j) := by
        intro k hk
        rw [mr_an, if_pos hp, if_neg (fun h => hk h.symm), hzj, jabs_eq]
        dsimp only
        by_cases q : nI 0 ≤ T j
        · simp only [if_pos q]
        · simp only [if_neg q]
      have hself : (mr_an z n j p b0 (j + 1)).1 = (mr_an z n j p b0 j).1 := by
        rw [mr_an, if_pos hp, if_pos rfl]
      have hl : gm_gl (bq_g n T fr j).1 (n j) (T j) p = if (bq_g n T fr j).1 p ≤ jabs (T j) then (bq_g n T fr j).1 p else jabs (T j) := by
        unfold gm_gl
        rw [hp]
        split
        · rfl
        · unfold upd; rw [if_pos rfl]
      have hnx : gm_gn (bq_g n T fr j).1 (bq_g n T fr j).2.1 (n j) (T j) p = if (bq_g n T fr j).1 p ≤ jabs (T j) then (if (bq_g n T fr j).2.1 p ≤ jabs (T j) then (bq_g n T fr j).2.1 p else jabs (T j)) else (bq_g n T fr j).1 p := by
        unfold gm_gn
        rw [hp]
        split
        · split
          · rfl
          · unfold upd; rw [if_pos rfl]
        · unfold upd; rw [if_pos rfl]
      rw [hl, hnx]
      refine ⟨bq_i1 h1, fun k hk => ?_, fun k hk hkp => ?_⟩
      · rw [hmin k (by omega), h2 k (by omega)]
      · by_cases hkj : k = j
        · subst hkj
          rw [hself, h2 k (Nat.le_refl _)]
          exact bq_i2 h1
        · rw [hmin k hkj]
          exact bq_i3 h1 (h3 k (by omega) hkp)
    · rw [bq_ne _ (fun h => hp h.symm), bq_nn _ (fun h => hp h.symm)]
      have hsame : ∀ k, mr_an z n k p b0 (j + 1) = mr_an z n k p b0 j := fun k => by rw [mr_an, if_neg hp]
      refine ⟨h1, fun k hk => by rw [hsame]; exact h2 k (by omega), fun k hk hkp => ?_⟩
      have hkj : k ≠ j := fun h => hp (h ▸ hkp)
      rw [hsame]
      exact h3 k (by omega) hkp
theorem bq_flip {T z : Nat → Int32} {n : Nat → Nat} {p : Nat} {fr : Int32} {b0 : Bool} (hp32 : p < 32) (hn : ∀ q, n q < 32) (hb : b0 = bt fr p) {M : Nat} (hz : ∀ j, j < M → n j = p → z j = T j) : ∀ j, j ≤ M →
    (∀ k, j ≤ k → (mr_an z n k p b0 j).2 = bt (bq_g n T fr j).2.2 p) ∧
    (∀ k, k < j → n k = p → bt (bq_g n T fr j).2.2 p = ((mr_an z n k p b0 j).2 ^^ !decide (nI 0 ≤ T k)))
  | 0, _ => ⟨fun _ _ => hb, fun k h => absurd h (Nat.not_lt_zero k)⟩
  | j + 1, hM => by
    obtain ⟨h2, h3⟩ := bq_flip hp32 hn hb hz j (by omega)
    have e3 : (bq_g n T fr (j + 1)).2.2 = gm_gf (bq_g n T fr j).2.2 (n j) (T j) := rfl
    rw [e3]
    by_cases hp : n j = p
    · have hzj := hz j (by omega) hp
      have hoth : ∀ k, k ≠ j → (mr_an z n k p b0 (j + 1)).2 = ((mr_an z n k p b0 j).2 ^^ !decide (nI 0 ≤ T j)) := by
        intro k hk
        rw [mr_an, if_pos hp, if_neg (fun h => hk h.symm), hzj]
        dsimp only
        by_cases q : nI 0 ≤ T j
        · simp only [if_pos q, decide_eq_true q, Bool.not_true, Bool.xor_false]
        · simp only [if_neg q, decide_eq_false q, Bool.not_false, Bool.xor_true]
      have hself : (mr_an z n j p b0 (j + 1)).2 = (mr_an z n j p b0 j).2 := by
        rw [mr_an, if_pos hp, if_pos rfl]
      have hf : bt (gm_gf (bq_g n T fr j).2.2 (n j) (T j)) p = (bt (bq_g n T fr j).2.2 p ^^ !decide (nI 0 ≤ T j)) := by
        unfold gm_gf
        by_cases q : nI 0 ≤ T j
        · rw [if_pos q, decide_eq_true q, Bool.not_true, Bool.xor_false]
        · rw [if_neg q, decide_eq_false q, bt_xor1 _ (hn j) hp32, decide_eq_true hp.symm, Bool.not_false]
      rw [hf]
      refine ⟨fun k hk => by rw [hoth k (by omega), h2 k (by omega)], fun k hk hkp => ?_⟩
      by_cases hkj : k = j
      · subst hkj
        rw [hself, h2 k (Nat.le_refl _)]
      · rw [hoth k hkj, h3 k (by omega) hkp]
        generalize (mr_an z n k p b0 j).2 = x; generalize decide (nI 0 ≤ T k) = y; generalize decide (nI 0 ≤ T j) = w
        cases x <;> cases y <;> cases w <;> rfl
    · have hf : bt (gm_gf (bq_g n T fr j).2.2 (n j) (T j)) p = bt (bq_g n T fr j).2.2 p := by
        unfold gm_gf
        by_cases q : nI 0 ≤ T j
        · rw [if_pos q]
        · rw [if_neg q, bt_xor1 _ (hn j) hp32, decide_eq_false (fun h => hp h.symm), Bool.xor_false]
      rw [hf]
      have hsame : ∀ k, mr_an z n k p b0 (j + 1) = mr_an z n k p b0 j := fun k => by rw [mr_an, if_neg hp]
      refine ⟨fun k hk => by rw [hsame]; exact h2 k (by omega), fun k hk hkp => ?_⟩
      have hkj : k ≠ j := fun h => hp (h ▸ hkp)
      rw [hsame]
      exact h3 k (by omega) hkp
/-- what a point sends back, both ways -/
theorem bq_back {T z : Nat → Int32} {n : Nat → Nat} {bd fr : Int32} {E k : Nat} (hn : ∀ q, n q < 30) (hk : k < 2 * E) (hin : bt bd (n k) = false) (hz : ∀ j, j < 2 * E → n j = n k → z j = T j) :
    gm_sb bd (bq_g n T fr (2 * E)).1 (bq_g n T fr (2 * E)).2.1 (bq_g n T fr (2 * E)).2.2 (n k) (T k) = mr_ans z n fr E k := by
  have hp := hn k
  have hb0 : mr_b0 fr (n k) = bt fr (n k) := by
    unfold mr_b0
    rw [jbs_bt fr (by omega)]
    cases bt fr (n k) <;> decide
  obtain ⟨-, -, m3⟩ := bq_min (fr := fr) (b0 := bt fr (n k)) hz (2 * E) (Nat.le_refl _)
  obtain ⟨g1, g2, g3⟩ := m3 k hk rfl
  obtain ⟨-, f3⟩ := bq_flip (p := n k) (fr := fr) (by omega) (fun q => Nat.lt_of_lt_of_le (hn q) (by omega)) rfl hz (2 * E) (Nat.le_refl _)
  have f := f3 k hk rfl
  have hss : gm_ss (bq_g n T fr (2 * E)).1 (bq_g n T fr (2 * E)).2.1 (n k) (T k) = (mr_an z n k (n k) (bt fr (n k)) (2 * E)).1 := by
    unfold gm_ss
    by_cases q : jabs (T k) = (bq_g n T fr (2 * E)).1 (n k)
    · rw [if_pos q, g2 q]
    · rw [if_neg q, g3 q]
  unfold gm_sb mr_ans
  rw [hb0, hss]
  have hgb : gm_bit bd (nI (n k)) = false := by
    unfold gm_bit
    rw [decide_eq_true ((jb_0 (by omega)).mpr hin)]
    rfl
  rw [if_pos hgb]
  cases hbl : (mr_an z n k (n k) (bt fr (n k)) (2 * E)).2
  · rw [if_pos rfl]
    rw [hbl, Bool.false_xor] at f
    by_cases q : nI 0 ≤ T k
    · rw [decide_eq_true q] at f
      rw [if_pos ((jb_0 (by omega)).mpr f), if_pos q]
    · rw [decide_eq_false q] at f
      rw [if_neg (fun h => by rw [(jb_0 (by omega)).mp h] at f; cases f), if_neg q]
  · rw [if_neg (show ¬ true = false by decide)]
    rw [hbl, Bool.true_xor, Bool.not_not] at f
    by_cases q : nI 0 ≤ T k
    · rw [decide_eq_true q] at f
      rw [if_neg (fun h => by rw [(jb_0 (by omega)).mp h] at f; cases f), if_pos q]
    · rw [decide_eq_false q] at f
      rw [if_pos ((jb_0 (by omega)).mpr f), if_neg q]
theorem gm_snd_at {t s : Nat → Int32} {k : Nat → Nat} : ∀ (n e : Nat), e < n → gm_snd t s k n e = gm_bd (nI (k e) + s e)
  | 0, e, h => absurd h (Nat.not_lt_zero e)
  | n + 1, e, h => by
    rw [gm_snd]
    unfold upd
    by_cases q : e = n
    · rw [if_pos q, q]
    · rw [if_neg q]; exact gm_snd_at n e (by omega)
theorem mr_sp_at {z v : Nat → Int32} {b : Nat → Bool} {n l : Nat → Nat} : ∀ (m k : Nat), k < m → mr_sp z v b n l m k = if mr_inn b n k = false then nI 0 else mr_wi (nI (l (k / 2)) + v (mr_x1 k))
  | 0, k, h => absurd h (Nat.not_lt_zero k)
  | m + 1, k, h => by
    rw [mr_sp]
    unfold upd
    by_cases q : k = m
    · rw [if_pos q, q]
    · rw [if_neg q]; exact mr_sp_at m k (by omega)
theorem gm_se_at {f : Nat → Int32} {a : Nat → Nat} {t : Nat → Int32} {bd : Int32} {l n : Nat → Int32} {fl : Int32} : ∀ (m e : Nat), e < m → gm_se f a t bd l n fl m e = gm_sb bd l n fl (a e) (t e)
  | 0, e, h => absurd h (Nat.not_lt_zero e)
  | m + 1, e, h => by
    rw [gm_se]
    unfold upd
    by_cases q : e = m
    · rw [if_pos q, q]
    · rw [if_neg q]; exact gm_se_at m e (by omega)
theorem mr_te_at {v z : Nat → Int32} {b : Nat → Bool} {n : Nat → Nat} {fr : Int32} {E : Nat} : ∀ (m k : Nat), k < m → mr_te v z b n fr E m k = if mr_inn b n k = false then nI 0 else mr_ans z n fr E k
  | 0, k, h => absurd h (Nat.not_lt_zero k)
  | m + 1, k, h => by
    rw [mr_te]
    unfold upd
    by_cases q : k = m
    · rw [if_pos q, q]
    · rw [if_neg q]; exact mr_te_at m k (by omega)
theorem gm_ng_eq {k l : Nat → Nat} {f g v : Nat → Int32} : ∀ E, (∀ e, e < E → k e = l e ∧ f e = v (2 * e) ∧ g e = v (2 * e + 1)) → gm_ng k f g E = mr_gs l v E
  | 0, _ => rfl
  | E + 1, h => by
    obtain ⟨h1, h2, h3⟩ := h E (by omega)
    have ih := gm_ng_eq E (fun e he => h e (by omega))
    rw [gm_ng, mr_gs, ih]
    unfold gm_bel mr_bel
    rw [h1, h2, h3]
    split
    · refine l_ext (fun i _ => ?_)
      rw [l_or, l_0, Bool.or_false]
    · rfl
section BQT
variable {gA gC gL nN nL : Nat → Nat} {gP gE : Nat} {gB gF : Int32} {nB : Nat → Bool}
theorem bq_end (hE : gr_E gA gC gL nN nL gP gE) (hB : gr_B gP gB gF nB) {k : Nat} (hk : k < 2 * gE) : nN k < gP ∧ mr_inn nB nN k = !bt gB (nN k) ∧ nL (k / 2) = gL (k / 2) := by
  obtain ⟨h0, h1, h2, h3, h4, -⟩ := hE (k / 2) (by omega)
  have hp : nN k < gP := by
    rcases Nat.mod_two_eq_zero_or_one k with q | q
    · rw [show k = 2 * (k / 2) by omega, h0]; exact h3
    · rw [show k = 2 * (k / 2) + 1 by omega, h1]; exact h4
  refine ⟨hp, ?_, h2⟩
  unfold mr_inn
  rw [hB.1 _ hp]
theorem bq_turn (hP : gP ≤ 30) (hn30 : ∀ q, nN q < 30) (hE : gr_E gA gC gL nN nL gP gE) (hB : gr_B gP gB gF nB) {u : (Nat → Int32) × (Nat → Int32) × (Nat → Int32) × (Nat → Int32) × (Nat → Int32) × (Nat → Int32) × Int32 × Int64} {w : (Nat → Int32) × (Nat → Int32)}
    (h : ∀ e, e < gE → u.1 e = w.1 (2 * e) ∧ u.2.1 e = w.1 (2 * e + 1)) :
    (∀ e, e < gE → (gm_turn gA gC gL gB gF gE u).1 e = (mr_turn nB nN nL gF gE w).1 (2 * e) ∧ (gm_turn gA gC gL gB gF gE u).2.1 e = (mr_turn nB nN nL gF gE w).1 (2 * e + 1)) ∧
    (gm_turn gA gC gL gB gF gE u).2.2.2.2.2.2.2 = mr_gs nL (mr_turn nB nN nL gF gE w).1 gE := by
  have hmain : ∀ e, e < gE → (gm_turn gA gC gL gB gF gE u).1 e = (mr_turn nB nN nL gF gE w).1 (2 * e) ∧ (gm_turn gA gC gL gB gF gE u).2.1 e = (mr_turn nB nN nL gF gE w).1 (2 * e + 1) := by
    intro e he
    obtain ⟨h0, h1, -⟩ := hE e he
    show gm_se u.1 gA (gm_snd u.2.2.1 u.2.1 gL gE) gB (gm_gat gA gC (gm_snd u.2.2.1 u.2.1 gL gE) (gm_snd u.2.2.2.1 u.1 gL gE) gF gE).1 (gm_gat gA gC (gm_snd u.2.2.1 u.2.1 gL gE) (gm_snd u.2.2.2.1 u.1 gL gE) gF gE).2.1 (gm_gat gA gC (gm_snd u.2.2.1 u.2.1 gL gE) (gm_snd u.2.2.2.1 u.1 gL gE) gF gE).2.2 gE e = mr_te w.1 (mr_sp w.2 w.1 nB nN nL (2 * gE)) nB nN gF gE (2 * gE) (2 * e) ∧
      gm_se u.2.1 gC (gm_snd u.2.2.2.1 u.1 gL gE) gB (gm_gat gA gC (gm_snd u.2.2.1 u.2.1 gL gE) (gm_snd u.2.2.2.1 u.1 gL gE) gF gE).1 (gm_gat gA gC (gm_snd u.2.2.1 u.2.1 gL gE) (gm_snd u.2.2.2.1 u.1 gL gE) gF gE).2.1 (gm_gat gA gC (gm_snd u.2.2.1 u.2.1 gL gE) (gm_snd u.2.2.2.1 u.1 gL gE) gF gE).2.2 gE e = mr_te w.1 (mr_sp w.2 w.1 nB nN nL (2 * gE)) nB nN gF gE (2 * gE) (2 * e + 1)
    rw [bq_gat (n := nN) (E := gE) (fun e he => ⟨(hE e he).1, (hE e he).2.1⟩) gE (Nat.le_refl _), gm_se_at gE e he, gm_se_at gE e he, mr_te_at _ _ (by omega), mr_te_at _ _ (by omega)]
    have hT : ∀ j, j < 2 * gE → mr_inn nB nN j = true → mr_sp w.2 w.1 nB nN nL (2 * gE) j = bq_T (gm_snd u.2.2.1 u.2.1 gL gE) (gm_snd u.2.2.2.1 u.1 gL gE) j := by
      intro j hj hin
      rw [mr_sp_at _ _ hj, if_neg (by rw [hin]; decide)]
      obtain ⟨-, -, hl⟩ := bq_end hE hB hj
      obtain ⟨q1, q2⟩ := h (j / 2) (by omega)
      unfold bq_T mr_x1
      rcases Nat.mod_two_eq_zero_or_one j with q | q
      · rw [if_pos q, if_pos q, gm_snd_at _ _ (by omega), bd_eq, hl, q2, show 2 * (j / 2) + 1 = j + 1 by omega]
      · rw [if_neg (by omega), if_neg (by omega), gm_snd_at _ _ (by omega), bd_eq, hl, q1, show 2 * (j / 2) = j - 1 by omega]
    have hside : ∀ k, k < 2 * gE → gm_sb gB (bq_g nN (bq_T (gm_snd u.2.2.1 u.2.1 gL gE) (gm_snd u.2.2.2.1 u.1 gL gE)) gF (2 * gE)).1 (bq_g nN (bq_T (gm_snd u.2.2.1 u.2.1 gL gE) (gm_snd u.2.2.2.1 u.1 gL gE)) gF (2 * gE)).2.1 (bq_g nN (bq_T (gm_snd u.2.2.1 u.2.1 gL gE) (gm_snd u.2.2.2.1 u.1 gL gE)) gF (2 * gE)).2.2 (nN k) (bq_T (gm_snd u.2.2.1 u.2.1 gL gE) (gm_snd u.2.2.2.1 u.1 gL gE) k) = if mr_inn nB nN k = false then nI 0 else mr_ans (mr_sp w.2 w.1 nB nN nL (2 * gE)) nN gF gE k := by
      intro k hk
      obtain ⟨hkP, hin, -⟩ := bq_end hE hB hk
      cases hb : bt gB (nN k)
      · rw [hb] at hin
        rw [if_neg (by rw [hin]; decide)]
        refine bq_back hn30 hk hb (fun j hj hjk => hT j hj ?_)
        rw [(bq_end hE hB hj).2.1, hjk, hb]
        rfl
      · rw [hb] at hin
        rw [if_pos (show mr_inn nB nN k = false from hin)]
        unfold gm_sb
        rw [if_neg]
        unfold gm_bit
        rw [decide_eq_false (fun hq => by rw [(jb_0 (by omega)).mp hq] at hb; cases hb)]
        decide
    have s0 := hside (2 * e) (by omega)
    have s1 := hside (2 * e + 1) (by omega)
    rw [h0] at s0
    rw [h1] at s1
    have t0 : bq_T (gm_snd u.2.2.1 u.2.1 gL gE) (gm_snd u.2.2.2.1 u.1 gL gE) (2 * e) = gm_snd u.2.2.1 u.2.1 gL gE e := by
      unfold bq_T; rw [if_pos (by omega), show 2 * e / 2 = e by omega]
    have t1 : bq_T (gm_snd u.2.2.1 u.2.1 gL gE) (gm_snd u.2.2.2.1 u.1 gL gE) (2 * e + 1) = gm_snd u.2.2.2.1 u.1 gL gE e := by
      unfold bq_T; rw [if_neg (by omega), show (2 * e + 1) / 2 = e by omega]
    rw [t0] at s0
    rw [t1] at s1
    exact ⟨s0, s1⟩
  refine ⟨hmain, ?_⟩
  exact gm_ng_eq gE (fun e he => ⟨(hE e he).2.2.1.symm, (hmain e he).1, (hmain e he).2⟩)
theorem bq_set (hP : gP ≤ 30) (hE60 : gE ≤ 60) (hn30 : ∀ q, nN q < 30) (hE : gr_E gA gC gL nN nL gP gE) (hB : gr_B gP gB gF nB) : ∀ (n t : Nat) (u : (Nat → Int32) × (Nat → Int32) × (Nat → Int32) × (Nat → Int32) × (Nat → Int32) × (Nat → Int32) × Int32 × Int64) (w : (Nat → Int32) × (Nat → Int32)),
    (∀ e, e < gE → u.1 e = w.1 (2 * e) ∧ u.2.1 e = w.1 (2 * e + 1)) → (n ≠ 0 ∨ u.2.2.2.2.2.2.2 = mr_gs nL w.1 gE) →
    (gm_set gA gC gL gB gF gE n t u).1 = (mr_set nB nN nL gF gE n t w).1 ∧
    (∀ e, e < gE → (gm_set gA gC gL gB gF gE n t u).2.1 e = (mr_set nB nN nL gF gE n t w).2.1 (2 * e) ∧ (gm_set gA gC gL gB gF gE n t u).2.2.1 e = (mr_set nB nN nL gF gE n t w).2.1 (2 * e + 1)) ∧
    (gm_set gA gC gL gB gF gE n t u).2.2.2.2.2.2.2.2 = mr_gs nL (mr_set nB nN nL gF gE n t w).2.1 gE
  | 0, t, u, w, h, hg => ⟨rfl, h, hg.resolve_left (fun q => q rfl)⟩
  | n + 1, t, u, w, h, _ => by
    obtain ⟨h1, h2⟩ := bq_turn hP hn30 hE hB h
    have h3 : gm_odd gA gC gB (gm_turn gA gC gL gB gF gE u).2.2.2.2.2.2.2 gE = mr_syn nN nB (mr_gs nL (mr_turn nB nN nL gF gE w).1 gE) (2 * gE) := by
      rw [h2]
      exact syn_eq hP hE60 hE hB _ gE (Nat.le_refl _)
    rw [gm_set, mr_set, h3]
    by_cases q : mr_syn nN nB (mr_gs nL (mr_turn nB nN nL gF gE w).1 gE) (2 * gE) = gF
    · rw [if_pos q, if_pos q]
      exact ⟨rfl, h1, h2⟩
    · rw [if_neg q, if_neg q]
      exact bq_set hP hE60 hn30 hE hB n (t + 1) _ _ h1 (Or.inr h2)
end BQT
