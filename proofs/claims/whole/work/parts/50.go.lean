/-! growing, round by round -/
def go_I (a c : Nat → Nat) (P E : Nat) (u : (Nat → Nat) × (Nat → Int32) × (Nat → Int32) × Int32 × Int64 × Nat) (w : (Nat → Nat) × (Nat → Int32) × (Nat → Bool) × (Nat → Bool) × Int64 × Nat) : Prop :=
  jo_I a c P E u.1 u.2.1 u.2.2.2.1 u.2.2.2.2.1 w.1 w.2.2.2.2.1 ∧ (∀ q, q < E → u.2.2.1 q = w.2.1 q) ∧ (∀ q, mr_sz (w.2.1 q)) ∧ u.2.2.2.2.2 = w.2.2.2.2.2
theorem go_both {gA gC gL nN nL : Nat → Nat} {P E : Nat} {gB gF : Int32} {nB : Nat → Bool} (hP : P ≤ 30) (hE60 : E ≤ 60) (hE : gr_E gA gC gL nN nL P E) (hB : gr_B P gB gF nB) (hk : ∀ q, nL q ≤ 20) : ∀ (n : Nat) (u : (Nat → Nat) × (Nat → Int32) × (Nat → Int32) × Int32 × Int64 × Nat) (w : (Nat → Nat) × (Nat → Int32) × (Nat → Bool) × (Nat → Bool) × Int64 × Nat),
    go_I gA gC P E u w → mr_ms nL w.2.1 E ≤ n → (gm_go gA gC gL gB gF P E (n + 1) u).1 = (mr_go nB gF nN nL P E n w).1 ∧ go_I gA gC P E (gm_go gA gC gL gB gF P E (n + 1) u).2 (mr_go nB gF nN nL P E n w).2 := by
  intro n
  induction n with
  | zero =>
    intro u w h hms
    obtain ⟨hj, hs, hz, hd⟩ := h
    obtain ⟨o1, o2⟩ := od_both (O := w.2.2.1) hP hj.1 hj.2.1 hj.2.2.1 hB
    have fa := fe_any (U := w.2.2.2.1) hP hE60 hE o1 hs
    have fb := (fe_both (U := w.2.2.2.1) hP hE60 hE o1 hs E (Nat.le_refl _)).1
    rw [gm_go, mr_go]
    by_cases c : gm_pts u.1 u.2.1 gB gF P = nI 0
    · rw [if_pos c, if_pos (o2.mp c)]
      exact ⟨rfl, hj, hs, hz, hd⟩
    · rw [if_neg c, if_neg (fun q => c (o2.mpr q))]
      have h0 : (mr_ge w.2.1 w.2.2.2.1 (mr_fd w.2.2.1 w.1 nB gF P P).1 nN nL E).2.2 = false := by
        cases q : (mr_ge w.2.1 w.2.2.2.1 (mr_fd w.2.2.1 w.1 nB gF P P).1 nN nL E).2.2
        · rfl
        · have := mr_ge_dec hk hz q
          omega
      rw [if_pos (fa.mpr h0)]
      exact ⟨rfl, hj, fb, mr_ge_sz hk hz, by show _ + 1 = _ + 1; rw [hd]⟩
  | succ n ih =>
    intro u w h hms
    obtain ⟨hj, hs, hz, hd⟩ := h
    obtain ⟨o1, o2⟩ := od_both (O := w.2.2.1) hP hj.1 hj.2.1 hj.2.2.1 hB
    have fa := fe_any (U := w.2.2.2.1) hP hE60 hE o1 hs
    obtain ⟨fb, -, fc, -⟩ := fe_both (U := w.2.2.2.1) hP hE60 hE o1 hs E (Nat.le_refl _)
    rw [gm_go, mr_go]
    by_cases c : gm_pts u.1 u.2.1 gB gF P = nI 0
    · rw [if_pos c, if_pos (o2.mp c)]
      exact ⟨rfl, hj, hs, hz, hd⟩
    · rw [if_neg c, if_neg (fun q => c (o2.mpr q))]
      by_cases c2 : (gm_feed u.2.2.1 gA gC gL (gm_pts u.1 u.2.1 gB gF P) E).2 = 0
      · rw [if_pos c2, if_pos (fa.mp c2)]
        exact ⟨rfl, hj, fb, mr_ge_sz hk hz, by show _ + 1 = _ + 1; rw [hd]⟩
      · rw [if_neg c2, if_neg (fun q => c2 (fa.mpr q))]
        have hany : (mr_ge w.2.1 w.2.2.2.1 (mr_fd w.2.2.1 w.1 nB gF P P).1 nN nL E).2.2 = true := by
          cases q : (mr_ge w.2.1 w.2.2.2.1 (mr_fd w.2.2.1 w.1 nB gF P P).1 nN nL E).2.2
          · exact absurd (fa.mpr q) c2
          · rfl
        have hdec := mr_ge_dec hk hz hany
        refine ih _ _ ⟨?_, fb, mr_ge_sz hk hz, by show _ + 1 = _ + 1; rw [hd]⟩ (by dsimp only; omega)
        exact jo_both hP hE60 hE hj fc E (Nat.le_refl _)
theorem go_bL (f : Nat → Nat) : ∀ n p, gm_bL f n p = if p < n then p else f p
  | 0, p => by rw [if_neg (Nat.not_lt_zero p)]; rfl
  | n + 1, p => by
    rw [gm_bL]
    unfold gd_uN
    by_cases w : p = n
    · rw [if_pos w, if_pos (by omega), w]
    · rw [if_neg w, go_bL f n p]
      by_cases w2 : p < n
      · rw [if_pos w2, if_pos (by omega)]
      · rw [if_neg w2, if_neg (by omega)]
theorem go_bM (f : Nat → Int32) : ∀ n p, p < n → gm_bM f n p = jsh (nI 1) (nI p)
  | 0, p, h => absurd h (Nat.not_lt_zero p)
  | n + 1, p, h => by
    rw [gm_bM]
    by_cases w : p = n
    · rw [w, fe_upd]
    · rw [fe_updn w]; exact go_bM f n p (by omega)
theorem go_tot {a : Nat → Nat} : ∀ n, (∀ p, p < n → a p = p) → mr_tot a n = n
  | 0, _ => rfl
  | n + 1, h => by
    rw [mr_tot, if_pos (h n (Nat.lt_succ_self n)), go_tot n (fun p hp => h p (by omega))]
theorem go_init (a c : Nat → Nat) {P : Nat} (E : Nat) (hP : P ≤ 30) (hE60 : E ≤ 60) (l nA : Nat → Nat) (m nS : Nat → Int32) (nO nU : Nat → Bool) (hs : ∀ q, mr_sz (nS q)) :
    go_I a c P E (gm_bL l P, gm_bM m P, (fun _ => nI 0), nI P, 0, 0) (gm_bL nA P, gm_fill nS (nI 0) 60, nO, nU, 0, 0) := by
  have e1 : ∀ (f : Nat → Nat) p, p < P → gm_bL f P p = p := fun f p hp => by rw [go_bL, if_pos hp]
  refine ⟨⟨fun p hp => by show gm_bL l P p = gm_bL nA P p; rw [e1 l p hp, e1 nA p hp], fun p hp => ?_, fun p hp _ q hq => ?_, ?_, rfl, ?_⟩, fun q hq => (gm_fill_at nS (nI 0) 60 q (by omega)).symm, gm_fill_sz hs 60, rfl⟩
  · show gm_bL l P p ≤ p ∧ gm_bL l P (gm_bL l P p) = gm_bL l P p
    rw [e1 l p hp, e1 l p hp]
    exact ⟨Nat.le_refl _, rfl⟩
  · show bt (gm_bM m P p) q = (decide (q < P) && decide (gm_bL l P q = p))
    rw [go_bM m P p hp, bt_jsh (by omega) hq]
    by_cases w : q < P
    · rw [decide_eq_true w, Bool.true_and, e1 l q w]
    · rw [decide_eq_false w, decide_eq_false (by omega)]; rfl
  · show nI P = nI (mr_tot (gm_bL nA P) P)
    rw [go_tot P (fun p hp => e1 nA p hp)]
  · show fo_I E P a c (btl 0) (jo_cl (gm_bL l P) P)
    have hb : ∀ e, btl 0 e = false := l_0
    refine ⟨fun e _ h => ?_, fun D hD ⟨e, _, h⟩ => ?_, fun S _ p q hp hq h => ?_⟩
    · rw [hb e] at h; cases h
    · have := hD e h
      rw [hb e] at this; cases this
    · unfold jo_cl at h
      rw [if_pos hp, if_pos hq, e1 l p hp, e1 l q hq] at h
      rw [h]
/-- growing on both sides -/
theorem go_all {gA gC gL nN nL : Nat → Nat} {P E : Nat} {gB gF : Int32} {nB : Nat → Bool} (hP : P ≤ 30) (hE60 : E ≤ 60) (hE : gr_E gA gC gL nN nL P E) (hB : gr_B P gB gF nB) (hk : ∀ q, nL q ≤ 20) (l nA : Nat → Nat) (m nS : Nat → Int32) (nO nU : Nat → Bool) (hs : ∀ q, mr_sz (nS q)) :
    (gm_grown gA gC gL gB gF P E l m).1 = (mr_go nB gF nN nL P E 1200 (gm_bL nA P, gm_fill nS (nI 0) 60, nO, nU, 0, 0)).1 ∧
    go_I gA gC P E (gm_grown gA gC gL gB gF P E l m).2 (mr_go nB gF nN nL P E 1200 (gm_bL nA P, gm_fill nS (nI 0) 60, nO, nU, 0, 0)).2 :=
  go_both hP hE60 hE hB hk 1200 _ _ (go_init gA gC E hP hE60 l nA m nS nO nU hs) (Nat.le_trans (mr_ms_le hk E) (by omega))
