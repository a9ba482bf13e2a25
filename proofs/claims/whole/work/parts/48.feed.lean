/-! growing: sizes, and what is full -/
theorem fe_gain : ∀ x y : Bool, ((if x = true then (1 : Int32) else 0) + (if y = true then (1 : Int32) else 0)) = nI ((if x then 1 else 0) + (if y then 1 else 0)) := by decide
theorem fe_upd {f : Nat → Int32} {k : Nat} {v : Int32} : upd f k v k = v := by unfold upd; rw [if_pos rfl]
theorem fe_updn {f : Nat → Int32} {k q : Nat} {v : Int32} (h : q ≠ k) : upd f k v q = f q := by unfold upd; rw [if_neg h]
theorem fe_uB {f : Nat → Bool} {k : Nat} {v : Bool} : gd_uB f k v k = v := by unfold gd_uB; rw [if_pos rfl]
theorem fe_uBn {f : Nat → Bool} {k q : Nat} {v : Bool} (h : q ≠ k) : gd_uB f k v q = f q := by unfold gd_uB; rw [if_neg h]
def fe_lt (x y : Int32) : Bool := decide (x < y)
section FEE
variable {gA gC gL nN nL : Nat → Nat} {gP gE : Nat} {S Z : Nat → Int32} {U o : Nat → Bool} {od : Int32}
theorem fe_both (hP : gP ≤ 30) (hE60 : gE ≤ 60) (hE : gr_E gA gC gL nN nL gP gE) (ho : ∀ p, p < gP → bt od p = o p) (hS : ∀ q, q < gE → S q = Z q) : ∀ n, n ≤ gE →
    (∀ q, q < gE → (gm_feed S gA gC gL od n).1 q = (mr_ge Z U o nN nL n).1 q) ∧
    (∀ e, n ≤ e → e < 64 → btl (gm_feed S gA gC gL od n).2 e = false) ∧
    (∀ e, e < n → (mr_ge Z U o nN nL n).2.1 e = (btl (gm_feed S gA gC gL od n).2 e && !fe_lt ((gm_feed S gA gC gL od n).1 e) (nI (gL e)))) ∧
    ((mr_ge Z U o nN nL n).2.2 = true ↔ ∃ e, e < n ∧ btl (gm_feed S gA gC gL od n).2 e = true)
  | 0, _ => ⟨hS, fun e _ _ => l_0 e, fun e h => absurd h (Nat.not_lt_zero e), ⟨fun h => absurd (show false = true from h) (by decide), fun ⟨e, h, _⟩ => absurd h (Nat.not_lt_zero e)⟩⟩
  | n + 1, hn => by
    obtain ⟨h1, h2, h3, h4⟩ := fe_both hP hE60 hE ho hS n (by omega)
    obtain ⟨n0, n1, hl, ha, hc, -⟩ := hE n (by omega)
    have hg : gm_gain gA gC od n = nI ((if o (gA n) then 1 else 0) + (if o (gC n) then 1 else 0)) := by
      unfold gm_gain
      rw [jb_bt od (by omega), jb_bt od (by omega), ho _ ha, ho _ hc]
      exact fe_gain _ _
    have hh := h1 n (by omega)
    rw [gm_feed, mr_ge, n0, n1, hl, ← hh, hg]
    generalize gm_feed S gA gC gL od n = F at h1 h2 h3 h4 hh ⊢
    generalize mr_ge Z U o nN nL n = G at h1 h2 h3 h4 hh ⊢
    obtain ⟨f1, f2⟩ := F
    obtain ⟨g1, g2, g3⟩ := G
    dsimp only at h1 h2 h3 h4 hh ⊢
    by_cases c : f1 n < nI (gL n)
    · rw [if_neg (Int32.not_le.mpr c), if_pos c]
      have step : ∀ (m : Nat) (t : Bool), m ≤ 2 → (t = true ↔ 1 ≤ m) →
          (∀ q, q < gE → (if nI m ≤ nI 0 then (f1, f2) else (upd f1 n (f1 n + nI m), f2 ||| jshl 1 (nI n))).1 q = (mr_gstep (g1, g2, g3) nL n m t).1 q) ∧
          (∀ e, n + 1 ≤ e → e < 64 → btl (if nI m ≤ nI 0 then (f1, f2) else (upd f1 n (f1 n + nI m), f2 ||| jshl 1 (nI n))).2 e = false) ∧
          (∀ e, e < n + 1 → (mr_gstep (g1, g2, g3) nL n m t).2.1 e = (btl (if nI m ≤ nI 0 then (f1, f2) else (upd f1 n (f1 n + nI m), f2 ||| jshl 1 (nI n))).2 e && !fe_lt ((if nI m ≤ nI 0 then (f1, f2) else (upd f1 n (f1 n + nI m), f2 ||| jshl 1 (nI n))).1 e) (nI (gL e)))) ∧
          ((mr_gstep (g1, g2, g3) nL n m t).2.2 = true ↔ ∃ e, e < n + 1 ∧ btl (if nI m ≤ nI 0 then (f1, f2) else (upd f1 n (f1 n + nI m), f2 ||| jshl 1 (nI n))).2 e = true) := by
        intro m t hm2 ht
        have gs1 : (mr_gstep (g1, g2, g3) nL n m t).1 = upd g1 n (g1 n + nI m) := rfl
        have gs2 : (mr_gstep (g1, g2, g3) nL n m t).2.1 = gd_uB (gd_uB g2 n false) n (!fe_lt (upd g1 n (g1 n + nI m) n) (nI (nL n))) := rfl
        have gs3 : (mr_gstep (g1, g2, g3) nL n m t).2.2 = (g3 || t) := rfl
        rw [gs1, gs2, gs3]
        by_cases hm0 : m = 0
        · have hz : (if nI m ≤ nI 0 then (f1, f2) else (upd f1 n (f1 n + nI m), f2 ||| jshl 1 (nI n))) = (f1, f2) := if_pos (by rw [hm0]; decide)
          have htf : t = false := by
            cases t
            · rfl
            · have := ht.mp rfl; omega
          rw [hz, htf, Bool.or_false, hm0]
          have e0 : g1 n + nI 0 = g1 n := by rw [show nI 0 = 0 from rfl, Int32.add_zero]
          refine ⟨fun q hq => ?_, fun e he h64 => h2 e (by omega) h64, fun e he => ?_, ?_⟩
          · by_cases w : q = n
            · rw [w, fe_upd, e0]; exact hh
            · rw [fe_updn w]; exact h1 q hq
          · by_cases w : e = n
            · rw [w, fe_uB, fe_upd, e0, h2 n (Nat.le_refl _) (by omega), hl, ← hh, show fe_lt (f1 n) (nI (gL n)) = true from decide_eq_true c]; rfl
            · rw [fe_uBn w, fe_uBn w]
              exact h3 e (by omega)
          · rw [h4]
            constructor
            · rintro ⟨e, he, hb⟩; exact ⟨e, by omega, hb⟩
            · rintro ⟨e, he, hb⟩
              by_cases w : e = n
              · rw [w] at hb
                exact absurd ((h2 n (Nat.le_refl _) (by omega)).symm.trans hb) (by decide)
              · exact ⟨e, by omega, hb⟩
        · have hpos : ¬ nI m ≤ nI 0 := fun w => by
            have := (nI_leI (by omega) (by omega)).mp w
            omega
          have hz : (if nI m ≤ nI 0 then (f1, f2) else (upd f1 n (f1 n + nI m), f2 ||| jshl 1 (nI n))) = (upd f1 n (f1 n + nI m), f2 ||| jshl 1 (nI n)) := if_neg hpos
          have htt : t = true := ht.mpr (by omega)
          rw [hz, htt, Bool.or_true]
          refine ⟨fun q hq => ?_, fun e he h64 => ?_, fun e he => ?_, ?_⟩
          · show upd f1 n _ q = _
            by_cases w : q = n
            · rw [w, fe_upd, fe_upd, hh]
            · rw [fe_updn w, fe_updn w]; exact h1 q hq
          · show btl (f2 ||| jshl 1 (nI n)) e = false
            rw [btl_or1 _ (by omega) h64, h2 e (by omega) h64, decide_eq_false (by omega)]; rfl
          · show _ = (btl (f2 ||| jshl 1 (nI n)) e && !fe_lt (upd f1 n (f1 n + nI m) e) (nI (gL e)))
            by_cases w : e = n
            · rw [w, fe_uB, btl_or1 _ (by omega) (by omega), decide_eq_true rfl, Bool.or_true, Bool.true_and, fe_upd, fe_upd, hl, hh]
            · rw [fe_uBn w, fe_uBn w, btl_or1 _ (by omega) (by omega), decide_eq_false w, Bool.or_false, fe_updn w]
              exact h3 e (by omega)
          · refine ⟨fun _ => ⟨n, Nat.lt_succ_self n, ?_⟩, fun _ => rfl⟩
            show btl (f2 ||| jshl 1 (nI n)) n = true
            rw [btl_or1 _ (by omega) (by omega), decide_eq_true rfl, Bool.or_true]
      cases oa : o (gA n) <;> cases oc : o (gC n)
      · exact step 0 false (by omega) (by decide)
      · exact step 1 true (by omega) (by decide)
      · exact step 1 true (by omega) (by decide)
      · exact step 2 true (by omega) (by decide)
    · rw [if_pos (Int32.not_lt.mp c), if_neg c]
      refine ⟨h1, fun e he h64 => h2 e (by omega) h64, fun e he => ?_, ?_⟩
      · dsimp only
        by_cases w : e = n
        · rw [w, fe_uB, h2 n (Nat.le_refl _) (by omega)]; rfl
        · rw [fe_uBn w]; exact h3 e (by omega)
      · dsimp only
        rw [h4]
        constructor
        · rintro ⟨e, he, hb⟩; exact ⟨e, by omega, hb⟩
        · rintro ⟨e, he, hb⟩
          by_cases w : e = n
          · rw [w] at hb
            exact absurd ((h2 n (Nat.le_refl _) (by omega)).symm.trans hb) (by decide)
          · exact ⟨e, by omega, hb⟩
theorem fe_any (hP : gP ≤ 30) (hE60 : gE ≤ 60) (hE : gr_E gA gC gL nN nL gP gE) (ho : ∀ p, p < gP → bt od p = o p) (hS : ∀ q, q < gE → S q = Z q) : (gm_feed S gA gC gL od gE).2 = 0 ↔ (mr_ge Z U o nN nL gE).2.2 = false := by
  obtain ⟨h1, h2, h3, h4⟩ := fe_both (U := U) hP hE60 hE ho hS gE (Nat.le_refl _)
  constructor
  · intro h
    cases h5 : (mr_ge Z U o nN nL gE).2.2
    · rfl
    · obtain ⟨e, -, hb⟩ := h4.mp h5
      rw [h, l_0] at hb; cases hb
  · intro h
    refine l_ext (fun e he => ?_)
    rw [l_0]
    by_cases w : e < gE
    · cases hb : btl (gm_feed S gA gC gL od gE).2 e
      · rfl
      · rw [h4.mpr ⟨e, w, hb⟩] at h; cases h
    · exact h2 e (by omega) he
end FEE
