/-! the calls, one by one: the answers are alike, and the two sides stand as before -/
section CAL
variable {gA gC gL : Nat → Nat} {gP gE : Nat} {gB gF : Int32} {vL vK : Nat → Nat} {vS vR : Nat → Int32} {vP vE : Nat} {vC : Int32} {vD : Nat} {vB vF : Int64} {bA bC : Nat → Int32} {bG : Int64} {bH : Bool} {oO : Nat → Nat} {nB : Nat → Bool} {nN nL : Nat → Nat} {nG : Bool} {nA : Nat → Nat} {nS : Nat → Int32} {nV : Nat → Int32} {px qx kx : Int32}
theorem ie_c {α : Type} {t e : α} (h1 : gm_join gP gB px qx = true) (h2 : ¬ kx < nI 1) (h3 : ¬ nI 20 < kx) (h4 : gE < 60) : (if gm_join gP gB px qx = false then e else if kx < nI 1 then e else if nI 20 < kx then e else if gE < 60 then t else e) = t := by
  rw [if_neg (by rw [h1]; decide), if_neg h2, if_neg h3, if_pos h4]
theorem ie_c2 {α : Type} {t e : α} (h : gm_join gP gB px qx = false ∨ kx < nI 1 ∨ nI 20 < kx ∨ gE = 60) : (if gm_join gP gB px qx = false then e else if kx < nI 1 then e else if nI 20 < kx then e else if gE < 60 then t else e) = e := by
  by_cases a1 : gm_join gP gB px qx = false
  · rw [if_pos a1]
  · rw [if_neg a1]
    by_cases a2 : kx < nI 1
    · rw [if_pos a2]
    · rw [if_neg a2]
      by_cases a3 : nI 20 < kx
      · rw [if_pos a3]
      · rw [if_neg a3]
        rcases h with h | h | h | h
        · exact absurd h a1
        · exact absurd h a2
        · exact absurd h a3
        · rw [if_neg (by omega)]
theorem ie_r {α : Type} {t e : α} (h1 : gm_has gP px = true) (h2 : gm_has gP qx = true) (h3 : ¬ px = qx) (h4 : nB (gm_eN px) = false ∨ nB (gm_eN qx) = false) (k1 : ¬ kx < nI 1) (k2 : ¬ nI 20 < kx) (k3 : gE < 60) : (if gm_has gP px = false then e else if gm_has gP qx = false then e else if px = qx then e else if nB (gm_eN px) = false then (if kx < nI 1 then e else if nI 20 < kx then e else if gE = 60 then e else t) else if nB (gm_eN qx) = true then e else if kx < nI 1 then e else if nI 20 < kx then e else if gE = 60 then e else t) = t := by
  rw [if_neg (show ¬ gm_has gP px = false by rw [h1]; decide), if_neg (show ¬ gm_has gP qx = false by rw [h2]; decide), if_neg h3, if_neg k1, if_neg k2, if_neg (show ¬ gE = 60 by omega)]
  by_cases a : nB (gm_eN px) = false
  · rw [if_pos a]
  · rw [if_neg a]
    rcases h4 with h | h
    · exact absurd h a
    · rw [if_neg (by rw [h]; decide)]
theorem ie_r2 {α : Type} {t e : α} (h : gm_has gP px = false ∨ gm_has gP qx = false ∨ px = qx ∨ (nB (gm_eN px) = true ∧ nB (gm_eN qx) = true) ∨ kx < nI 1 ∨ nI 20 < kx ∨ gE = 60) : (if gm_has gP px = false then e else if gm_has gP qx = false then e else if px = qx then e else if nB (gm_eN px) = false then (if kx < nI 1 then e else if nI 20 < kx then e else if gE = 60 then e else t) else if nB (gm_eN qx) = true then e else if kx < nI 1 then e else if nI 20 < kx then e else if gE = 60 then e else t) = e := by
  have hct : (kx < nI 1 ∨ nI 20 < kx ∨ gE = 60) → (if kx < nI 1 then e else if nI 20 < kx then e else if gE = 60 then e else t) = e := by
    intro q
    by_cases a1 : kx < nI 1
    · rw [if_pos a1]
    · rw [if_neg a1]
      by_cases a2 : nI 20 < kx
      · rw [if_pos a2]
      · rw [if_neg a2]
        rcases q with q | q | q
        · exact absurd q a1
        · exact absurd q a2
        · rw [if_pos q]
  by_cases b1 : gm_has gP px = false
  · rw [if_pos b1]
  · rw [if_neg b1]
    by_cases b2 : gm_has gP qx = false
    · rw [if_pos b2]
    · rw [if_neg b2]
      by_cases b3 : px = qx
      · rw [if_pos b3]
      · rw [if_neg b3]
        by_cases b4 : nB (gm_eN px) = false
        · rw [if_pos b4]
          rcases h with h | h | h | h | h
          · exact absurd h b1
          · exact absurd h b2
          · exact absurd h b3
          · rw [h.1] at b4; cases b4
          · exact hct h
        · rw [if_neg b4]
          by_cases b5 : nB (gm_eN qx) = true
          · rw [if_pos b5]
          · rw [if_neg b5]
            rcases h with h | h | h | h | h
            · exact absurd h b1
            · exact absurd h b2
            · exact absurd h b3
            · exact absurd h.2 b5
            · exact hct h
theorem rl_edge2 (hG : lw_G gA gC gL gP gE gB gF nB nN nL) (hV : lw_V vL vK vS vR vP vE vC nG nA nS) (hB : lw_B gE nL bA bC bG bH nV) (hO : ∀ q, oO q < 60) (px qx kx : Int32) : (if gm_join gP gB px qx = false then -1 else if kx < nI 1 then -1 else if nI 20 < kx then -1 else if gE < 60 then nI gE else -1) = (if gm_has gP px = false then -1 else if gm_has gP qx = false then -1 else if px = qx then -1 else if nB (gm_eN px) = false then (if kx < nI 1 then -1 else if nI 20 < kx then -1 else if gE = 60 then -1 else nI gE) else if nB (gm_eN qx) = true then -1 else if kx < nI 1 then -1 else if nI 20 < kx then -1 else if gE = 60 then -1 else nI gE) ∧ lw_R (if gm_join gP gB px qx = false then gA else if kx < nI 1 then gA else if nI 20 < kx then gA else if gE < 60 then gd_uN gA gE (gm_eN px) else gA) (if gm_join gP gB px qx = false then gC else if kx < nI 1 then gC else if nI 20 < kx then gC else if gE < 60 then gd_uN gC gE (gm_eN qx) else gC) (if gm_join gP gB px qx = false then gL else if kx < nI 1 then gL else if nI 20 < kx then gL else if gE < 60 then gd_uN gL gE (gm_eN kx) else gL) gP (if gm_join gP gB px qx = false then gE else if kx < nI 1 then gE else if nI 20 < kx then gE else if gE < 60 then gE + 1 else gE) gB gF vL vK vS vR vP vE vC vD vB vF bA bC bG (if gm_join gP gB px qx = false then bH else if kx < nI 1 then bH else if nI 20 < kx then bH else if gE < 60 then false else bH) oO gP (if gm_has gP px = false then gE else if gm_has gP qx = false then gE else if px = qx then gE else if nB (gm_eN px) = false then (if kx < nI 1 then gE else if nI 20 < kx then gE else if gE = 60 then gE else gE + 1) else if nB (gm_eN qx) = true then gE else if kx < nI 1 then gE else if nI 20 < kx then gE else if gE = 60 then gE else gE + 1) gF nB (if gm_has gP px = false then nN else if gm_has gP qx = false then nN else if px = qx then nN else if nB (gm_eN px) = false then (if kx < nI 1 then nN else if nI 20 < kx then nN else if gE = 60 then nN else gd_uN (gd_uN nN (2 * gE) (gm_eN px)) (2 * gE + 1) (gm_eN qx)) else if nB (gm_eN qx) = true then nN else if kx < nI 1 then nN else if nI 20 < kx then nN else if gE = 60 then nN else gd_uN (gd_uN nN (2 * gE) (gm_eN px)) (2 * gE + 1) (gm_eN qx)) (if gm_has gP px = false then nL else if gm_has gP qx = false then nL else if px = qx then nL else if nB (gm_eN px) = false then (if kx < nI 1 then nL else if nI 20 < kx then nL else if gE = 60 then nL else gd_uN nL gE (gm_eN kx)) else if nB (gm_eN qx) = true then nL else if kx < nI 1 then nL else if nI 20 < kx then nL else if gE = 60 then nL else gd_uN nL gE (gm_eN kx)) nG vP vE vD vB vF nA nS (if gm_has gP px = false then bH else if gm_has gP qx = false then bH else if px = qx then bH else if nB (gm_eN px) = false then (if kx < nI 1 then bH else if nI 20 < kx then bH else if gE = 60 then bH else false) else if nB (gm_eN qx) = true then bH else if kx < nI 1 then bH else if nI 20 < kx then bH else if gE = 60 then bH else false) nV := by
  rcases rl_edge hG hV hB hO px qx kx (vD := vD) (vB := vB) (vF := vF) (X1 := 0) (X2 := 0) (M1 := 0) (M2 := 0) with ⟨c1, c2, c3, c4, r, d1, d2, d3, d4⟩ | ⟨c1, c2⟩
  · simp only [ie_c c1 c2 c3 c4, ie_r d1 d2 d3 d4 c2 c3 c4]
    exact ⟨trivial, r⟩
  · simp only [ie_c2 c1, ie_r2 c2]
    exact ⟨trivial, ⟨rfl, rfl, rfl, rfl, rfl, rfl, rfl, rfl, rfl⟩, hG, hV, hB, hO⟩
theorem if_r {α : Type} {t e : α} {qb : Bool} (hp : gP ≤ 30) (hB : gr_B gP gB gF nB) : (if gm_has gP px = false then e else if nB (gm_eN px) = true then e else if qb = false then (if jbs gF px = nI 0 then e else t) else if jbs gF px = nI 1 then e else t) = (if gm_has gP px = false then e else if gm_bit gB px = true then e else if gm_bit gF px = qb then e else t) := by
  by_cases h : gm_has gP px = false
  · rw [if_pos h, if_pos h]
  · rw [if_neg h, if_neg h]
    have h1 : gm_has gP px = true := by simpa using h
    obtain ⟨b1, b2⟩ := rl_bit hp hB h1
    obtain ⟨e1, e2⟩ := gm_has_nat (by omega) h1
    have hj : jbs gF px = if bt gF (gm_eN px) = true then 1 else 0 := by
      have := jbs_bt gF (p := gm_eN px) (by omega)
      rw [← e1] at this
      exact this
    rw [b1, b2, hj]
    cases nB (gm_eN px) <;> cases bt gF (gm_eN px) <;> cases qb <;> rfl
theorem rl_fire (hG : lw_G gA gC gL gP gE gB gF nB nN nL) (hV : lw_V vL vK vS vR vP vE vC nG nA nS) (hB : lw_B gE nL bA bC bG bH nV) (hO : ∀ q, oO q < 60) (px : Int32) (qb : Bool) : (if gm_has gP px = false then false else if gm_bit gB px = true then false else if gm_bit gF px = qb then false else true) = (if gm_has gP px = false then false else if nB (gm_eN px) = true then false else if qb = false then (if jbs gF px = nI 0 then false else true) else if jbs gF px = nI 1 then false else true) ∧ lw_R gA gC gL gP gE gB (if gm_has gP px = false then gF else if gm_bit gB px = true then gF else if gm_bit gF px = qb then gF else gF ^^^ jsh (nI 1) px) vL vK vS vR vP vE vC vD vB vF bA bC bG (if gm_has gP px = false then bH else if gm_bit gB px = true then bH else if gm_bit gF px = qb then bH else false) oO gP gE (if gm_has gP px = false then gF else if nB (gm_eN px) = true then gF else if qb = false then (if jbs gF px = nI 0 then gF else gF ^^^ jsh (nI 1) px) else if jbs gF px = nI 1 then gF else gF ^^^ jsh (nI 1) px) nB nN nL nG vP vE vD vB vF nA nS (if gm_has gP px = false then bH else if nB (gm_eN px) = true then bH else if qb = false then (if jbs gF px = nI 0 then bH else false) else if jbs gF px = nI 1 then bH else false) nV := by
  obtain ⟨g1, g2, g3, g4, g5, g6, g7, g8, g9⟩ := id hG
  simp only [if_r (px := px) g1 g9]
  refine ⟨trivial, ⟨rfl, rfl, rfl, rfl, rfl, rfl, rfl, rfl, rfl⟩, ?_, hV, ?_, hO⟩
  · by_cases h : gm_has gP px = false
    · rw [if_pos h]; exact hG
    · rw [if_neg h]
      have h1 : gm_has gP px = true := by simpa using h
      obtain ⟨b1, b2⟩ := rl_bit g1 g9 h1
      obtain ⟨e1, e2⟩ := gm_has_nat (by omega) h1
      by_cases h2 : gm_bit gB px = true
      · rw [if_pos h2]; exact hG
      · rw [if_neg h2]
        by_cases h3 : gm_bit gF px = qb
        · rw [if_pos h3]; exact hG
        · rw [if_neg h3]
          obtain ⟨c1, c2, c3, c4⟩ := g9
          have hx : ∀ p, p < 32 → bt (gF ^^^ jsh (nI 1) px) p = (bt gF p ^^ decide (p = gm_eN px)) := fun p hp => by
            have := bt_xor1 gF (p := gm_eN px) (by omega) hp
            rw [← e1] at this
            exact this
          refine ⟨g1, g2, g3, g4, g5, g6, g7, g8, c1, c2, fun p hp => ?_, fun p hp => ?_⟩
          · by_cases w : p < 32
            · rw [hx p w, c3 p hp, decide_eq_false (by omega)]; rfl
            · exact b_big (by omega)
          · by_cases w : p < 32
            · rw [hx p w] at hp
              by_cases w2 : p = gm_eN px
              · rw [w2, c1 _ e2, ← b1]
                simpa using h2
              · rw [decide_eq_false w2, Bool.xor_false] at hp
                exact c4 p hp
            · exact c2 p (by omega)
  · by_cases h : gm_has gP px = false
    · rw [if_pos h]; exact hB
    · rw [if_neg h]
      by_cases h2 : gm_bit gB px = true
      · rw [if_pos h2]; exact hB
      · rw [if_neg h2]
        by_cases h3 : gm_bit gF px = qb
        · rw [if_pos h3]; exact hB
        · rw [if_neg h3]; exact fun q => absurd q (by decide)
theorem rl_cluster (hV : lw_V vL vK vS vR vP vE vC nG nA nS) (px : Int32) : (if px < nI 0 then -1 else if nI vP ≤ px then -1 else nI (vL (gm_eN px))) = (if nG = false then -1 else if px < nI 0 then -1 else if nI vP ≤ px then -1 else nI (nA (gm_eN px))) := by
  obtain ⟨v1, v2, v3, v4, v5, v6, v7, v8, v9, v10, v11⟩ := hV
  by_cases a : px < nI 0
  · simp [a]
  · by_cases b : nI vP ≤ px
    · simp [a, b]
    · obtain ⟨e1, e2⟩ := gm_ix (by omega) a b
      have hg : ¬ nG = false := fun q => by have := (v11 q).1; omega
      rw [if_neg a, if_neg b, if_neg hg, if_neg a, if_neg b, v8 _ e2]
theorem rl_size (hV : lw_V vL vK vS vR vP vE vC nG nA nS) (px : Int32) : (if px < nI 0 then -1 else if nI vE ≤ px then -1 else vS (gm_eN px)) = (if nG = false then -1 else if px < nI 0 then -1 else if nI vE ≤ px then -1 else nS (gm_eN px)) := by
  obtain ⟨v1, v2, v3, v4, v5, v6, v7, v8, v9, v10, v11⟩ := hV
  by_cases a : px < nI 0
  · simp [a]
  · by_cases b : nI vE ≤ px
    · simp [a, b]
    · obtain ⟨e1, e2⟩ := gm_ix (by omega) a b
      have hg : ¬ nG = false := fun q => by have := (v11 q).2; omega
      rw [if_neg a, if_neg b, if_neg hg, if_neg a, if_neg b, v9 _ e2]
theorem rl_guess (hB : lw_B gE nL bA bC bG bH nV) : (if bH = false then 0 else bG) = (if bH = false then 0 else mr_gs nL nV gE) := by
  cases h : bH
  · rfl
  · rw [if_neg (by decide), if_neg (by decide), (hB h).2]
theorem rl_total (hV : lw_V vL vK vS vR vP vE vC nG nA nS) (px : Int32) (gP gE vD : Nat) (gF : Int32) : (if px = 0 then nI gP else if px = 1 then nI gE else if px = 2 then gF else if px = 3 then vC else if px = 4 then nI vD else -1) = (if px = 0 then nI gP else if px = 1 then nI gE else if px = 2 then gF else if px = 3 then nI (mr_tot nA vP) else if px = 4 then nI vD else -1) := by
  rw [hV.2.2.2.2.2.2.2.2.2.1]
theorem rl_believe (hG : lw_G gA gC gL gP gE gB gF nB nN nL) (hV : lw_V vL vK vS vR vP vE vC nG nA nS) (hB : lw_B gE nL bA bC bG bH nV) (hO : ∀ q, oO q < 60) (px : Int32) (bT bU bL bN : Nat → Int32) (bX : Int32) (nZ : Nat → Int32) : (if px < nI 1 then -1 else if px ≤ nI 40 then nI (gm_set gA gC gL gB gF gE (gm_eN px) 1 ((fun _ => nI 0), (fun _ => nI 0), bT, bU, bL, bN, bX, bG)).1 else -1) = (if px < nI 1 then -1 else if px ≤ nI 40 then nI (mr_set nB nN nL gF gE (gm_eN px) 1 (gm_fill nV (nI 0) 120, nZ)).1 else -1) ∧ lw_R gA gC gL gP gE gB gF vL vK vS vR vP vE vC vD vB vF (if px < nI 1 then bA else if px ≤ nI 40 then (gm_set gA gC gL gB gF gE (gm_eN px) 1 ((fun _ => nI 0), (fun _ => nI 0), bT, bU, bL, bN, bX, bG)).2.1 else bA) (if px < nI 1 then bC else if px ≤ nI 40 then (gm_set gA gC gL gB gF gE (gm_eN px) 1 ((fun _ => nI 0), (fun _ => nI 0), bT, bU, bL, bN, bX, bG)).2.2.1 else bC) (if px < nI 1 then bG else if px ≤ nI 40 then (gm_set gA gC gL gB gF gE (gm_eN px) 1 ((fun _ => nI 0), (fun _ => nI 0), bT, bU, bL, bN, bX, bG)).2.2.2.2.2.2.2.2 else bG) (if px < nI 1 then bH else if px ≤ nI 40 then true else bH) oO gP gE gF nB nN nL nG vP vE vD vB vF nA nS (if px < nI 1 then bH else if px ≤ nI 40 then true else bH) (if px < nI 1 then nV else if px ≤ nI 40 then (mr_set nB nN nL gF gE (gm_eN px) 1 (gm_fill nV (nI 0) 120, nZ)).2.1 else nV) := by
  obtain ⟨g1, g2, g3, g4, g5, g6, g7, g8, g9⟩ := id hG
  by_cases a : px < nI 1
  · simp only [if_pos a]
    exact ⟨trivial, ⟨rfl, rfl, rfl, rfl, rfl, rfl, rfl, rfl, rfl⟩, hG, hV, hB, hO⟩
  · simp only [if_neg a]
    by_cases b : px ≤ nI 40
    · simp only [if_pos b]
      obtain ⟨k1, k2, k3⟩ := gm_rng (n := 40) (by decide) (by decide) a (fun h => absurd b (Int32.not_le.mpr h))
      obtain ⟨s1, s2, s3⟩ := bq_set g1 g2 g6 g8 g9 (gm_eN px) 1 ((fun _ => nI 0), (fun _ => nI 0), bT, bU, bL, bN, bX, bG) (gm_fill nV (nI 0) 120, nZ) (fun e he => ⟨(gm_fill_at nV (nI 0) 120 (2 * e) (by omega)).symm, (gm_fill_at nV (nI 0) 120 (2 * e + 1) (by omega)).symm⟩) (Or.inl (by omega))
      refine ⟨by rw [s1], ⟨rfl, rfl, rfl, rfl, rfl, rfl, rfl, rfl, rfl⟩, hG, hV, fun _ => ⟨s2, s3⟩, hO⟩
    · simp only [if_neg b]
      exact ⟨trivial, ⟨rfl, rfl, rfl, rfl, rfl, rfl, rfl, rfl, rfl⟩, hG, hV, hB, hO⟩
theorem rl_sent1 (px qx : Int32) : (if bH = false then nI 1 else if gm_sok gE px qx = true then nI 0 else nI 2) = nI (if bH = false then 1 else if gm_has gE px = false then 2 else if qx < nI 0 then 2 else if qx ≤ nI 2 then 0 else 2) := by
  unfold gm_sok
  cases bH
  · rfl
  · cases gm_has gE px <;> by_cases a : qx < nI 0 <;> by_cases b : qx ≤ nI 2 <;> simp [a, b]
theorem rl_sent2 (hG : lw_G gA gC gL gP gE gB gF nB nN nL) (hB : lw_B gE nL bA bC bG bH nV) {px qx : Int32} (h1 : bH = true) (h2 : gm_sok gE px qx = true) : (if qx = nI 2 then gm_bel gL bA bC (gm_eN px) else if qx = nI 0 then bA (gm_eN px) else bC (gm_eN px)) = (if bH = false then nI 0 else if gm_has gE px = false then nI 0 else if qx < nI 0 then nI 0 else if qx ≤ nI 2 then (if qx = nI 2 then mr_bel nL nV (gm_eN px) else nV (2 * gm_eN px + gm_eN qx)) else nI 0) := by
  obtain ⟨g1, g2, g3, g4, g5, g6, g7, g8, g9⟩ := id hG
  have h3 := h2
  unfold gm_sok at h3
  rw [Bool.and_eq_true, Bool.and_eq_true] at h3
  obtain ⟨c1, c2, c3⟩ := h3
  have c2 : ¬ qx < nI 0 := by simpa using c2
  have c3 : qx ≤ nI 2 := by simpa using c3
  obtain ⟨e1, e2⟩ := gm_has_nat (by omega) c1
  obtain ⟨q1, q2, q3⟩ := gm_rng (k := 0) (n := 2) (by decide) (by decide) c2 (fun h => absurd c3 (Int32.not_le.mpr h))
  obtain ⟨k1, k2⟩ := (hB h1).1 _ e2
  have hl := (g8 _ e2).2.2.1
  rw [h1, if_neg (show ¬ true = false by decide), if_neg (show ¬ gm_has gE px = false by rw [c1]; decide), if_neg c2, if_pos c3]
  unfold gm_bel mr_bel
  rw [hl, k1, k2]
  by_cases a : qx = nI 2
  · rw [if_pos a, if_pos a]
  · rw [if_neg a, if_neg a]
    have hne : gm_eN qx ≠ 2 := fun z => a (by rw [q1, z])
    by_cases b : qx = nI 0
    · rw [if_pos b, b]; rfl
    · rw [if_neg b]
      have hne0 : gm_eN qx ≠ 0 := fun z => b (by rw [q1, z])
      rw [show gm_eN qx = 1 by omega]
theorem rl_grow (hG : lw_G gA gC gL gP gE gB gF nB nN nL) (hV : lw_V vL vK vS vR vP vE vC nG nA nS) (hB : lw_B gE nL bA bC bG bH nV) (hO : ∀ q, oO q < 60) (vM : Nat → Int32) (vN : Int32) (vW : Nat) (nO nU nW : Nat → Bool) : (if (gm_grown gA gC gL gB gF gP gE vL vM).1 = true then nI 0 else nI 1) = nI (if (mr_go nB gF nN nL gP gE 1200 (gm_bL nA gP, gm_fill nS (nI 0) 60, nO, nU, 0, 0)).1 = false then 1 else 0) ∧ ((gm_grown gA gC gL gB gF gP gE vL vM).1 = true → nI (gm_grown gA gC gL gB gF gP gE vL vM).2.2.2.2.2.2 = (if (mr_go nB gF nN nL gP gE 1200 (gm_bL nA gP, gm_fill nS (nI 0) 60, nO, nU, 0, 0)).1 = false then nI 0 else nI ((mr_go nB gF nN nL gP gE 1200 (gm_bL nA gP, gm_fill nS (nI 0) 60, nO, nU, 0, 0)).2.2.2.2.2.2))) ∧ lw_R gA gC gL gP gE gB gF (gm_grown gA gC gL gB gF gP gE vL vM).2.1 (gm_over (gm_grown gA gC gL gB gF gP gE vL vM) vR vK vN vW gA gC gB gF gP gE).2.2.1 (gm_grown gA gC gL gB gF gP gE vL vM).2.2.2.1 (gm_over (gm_grown gA gC gL gB gF gP gE vL vM) vR vK vN vW gA gC gB gF gP gE).2.1 gP gE (gm_grown gA gC gL gB gF gP gE vL vM).2.2.2.2.1 (gm_grown gA gC gL gB gF gP gE vL vM).2.2.2.2.2.2 (gm_grown gA gC gL gB gF gP gE vL vM).2.2.2.2.2.1 (gm_over (gm_grown gA gC gL gB gF gP gE vL vM) vR vK vN vW gA gC gB gF gP gE).2.2.2.2 bA bC bG bH oO gP gE gF nB nN nL true gP gE ((mr_go nB gF nN nL gP gE 1200 (gm_bL nA gP, gm_fill nS (nI 0) 60, nO, nU, 0, 0)).2.2.2.2.2.2) ((mr_go nB gF nN nL gP gE 1200 (gm_bL nA gP, gm_fill nS (nI 0) 60, nO, nU, 0, 0)).2.2.2.2.2.1) (if (mr_go nB gF nN nL gP gE 1200 (gm_bL nA gP, gm_fill nS (nI 0) 60, nO, nU, 0, 0)).1 = false then 0 else (mr_fx ((mr_go nB gF nN nL gP gE 1200 (gm_bL nA gP, gm_fill nS (nI 0) 60, nO, nU, 0, 0)).2.1) nB nW gF ((mr_go nB gF nN nL gP gE 1200 (gm_bL nA gP, gm_fill nS (nI 0) 60, nO, nU, 0, 0)).2.2.2.2.2.1) 0 nN gP gE gE).1) ((mr_go nB gF nN nL gP gE 1200 (gm_bL nA gP, gm_fill nS (nI 0) 60, nO, nU, 0, 0)).2.1) ((mr_go nB gF nN nL gP gE 1200 (gm_bL nA gP, gm_fill nS (nI 0) 60, nO, nU, 0, 0)).2.2.1) bH nV := by
  obtain ⟨g1, g2, g3, g4, g5, g6, g7, g8, g9⟩ := id hG
  obtain ⟨v1, v2, v3, v4, v5, v6, v7, v8, v9, v10, v11⟩ := id hV
  obtain ⟨a1, a2⟩ := go_all g1 g2 g8 g9 g7 vL nA vM nS nO nU v7
  have hlt : ∀ q, (gm_grown gA gC gL gB gF gP gE vL vM).2.1 q < 30 := gm_go_lt 1201 _ (gm_bL_lt v3 gP g1)
  have hlt2 : ∀ q, (mr_go nB gF nN nL gP gE 1200 (gm_bL nA gP, gm_fill nS (nI 0) 60, nO, nU, 0, 0)).2.1 q < 30 := mr_go_lt 1200 _ (gm_bL_lt v6 gP g1)
  obtain ⟨o1, o2⟩ := gm_over_ok (gr := gm_grown gA gC gL gB gF gP gE vL vM) (sn := vN) (w := vW) (fr := gF) g1 g2 v5 v4 g3 g4 (fun i hi => g9.2.1 i (by omega))
  have hfx : (gm_over (gm_grown gA gC gL gB gF gP gE vL vM) vR vK vN vW gA gC gB gF gP gE).2.2.2.2 = (if (mr_go nB gF nN nL gP gE 1200 (gm_bL nA gP, gm_fill nS (nI 0) 60, nO, nU, 0, 0)).1 = false then 0 else (mr_fx ((mr_go nB gF nN nL gP gE 1200 (gm_bL nA gP, gm_fill nS (nI 0) 60, nO, nU, 0, 0)).2.1) nB nW gF ((mr_go nB gF nN nL gP gE 1200 (gm_bL nA gP, gm_fill nS (nI 0) 60, nO, nU, 0, 0)).2.2.2.2.2.1) 0 nN gP gE gE).1) := by
    cases hg : (gm_grown gA gC gL gB gF gP gE vL vM).1
    · rw [← a1, hg, if_pos rfl]
      unfold gm_over
      rw [hg]
    · rw [← a1, hg, if_neg (by decide)]
      have e1 : gm_grown gA gC gL gB gF gP gE vL vM = (true, (gm_grown gA gC gL gB gF gP gE vL vM).2) := Prod.ext hg rfl
      rw [e1]
      exact fx_eq g1 g2 g3 g4 g6 g8 g9 a2 v5 v4 vN vW nW
  obtain ⟨⟨j1, j2, j3, j4, j5, j6⟩, s1, s2, s3⟩ := id a2
  refine ⟨?_, fun hg => ?_, ⟨rfl, rfl, rfl, rfl, rfl, s3.symm, j5.symm, hfx.symm, rfl⟩, hG, ⟨g1, g2, hlt, o2, o1, hlt2, s2, j1, s1, j4, fun h => absurd h (by decide)⟩, hB, hO⟩
  · rw [← a1]
    cases (gm_grown gA gC gL gB gF gP gE vL vM).1 <;> rfl
  · rw [← a1, hg, if_neg (by decide), s3]
end CAL
