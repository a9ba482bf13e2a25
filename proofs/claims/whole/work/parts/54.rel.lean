/-! how the two sides stand to each other between the calls -/
def lw_G (gA gC gL : Nat → Nat) (gP gE : Nat) (gB gF : Int32) (nB : Nat → Bool) (nN nL : Nat → Nat) : Prop :=
  gP ≤ 30 ∧ gE ≤ 60 ∧ (∀ q, gA q < 30) ∧ (∀ q, gC q < 30) ∧ (∀ q, gL q ≤ 20) ∧ (∀ q, nN q < 30) ∧ (∀ q, nL q ≤ 20) ∧ gr_E gA gC gL nN nL gP gE ∧ gr_B gP gB gF nB
def lw_V (vL vK : Nat → Nat) (vS vR : Nat → Int32) (vP vE : Nat) (vC : Int32) (nG : Bool) (nA : Nat → Nat) (nS : Nat → Int32) : Prop :=
  vP ≤ 30 ∧ vE ≤ 60 ∧ (∀ q, vL q < 30) ∧ (∀ q, vK q < 30) ∧ (∀ q, gm_RB (vR q)) ∧ (∀ q, nA q < 30) ∧ (∀ q, mr_sz (nS q)) ∧ (∀ q, q < vP → vL q = nA q) ∧ (∀ q, q < vE → vS q = nS q) ∧ vC = nI (mr_tot nA vP) ∧ (nG = false → vP = 0 ∧ vE = 0)
def lw_B (gE : Nat) (nL : Nat → Nat) (bA bC : Nat → Int32) (bG : Int64) (bH : Bool) (nV : Nat → Int32) : Prop := bH = true → (∀ e, e < gE → bA e = nV (2 * e) ∧ bC e = nV (2 * e + 1)) ∧ bG = mr_gs nL nV gE
def lw_R (gA gC gL : Nat → Nat) (gP gE : Nat) (gB gF : Int32) (vL vK : Nat → Nat) (vS vR : Nat → Int32) (vP vE : Nat) (vC : Int32) (vD : Nat) (vB vF : Int64) (bA bC : Nat → Int32) (bG : Int64) (bH : Bool) (oO : Nat → Nat) (nP nE : Nat) (nF : Int32) (nB : Nat → Bool) (nN nL : Nat → Nat) (nG : Bool) (nQ nR nD : Nat) (nX nY : Int64) (nA : Nat → Nat) (nS : Nat → Int32) (nH : Bool) (nV : Nat → Int32) : Prop :=
  (nP = gP ∧ nE = gE ∧ nF = gF ∧ nQ = vP ∧ nR = vE ∧ nD = vD ∧ nX = vB ∧ nY = vF ∧ nH = bH) ∧ lw_G gA gC gL gP gE gB gF nB nN nL ∧ lw_V vL vK vS vR vP vE vC nG nA nS ∧ lw_B gE nL bA bC bG bH nV ∧ ∀ q, oO q < 60
section REL
variable {gA gC gL : Nat → Nat} {gP gE : Nat} {gB gF : Int32} {vL vK : Nat → Nat} {vS vR : Nat → Int32} {vP vE : Nat} {vC : Int32} {vD : Nat} {vB vF : Int64} {bA bC : Nat → Int32} {bG : Int64} {bH : Bool} {oO : Nat → Nat} {nB : Nat → Bool} {nN nL : Nat → Nat} {nG : Bool} {nA : Nat → Nat} {nS : Nat → Int32} {nV : Nat → Int32}
theorem rl_point (hG : lw_G gA gC gL gP gE gB gF nB nN nL) (hV : lw_V vL vK vS vR vP vE vC nG nA nS) (hB : lw_B gE nL bA bC bG bH nV) (hO : ∀ q, oO q < 60) (px : Bool) :
    (if gP < 30 then nI gP else -1) = (if gP = 30 then -1 else nI gP) ∧
    lw_R gA gC gL (if gP < 30 then gP + 1 else gP) gE (if gP < 30 then gm_addB gP gB px else gB) gF vL vK vS vR vP vE vC vD vB vF bA bC bG (if gP < 30 then false else bH) oO (if gP = 30 then gP else gP + 1) gE gF (if gP = 30 then nB else gd_uB nB gP px) nN nL nG vP vE vD vB vF nA nS (if gP = 30 then bH else false) nV := by
  obtain ⟨g1, g2, g3, g4, g5, g6, g7, g8, g9⟩ := id hG
  by_cases c : gP < 30
  · simp only [if_pos c, if_neg (show ¬ gP = 30 by omega)]
    refine ⟨trivial, ⟨rfl, rfl, rfl, rfl, rfl, rfl, rfl, rfl, rfl⟩, ⟨by omega, g2, g3, g4, g5, g6, g7, fun e he => ?_, ?_⟩, hV, fun h => absurd h (by decide), hO⟩
    · obtain ⟨e1, e2, e3, e4, e5, e6⟩ := g8 e he
      exact ⟨e1, e2, e3, by omega, by omega, e6⟩
    · obtain ⟨b1, b2, b3, b4⟩ := g9
      have hb : ∀ p, p < 32 → bt (gm_addB gP gB px) p = (bt gB p || (px && decide (p = gP))) := fun p hp => by
        unfold gm_addB
        cases px
        · rw [if_neg (by decide), Bool.false_and, Bool.or_false]
        · rw [if_pos rfl, bt_or1 _ (by omega) hp, Bool.true_and]
      have hbig : ∀ p, 32 ≤ p → bt (gm_addB gP gB px) p = false := fun p hp => b_big hp
      refine ⟨fun p hp => ?_, fun p hp => ?_, fun p hp => b3 p (by omega), fun p hp => ?_⟩
      · rw [hb p (by omega)]
        by_cases w : p = gP
        · rw [w, b2 gP (Nat.le_refl _), fe_uB, decide_eq_true rfl, Bool.and_true, Bool.false_or]
        · rw [fe_uBn w, decide_eq_false w, Bool.and_false, Bool.or_false]
          exact b1 p (by omega)
      · by_cases w : p < 32
        · rw [hb p w, b2 p (by omega), decide_eq_false (by omega), Bool.and_false]; rfl
        · exact hbig p (by omega)
      · have hp2 : p < gP := by
          by_cases w : p < gP
          · exact w
          · rw [b3 p (by omega)] at hp; cases hp
        rw [hb p (by omega), b4 p hp, decide_eq_false (by omega), Bool.and_false]; rfl
  · simp only [if_neg c, if_pos (show gP = 30 by omega)]
    exact ⟨trivial, ⟨rfl, rfl, rfl, rfl, rfl, rfl, rfl, rfl, rfl⟩, hG, hV, hB, hO⟩
theorem rl_bit (hp : gP ≤ 30) (hB : gr_B gP gB gF nB) {x : Int32} (h : gm_has gP x = true) : gm_bit gB x = nB (gm_eN x) ∧ gm_bit gF x = bt gF (gm_eN x) := by
  obtain ⟨e1, e2⟩ := gm_has_nat (by omega) h
  have k : ∀ y : Int32, gm_bit y x = bt y (gm_eN x) := fun y => by
    unfold gm_bit
    rw [e1, show gm_eN (nI (gm_eN x)) = gm_eN x by rw [← e1]]
    cases q : bt y (gm_eN x)
    · rw [decide_eq_true ((jb_0 (by omega)).mpr q)]; rfl
    · rw [decide_eq_false (fun w => by rw [(jb_0 (by omega)).mp w] at q; cases q)]; rfl
  exact ⟨by rw [k, hB.1 _ e2], k gF⟩
theorem rl_edge (hG : lw_G gA gC gL gP gE gB gF nB nN nL) (hV : lw_V vL vK vS vR vP vE vC nG nA nS) (hB : lw_B gE nL bA bC bG bH nV) (hO : ∀ q, oO q < 60) (px qx kx : Int32) {X1 X2 M1 M2 : Nat} :
    (gm_join gP gB px qx = true ∧ ¬ kx < nI 1 ∧ ¬ nI 20 < kx ∧ gE < 60 ∧ lw_R (gd_uN gA gE (gm_eN px)) (gd_uN gC gE (gm_eN qx)) (gd_uN gL gE (gm_eN kx)) gP (gE + 1) gB gF vL vK vS vR vP vE vC vD vB vF bA bC bG false oO gP (gE + 1) gF nB (gd_uN (gd_uN nN (2 * gE) (gm_eN px)) (2 * gE + 1) (gm_eN qx)) (gd_uN nL gE (gm_eN kx)) nG vP vE vD vB vF nA nS false nV ∧ gm_has gP px = true ∧ gm_has gP qx = true ∧ ¬ px = qx ∧ (nB (gm_eN px) = false ∨ nB (gm_eN qx) = false)) ∨
    ((gm_join gP gB px qx = false ∨ kx < nI 1 ∨ nI 20 < kx ∨ gE = 60) ∧ (gm_has gP px = false ∨ gm_has gP qx = false ∨ px = qx ∨ (nB (gm_eN px) = true ∧ nB (gm_eN qx) = true) ∨ kx < nI 1 ∨ nI 20 < kx ∨ gE = 60)) := by
  obtain ⟨g1, g2, g3, g4, g5, g6, g7, g8, g9⟩ := id hG
  have hjoin : gm_join gP gB px qx = true ↔ (gm_has gP px = true ∧ gm_has gP qx = true ∧ ¬ px = qx ∧ (nB (gm_eN px) = false ∨ nB (gm_eN qx) = false)) := by
    unfold gm_join
    by_cases h1 : gm_has gP px = true
    · by_cases h2 : gm_has gP qx = true
      · rw [(rl_bit g1 g9 h1).1, (rl_bit g1 g9 h2).1, h1, h2]
        by_cases h3 : px = qx <;> cases nB (gm_eN px) <;> cases nB (gm_eN qx) <;> simp [h3]
      · simp [h1, h2]
    · simp [h1]
  by_cases c : gm_join gP gB px qx = true ∧ ¬ kx < nI 1 ∧ ¬ nI 20 < kx ∧ gE < 60
  · left
    obtain ⟨c1, c2, c3, c4⟩ := c
    obtain ⟨j1, j2, j3, j4⟩ := hjoin.mp c1
    obtain ⟨p1, p2⟩ := gm_has_nat (by omega) j1
    obtain ⟨q1, q2⟩ := gm_has_nat (by omega) j2
    obtain ⟨k1, k2, k3⟩ := gm_rng (by decide) (by decide) c2 c3
    have u0 : ∀ (f : Nat → Nat) (k v : Nat), gd_uN f k v k = v := fun f k v => by unfold gd_uN; rw [if_pos rfl]
    have u1 : ∀ (f : Nat → Nat) (k v q : Nat), q ≠ k → gd_uN f k v q = f q := fun f k v q h => by unfold gd_uN; rw [if_neg h]
    have ul : ∀ (f : Nat → Nat) (k v b : Nat), (∀ q, f q ≤ b) → v ≤ b → ∀ q, gd_uN f k v q ≤ b := fun f k v b h h2 q => by unfold gd_uN; split; exact h2; exact h q
    refine ⟨c1, c2, c3, c4, ⟨⟨rfl, rfl, rfl, rfl, rfl, rfl, rfl, rfl, rfl⟩, ⟨g1, by omega, gd_uN_lt g3 (by omega), gd_uN_lt g4 (by omega), ul gL _ _ _ g5 k3, gd_uN_lt (gd_uN_lt g6 (by omega)) (by omega), ul nL _ _ _ g7 k3, fun e he => ?_, g9⟩, hV, fun h => absurd h (by decide), hO⟩, j1, j2, j3, j4⟩
    by_cases w : e = gE
    · rw [w, u0, u0, u0, u0, u0, u1 _ _ _ _ (by omega), u0]
      exact ⟨rfl, rfl, rfl, p2, q2, fun z => j3 (by rw [p1, q1, z]), k2⟩
    · rw [u1 _ _ _ _ w, u1 _ _ _ _ w, u1 _ _ _ _ w, u1 _ _ _ _ w, u1 _ _ _ _ (by omega), u1 _ _ _ _ (by omega), u1 _ _ _ _ (by omega), u1 _ _ _ _ (by omega)]
      exact g8 e (by omega)
  · right
    have hE6 : gE < 60 ∨ gE = 60 := by omega
    constructor
    · by_cases a1 : gm_join gP gB px qx = true
      · by_cases a2 : kx < nI 1
        · exact Or.inr (Or.inl a2)
        · by_cases a3 : nI 20 < kx
          · exact Or.inr (Or.inr (Or.inl a3))
          · rcases hE6 with a4 | a4
            · exact absurd ⟨a1, a2, a3, a4⟩ c
            · exact Or.inr (Or.inr (Or.inr a4))
      · left; simpa using a1
    · by_cases a1 : gm_join gP gB px qx = true
      · by_cases a2 : kx < nI 1
        · simp [a2]
        · by_cases a3 : nI 20 < kx
          · simp [a3]
          · rcases hE6 with a4 | a4
            · exact absurd ⟨a1, a2, a3, a4⟩ c
            · simp [a4]
      · rw [hjoin] at a1
        by_cases b1 : gm_has gP px = true
        · by_cases b2 : gm_has gP qx = true
          · by_cases b3 : px = qx
            · simp [b3]
            · have : nB (gm_eN px) = true ∧ nB (gm_eN qx) = true := by
                cases z1 : nB (gm_eN px)
                · exact absurd ⟨b1, b2, b3, Or.inl z1⟩ a1
                · cases z2 : nB (gm_eN qx)
                  · exact absurd ⟨b1, b2, b3, Or.inr z2⟩ a1
                  · exact ⟨rfl, rfl⟩
              simp [this]
          · right; left; simpa using b2
        · left; simpa using b1
end REL
