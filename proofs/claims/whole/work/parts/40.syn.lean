/-! the two sides' graphs, and what syndromes are -/
def gr_E (gA gC gL nN nL : Nat → Nat) (gP gE : Nat) : Prop := ∀ e, e < gE → nN (2 * e) = gA e ∧ nN (2 * e + 1) = gC e ∧ nL e = gL e ∧ gA e < gP ∧ gC e < gP ∧ gA e ≠ gC e ∧ 1 ≤ gL e
def gr_B (gP : Nat) (gB gF : Int32) (nB : Nat → Bool) : Prop := (∀ p, p < gP → bt gB p = nB p) ∧ (∀ p, gP ≤ p → bt gB p = false) ∧ (∀ p, gP ≤ p → bt gF p = false) ∧ (∀ p, bt gF p = true → bt gB p = false)
theorem bt_mask (bd : Int32) {i : Nat} (hi : i < 32) : bt (bd ^^^ (-1)) i = !bt bd i := by
  rw [b_xor, b_m1 i hi, Bool.xor_true]
theorem bt_in (a c : Nat → Nat) (bd : Int32) (e : Nat) (ha : a e < 32) (hc : c e < 32) {i : Nat} (hi : i < 32) : bt (gm_in a c bd e) i = ((decide (i = a e) || decide (i = c e)) && !bt bd i) := by
  unfold gm_in
  rw [b_and, b_or, bt_jsh ha hi, bt_jsh hc hi, bt_mask bd hi]
/-- an edge's own syndrome, as the reference makes it -/
theorem gm_in_two {a c : Nat → Nat} {bd : Int32} {e : Nat} (ha : a e < 32) (hc : c e < 32) (hne : a e ≠ c e) (s : Int32) :
    s ^^^ gm_in a c bd e = (if bt bd (c e) = true then (if bt bd (a e) = true then s else s ^^^ jsh (nI 1) (nI (a e))) else (if bt bd (a e) = true then s else s ^^^ jsh (nI 1) (nI (a e))) ^^^ jsh (nI 1) (nI (c e))) := by
  refine b_ext (fun i hi => ?_)
  rw [b_xor, bt_in a c bd e ha hc hi]
  by_cases h1 : bt bd (a e) = true <;> by_cases h2 : bt bd (c e) = true <;> simp only [h1, h2, if_true, if_false, Bool.false_eq_true, reduceIte] <;> (try simp only [b_xor, bt_jsh ha hi, bt_jsh hc hi])
  all_goals
    by_cases q1 : i = a e
    · have q2 : ¬ i = c e := fun h => hne (q1.symm.trans h)
      subst q1
      simp [h1, hne]
    · by_cases q2 : i = c e
      · subst q2
        simp [h2, q1]
      · simp [q1, q2]
theorem syn_eq {gA gC gL nN nL : Nat → Nat} {gP gE : Nat} {gB gF : Int32} {nB : Nat → Bool} (hP : gP ≤ 30) (hE60 : gE ≤ 60) (hE : gr_E gA gC gL nN nL gP gE) (hB : gr_B gP gB gF nB) (x : Int64) : ∀ e, e ≤ gE → gm_odd gA gC gB x e = mr_syn nN nB x (2 * e)
  | 0, _ => rfl
  | e + 1, he => by
    have ih := syn_eq hP hE60 hE hB x e (by omega)
    obtain ⟨n0, n1, -, ha, hc, hne, -⟩ := hE e (by omega)
    have ba := hB.1 _ ha
    have bc := hB.1 _ hc
    rw [show 2 * (e + 1) = 2 * e + 1 + 1 by omega]
    unfold gm_odd
    rw [mr_syn, mr_syn]
    rw [show (2 * e + 1) / 2 = e by omega, show 2 * e / 2 = e by omega, jbls_bt x (show e < 64 by omega), ← ih]
    unfold mr_inn
    rw [n0, n1, ← ba, ← bc]
    cases hx : btl x e
    · rw [if_pos ((jbl_0 (by omega)).mpr hx)]
      simp
    · rw [if_neg (fun h => by rw [(jbl_0 (by omega)).mp h] at hx; cases hx)]
      rw [gm_in_two (by omega) (by omega) hne]
      cases bt gB (gA e) <;> cases bt gB (gC e) <;> simp
theorem l_neg (x : Int64) : x < 0 ↔ btl x 63 = true := by
  rw [Int64.lt_iff_toInt_lt]
  unfold btl
  rw [show x.toBitVec.getLsbD 63 = x.toBitVec.msb from rfl, show x.toInt = x.toBitVec.toInt from rfl]
  rw [show (0 : Int64).toInt = 0 from rfl]
  constructor
  · intro h
    rw [BitVec.msb_eq_toInt]
    exact decide_eq_true h
  · intro h
    rw [BitVec.msb_eq_toInt] at h
    exact of_decide_eq_true h
theorem jul_neg {x : Int64} {E : Nat} (hE : E ≤ 60) (h : x < 0) : ¬ jul x (nI E) = 0 := by
  intro q
  have h1 := (l_neg x).mp h
  have h2 := l_ushr E (by omega) x (63 - E)
  rw [q, l_0, show E + (63 - E) = 63 by omega, h1] at h2
  cases h2
theorem answer_syn {gA gC gL nN nL : Nat → Nat} {gP gE : Nat} {gB gF : Int32} {nB : Nat → Bool} (hP : gP ≤ 30) (hE60 : gE ≤ 60) (hE : gr_E gA gC gL nN nL gP gE) (hB : gr_B gP gB gF nB) (px : Int64) :
    (if jul px (nI gE) = 0 then gm_odd gA gC gB px gE else -1) = (if px < 0 then -1 else if jul px (nI gE) = 0 then mr_syn nN nB px (2 * gE) else -1) := by
  by_cases h : px < 0
  · rw [if_pos h, if_neg (jul_neg hE60 h)]
  · rw [if_neg h, syn_eq hP hE60 hE hB px gE (Nat.le_refl _)]
