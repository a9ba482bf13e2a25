/-! both sides choose the same edges, and answer alike -/
theorem gm_odd_one {a c : Nat → Nat} {bd : Int32} {k : Nat} (hk : k < 64) : ∀ n, n ≤ 64 → gm_odd a c bd (jshl 1 (nI k)) n = if k < n then gm_in a c bd k else nI 0
  | 0, _ => rfl
  | n + 1, hn => by
    have ih := gm_odd_one (a := a) (c := c) (bd := bd) hk n (by omega)
    rw [gm_odd, ih, jbl_bt _ (show n < 64 by omega), btl_1 hk (by omega)]
    by_cases q : n = k
    · rw [q, decide_eq_true rfl, if_pos rfl, if_neg (show ¬ (1 : Int64) = 0 by decide), if_neg (Nat.lt_irrefl _), if_pos (Nat.lt_succ_self _)]
      refine b_ext (fun i _ => ?_)
      rw [b_xor, show bt (nI 0) i = false from b_0 i, Bool.false_xor]
    · rw [decide_eq_false q, if_neg (show ¬ false = true by decide), if_pos rfl]
      by_cases w : k < n
      · rw [if_pos w, if_pos (by omega)]
      · rw [if_neg w, if_neg (by omega)]
section CHO
variable {gA gC gL nN nL : Nat → Nat} {gP gE : Nat} {gB gF : Int32} {nB : Nat → Bool}
theorem ch_row (hP : gP ≤ 30) (hE60 : gE ≤ 60) (hE : gr_E gA gC gL nN nL gP gE) (hB : gr_B gP gB gF nB) {k : Nat} (hk : k < gE) : mr_syn nN nB (jshl 1 (nI k)) (2 * gE) = gm_in gA gC gB k := by
  rw [← syn_eq hP hE60 hE hB _ gE (Nat.le_refl _), gm_odd_one (by omega) gE (by omega), if_pos hk]
def ch_v (gA gC : Nat → Nat) (gB : Int32) (e p : Nat) : Bool := bt (gm_in gA gC gB e) p
/-- one edge put to both sides' rows -/
theorem ch_both (hga : ∀ q, gA q < 30) (hgc : ∀ q, gC q < 30) {C : Nat → Bool} {r1 r2 : Nat → Int32} {e1 e2 : Nat → Int64} {k : Nat} (hk : k < gE) (hk60 : gE ≤ 60) (h1 : ab_I ab_up gE (ch_v gA gC gB) C r1 e1) (h2 : ab_I ab_dn gE (ch_v gA gC gB) C r2 e2) (hf : ch_free gE 30 (ch_v gA gC gB) C) :
    ((gm_rd r1 e1 (gm_in gA gC gB k, jshl 1 (nI k)) 30).1 = nI 0 ∧ (mr_lf r2 e2 (gm_in gA gC gB k) 30).1 = nI 0) ∨
    (¬ (gm_rd r1 e1 (gm_in gA gC gB k, jshl 1 (nI k)) 30).1 = nI 0 ∧ ¬ (mr_lf r2 e2 (gm_in gA gC gB k) 30).1 = nI 0 ∧
      ab_I ab_up gE (ch_v gA gC gB) (fun e => C e || (e == k)) (upd r1 (gm_tz (gm_rd r1 e1 (gm_in gA gC gB k, jshl 1 (nI k)) 30).1) (gm_rd r1 e1 (gm_in gA gC gB k, jshl 1 (nI k)) 30).1) (vp_updL e1 (gm_tz (gm_rd r1 e1 (gm_in gA gC gB k, jshl 1 (nI k)) 30).1) (gm_rd r1 e1 (gm_in gA gC gB k, jshl 1 (nI k)) 30).2) ∧
      ab_I ab_dn gE (ch_v gA gC gB) (fun e => C e || (e == k)) (upd r2 (gm_eN (mr_hi (mr_lf r2 e2 (gm_in gA gC gB k) 30).1 30)) (mr_lf r2 e2 (gm_in gA gC gB k) 30).1) (vp_updL e2 (gm_eN (mr_hi (mr_lf r2 e2 (gm_in gA gC gB k) 30).1 30)) ((mr_lf r2 e2 (gm_in gA gC gB k) 30).2 ^^^ jshl 1 (nI k))) ∧
      ch_free gE 30 (ch_v gA gC gB) (fun e => C e || (e == k))) := by
  have hx : b30 (gm_in gA gC gB k) := b30_in hga hgc k
  rw [ab_gm _ _ _ 30 (Nat.le_refl _), ab_mr _ _ _ 30 (Nat.le_refl _)]
  have z1 := ab_zero (u := (gm_in gA gC gB k, jshl 1 (nI k))) ab_up_ok h1 hx
  have z2 := ab_zero (u := (gm_in gA gC gB k, (0 : Int64))) ab_dn_ok h2 hx
  have b1 := (ab_red (u := (gm_in gA gC gB k, jshl 1 (nI k))) ab_up_ok h1 hx 30 (Nat.le_refl _)).1
  have b2 := (ab_red (u := (gm_in gA gC gB k, (0 : Int64))) ab_dn_ok h2 hx 30 (Nat.le_refl _)).1
  by_cases q : ch_in gE 30 (ch_v gA gC gB) C (bt (gm_in gA gC gB k))
  · exact Or.inl ⟨z1.mpr q, z2.mpr q⟩
  · have n1 : ¬ (ab_rd ab_up r1 e1 (gm_in gA gC gB k, jshl 1 (nI k)) 30).1 = nI 0 := fun w => q (z1.mp w)
    have n2 : ¬ (ab_rd ab_dn r2 e2 (gm_in gA gC gB k, (0 : Int64)) 30).1 = nI 0 := fun w => q (z2.mp w)
    refine Or.inr ⟨n1, n2, ?_, ?_, ch_free1 hk hf q⟩
    · obtain ⟨t1, t2⟩ := b30_tz b1 n1
      obtain ⟨j, hj, g1, g2, g3⟩ := jtz_low n1
      have ej : gm_tz (ab_rd ab_up r1 e1 (gm_in gA gC gB k, jshl 1 (nI k)) 30).1 = j := by
        unfold gm_tz
        rw [g1, nI_clamp (by omega)]
      rw [ej] at t2 ⊢
      refine ab_add ab_up_ok h1 hk hx (fun p _ => rfl) t2 g2 g3 (fun e => ?_)
      by_cases w : e < 64
      · rw [btl_1 (by omega) w]
        have : decide (e = k) = (e == k) := rfl
        rw [this]
        generalize btl (ab_rd ab_up r1 e1 (gm_in gA gC gB k, jshl 1 (nI k)) 30).2 e = x
        cases x <;> cases (e == k) <;> rfl
      · have q1 : ∀ y : Int64, btl y e = false := fun y => BitVec.getLsbD_of_ge _ _ (by omega)
        have q2 : (e == k) = false := by simp; omega
        rw [q1, q1, q2]; rfl
    · obtain ⟨t1, t2⟩ := mr_hi_ok b2 n2
      obtain ⟨j, hj, g1, g2, g3⟩ := mr_hi_at 30 (by omega) (b30_ne b2 n2)
      have ej : gm_eN (mr_hi (ab_rd ab_dn r2 e2 (gm_in gA gC gB k, (0 : Int64)) 30).1 30) = j := by
        rw [g1]; exact nI_clamp (by omega)
      rw [ej]
      have hd : ab_dn (30 - j - 1) = j := by unfold ab_dn; omega
      have hA := ab_add (i0 := 30 - j - 1) (z := (ab_rd ab_dn r2 e2 (gm_in gA gC gB k, (0 : Int64)) 30).2 ^^^ jshl 1 (nI k)) ab_dn_ok h2 hk hx (fun p _ => rfl) (by omega) (by rw [hd]; exact g2) (fun i hi => g3 (ab_dn i) (by unfold ab_dn; omega) (by unfold ab_dn; omega)) (fun e => ?_)
      · rw [hd] at hA
        exact hA
      · by_cases w : e < 64
        · rw [btl_xor1 _ (by omega) w, l_0, Bool.xor_false]
          rfl
        · have q1 : ∀ y : Int64, btl y e = false := fun y => BitVec.getLsbD_of_ge _ _ (by omega)
          have q2 : (e == k) = false := by simp; omega
          rw [q1, q1, q1, q2]; rfl
/-- both sides' choosing in step -/
theorem ch_step (hP : gP ≤ 30) (hE60 : gE ≤ 60) (hga : ∀ q, gA q < 30) (hgc : ∀ q, gC q < 30) (hE : gr_E gA gC gL nN nL gP gE) (hB : gr_B gP gB gF nB) {o : Nat → Nat} {wt v : Nat → Int32} {h : Bool} (hs : so_S wt o gE) (hw : ∀ e, e < gE → wt e = mr_ord h nL v e)
    {re : Nat → Int64} {l : Int32} {u : Int64} {w : (Nat → Int32) × (Nat → Int64) × (Nat → Bool) × Nat × Int64} (hw0 : ∀ p, p < 30 → w.1 p = nI 0) (hwt : ∀ e, e < gE → w.2.2.1 e = false) (hwc : w.2.2.2.1 = 0) : ∀ i, i ≤ gE →
    ∃ C : Nat → Bool, (∀ e, C e = true → e < gE) ∧ ab_I ab_up gE (ch_v gA gC gB) C (gm_ch o gA gC gB re l u i).1 (gm_ch o gA gC gB re l u i).2.1 ∧ ab_I ab_dn gE (ch_v gA gC gB) C (mr_ch nN nL nB h v gE w i).1 (mr_ch nN nL nB h v gE w i).2.1 ∧ ch_free gE 30 (ch_v gA gC gB) C ∧
      (gm_ch o gA gC gB re l u i).2.2.1 = (mr_ch nN nL nB h v gE w i).2.2.2.1 ∧ ∀ e, e < gE → ((mr_ch nN nL nB h v gE w i).2.2.1 e = true ↔ ∃ j, j < i ∧ o j = e)
  | 0, _ => ⟨fun _ => false, fun e he => absurd (show false = true from he) (by decide), ab_I0 ab_up_ok (fun _ _ => rfl), ab_I0 ab_dn_ok hw0, ch_free0 _ _ _, hwc.symm, fun e he => ⟨fun q => absurd ((hwt e he).symm.trans q) (by decide), fun ⟨j, hj, _⟩ => absurd hj (Nat.not_lt_zero j)⟩⟩
  | i + 1, hi => by
    obtain ⟨C, c0, h1, h2, hf, hc, ht⟩ := ch_step hP hE60 hga hgc hE hB hs hw (re := re) (l := l) (u := u) hw0 hwt hwc i (by omega)
    have hnx := so_pick hE60 hs hw (show i < gE by omega) ht
    have hoi := hs.1 i (by omega)
    have hen : gm_eN (mr_nx (mr_ch nN nL nB h v gE w i).2.2.1 h nL v gE) = o i := by rw [hnx]; exact nI_clamp (by omega)
    rw [gm_ch, mr_ch]
    unfold mr_c1
    rw [hen, ch_row hP hE60 hE hB hoi]
    have htk : ∀ e, e < gE → (gd_uB (mr_ch nN nL nB h v gE w i).2.2.1 (o i) true e = true ↔ ∃ j, j < i + 1 ∧ o j = e) := by
      intro e he
      unfold gd_uB
      by_cases q : e = o i
      · rw [if_pos q]
        exact ⟨fun _ => ⟨i, Nat.lt_succ_self i, q.symm⟩, fun _ => rfl⟩
      · rw [if_neg q, ht e he]
        refine ⟨fun ⟨j, hj, e2⟩ => ⟨j, by omega, e2⟩, fun ⟨j, hj, e2⟩ => ⟨j, ?_, e2⟩⟩
        have : j ≠ i := fun w => q (by rw [← e2, w])
        omega
    rcases ch_both hga hgc hoi hE60 h1 h2 hf with ⟨q1, q2⟩ | ⟨q1, q2, g1, g2, g3⟩
    · rw [if_pos q1, if_pos q2]
      exact ⟨C, c0, h1, h2, hf, hc, htk⟩
    · rw [if_neg q1, if_neg q2]
      refine ⟨_, fun e he => ?_, g1, g2, g3, by show _ + 1 = _ + 1; rw [hc], htk⟩
      by_cases q : e = o i
      · rw [q]; exact hoi
      · have : (e == o i) = false := by simpa using q
        rw [this, Bool.or_false] at he
        exact c0 e he
/-- the answer that the chosen edges give -/
theorem ch_ans {C : Nat → Bool} {r1 r2 : Nat → Int32} {e1 e2 : Nat → Int64} {v : Nat → Nat → Bool} (c0 : ∀ e, C e = true → e < gE) (h1 : ab_I ab_up gE v C r1 e1) (h2 : ab_I ab_dn gE v C r2 e2) (hf : ch_free gE 30 v C) {x : Int32} (hx : b30 x) :
    gm_sol r1 e1 x = if (mr_lf r2 e2 x 30).1 = nI 0 then (mr_lf r2 e2 x 30).2 else -1 := by
  unfold gm_sol
  rw [ab_gm _ _ _ 30 (Nat.le_refl _), ab_mr _ _ _ 30 (Nat.le_refl _)]
  have z1 := ab_zero (u := (x, (0 : Int64))) ab_up_ok h1 hx
  have z2 := ab_zero (u := (x, (0 : Int64))) ab_dn_ok h2 hx
  by_cases q : ch_in gE 30 v C (bt x)
  · rw [if_pos (z1.mpr q), if_pos (z2.mpr q)]
    obtain ⟨-, -, U, a1, a2, a3⟩ := ab_red (u := (x, (0 : Int64))) ab_up_ok h1 hx 30 (Nat.le_refl _)
    obtain ⟨-, -, V, b1, b2, b3⟩ := ab_red (u := (x, (0 : Int64))) ab_dn_ok h2 hx 30 (Nat.le_refl _)
    rw [z1.mpr q] at a3
    rw [z2.mpr q] at b3
    refine l_ext (fun e he => ?_)
    rw [a2, b2]
    have hUV : U e = V e := by
      by_cases w : e < gE
      · refine ch_uniq hf a1 b1 (fun p hp => ?_) e w
        have p1 := a3 p hp
        have p2 := b3 p hp
        rw [p1] at p2
        revert p2
        cases bt x p <;> cases ch_s gE v U p <;> cases ch_s gE v V p <;> decide
      · have hu : U e = false := by
          by_cases w2 : U e = true
          · exact absurd (c0 e (a1 e w2)) w
          · simpa using w2
        have hv : V e = false := by
          by_cases w2 : V e = true
          · exact absurd (c0 e (b1 e w2)) w
          · simpa using w2
        rw [hu, hv]
    rw [hUV]
  · rw [if_neg (fun w => q (z1.mp w)), if_neg (fun w => q (z2.mp w))]
/-- chosen and answer of both sides -/
theorem ch_all (hP : gP ≤ 30) (hE60 : gE ≤ 60) (hga : ∀ q, gA q < 30) (hgc : ∀ q, gC q < 30) (hE : gr_E gA gC gL nN nL gP gE) (hB : gr_B gP gB gF nB) {bA bC nV : Nat → Int32} {bH : Bool} (hbel : bH = true → ∀ e, e < gE → bA e = nV (2 * e) ∧ bC e = nV (2 * e + 1))
    (o : Nat → Nat) (wt : Nat → Int32) (re : Nat → Int64) (l : Int32) (u : Int64) (nJ : Nat → Int32) (nK : Nat → Int64) (nM : Nat → Bool) (nmm : Int64) :
    (gm_ch (gm_po o wt bH gL bA bC gE).1 gA gC gB re l u gE).2.2.1 = (mr_ch nN nL nB bH nV gE (gm_fill nJ (nI 0) 30, mr_fJ nK 30, mr_ff nM 60, 0, nmm) gE).2.2.2.1 ∧
    gm_sol (gm_ch (gm_po o wt bH gL bA bC gE).1 gA gC gB re l u gE).1 (gm_ch (gm_po o wt bH gL bA bC gE).1 gA gC gB re l u gE).2.1 gF =
      if (mr_lf (mr_ch nN nL nB bH nV gE (gm_fill nJ (nI 0) 30, mr_fJ nK 30, mr_ff nM 60, 0, nmm) gE).1 (mr_ch nN nL nB bH nV gE (gm_fill nJ (nI 0) 30, mr_fJ nK 30, mr_ff nM 60, 0, nmm) gE).2.1 gF 30).1 = nI 0 then (mr_lf (mr_ch nN nL nB bH nV gE (gm_fill nJ (nI 0) 30, mr_fJ nK 30, mr_ff nM 60, 0, nmm) gE).1 (mr_ch nN nL nB bH nV gE (gm_fill nJ (nI 0) 30, mr_fJ nK 30, mr_ff nM 60, 0, nmm) gE).2.1 gF 30).2 else -1 := by
  obtain ⟨s1, s2⟩ := so_po o wt bH gL bA bC gE
  have hw : ∀ e, e < gE → (gm_po o wt bH gL bA bC gE).2 e = mr_ord bH nL nV e := by
    intro e he
    rw [s2 e he]
    unfold gm_wt mr_ord
    have hl := (hE e he).2.2.1
    cases hb : bH
    · rw [if_pos rfl, if_pos rfl, hl]
    · rw [if_neg (by decide), if_neg (by decide)]
      unfold gm_bel mr_bel
      rw [hl, (hbel hb e he).1, (hbel hb e he).2]
  obtain ⟨C, c0, h1, h2, hf, hc, -⟩ := ch_step hP hE60 hga hgc hE hB s1 hw (re := re) (l := l) (u := u) (w := (gm_fill nJ (nI 0) 30, mr_fJ nK 30, mr_ff nM 60, 0, nmm)) (fun p hp => gm_fill_at nJ (nI 0) 30 p hp) (fun e he => mr_ff_at nM 60 e (by omega)) rfl gE (Nat.le_refl _)
  exact ⟨hc, ch_ans c0 h1 h2 hf (fun i hi => hB.2.2.1 i (by omega))⟩
end CHO
