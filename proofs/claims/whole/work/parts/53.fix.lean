/-! both sides' fix -/
theorem gm_cn_bound {x : Int32} {P : Nat} (h : ∀ q, P ≤ q → bt x q = false) : ∀ n, n ≤ 32 → gm_cn x n ≤ P
  | 0, _ => Nat.zero_le _
  | n + 1, hn => by
    have ih := gm_cn_bound h n (by omega)
    have hl := gm_cn_le x n
    rw [gm_cn]
    by_cases q : jb x (nI n) = nI 0
    · rw [if_pos q]; exact ih
    · rw [if_neg q]
      have hb := (jb_n0 (by omega)).mp q
      have : n < P := by
        by_cases w : n < P
        · exact w
        · rw [h n (by omega)] at hb; cases hb
      omega
theorem fx_root {L A : Nat → Nat} {M : Nat → Int32} {P : Nat} {bd fr : Int32} {b : Nat → Bool} (hP : P ≤ 30) (hA : ∀ p, p < P → L p = A p) (hM : od_M L M P) (hB : gr_B P bd fr b) {p : Nat} (hp : p < P) (hl : L p = p) :
    gm_rootN M bd p = mr_rt A b p P 0 ∧ mr_rt A b p P 0 < P ∧ L (mr_rt A b p P 0) = p := by
  have hm := hM p hp hl
  have hbit : ∀ q, q < 32 → bt (M p &&& bd) q = ((decide (q < P) && decide (L q = p)) && bt bd q) := fun q hq => by rw [b_and, hm q hq]
  unfold gm_rootN gm_root
  rcases fl_rt (a := A) (b := b) (c := p) P 0 with ⟨q1, q2⟩ | ⟨-, q2, q3, q4, q5⟩
  · have hz : M p &&& bd = nI 0 := b_ext (fun q hq => by
      rw [hbit q hq, show bt (nI 0) q = false from b_0 q]
      by_cases w : q < P
      · rw [decide_eq_true w, Bool.true_and]
        by_cases w2 : L q = p
        · rw [decide_eq_true w2, Bool.true_and, hB.1 q w]
          by_cases w3 : b q = true
          · exact absurd ⟨by rw [← hA q w]; exact w2, w3⟩ (q2 q (Nat.zero_le _) (by omega))
          · simpa using w3
        · rw [decide_eq_false w2]; rfl
      · rw [decide_eq_false w]; rfl)
    rw [if_pos hz, q1, nI_clamp (by omega)]
    exact ⟨rfl, hp, hl⟩
  · obtain ⟨r, hr⟩ : ∃ r, r = mr_rt A b p P 0 := ⟨_, rfl⟩
    rw [← hr] at q2 q3 q4 q5 ⊢
    have hrP : r < P := by omega
    have hLr : L r = p := by rw [hA r hrP]; exact q3
    have hbr : bt (M p &&& bd) r = true := by rw [hbit r (by omega), decide_eq_true hrP, decide_eq_true hLr, hB.1 r hrP, q4]; rfl
    have hnz : ¬ M p &&& bd = nI 0 := fun w => by rw [w, show bt (nI 0) r = false from b_0 r] at hbr; cases hbr
    rw [if_neg hnz]
    obtain ⟨k, hk, g1, g2, g3⟩ := jtz_low hnz
    rw [g1, nI_clamp (by omega)]
    have hkr : k = r := by
      rcases Nat.lt_trichotomy k r with w | w | w
      · exfalso
        rw [hbit k hk, Bool.and_eq_true, Bool.and_eq_true] at g2
        have kP : k < P := of_decide_eq_true g2.1.1
        have kL : L k = p := of_decide_eq_true g2.1.2
        exact q5 k (Nat.zero_le _) w ⟨by rw [← hA k kP]; exact kL, by rw [← hB.1 k kP]; exact g2.2⟩
      · exact w
      · rw [g3 r w] at hbr; cases hbr
    exact ⟨hkr, hrP, hLr⟩
theorem fx_eq {gA gC gL nN nL : Nat → Nat} {P E : Nat} {gB gF : Int32} {nB : Nat → Bool} (hP : P ≤ 30) (hE60 : E ≤ 60) (hga : ∀ q, gA q < 30) (hgc : ∀ q, gC q < 30) (hn30 : ∀ q, nN q < 30) (hE : gr_E gA gC gL nN nL P E) (hB : gr_B P gB gF nB)
    {u : (Nat → Nat) × (Nat → Int32) × (Nat → Int32) × Int32 × Int64 × Nat} {w : (Nat → Nat) × (Nat → Int32) × (Nat → Bool) × (Nat → Bool) × Int64 × Nat} (h : go_I gA gC P E u w) {vR : Nat → Int32} {vK : Nat → Nat} (hvR : ∀ q, gm_RB (vR q)) (hvK : ∀ q, vK q < 30) (sn : Int32) (vW : Nat) (nW : Nat → Bool) :
    (gm_over (true, u) vR vK sn vW gA gC gB gF P E).2.2.2.2 = (mr_fx w.1 nB nW gF w.2.2.2.2.1 0 nN P E E).1 := by
  obtain ⟨⟨hA, hL, hM, -, hBr, hI⟩, -⟩ := h
  have hab : ∀ e, e < E → gA e < P ∧ gC e < P ∧ gA e ≠ gC e := fun e he => ⟨(hE e he).2.2.2.1, (hE e he).2.2.2.2.1, (hE e he).2.2.2.2.2.1⟩
  have hn : ∀ e, e < E → nN (2 * e) = gA e ∧ nN (2 * e + 1) = gC e := fun e he => ⟨(hE e he).1, (hE e he).2.1⟩
  rw [← hBr]
  show (gm_pl (gm_walk vR vK u.1 u.2.1 gB P E gA gC u.2.2.2.2.1).2.1 (gm_walk vR vK u.1 u.2.1 gB P E gA gC u.2.2.2.2.1).2.2.1 (gm_walk vR vK u.1 u.2.1 gB P E gA gC u.2.2.2.2.1).2.2.2 gA gC gF 0 (gm_walk vR vK u.1 u.2.1 gB P E gA gC u.2.2.2.2.1).2.2.2).2 = _
  have hrt : ∀ p, p < P → u.1 p = p → gm_root u.2.1 gB p = nI (gm_rootN u.2.1 gB p) ∧ gm_rootN u.2.1 gB p < 30 := fun p hp _ => gm_root_ok (fun i hi => hB.2.1 i (by omega)) (by omega)
  have hWI := gm_walk_WI (r := vR) (k := vK) (l := u.1) (m := u.2.1) (bd := gB) (P := P) (E := E) (a := gA) (c := gC) (br := u.2.2.2.2.1) hvR hvK hrt hE60 hga hgc
  obtain ⟨w1a, w1b⟩ := pe_w1 (a := gA) (c := gC) (E := E) (br := u.2.2.2.2.1) (L := u.1) (R := fun c => mr_rt w.1 nB c P 0) (r0 := vR) (k0 := vK) (M := u.2.1) (bd := gB) hP (fun p hp hl => fx_root hP hA hM hB hp hl) P (Nat.le_refl _)
  obtain ⟨w2a, w2b, w2c⟩ := pe_w2 hP hE60 hab w1a P
  have hwk : gm_w2 (gm_w1 vR vK u.1 u.2.1 gB P) E gA gC u.2.2.2.2.1 P = gm_walk vR vK u.1 u.2.1 gB P E gA gC u.2.2.2.2.1 := rfl
  rw [hwk] at w2a w2b w2c
  generalize gm_walk vR vK u.1 u.2.1 gB P E gA gC u.2.2.2.2.1 = G at hWI w2a w2b w2c ⊢
  have hwP : G.2.2.2 ≤ P := by
    rw [hWI.1]
    refine gm_cn_bound (fun q hq => ?_) 30 (by omega)
    by_cases z : bt G.1 q = true
    · have := (w2a.2.1 q z).1; omega
    · simpa using z
  -- what was seen is closed
  have hcl : ∀ e, e < E → btl u.2.2.2.2.1 e = true → bt G.1 (gA e) = bt G.1 (gC e) := by
    intro e he hb
    have k1 : bt G.1 (gA e) = true → bt G.1 (gC e) = true := fun z => by
      obtain ⟨-, i, hi, ei⟩ := w2a.2.1 _ z
      exact (w2c i (by omega) hi e he hb).1 ei.symm
    have k2 : bt G.1 (gC e) = true → bt G.1 (gA e) = true := fun z => by
      obtain ⟨-, i, hi, ei⟩ := w2a.2.1 _ z
      exact (w2c i (by omega) hi e he hb).2 ei.symm
    cases z1 : bt G.1 (gA e) <;> cases z2 : bt G.1 (gC e)
    · rfl
    · rw [k2 z2] at z1; cases z1
    · rw [k1 z1] at z2; cases z2
    · rfl
  have hseen : ∀ p, p < P → bt G.1 p = true := by
    intro p hp
    have hlp := hL p hp
    obtain ⟨-, r1, r2⟩ := fx_root hP hA hM hB (show u.1 p < P by omega) hlp.2
    have hr := w2b.1 _ (w1b (u.1 p) (by omega) hlp.2)
    have := hI.2.2 (bt G.1) hcl p (mr_rt w.1 nB (u.1 p) P 0) hp r1 (by unfold jo_cl; rw [if_pos hp, if_pos r1, r2])
    rw [this]; exact hr
  obtain ⟨f1, -, f3⟩ := pe_pl hP hE60 hab (fr := gF) w2a G.2.2.2 (Nat.le_refl _)
  generalize gm_pl G.2.1 G.2.2.1 G.2.2.2 gA gC gF 0 G.2.2.2 = F at f1 f3 ⊢
  have hd : ∀ p, p < P → p ≠ mr_rt w.1 nB (u.1 p) P 0 → fo_d E gA gC (btl F.2) p = bt gF p := by
    intro p hp hne
    obtain ⟨-, j, hj, ej⟩ := w2a.2.1 p (hseen p hp)
    have := f3 j (by omega) hj (fun z => by
      rcases w2a.2.2.2 j hj with q | ⟨e, he, q1, -⟩
      · rw [ej] at q; exact hne q.2
      · rw [q1] at z
        have := congrArg Int32.toInt z
        rw [nI_toInt (by omega)] at this
        have h2 : (-1 : Int32).toInt = -1 := rfl
        omega)
    rw [ej] at this
    exact this
  refine l_ext (fun e he => ?_)
  rw [fl_fx hP hE60 hn30 hab hn hL hA hI (F := btl F.2) (fun e he => (f1 e he).2.1) hd nW E (Nat.le_refl _) e he]
  by_cases z : e < E
  · rw [decide_eq_true z, Bool.true_and]
  · cases z2 : btl F.2 e
    · rw [Bool.and_false]
    · exact absurd (f1 e z2).1 z
theorem gm_go_lt {a c k : Nat → Nat} {bd fr : Int32} {P E : Nat} : ∀ (n : Nat) (u : (Nat → Nat) × (Nat → Int32) × (Nat → Int32) × Int32 × Int64 × Nat), (∀ q, u.1 q < 30) → ∀ q, (gm_go a c k bd fr P E n u).2.1 q < 30
  | 0, u, h, q => h q
  | n + 1, u, h, q => by
    rw [gm_go]
    split
    · exact h q
    · split
      · exact h q
      · exact gm_go_lt n _ (gm_jf_lt h E) q
theorem gm_over_ok {gr : Bool × ((Nat → Nat) × (Nat → Int32) × (Nat → Int32) × Int32 × Int64 × Nat)} {r : Nat → Int32} {k : Nat → Nat} {sn : Int32} {w : Nat} {a c : Nat → Nat} {bd fr : Int32} {P E : Nat} (hP : P ≤ 30) (hE : E ≤ 60) (hr : ∀ q, gm_RB (r q)) (hk : ∀ q, k q < 30) (ha : ∀ q, a q < 30) (hc : ∀ q, c q < 30) (hbd : ∀ i, 30 ≤ i → bt bd i = false) :
    (∀ q, gm_RB ((gm_over gr r k sn w a c bd fr P E).2.1 q)) ∧ ∀ q, (gm_over gr r k sn w a c bd fr P E).2.2.1 q < 30 := by
  obtain ⟨g, u⟩ := gr
  cases g
  · exact ⟨hr, hk⟩
  · have hWI := gm_walk_WI (r := r) (k := k) (l := u.1) (m := u.2.1) (bd := bd) (P := P) (E := E) (a := a) (c := c) (br := u.2.2.2.2.1) hr hk (fun p hp _ => gm_root_ok hbd (by omega)) hE ha hc
    exact ⟨hWI.2.2, hWI.2.1⟩
