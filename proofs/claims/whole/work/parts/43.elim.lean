/-! rows put to order one by one: the same edges are chosen, by the lowest or by the highest place -/
def ab_rd (sg : Nat → Nat) (rp : Nat → Int32) (re : Nat → Int64) (u : Int32 × Int64) : Nat → Int32 × Int64
  | 0 => u
  | i + 1 => if bt (ab_rd sg rp re u i).1 (sg i) = false then ab_rd sg rp re u i else if rp (sg i) = nI 0 then ab_rd sg rp re u i else ((ab_rd sg rp re u i).1 ^^^ rp (sg i), (ab_rd sg rp re u i).2 ^^^ re (sg i))
def ab_up (i : Nat) : Nat := i
def ab_dn (i : Nat) : Nat := 30 - i - 1
theorem ab_gm (rp : Nat → Int32) (re : Nat → Int64) (u : Int32 × Int64) : ∀ n, n ≤ 30 → gm_rd rp re u n = ab_rd ab_up rp re u n
  | 0, _ => rfl
  | n + 1, h => by
    rw [gm_rd, ab_rd, ab_gm rp re u n (by omega)]
    show _ = if bt (ab_rd ab_up rp re u n).1 n = false then _ else if rp n = nI 0 then _ else (_ ^^^ rp n, _ ^^^ re n)
    cases q : bt (ab_rd ab_up rp re u n).1 n
    · rw [if_pos ((jb_0 (by omega)).mpr q), if_pos rfl]
    · rw [if_neg (fun w => by rw [(jb_0 (by omega)).mp w] at q; cases q), if_neg (show ¬ true = false by decide)]
theorem ab_mr (rp : Nat → Int32) (re : Nat → Int64) (x : Int32) : ∀ n, n ≤ 30 → mr_lf rp re x n = ab_rd ab_dn rp re (x, 0) n
  | 0, _ => rfl
  | n + 1, h => by
    rw [mr_lf, ab_rd, ab_mr rp re x n (by omega)]
    show _ = if bt (ab_rd ab_dn rp re (x, 0) n).1 (30 - n - 1) = false then _ else if rp (30 - n - 1) = nI 0 then _ else (_ ^^^ rp (30 - n - 1), _ ^^^ re (30 - n - 1))
    cases q : bt (ab_rd ab_dn rp re (x, 0) n).1 (30 - n - 1)
    · rw [if_pos ((jbs_0 (by omega)).mpr q), if_pos rfl]
    · rw [if_neg (fun w => by rw [(jbs_0 (by omega)).mp w] at q; cases q), if_neg (show ¬ true = false by decide)]
def ab_ok (sg : Nat → Nat) : Prop := (∀ i, i < 30 → sg i < 30) ∧ (∀ i j, i < 30 → j < 30 → sg i = sg j → i = j) ∧ ∀ p, p < 30 → ∃ i, i < 30 ∧ sg i = p
theorem ab_up_ok : ab_ok ab_up := ⟨fun _ h => h, fun _ _ _ _ h => h, fun p h => ⟨p, h, rfl⟩⟩
theorem ab_dn_ok : ab_ok ab_dn := by
  refine ⟨fun i h => ?_, fun i j hi hj h => ?_, fun p h => ⟨30 - p - 1, by omega, ?_⟩⟩
  · unfold ab_dn; omega
  · unfold ab_dn at h; omega
  · unfold ab_dn; omega
def ab_I (sg : Nat → Nat) (E : Nat) (v : Nat → Nat → Bool) (C : Nat → Bool) (rp : Nat → Int32) (re : Nat → Int64) : Prop :=
  (∀ i, i < 30 → b30 (rp (sg i))) ∧
  (∀ i, i < 30 → ¬ rp (sg i) = nI 0 → bt (rp (sg i)) (sg i) = true ∧ (∀ j, j < i → bt (rp (sg i)) (sg j) = false) ∧ (∀ e, btl (re (sg i)) e = true → C e = true) ∧ ∀ p, p < 30 → ch_s E v (btl (re (sg i))) p = bt (rp (sg i)) p) ∧
  (∀ F : Nat → Bool, (∀ e, F e = true → C e = true) → (∃ p, p < 30 ∧ ch_s E v F p = true) → ∃ i, i < 30 ∧ ¬ rp (sg i) = nI 0 ∧ ch_s E v F (sg i) = true ∧ ∀ j, j < i → ch_s E v F (sg j) = false)
theorem ab_I0 {sg : Nat → Nat} {E : Nat} {v : Nat → Nat → Bool} {rp : Nat → Int32} {re : Nat → Int64} (hs : ab_ok sg) (h : ∀ p, p < 30 → rp p = nI 0) : ab_I sg E v (fun _ => false) rp re := by
  refine ⟨fun i hi => by rw [h _ (hs.1 i hi)]; exact b30_0, fun i hi hn => absurd (h _ (hs.1 i hi)) hn, fun F hF ⟨p, hp, q⟩ => ?_⟩
  have : ch_s E v F p = false := mx_false (fun e _ => by
    by_cases w : F e = true
    · exact absurd (show false = true from hF e w) (by decide)
    · have w2 : F e = false := by simpa using w
      show (F e && v e p) = false
      rw [w2]; rfl)
  rw [this] at q
  cases q
theorem bxx (a b c : Bool) : ((a ^^ b) ^^ c) = (a ^^ (b ^^ c)) := by cases a <;> cases b <;> cases c <;> rfl
/-- what a reduction leaves, and of what it is made -/
theorem ab_red {sg : Nat → Nat} {E : Nat} {v : Nat → Nat → Bool} {C : Nat → Bool} {rp : Nat → Int32} {re : Nat → Int64} (hs : ab_ok sg) (hI : ab_I sg E v C rp re) {u : Int32 × Int64} (hu : b30 u.1) : ∀ n, n ≤ 30 →
    b30 (ab_rd sg rp re u n).1 ∧ (∀ i, i < n → ¬ rp (sg i) = nI 0 → bt (ab_rd sg rp re u n).1 (sg i) = false) ∧
    ∃ U : Nat → Bool, (∀ e, U e = true → C e = true) ∧ (∀ e, btl (ab_rd sg rp re u n).2 e = (btl u.2 e ^^ U e)) ∧ ∀ p, p < 30 → bt (ab_rd sg rp re u n).1 p = (bt u.1 p ^^ ch_s E v U p)
  | 0, _ => ⟨hu, fun i h => absurd h (Nat.not_lt_zero i), fun _ => false, fun e h => absurd (show false = true from h) (by decide), fun e => by show _ = (_ ^^ false); rw [Bool.xor_false]; rfl, fun p _ => by rw [ch_s0, Bool.xor_false]; rfl⟩
  | n + 1, hn => by
    obtain ⟨h1, h2, U, h3, h4, h5⟩ := ab_red hs hI hu n (by omega)
    rw [ab_rd]
    by_cases c1 : bt (ab_rd sg rp re u n).1 (sg n) = false
    · rw [if_pos c1]
      refine ⟨h1, fun i hi hr => ?_, U, h3, h4, h5⟩
      by_cases e : i = n
      · rw [e]; exact c1
      · exact h2 i (by omega) hr
    · rw [if_neg c1]
      by_cases c2 : rp (sg n) = nI 0
      · rw [if_pos c2]
        refine ⟨h1, fun i hi hr => ?_, U, h3, h4, h5⟩
        by_cases e : i = n
        · rw [e] at hr; exact absurd c2 hr
        · exact h2 i (by omega) hr
      · rw [if_neg c2]
        obtain ⟨g1, g2, g3, g4⟩ := hI.2.1 n (by omega) c2
        have c1' : bt (ab_rd sg rp re u n).1 (sg n) = true := by simpa using c1
        refine ⟨b30_xor h1 (hI.1 n (by omega)), fun i hi hr => ?_, fun e => U e ^^ btl (re (sg n)) e, fun e he => ?_, fun e => ?_, fun p hp => ?_⟩
        · show bt (_ ^^^ _) _ = false
          rw [b_xor]
          by_cases e : i = n
          · rw [e, g1, c1']; rfl
          · rw [h2 i (by omega) hr, g2 i (by omega)]; rfl
        · have he : (U e ^^ btl (re (sg n)) e) = true := he
          by_cases w : U e = true
          · exact h3 e w
          · have w2 : U e = false := by simpa using w
            rw [w2, Bool.false_xor] at he
            exact g3 e he
        · show btl (_ ^^^ _) e = _
          rw [l_xor, h4, bxx]
        · show bt (_ ^^^ _) p = _
          rw [b_xor, h5 p hp, ch_sx, g4 p hp, bxx]
theorem b30_zero {x : Int32} (h : b30 x) (h2 : ∀ p, p < 30 → bt x p = false) : x = nI 0 := by
  refine b_ext (fun i hi => ?_)
  rw [show bt (nI 0) i = false from b_0 i]
  by_cases q : i < 30
  · exact h2 i q
  · exact h i (by omega)
/-- nothing is left, just when the chosen edges make it -/
theorem ab_zero {sg : Nat → Nat} {E : Nat} {v : Nat → Nat → Bool} {C : Nat → Bool} {rp : Nat → Int32} {re : Nat → Int64} (hs : ab_ok sg) (hI : ab_I sg E v C rp re) {u : Int32 × Int64} (hu : b30 u.1) : (ab_rd sg rp re u 30).1 = nI 0 ↔ ch_in E 30 v C (bt u.1) := by
  obtain ⟨h1, h2, U, h3, h4, h5⟩ := ab_red hs hI hu 30 (Nat.le_refl _)
  constructor
  · intro h
    refine ⟨U, h3, fun p hp => ?_⟩
    have := h5 p hp
    rw [h, show bt (nI 0) p = false from b_0 p] at this
    revert this
    cases bt u.1 p <;> cases ch_s E v U p <;> decide
  · intro ⟨F, hF, hf⟩
    by_cases q : (ab_rd sg rp re u 30).1 = nI 0
    · exact q
    · exfalso
      obtain ⟨p, hp, hb⟩ := b30_ne h1 q
      have hFU : ∀ p, p < 30 → ch_s E v (fun e => F e ^^ U e) p = bt (ab_rd sg rp re u 30).1 p := fun p hp => by rw [ch_sx, hf p hp, h5 p hp]
      obtain ⟨i, hi, w1, w2, -⟩ := hI.2.2 (fun e => F e ^^ U e) (fun e he => by
        have he : (F e ^^ U e) = true := he
        by_cases w : F e = true
        · exact hF e w
        · have w2 : F e = false := by simpa using w
          rw [w2, Bool.false_xor] at he
          exact h3 e he) ⟨p, hp, by rw [hFU p hp]; exact hb⟩
      rw [hFU _ (hs.1 i hi), h2 i hi w1] at w2
      cases w2
/-- one edge more -/
theorem ab_add {sg : Nat → Nat} {E : Nat} {v : Nat → Nat → Bool} {C : Nat → Bool} {rp : Nat → Int32} {re : Nat → Int64} (hs : ab_ok sg) (hI : ab_I sg E v C rp re) {k : Nat} (hk : k < E) {x : Int32} {y : Int64} (hx : b30 x) (hxv : ∀ p, p < 30 → bt x p = v k p)
    {i0 : Nat} (hi0 : i0 < 30) (hb : bt (ab_rd sg rp re (x, y) 30).1 (sg i0) = true) (hlow : ∀ j, j < i0 → bt (ab_rd sg rp re (x, y) 30).1 (sg j) = false) {z : Int64} (hz : ∀ e, btl z e = (btl (ab_rd sg rp re (x, y) 30).2 e ^^ btl y e ^^ (e == k))) :
    ab_I sg E v (fun e => C e || (e == k)) (upd rp (sg i0) (ab_rd sg rp re (x, y) 30).1) (vp_updL re (sg i0) z) := by
  obtain ⟨h1, h2, U, h3, h4, h5⟩ := ab_red hs hI (u := (x, y)) hx 30 (Nat.le_refl _)
  generalize ab_rd sg rp re (x, y) 30 = r at h1 h2 h4 h5 hb hlow hz ⊢
  have hz' : ∀ e, btl z e = (U e ^^ (e == k)) := fun e => by
    rw [hz, h4]
    show ((btl y e ^^ U e) ^^ btl y e ^^ (e == k)) = _
    cases btl y e <;> cases U e <;> cases (e == k) <;> rfl
  have hno : rp (sg i0) = nI 0 := by
    by_cases q : rp (sg i0) = nI 0
    · exact q
    · rw [h2 i0 hi0 q] at hb; cases hb
  have hu0 : upd rp (sg i0) r.1 (sg i0) = r.1 := by unfold upd; rw [if_pos rfl]
  have hu1 : ∀ i, i < 30 → i ≠ i0 → upd rp (sg i0) r.1 (sg i) = rp (sg i) := fun i hi hn => by unfold upd; rw [if_neg (fun q => hn (hs.2.1 i i0 hi hi0 q))]
  have hl0 : vp_updL re (sg i0) z (sg i0) = z := by unfold vp_updL; rw [if_pos rfl]
  have hl1 : ∀ i, i < 30 → i ≠ i0 → vp_updL re (sg i0) z (sg i) = re (sg i) := fun i hi hn => by unfold vp_updL; rw [if_neg (fun q => hn (hs.2.1 i i0 hi hi0 q))]
  have hr0 : ¬ r.1 = nI 0 := fun q => by rw [q, show bt (nI 0) (sg i0) = false from b_0 _] at hb; cases hb
  have hrow : ∀ p, p < 30 → ch_s E v (btl z) p = bt r.1 p := fun p hp => by
    have : ch_s E v (btl z) p = ch_s E v (fun e => U e ^^ (e == k)) p := by
      unfold ch_s
      exact mx_congr (fun e _ => by rw [hz'])
    rw [this, ch_sx, ch_s1 hk, h5 p hp]
    show _ = (bt x p ^^ _)
    rw [hxv p hp, Bool.xor_comm]
  have hU : ∀ e, btl z e = true → (C e || (e == k)) = true := fun e he => by
    rw [hz'] at he
    by_cases w : U e = true
    · rw [h3 e w]; rfl
    · have w2 : U e = false := by simpa using w
      rw [w2, Bool.false_xor] at he
      rw [he, Bool.or_true]
  refine ⟨fun i hi => ?_, fun i hi hn => ?_, fun F hF hne => ?_⟩
  · by_cases q : i = i0
    · rw [q, hu0]; exact h1
    · rw [hu1 i hi q]; exact hI.1 i hi
  · by_cases q : i = i0
    · rw [q, hu0, hl0]
      exact ⟨hb, hlow, hU, hrow⟩
    · rw [hu1 i hi q] at hn ⊢
      rw [hl1 i hi q]
      obtain ⟨g1, g2, g3, g4⟩ := hI.2.1 i hi hn
      exact ⟨g1, g2, fun e he => by show (C e || _) = true; rw [g3 e he]; rfl, g4⟩
  · have hC : ∀ e, F e = true → e ≠ k → C e = true := fun e he hn => by
      have q : (C e || (e == k)) = true := hF e he
      have : (e == k) = false := by simpa using hn
      rw [this, Bool.or_false] at q
      exact q
    by_cases hFk : F k = true
    · -- F, with the row taken out
      have hG : ∀ e, (F e ^^ btl z e) = true → C e = true := fun e he => by
        by_cases q : e = k
        · rw [q, hFk, hz', show (k == k) = true by simp] at he
          have : U k = true := by
            revert he
            cases U k <;> decide
          rw [q]; exact h3 k this
        · by_cases w : F e = true
          · exact hC e w q
          · have w2 : F e = false := by simpa using w
            have q2 : (e == k) = false := by simpa using q
            rw [w2, Bool.false_xor, hz', q2, Bool.xor_false] at he
            exact h3 e he
      have hsF : ∀ p, p < 30 → ch_s E v F p = (ch_s E v (fun e => F e ^^ btl z e) p ^^ bt r.1 p) := fun p hp => by
        rw [ch_sx, hrow p hp, bxx, Bool.xor_self, Bool.xor_false]
      by_cases hG0 : ∃ p, p < 30 ∧ ch_s E v (fun e => F e ^^ btl z e) p = true
      · obtain ⟨i, hi, w1, w2, w3⟩ := hI.2.2 (fun e => F e ^^ btl z e) hG hG0
        have hii : i ≠ i0 := fun q => w1 (q ▸ hno)
        rcases Nat.lt_or_gt_of_ne hii with q | q
        · refine ⟨i, hi, by rw [hu1 i hi hii]; exact w1, by rw [hsF _ (hs.1 i hi), w2, h2 i hi w1]; rfl, fun j hj => ?_⟩
          rw [hsF _ (hs.1 j (by omega)), w3 j hj, hlow j (by omega)]; rfl
        · refine ⟨i0, hi0, by rw [hu0]; exact hr0, by rw [hsF _ (hs.1 i0 hi0), w3 i0 q, hb]; rfl, fun j hj => ?_⟩
          rw [hsF _ (hs.1 j (by omega)), w3 j (by omega), hlow j hj]; rfl
      · have hG1 : ∀ p, p < 30 → ch_s E v (fun e => F e ^^ btl z e) p = false := fun p hp => by
          by_cases w : ch_s E v (fun e => F e ^^ btl z e) p = true
          · exact absurd ⟨p, hp, w⟩ hG0
          · simpa using w
        refine ⟨i0, hi0, by rw [hu0]; exact hr0, by rw [hsF _ (hs.1 i0 hi0), hG1 _ (hs.1 i0 hi0), hb]; rfl, fun j hj => ?_⟩
        rw [hsF _ (hs.1 j (by omega)), hG1 _ (hs.1 j (by omega)), hlow j hj]; rfl
    · obtain ⟨i, hi, w1, w2, w3⟩ := hI.2.2 F (fun e he => hC e he (fun q => hFk (q ▸ he))) hne
      have hii : i ≠ i0 := fun q => w1 (q ▸ hno)
      exact ⟨i, hi, by rw [hu1 i hi hii]; exact w1, w2, w3⟩
