/-! the reference's growing, as functions -/
def mr_fo (a : Nat → Nat) (b : Nat → Bool) (fr : Int32) (c : Nat) : Nat → Int32 × Bool
  | 0 => (nI 0, false)
  | p + 1 => if a p = c then ((mr_fo a b fr c p).1 + jbs fr (nI p), (mr_fo a b fr c p).2 || b p) else mr_fo a b fr c p
abbrev mr_par (n : Int32) : Int32 := n - n / nI 2 * nI 2
def mr_is (a : Nat → Nat) (b : Nat → Bool) (fr : Int32) (P c : Nat) : Bool := decide (mr_par (mr_fo a b fr c P).1 = nI 1) && !(mr_fo a b fr c P).2
def mr_fs (o : Nat → Bool) (a : Nat → Nat) (c : Nat) (v : Bool) : Nat → (Nat → Bool)
  | 0 => o
  | p + 1 => if a p = c then gd_uB (mr_fs o a c v p) p v else mr_fs o a c v p
def mr_fd (o : Nat → Bool) (a : Nat → Nat) (b : Nat → Bool) (fr : Int32) (P : Nat) : Nat → (Nat → Bool) × Bool
  | 0 => (o, false)
  | c + 1 => (mr_fs (mr_fd o a b fr P c).1 a c (mr_is a b fr P c) P, (mr_fd o a b fr P c).2 || mr_is a b fr P c)
def mr_gstep (s : (Nat → Int32) × (Nat → Bool) × Bool) (k : Nat → Nat) (e m : Nat) (t : Bool) : (Nat → Int32) × (Nat → Bool) × Bool :=
  (upd s.1 e (s.1 e + nI m), gd_uB (gd_uB s.2.1 e false) e (!decide (upd s.1 e (s.1 e + nI m) e < nI (k e))), s.2.2 || t)
/-- size, isFull, any -/
def mr_ge (sz : Nat → Int32) (u o : Nat → Bool) (n k : Nat → Nat) : Nat → (Nat → Int32) × (Nat → Bool) × Bool
  | 0 => (sz, u, false)
  | e + 1 => if (mr_ge sz u o n k e).1 e < nI (k e) then
      (if o (n (2 * e)) = true then (if o (n (2 * e + 1)) = true then mr_gstep (mr_ge sz u o n k e) k e 2 true else mr_gstep (mr_ge sz u o n k e) k e 1 true)
       else (if o (n (2 * e + 1)) = true then mr_gstep (mr_ge sz u o n k e) k e 1 true else mr_gstep (mr_ge sz u o n k e) k e 0 false))
    else ((mr_ge sz u o n k e).1, gd_uB (mr_ge sz u o n k e).2.1 e false, (mr_ge sz u o n k e).2.2)
def mr_mg (f : Nat → Nat) (o n : Nat) : Nat → (Nat → Nat)
  | 0 => f
  | p + 1 => gd_uN (mr_mg f o n p) p (if mr_mg f o n p p = o then n else mr_mg f o n p p)
def mr_merge (f : Nat → Nat) (x y P : Nat) : Nat → Nat := if y ≤ x then mr_mg f x y P else mr_mg f y x P
theorem mr_mg_lt {f : Nat → Nat} {o n : Nat} (h : ∀ q, f q < 30) (hn : n < 30) : ∀ k q, mr_mg f o n k q < 30
  | 0 => h
  | k + 1 => by
    have ih := mr_mg_lt (o := o) h hn k
    refine gd_uN_lt ih ?_
    split
    · exact hn
    · exact ih k
theorem mr_merge_lt {f : Nat → Nat} {x y P : Nat} (h : ∀ q, f q < 30) (hx : x < 30) (hy : y < 30) : ∀ q, mr_merge f x y P q < 30 := by
  unfold mr_merge
  split
  · exact mr_mg_lt h hy P
  · exact mr_mg_lt h hx P
/-- label, branches -/
def mr_mj (f : Nat → Nat) (br : Int64) (n : Nat → Nat) (u : Nat → Bool) (P : Nat) : Nat → (Nat → Nat) × Int64
  | 0 => (f, br)
  | e + 1 => if u e = false then mr_mj f br n u P e else if (mr_mj f br n u P e).1 (n (2 * e)) = (mr_mj f br n u P e).1 (n (2 * e + 1)) then mr_mj f br n u P e
    else (mr_merge (mr_mj f br n u P e).1 ((mr_mj f br n u P e).1 (n (2 * e))) ((mr_mj f br n u P e).1 (n (2 * e + 1))) P, (mr_mj f br n u P e).2 ||| jshl 1 (nI e))
theorem mr_mj_lt {f : Nat → Nat} {br : Int64} {n : Nat → Nat} {u : Nat → Bool} {P : Nat} (h : ∀ q, f q < 30) : ∀ k q, (mr_mj f br n u P k).1 q < 30
  | 0 => h
  | k + 1 => by
    have ih := mr_mj_lt (br := br) (n := n) (u := u) (P := P) h k
    intro q
    unfold mr_mj
    split
    · exact ih q
    · split
      · exact ih q
      · exact mr_merge_lt ih (ih _) (ih _) q
/-- label, size, isOdd, isFull, branches, rounds -/
def mr_go (b : Nat → Bool) (fr : Int32) (n k : Nat → Nat) (P E : Nat) : Nat → ((Nat → Nat) × (Nat → Int32) × (Nat → Bool) × (Nat → Bool) × Int64 × Nat) → Bool × ((Nat → Nat) × (Nat → Int32) × (Nat → Bool) × (Nat → Bool) × Int64 × Nat)
  | 0, u =>
    if (mr_fd u.2.2.1 u.1 b fr P P).2 = false then (true, (u.1, u.2.1, (mr_fd u.2.2.1 u.1 b fr P P).1, u.2.2.2.1, u.2.2.2.2.1, u.2.2.2.2.2))
    else (false, (u.1, (mr_ge u.2.1 u.2.2.2.1 (mr_fd u.2.2.1 u.1 b fr P P).1 n k E).1, (mr_fd u.2.2.1 u.1 b fr P P).1, (mr_ge u.2.1 u.2.2.2.1 (mr_fd u.2.2.1 u.1 b fr P P).1 n k E).2.1, u.2.2.2.2.1, u.2.2.2.2.2 + 1))
  | g + 1, u =>
    if (mr_fd u.2.2.1 u.1 b fr P P).2 = false then (true, (u.1, u.2.1, (mr_fd u.2.2.1 u.1 b fr P P).1, u.2.2.2.1, u.2.2.2.2.1, u.2.2.2.2.2))
    else if (mr_ge u.2.1 u.2.2.2.1 (mr_fd u.2.2.1 u.1 b fr P P).1 n k E).2.2 = false then (false, (u.1, (mr_ge u.2.1 u.2.2.2.1 (mr_fd u.2.2.1 u.1 b fr P P).1 n k E).1, (mr_fd u.2.2.1 u.1 b fr P P).1, (mr_ge u.2.1 u.2.2.2.1 (mr_fd u.2.2.1 u.1 b fr P P).1 n k E).2.1, u.2.2.2.2.1, u.2.2.2.2.2 + 1))
    else mr_go b fr n k P E g
      ((mr_mj u.1 u.2.2.2.2.1 n (mr_ge u.2.1 u.2.2.2.1 (mr_fd u.2.2.1 u.1 b fr P P).1 n k E).2.1 P E).1, (mr_ge u.2.1 u.2.2.2.1 (mr_fd u.2.2.1 u.1 b fr P P).1 n k E).1, (mr_fd u.2.2.1 u.1 b fr P P).1, (mr_ge u.2.1 u.2.2.2.1 (mr_fd u.2.2.1 u.1 b fr P P).1 n k E).2.1,
       (mr_mj u.1 u.2.2.2.2.1 n (mr_ge u.2.1 u.2.2.2.1 (mr_fd u.2.2.1 u.1 b fr P P).1 n k E).2.1 P E).2, u.2.2.2.2.2 + 1)
/-! the measure: what the sizes lack -/
def mr_sz (x : Int32) : Prop := ∃ s : Nat, s ≤ 22 ∧ x = nI s
def mr_ms (k : Nat → Nat) (sz : Nat → Int32) : Nat → Nat
  | 0 => 0
  | e + 1 => mr_ms k sz e + (k e - (sz e).toNatClampNeg)
theorem mr_ms_same {k : Nat → Nat} {s t : Nat → Int32} : ∀ n, (∀ q, q < n → s q = t q) → mr_ms k s n = mr_ms k t n
  | 0, _ => rfl
  | n + 1, h => by
    unfold mr_ms
    rw [mr_ms_same n (fun q hq => h q (by omega)), h n (by omega)]
theorem mr_ms_le {k : Nat → Nat} {s : Nat → Int32} (hk : ∀ q, k q ≤ 20) : ∀ n, mr_ms k s n ≤ 20 * n
  | 0 => Nat.le_refl 0
  | n + 1 => by
    have ih := mr_ms_le (s := s) hk n
    have := hk n
    unfold mr_ms
    omega
theorem mr_ge_inv {sz : Nat → Int32} {u o : Nat → Bool} {n k : Nat → Nat} (hk : ∀ q, k q ≤ 20) (hs : ∀ q, mr_sz (sz q)) : ∀ e, (∀ q, e ≤ q → (mr_ge sz u o n k e).1 q = sz q) ∧ (∀ q, mr_sz ((mr_ge sz u o n k e).1 q)) ∧
    mr_ms k (mr_ge sz u o n k e).1 e + (if (mr_ge sz u o n k e).2.2 = true then 1 else 0) ≤ mr_ms k sz e
  | 0 => ⟨fun _ _ => rfl, hs, Nat.le_refl 0⟩
  | e + 1 => by
    obtain ⟨h1, h2, h3⟩ := mr_ge_inv (u := u) (o := o) (n := n) hk hs e
    obtain ⟨w, hw, ew⟩ := h2 e
    have hke := hk e
    have hse : sz e = nI w := by rw [← h1 e (Nat.le_refl e)]; exact ew
    have step : ∀ (m : Nat) (t : Bool), m ≤ 2 → (t = true → 1 ≤ m) → (mr_ge sz u o n k e).1 e < nI (k e) →
        (∀ q, e + 1 ≤ q → (mr_gstep (mr_ge sz u o n k e) k e m t).1 q = sz q) ∧ (∀ q, mr_sz ((mr_gstep (mr_ge sz u o n k e) k e m t).1 q)) ∧
        mr_ms k (mr_gstep (mr_ge sz u o n k e) k e m t).1 (e + 1) + (if (mr_gstep (mr_ge sz u o n k e) k e m t).2.2 = true then 1 else 0) ≤ mr_ms k sz (e + 1) := by
      intro m t hm ht hlt
      rw [ew] at hlt
      have hlt' : w < k e := (nI_ltI (by omega) (by omega)).mp hlt
      have hv : (mr_gstep (mr_ge sz u o n k e) k e m t).1 e = nI (w + m) := by
        show upd _ e _ e = _
        unfold upd
        rw [if_pos rfl, ew, nI_add]
      have ho : ∀ q, q ≠ e → (mr_gstep (mr_ge sz u o n k e) k e m t).1 q = (mr_ge sz u o n k e).1 q := by
        intro q hq
        show upd _ e _ q = _
        unfold upd
        rw [if_neg hq]
      refine ⟨fun q hq => by rw [ho q (by omega)]; exact h1 q (by omega), fun q => ?_, ?_⟩
      · by_cases e2 : q = e
        · rw [e2, hv]; exact ⟨w + m, by omega, rfl⟩
        · rw [ho q e2]; exact h2 q
      · have e3 : mr_ms k (mr_gstep (mr_ge sz u o n k e) k e m t).1 e = mr_ms k (mr_ge sz u o n k e).1 e := mr_ms_same e (fun q hq => ho q (by omega))
        have e5 : (mr_gstep (mr_ge sz u o n k e) k e m t).2.2 = ((mr_ge sz u o n k e).2.2 || t) := rfl
        rw [e5]
        show mr_ms k (mr_gstep (mr_ge sz u o n k e) k e m t).1 e + (k e - ((mr_gstep (mr_ge sz u o n k e) k e m t).1 e).toNatClampNeg) + _ ≤ mr_ms k sz e + (k e - (sz e).toNatClampNeg)
        rw [e3, hv, hse, nI_clamp (by omega), nI_clamp (by omega)]
        cases ha : (mr_ge sz u o n k e).2.2 <;> cases t <;> rw [ha] at h3 <;> simp at h3 ht ⊢ <;> omega
    unfold mr_ge
    by_cases c : (mr_ge sz u o n k e).1 e < nI (k e)
    · rw [if_pos c]
      by_cases c1 : o (n (2 * e)) = true
      · rw [if_pos c1]
        by_cases c2 : o (n (2 * e + 1)) = true
        · rw [if_pos c2]; exact step 2 true (by omega) (fun _ => by omega) c
        · rw [if_neg c2]; exact step 1 true (by omega) (fun _ => by omega) c
      · rw [if_neg c1]
        by_cases c2 : o (n (2 * e + 1)) = true
        · rw [if_pos c2]; exact step 1 true (by omega) (fun _ => by omega) c
        · rw [if_neg c2]; exact step 0 false (by omega) (fun h => absurd h (by decide)) c
    · rw [if_neg c]
      refine ⟨fun q hq => h1 q (by omega), h2, ?_⟩
      show mr_ms k (mr_ge sz u o n k e).1 e + (k e - ((mr_ge sz u o n k e).1 e).toNatClampNeg) + _ ≤ mr_ms k sz e + (k e - (sz e).toNatClampNeg)
      rw [h1 e (Nat.le_refl e)]
      have h3' := h3
      dsimp only
      omega
theorem mr_ge_dec {sz : Nat → Int32} {u o : Nat → Bool} {n k : Nat → Nat} {E : Nat} (hk : ∀ q, k q ≤ 20) (hs : ∀ q, mr_sz (sz q)) (h : (mr_ge sz u o n k E).2.2 = true) : mr_ms k (mr_ge sz u o n k E).1 E + 1 ≤ mr_ms k sz E := by
  have := (mr_ge_inv (u := u) (o := o) (n := n) hk hs E).2.2
  rw [h, if_pos rfl] at this
  exact this
theorem mr_ge_sz {sz : Nat → Int32} {u o : Nat → Bool} {n k : Nat → Nat} {E : Nat} (hk : ∀ q, k q ≤ 20) (hs : ∀ q, mr_sz (sz q)) : ∀ q, mr_sz ((mr_ge sz u o n k E).1 q) := (mr_ge_inv (u := u) (o := o) (n := n) hk hs E).2.1
/-! the fix -/
def mr_rt (a : Nat → Nat) (b : Nat → Bool) (c : Nat) : Nat → Nat → Nat
  | 0, _ => c
  | g + 1, p => if a p = c then (if b p = false then mr_rt a b c g (p + 1) else p) else mr_rt a b c g (p + 1)
theorem mr_rt_lt {a : Nat → Nat} {b : Nat → Bool} {c N : Nat} (hc : c < N) : ∀ g p, g + p ≤ N → mr_rt a b c g p < N
  | 0, _, _ => hc
  | g + 1, p, h => by
    unfold mr_rt
    split
    · split
      · exact mr_rt_lt hc g (p + 1) (by omega)
      · omega
    · exact mr_rt_lt hc g (p + 1) (by omega)
def mr_ps (br : Int64) (n : Nat → Nat) (x : Nat) (w : Nat → Bool) : Nat → (Nat → Bool) × Bool
  | 0 => (w, false)
  | e + 1 => if e = x then mr_ps br n x w e else if jbls br (nI e) = 0 then mr_ps br n x w e else if (mr_ps br n x w e).1 (n (2 * e)) = (mr_ps br n x w e).1 (n (2 * e + 1)) then mr_ps br n x w e
    else (gd_uB (gd_uB (mr_ps br n x w e).1 (n (2 * e)) true) (n (2 * e + 1)) true, true)
def mr_fl (br : Int64) (n : Nat → Nat) (x E : Nat) : Nat → (Nat → Bool) → (Nat → Bool)
  | 0, w => (mr_ps br n x w E).1
  | g + 1, w => if (mr_ps br n x w E).2 = false then (mr_ps br n x w E).1 else mr_fl br n x E g (mr_ps br n x w E).1
/-- how many of the first n are not set -/
def mr_cf (w : Nat → Bool) : Nat → Nat
  | 0 => 0
  | n + 1 => mr_cf w n + (if w n = true then 0 else 1)
theorem mr_cf_le (w : Nat → Bool) : ∀ n, mr_cf w n ≤ n
  | 0 => Nat.le_refl 0
  | n + 1 => by
    have ih := mr_cf_le w n
    unfold mr_cf
    split <;> omega
theorem mr_cf_up {w : Nat → Bool} {p : Nat} : ∀ n, mr_cf (gd_uB w p true) n ≤ mr_cf w n ∧ (p < n → w p = false → mr_cf (gd_uB w p true) n + 1 ≤ mr_cf w n)
  | 0 => ⟨Nat.le_refl 0, fun h => absurd h (Nat.not_lt_zero p)⟩
  | n + 1 => by
    obtain ⟨h1, h2⟩ := mr_cf_up (w := w) (p := p) n
    unfold mr_cf
    by_cases e : n = p
    · have : gd_uB w p true n = true := by unfold gd_uB; rw [if_pos e]
      rw [this, if_pos rfl]
      refine ⟨by omega, fun _ hp => ?_⟩
      rw [e, hp, if_neg (by decide)]
      rw [e] at h1
      omega
    · have : gd_uB w p true n = w n := by unfold gd_uB; rw [if_neg e]
      rw [this]
      refine ⟨by omega, fun hp hw => ?_⟩
      have := h2 (by omega) hw
      omega
theorem mr_ps_inv {br : Int64} {n : Nat → Nat} {x : Nat} {w : Nat → Bool} (hn : ∀ q, n q < 30) : ∀ e, mr_cf (mr_ps br n x w e).1 30 + (if (mr_ps br n x w e).2 = true then 1 else 0) ≤ mr_cf w 30
  | 0 => Nat.le_refl _
  | e + 1 => by
    have ih := mr_ps_inv (br := br) (x := x) (w := w) hn e
    unfold mr_ps
    by_cases c1 : e = x
    · rw [if_pos c1]; exact ih
    · rw [if_neg c1]
      by_cases c2 : jbls br (nI e) = 0
      · rw [if_pos c2]; exact ih
      · rw [if_neg c2]
        by_cases c3 : (mr_ps br n x w e).1 (n (2 * e)) = (mr_ps br n x w e).1 (n (2 * e + 1))
        · rw [if_pos c3]; exact ih
        · rw [if_neg c3]
          show mr_cf (gd_uB (gd_uB (mr_ps br n x w e).1 (n (2 * e)) true) (n (2 * e + 1)) true) 30 + 1 ≤ _
          have u1 := mr_cf_up (w := (mr_ps br n x w e).1) (p := n (2 * e)) 30
          have u2 := mr_cf_up (w := gd_uB (mr_ps br n x w e).1 (n (2 * e)) true) (p := n (2 * e + 1)) 30
          have h0 := hn (2 * e)
          have h1 := hn (2 * e + 1)
          have ih' : mr_cf (mr_ps br n x w e).1 30 ≤ mr_cf w 30 := by
            have := ih
            split at this <;> omega
          cases d1 : (mr_ps br n x w e).1 (n (2 * e))
          · have := u1.2 h0 d1
            omega
          · cases d2 : (mr_ps br n x w e).1 (n (2 * e + 1))
            · have hne : n (2 * e + 1) ≠ n (2 * e) := fun q => by rw [q, d1] at d2; exact absurd d2 (by decide)
              have := u2.2 h1 (by unfold gd_uB; rw [if_neg hne]; exact d2)
              omega
            · exact absurd (by rw [d1, d2]) c3
theorem mr_ps_dec {br : Int64} {n : Nat → Nat} {x E : Nat} {w : Nat → Bool} (hn : ∀ q, n q < 30) (h : (mr_ps br n x w E).2 = true) : mr_cf (mr_ps br n x w E).1 30 + 1 ≤ mr_cf w 30 := by
  have := mr_ps_inv (br := br) (x := x) (w := w) hn E
  rw [h, if_pos rfl] at this
  exact this
def mr_ct (a : Nat → Nat) (w : Nat → Bool) (fr : Int32) (c : Nat) : Nat → Int32
  | 0 => nI 0
  | p + 1 => if a p = c then (if w p = true then mr_ct a w fr c p + nI 0 else mr_ct a w fr c p + jbs fr (nI p)) else mr_ct a w fr c p + nI 0
def mr_wf (a : Nat → Nat) (b w : Nat → Bool) (br : Int64) (n : Nat → Nat) (P E x : Nat) : Nat → Bool := mr_fl br n x E 30 (gd_uB (mr_ff w P) (mr_rt a b (a (n (2 * x))) P 0) true)
def mr_isf (a : Nat → Nat) (b w : Nat → Bool) (fr : Int32) (br : Int64) (n : Nat → Nat) (P E x : Nat) : Bool := decide (mr_par (mr_ct a (mr_wf a b w br n P E x) fr (a (n (2 * x))) P) = nI 1)
/-- fix, isWithRoot -/
def mr_fx (a : Nat → Nat) (b w : Nat → Bool) (fr : Int32) (br fx : Int64) (n : Nat → Nat) (P E : Nat) : Nat → Int64 × (Nat → Bool)
  | 0 => (fx, w)
  | e + 1 => if jbls br (nI e) = 1 then (if mr_isf a b (mr_fx a b w fr br fx n P E e).2 fr br n P E e = false then ((mr_fx a b w fr br fx n P E e).1, mr_wf a b (mr_fx a b w fr br fx n P E e).2 br n P E e)
      else ((mr_fx a b w fr br fx n P E e).1 ||| jshl 1 (nI e), mr_wf a b (mr_fx a b w fr br fx n P E e).2 br n P E e)) else mr_fx a b w fr br fx n P E e
theorem gm_fill_sz {f : Nat → Int32} (h : ∀ q, mr_sz (f q)) : ∀ n q, mr_sz (gm_fill f (nI 0) n q)
  | 0 => h
  | n + 1 => by
    intro q
    show mr_sz (upd (gm_fill f (nI 0) n) n (nI 0) q)
    unfold upd
    split
    · exact ⟨0, by omega, rfl⟩
    · exact gm_fill_sz h n q
theorem mr_go_lt {b : Nat → Bool} {fr : Int32} {n k : Nat → Nat} {P E : Nat} : ∀ (g : Nat) (u : (Nat → Nat) × (Nat → Int32) × (Nat → Bool) × (Nat → Bool) × Int64 × Nat), (∀ q, u.1 q < 30) → ∀ q, (mr_go b fr n k P E g u).2.1 q < 30
  | 0, u, h => by
    intro q
    unfold mr_go
    split <;> exact h q
  | g + 1, u, h => by
    intro q
    unfold mr_go
    split
    · exact h q
    · split
      · exact h q
      · exact mr_go_lt g _ (mr_mj_lt h E) q
