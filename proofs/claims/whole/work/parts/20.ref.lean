/-! what the reference's methods answer and do, as functions -/
def mr_x1 (k : Nat) : Nat := if k % 2 = 0 then k + 1 else k - 1
theorem mr_x1_nI : ∀ k, k < 120 → nI k ^^^ nI 1 = nI (mr_x1 k) := by decide +kernel
theorem mr_x1_lt {k : Nat} (h : k < 120) : mr_x1 k < 120 := by
  unfold mr_x1
  split <;> omega
def mr_inn (b : Nat → Bool) (n : Nat → Nat) (k : Nat) : Bool := !b (n k)
def mr_wi (x : Int32) : Int32 := if x ≤ nI 1000 then (if (-1000) ≤ x then x else -1000) else nI 1000
def mr_sp (z v : Nat → Int32) (b : Nat → Bool) (n l : Nat → Nat) : Nat → (Nat → Int32)
  | 0 => z
  | k + 1 => upd (mr_sp z v b n l k) k (if mr_inn b n k = false then nI 0 else mr_wi (nI (l (k / 2)) + v (mr_x1 k)))
/-- least, below -/
def mr_an (z : Nat → Int32) (n : Nat → Nat) (k p : Nat) (b0 : Bool) : Nat → Int32 × Bool
  | 0 => (nI 1000, b0)
  | j + 1 => if n j = p then (if j = k then mr_an z n k p b0 j else
      ((if nI 0 ≤ z j then (if (mr_an z n k p b0 j).1 ≤ z j then (mr_an z n k p b0 j).1 else z j) else (if (mr_an z n k p b0 j).1 ≤ -z j then (mr_an z n k p b0 j).1 else -z j)),
       (if nI 0 ≤ z j then (mr_an z n k p b0 j).2 else !(mr_an z n k p b0 j).2))) else mr_an z n k p b0 j
def mr_b0 (fr : Int32) (p : Nat) : Bool := decide (jbs fr (nI p) = nI 1)
def mr_ans (z : Nat → Int32) (n : Nat → Nat) (fr : Int32) (E k : Nat) : Int32 := if (mr_an z n k (n k) (mr_b0 fr (n k)) (2 * E)).2 = false then (mr_an z n k (n k) (mr_b0 fr (n k)) (2 * E)).1 else -(mr_an z n k (n k) (mr_b0 fr (n k)) (2 * E)).1
def mr_te (v z : Nat → Int32) (b : Nat → Bool) (n : Nat → Nat) (fr : Int32) (E : Nat) : Nat → (Nat → Int32)
  | 0 => v
  | k + 1 => upd (mr_te v z b n fr E k) k (if mr_inn b n k = false then nI 0 else mr_ans z n fr E k)
def mr_bel (l : Nat → Nat) (v : Nat → Int32) (e : Nat) : Int32 := nI (l e) + v (2 * e) + v (2 * e + 1)
def mr_gs (l : Nat → Nat) (v : Nat → Int32) : Nat → Int64
  | 0 => 0
  | e + 1 => if nI 0 ≤ mr_bel l v e then mr_gs l v e ||| 0 else mr_gs l v e ||| jshl 1 (nI e)
def mr_syn (n : Nat → Nat) (b : Nat → Bool) (x : Int64) : Nat → Int32
  | 0 => nI 0
  | k + 1 => if jbls x (nI (k / 2)) = 1 then (if mr_inn b n k = false then mr_syn n b x k else mr_syn n b x k ^^^ jsh (nI 1) (nI (n k))) else mr_syn n b x k
/-- one turn: toEdge, toPoint -/
def mr_turn (b : Nat → Bool) (n l : Nat → Nat) (fr : Int32) (E : Nat) (u : (Nat → Int32) × (Nat → Int32)) : (Nat → Int32) × (Nat → Int32) :=
  (mr_te u.1 (mr_sp u.2 u.1 b n l (2 * E)) b n fr E (2 * E), mr_sp u.2 u.1 b n l (2 * E))
def mr_set (b : Nat → Bool) (n l : Nat → Nat) (fr : Int32) (E : Nat) : Nat → Nat → ((Nat → Int32) × (Nat → Int32)) → Nat × ((Nat → Int32) × (Nat → Int32))
  | 0, _, u => (0, u)
  | k + 1, t, u => if mr_syn n b (mr_gs l (mr_turn b n l fr E u).1 E) (2 * E) = fr then (t, mr_turn b n l fr E u) else mr_set b n l fr E k (t + 1) (mr_turn b n l fr E u)
def mr_hi (x : Int32) : Nat → Int32
  | 0 => nI 0 - nI 1
  | k + 1 => if jbs x (nI k) = nI 0 then mr_hi x k else nI k
/-- what is left, made -/
def mr_lf (rp : Nat → Int32) (re : Nat → Int64) (x : Int32) : Nat → Int32 × Int64
  | 0 => (x, 0)
  | i + 1 => if jbs (mr_lf rp re x i).1 (nI (30 - i - 1)) = nI 0 then mr_lf rp re x i else if rp (30 - i - 1) = nI 0 then mr_lf rp re x i else ((mr_lf rp re x i).1 ^^^ rp (30 - i - 1), (mr_lf rp re x i).2 ^^^ re (30 - i - 1))
def mr_ord (h : Bool) (l : Nat → Nat) (v : Nat → Int32) (e : Nat) : Int32 := if h = false then nI (l e) else mr_bel l v e
def mr_nx (tk : Nat → Bool) (h : Bool) (l : Nat → Nat) (v : Nat → Int32) : Nat → Int32
  | 0 => -1
  | e + 1 => if tk e = true then mr_nx tk h l v e else if mr_nx tk h l v e = -1 then nI e else if mr_ord h l v (gm_eN (mr_nx tk h l v e)) ≤ mr_ord h l v e then mr_nx tk h l v e else nI e
theorem mr_nx_RB (tk : Nat → Bool) (h : Bool) (l : Nat → Nat) (v : Nat → Int32) : ∀ n, n ≤ 60 → gm_RB (mr_nx tk h l v n)
  | 0, _ => Or.inl rfl
  | n + 1, hn => by
    have ih := mr_nx_RB tk h l v n (by omega)
    unfold mr_nx
    repeat' split
    · exact ih
    · exact gm_RB_nI (by omega)
    · exact ih
    · exact gm_RB_nI (by omega)
theorem mr_nx_some {tk : Nat → Bool} {h : Bool} {l : Nat → Nat} {v : Nat → Int32} {e : Nat} (he : tk e = false) : ∀ n, n ≤ 60 → e < n → ¬ mr_nx tk h l v n = -1
  | 0, _, q => absurd q (Nat.not_lt_zero e)
  | n + 1, hn, q => by
    have hne : ¬ nI n = -1 := by
      intro w
      have := congrArg Int32.toInt w
      rw [nI_toInt (by omega)] at this
      have h2 : (-1 : Int32).toInt = -1 := rfl
      omega
    unfold mr_nx
    by_cases w : e = n
    · rw [if_neg (by rw [← w, he]; decide)]
      split
      · exact hne
      · split
        · assumption
        · exact hne
    · have ih := mr_nx_some (h := h) (l := l) (v := v) he n (by omega) (by omega)
      repeat' split
      all_goals first | exact ih | exact hne
def mr_ff (f : Nat → Bool) : Nat → (Nat → Bool)
  | 0 => f
  | i + 1 => gd_uB (mr_ff f i) i false
def mr_fJ (f : Nat → Int64) : Nat → (Nat → Int64)
  | 0 => f
  | i + 1 => vp_updL (mr_fJ f i) i 0
/-- rowOf, madeOf, isTaken, chosen, made: one edge more -/
def mr_c1 (n l : Nat → Nat) (b : Nat → Bool) (h : Bool) (v : Nat → Int32) (E : Nat) (s : (Nat → Int32) × (Nat → Int64) × (Nat → Bool) × Nat × Int64) : (Nat → Int32) × (Nat → Int64) × (Nat → Bool) × Nat × Int64 :=
  if (mr_lf s.1 s.2.1 (mr_syn n b (jshl 1 (nI (gm_eN (mr_nx s.2.2.1 h l v E)))) (2 * E)) 30).1 = nI 0 then (s.1, s.2.1, gd_uB s.2.2.1 (gm_eN (mr_nx s.2.2.1 h l v E)) true, s.2.2.2.1, (mr_lf s.1 s.2.1 (mr_syn n b (jshl 1 (nI (gm_eN (mr_nx s.2.2.1 h l v E)))) (2 * E)) 30).2)
  else (upd s.1 (gm_eN (mr_hi (mr_lf s.1 s.2.1 (mr_syn n b (jshl 1 (nI (gm_eN (mr_nx s.2.2.1 h l v E)))) (2 * E)) 30).1 30)) (mr_lf s.1 s.2.1 (mr_syn n b (jshl 1 (nI (gm_eN (mr_nx s.2.2.1 h l v E)))) (2 * E)) 30).1,
    vp_updL s.2.1 (gm_eN (mr_hi (mr_lf s.1 s.2.1 (mr_syn n b (jshl 1 (nI (gm_eN (mr_nx s.2.2.1 h l v E)))) (2 * E)) 30).1 30)) ((mr_lf s.1 s.2.1 (mr_syn n b (jshl 1 (nI (gm_eN (mr_nx s.2.2.1 h l v E)))) (2 * E)) 30).2 ^^^ jshl 1 (nI (gm_eN (mr_nx s.2.2.1 h l v E)))),
    gd_uB s.2.2.1 (gm_eN (mr_nx s.2.2.1 h l v E)) true, s.2.2.2.1 + 1, (mr_lf s.1 s.2.1 (mr_syn n b (jshl 1 (nI (gm_eN (mr_nx s.2.2.1 h l v E)))) (2 * E)) 30).2)
def mr_ch (n l : Nat → Nat) (b : Nat → Bool) (h : Bool) (v : Nat → Int32) (E : Nat) (u : (Nat → Int32) × (Nat → Int64) × (Nat → Bool) × Nat × Int64) : Nat → (Nat → Int32) × (Nat → Int64) × (Nat → Bool) × Nat × Int64
  | 0 => u
  | i + 1 => mr_c1 n l b h v E (mr_ch n l b h v E u i)
def mr_tot (a : Nat → Nat) : Nat → Nat
  | 0 => 0
  | p + 1 => if a p = p then mr_tot a p + 1 else mr_tot a p + 0
