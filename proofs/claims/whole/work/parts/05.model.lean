/-! what the class's methods answer and do, as functions -/
theorem nI_one : nI 1 = 1 := rfl
theorem bI_1 {b : Bool} (h : bI b = nI 1) : b = true := by
  revert h
  cases b <;> decide
theorem bI_n1 {b : Bool} (h : ¬ bI b = nI 1) : b = false := by
  revert h
  cases b <;> decide
def gm_has (n : Nat) (x : Int32) : Bool := !decide (x < nI 0) && !decide (nI n ≤ x)
def gm_bit (s x : Int32) : Bool := !decide (jb s x = nI 0)
def gm_join (n : Nat) (bd x y : Int32) : Bool := gm_has n x && (gm_has n y && (!decide (x = y) && !(gm_bit bd x && gm_bit bd y)))
def gm_addB (n : Nat) (bd : Int32) (b : Bool) : Int32 := if b = true then bd ||| jsh (nI 1) (nI n) else bd
def gm_in (a c : Nat → Nat) (bd : Int32) (e : Nat) : Int32 := (jsh (nI 1) (nI (a e)) ||| jsh (nI 1) (nI (c e))) &&& (bd ^^^ (-1))
def gm_odd (a c : Nat → Nat) (bd : Int32) (s : Int64) : Nat → Int32
  | 0 => nI 0
  | e + 1 => if jbl s (nI e) = 0 then gm_odd a c bd s e else gm_odd a c bd s e ^^^ gm_in a c bd e
/-! the JDK's own -/
def jabs (x : Int32) : Int32 := if 0 ≤ x then x else 0 - x
def gm_fill (f : Nat → Int32) (v : Int32) : Nat → (Nat → Int32)
  | 0 => f
  | i + 1 => upd (gm_fill f v i) i v
theorem gm_fill_at (f : Nat → Int32) (v : Int32) : ∀ (n q : Nat), q < n → gm_fill f v n q = v
  | 0, q, h => absurd h (Nat.not_lt_zero q)
  | n + 1, q, h => by
    show upd (gm_fill f v n) n v q = v
    unfold upd
    by_cases e : q = n
    · rw [if_pos e]
    · rw [if_neg e]; exact gm_fill_at f v n q (by omega)
theorem gd_con {cA : ClassId} {n : Nat} {f g : Nat → Int32} (h : ∀ q, q < n → f q = g q) : vp_cell cA (n, .inl f) = vp_cell cA (n, .inl g) := by
  rw [vp_cell_i, vp_cell_i]
  unfold arrV
  have e : (Array.ofFn (n := n) fun j => Value.int (f j.val)) = Array.ofFn (n := n) fun j => Value.int (g j.val) := by
    congr 1
    funext j
    rw [h j.val j.isLt]
  rw [e]
theorem gd_fillP {D : va_G} {cl : List vw_C} {a n : Nat} {cA : ClassId} {f : Nat → Int32} {v : Int32} {H : Heap} (hP : va_P D cl [(a, .inl (cA, n, .inl (gm_fill f v n)))] H) : va_P D cl [(a, .inl (cA, n, .inl (fun _ => v)))] H := by
  intro k q hk
  match k, hk with
  | 0, hk =>
    cases hk
    have h0 := hP 0 _ rfl
    show H[a]? = some (vp_cell cA (n, .inl (fun _ => v)))
    rw [← gd_con (f := gm_fill f v n) (fun q hq => gm_fill_at f v n q hq)]
    exact h0
  | k + 1, hk => simp at hk
def jbc1 (x : Int32) : Int32 := x - (ju x (nI 1) &&& 1431655765)
def jbc2 (x : Int32) : Int32 := (x &&& 858993459) + (ju x (nI 2) &&& 858993459)
def jbc3 (x : Int32) : Int32 := (x + ju x (nI 4)) &&& 252645135
def jbc4 (x : Int32) : Int32 := x + ju x (nI 8)
def jbc5 (x : Int32) : Int32 := x + ju x (nI 16)
def jbc (x : Int32) : Int32 := jbc5 (jbc4 (jbc3 (jbc2 (jbc1 x)))) &&& nI 63
def jz (x : Int32) : Int32 := (x ^^^ (-1)) &&& (x - nI 1)
def jz1 (y : Int32) : Nat × Int32 := if y ≤ 65536 then (1, y) else (1 + 16, ju y (nI 16))
def jz2 (q : Nat × Int32) : Nat × Int32 := if q.2 ≤ nI 256 then q else (q.1 + 8, ju q.2 (nI 8))
def jz3 (q : Nat × Int32) : Nat × Int32 := if q.2 ≤ nI 16 then q else (q.1 + 4, ju q.2 (nI 4))
def jz4 (q : Nat × Int32) : Nat × Int32 := if q.2 ≤ nI 4 then q else (q.1 + 2, ju q.2 (nI 2))
def jz5 (q : Nat × Int32) : Int32 := nI q.1 + ju q.2 (nI 1)
def jtz (x : Int32) : Int32 := if nI 0 < jz x then jz5 (jz4 (jz3 (jz2 (jz1 (jz x))))) else jz x &&& nI 32
/-! Growth -/
theorem jmin_nI {a b : Nat} (ha : a < 2 ^ 31) (hb : b < 2 ^ 31) : (if nI b < nI a then nI b else nI a) = nI (min a b) := by
  by_cases h : b < a
  · rw [if_pos ((nI_ltI hb ha).mpr h), Nat.min_eq_right (by omega)]
  · rw [if_neg (fun q => h ((nI_ltI hb ha).mp q)), Nat.min_eq_left (by omega)]
theorem jmax_nI {a b : Nat} (ha : a < 2 ^ 31) (hb : b < 2 ^ 31) : (if nI a < nI b then nI b else nI a) = nI (max a b) := by
  by_cases h : a < b
  · rw [if_pos ((nI_ltI ha hb).mpr h), Nat.max_eq_right (by omega)]
  · rw [if_neg (fun q => h ((nI_ltI ha hb).mp q)), Nat.max_eq_left (by omega)]
theorem gd_uN_lt {f : Nat → Nat} {k v N : Nat} (h : ∀ q, f q < N) (hv : v < N) : ∀ q, gd_uN f k v q < N := by
  intro q
  unfold gd_uN
  split
  · exact hv
  · exact h q
def gm_bL (f : Nat → Nat) : Nat → (Nat → Nat)
  | 0 => f
  | i + 1 => gd_uN (gm_bL f i) i i
def gm_bM (f : Nat → Int32) : Nat → (Nat → Int32)
  | 0 => f
  | i + 1 => upd (gm_bM f i) i (jsh (nI 1) (nI i))
theorem gm_bL_lt {f : Nat → Nat} (h : ∀ q, f q < 30) : ∀ n, n ≤ 30 → ∀ q, gm_bL f n q < 30
  | 0, _ => h
  | n + 1, hn => gd_uN_lt (gm_bL_lt h n (by omega)) (by omega)
def gm_isOdd (bd fr x : Int32) : Bool := decide (x &&& bd = nI 0) && !decide (jbc (x &&& fr) &&& nI 1 = nI 0)
def gm_pts (l : Nat → Nat) (m : Nat → Int32) (bd fr : Int32) : Nat → Int32
  | 0 => nI 0
  | p + 1 => if l p = p then (if gm_isOdd bd fr (m p) = false then gm_pts l m bd fr p else gm_pts l m bd fr p ||| m p) else gm_pts l m bd fr p
abbrev gm_gain (a c : Nat → Nat) (od : Int32) (e : Nat) : Int32 := jb od (nI (a e)) + jb od (nI (c e))
def gm_feed (sz : Nat → Int32) (a c k : Nat → Nat) (od : Int32) : Nat → (Nat → Int32) × Int64
  | 0 => (sz, 0)
  | e + 1 => if nI (k e) ≤ (gm_feed sz a c k od e).1 e then gm_feed sz a c k od e else if gm_gain a c od e ≤ nI 0 then gm_feed sz a c k od e
    else (upd (gm_feed sz a c k od e).1 e ((gm_feed sz a c k od e).1 e + gm_gain a c od e), (gm_feed sz a c k od e).2 ||| jshl 1 (nI e))
def gm_jn (f : Nat → Nat) (hi lo : Nat) : Nat → (Nat → Nat)
  | 0 => f
  | p + 1 => if gm_jn f hi lo p p = hi then gd_uN (gm_jn f hi lo p) p lo else gm_jn f hi lo p
theorem gm_jn_lt {f : Nat → Nat} {hi lo : Nat} (h : ∀ q, f q < 30) (hl : lo < 30) : ∀ n q, gm_jn f hi lo n q < 30
  | 0 => h
  | n + 1 => by
    intro q
    show (if gm_jn f hi lo n n = hi then gd_uN (gm_jn f hi lo n) n lo else gm_jn f hi lo n) q < 30
    split
    · exact gd_uN_lt (gm_jn_lt h hl n) hl q
    · exact gm_jn_lt h hl n q
def gm_joinM (m : Nat → Int32) (x y : Nat) : Nat → Int32 := upd m (min x y) (m (min x y) ||| m (max x y))
/-- least, members, clusters, branches -/
def gm_jf (l : Nat → Nat) (m : Nat → Int32) (cl : Int32) (br : Int64) (P : Nat) (sz : Nat → Int32) (a c k : Nat → Nat) (fed : Int64) : Nat → (Nat → Nat) × (Nat → Int32) × Int32 × Int64
  | 0 => (l, m, cl, br)
  | e + 1 =>
    if jbl fed (nI e) = 0 then gm_jf l m cl br P sz a c k fed e
    else if sz e < nI (k e) then gm_jf l m cl br P sz a c k fed e
    else if (gm_jf l m cl br P sz a c k fed e).1 (a e) = (gm_jf l m cl br P sz a c k fed e).1 (c e) then gm_jf l m cl br P sz a c k fed e
    else (gm_jn (gm_jf l m cl br P sz a c k fed e).1 (max ((gm_jf l m cl br P sz a c k fed e).1 (a e)) ((gm_jf l m cl br P sz a c k fed e).1 (c e))) (min ((gm_jf l m cl br P sz a c k fed e).1 (a e)) ((gm_jf l m cl br P sz a c k fed e).1 (c e))) P,
      gm_joinM (gm_jf l m cl br P sz a c k fed e).2.1 ((gm_jf l m cl br P sz a c k fed e).1 (a e)) ((gm_jf l m cl br P sz a c k fed e).1 (c e)),
      (gm_jf l m cl br P sz a c k fed e).2.2.1 - nI 1, (gm_jf l m cl br P sz a c k fed e).2.2.2 ||| jshl 1 (nI e))
theorem gm_jf_lt {l : Nat → Nat} {m : Nat → Int32} {cl : Int32} {br : Int64} {P : Nat} {sz : Nat → Int32} {a c k : Nat → Nat} {fed : Int64} (h : ∀ q, l q < 30) : ∀ n q, (gm_jf l m cl br P sz a c k fed n).1 q < 30
  | 0 => h
  | n + 1 => by
    have ih := gm_jf_lt (m := m) (cl := cl) (br := br) (P := P) (sz := sz) (a := a) (c := c) (k := k) (fed := fed) h n
    intro q
    unfold gm_jf
    split
    · exact ih q
    · split
      · exact ih q
      · split
        · exact ih q
        · have h1 := ih (a n)
          have h2 := ih (c n)
          exact gm_jn_lt ih (by omega) P q
def gm_oe (a c : Nat → Nat) (e p : Nat) : Nat := if a e = p then c e else a e
/-- the number of the first n bits that are set -/
def gm_cn (x : Int32) : Nat → Nat
  | 0 => 0
  | n + 1 => if jb x (nI n) = nI 0 then gm_cn x n else gm_cn x n + 1
/-- seen, reachedBy, walk, walked -/
def gm_reach (u : Int32 × (Nat → Int32) × (Nat → Nat) × Nat) (p : Nat) (by_ : Int32) : Int32 × (Nat → Int32) × (Nat → Nat) × Nat :=
  if jb u.1 (nI p) = nI 0 then (u.1 ||| jsh (nI 1) (nI p), upd u.2.1 p by_, gd_uN u.2.2.1 u.2.2.2 p, u.2.2.2 + 1) else u
def gm_wo (u : Int32 × (Nat → Int32) × (Nat → Nat) × Nat) (a c : Nat → Nat) (br : Int64) (p : Nat) : Nat → Int32 × (Nat → Int32) × (Nat → Nat) × Nat
  | 0 => u
  | e + 1 => if a e = p then (if jbl br (nI e) = 0 then gm_wo u a c br p e else gm_reach (gm_wo u a c br p e) (gm_oe a c e p) (nI e)) else if c e = p then (if jbl br (nI e) = 0 then gm_wo u a c br p e else gm_reach (gm_wo u a c br p e) (gm_oe a c e p) (nI e)) else gm_wo u a c br p e
def gm_root (m : Nat → Int32) (bd : Int32) (p : Nat) : Int32 := if m p &&& bd = nI 0 then nI p else jtz (m p &&& bd)
def gm_rootN (m : Nat → Int32) (bd : Int32) (p : Nat) : Nat := (gm_root m bd p).toNatClampNeg
def gm_w1 (r : Nat → Int32) (k : Nat → Nat) (l : Nat → Nat) (m : Nat → Int32) (bd : Int32) : Nat → Int32 × (Nat → Int32) × (Nat → Nat) × Nat
  | 0 => (nI 0, r, k, 0)
  | p + 1 => if l p = p then gm_reach (gm_w1 r k l m bd p) (gm_rootN m bd p) (-1) else gm_w1 r k l m bd p
def gm_w2 (u : Int32 × (Nat → Int32) × (Nat → Nat) × Nat) (E : Nat) (a c : Nat → Nat) (br : Int64) : Nat → Int32 × (Nat → Int32) × (Nat → Nat) × Nat
  | 0 => u
  | i + 1 => if (gm_w2 u E a c br i).2.2.2 ≤ i then gm_w2 u E a c br i else gm_wo (gm_w2 u E a c br i) a c br ((gm_w2 u E a c br i).2.2.1 i) E
theorem gm_w2_stop {u : Int32 × (Nat → Int32) × (Nat → Nat) × Nat} {E : Nat} {a c : Nat → Nat} {br : Int64} {i : Nat} (h : (gm_w2 u E a c br i).2.2.2 ≤ i) : ∀ n, gm_w2 u E a c br (i + n) = gm_w2 u E a c br i
  | 0 => rfl
  | n + 1 => by
    have ih := gm_w2_stop h n
    show (if (gm_w2 u E a c br (i + n)).2.2.2 ≤ i + n then gm_w2 u E a c br (i + n) else _) = _
    rw [if_pos (by rw [ih]; omega), ih]
def gm_walk (r : Nat → Int32) (k : Nat → Nat) (l : Nat → Nat) (m : Nat → Int32) (bd : Int32) (P E : Nat) (a c : Nat → Nat) (br : Int64) : Int32 × (Nat → Int32) × (Nat → Nat) × Nat := gm_w2 (gm_w1 r k l m bd P) E a c br P
def gm_eN (x : Int32) : Nat := x.toNatClampNeg
/-- odd, fix -/
def gm_pl (r : Nat → Int32) (k : Nat → Nat) (w : Nat) (a c : Nat → Nat) (fr : Int32) (fx : Int64) : Nat → Int32 × Int64
  | 0 => (fr, fx)
  | i + 1 => if r (k (w - i - 1)) = -1 then gm_pl r k w a c fr fx i else if jb (gm_pl r k w a c fr fx i).1 (nI (k (w - i - 1))) = nI 0 then gm_pl r k w a c fr fx i
    else ((gm_pl r k w a c fr fx i).1 ^^^ jsh (nI 1) (nI (gm_oe a c (gm_eN (r (k (w - i - 1)))) (k (w - i - 1)))), (gm_pl r k w a c fr fx i).2 ||| jshl 1 (r (k (w - i - 1))))
theorem gd_m1 (x : Int32) : x + Int32.ofInt (-1) = x - nI 1 := by
  rw [Int32.sub_eq_add_neg]
  rfl
/-- growing: least, members, sizes, clusters, branches, rounds; false: it is stuck -/
def gm_go (a c k : Nat → Nat) (bd fr : Int32) (P E : Nat) : Nat → ((Nat → Nat) × (Nat → Int32) × (Nat → Int32) × Int32 × Int64 × Nat) → Bool × ((Nat → Nat) × (Nat → Int32) × (Nat → Int32) × Int32 × Int64 × Nat)
  | 0, u => (true, u)
  | n + 1, u =>
    if gm_pts u.1 u.2.1 bd fr P = nI 0 then (true, u)
    else if (gm_feed u.2.2.1 a c k (gm_pts u.1 u.2.1 bd fr P) E).2 = 0 then (false, (u.1, u.2.1, (gm_feed u.2.2.1 a c k (gm_pts u.1 u.2.1 bd fr P) E).1, u.2.2.2.1, u.2.2.2.2.1, u.2.2.2.2.2 + 1))
    else gm_go a c k bd fr P E n
      ((gm_jf u.1 u.2.1 u.2.2.2.1 u.2.2.2.2.1 P (gm_feed u.2.2.1 a c k (gm_pts u.1 u.2.1 bd fr P) E).1 a c k (gm_feed u.2.2.1 a c k (gm_pts u.1 u.2.1 bd fr P) E).2 E).1,
       (gm_jf u.1 u.2.1 u.2.2.2.1 u.2.2.2.2.1 P (gm_feed u.2.2.1 a c k (gm_pts u.1 u.2.1 bd fr P) E).1 a c k (gm_feed u.2.2.1 a c k (gm_pts u.1 u.2.1 bd fr P) E).2 E).2.1,
       (gm_feed u.2.2.1 a c k (gm_pts u.1 u.2.1 bd fr P) E).1,
       (gm_jf u.1 u.2.1 u.2.2.2.1 u.2.2.2.2.1 P (gm_feed u.2.2.1 a c k (gm_pts u.1 u.2.1 bd fr P) E).1 a c k (gm_feed u.2.2.1 a c k (gm_pts u.1 u.2.1 bd fr P) E).2 E).2.2.1,
       (gm_jf u.1 u.2.1 u.2.2.2.1 u.2.2.2.2.1 P (gm_feed u.2.2.1 a c k (gm_pts u.1 u.2.1 bd fr P) E).1 a c k (gm_feed u.2.2.1 a c k (gm_pts u.1 u.2.1 bd fr P) E).2 E).2.2.2,
       u.2.2.2.2.2 + 1)
/-- what was grown, out of an earlier growth's least, members -/
def gm_grown (a c k : Nat → Nat) (bd fr : Int32) (P E : Nat) (l : Nat → Nat) (m : Nat → Int32) : Bool × ((Nat → Nat) × (Nat → Int32) × (Nat → Int32) × Int32 × Int64 × Nat) := gm_go a c k bd fr P E 1201 (gm_bL l P, gm_bM m P, (fun _ => nI 0), nI P, 0, 0)
/-- behind growing: seen, reachedBy, walk, walked, fix -/
def gm_over (gr : Bool × ((Nat → Nat) × (Nat → Int32) × (Nat → Int32) × Int32 × Int64 × Nat)) (r : Nat → Int32) (k : Nat → Nat) (sn : Int32) (w : Nat) (a c : Nat → Nat) (bd fr : Int32) (P E : Nat) : Int32 × (Nat → Int32) × (Nat → Nat) × Nat × Int64 :=
  match gr.1 with
  | true => ((gm_walk r k gr.2.1 gr.2.2.1 bd P E a c gr.2.2.2.2.2.1).1, (gm_walk r k gr.2.1 gr.2.2.1 bd P E a c gr.2.2.2.2.2.1).2.1, (gm_walk r k gr.2.1 gr.2.2.1 bd P E a c gr.2.2.2.2.2.1).2.2.1, (gm_walk r k gr.2.1 gr.2.2.1 bd P E a c gr.2.2.2.2.2.1).2.2.2,
      (gm_pl (gm_walk r k gr.2.1 gr.2.2.1 bd P E a c gr.2.2.2.2.2.1).2.1 (gm_walk r k gr.2.1 gr.2.2.1 bd P E a c gr.2.2.2.2.2.1).2.2.1 (gm_walk r k gr.2.1 gr.2.2.1 bd P E a c gr.2.2.2.2.2.1).2.2.2 a c fr 0 (gm_walk r k gr.2.1 gr.2.2.1 bd P E a c gr.2.2.2.2.2.1).2.2.2).2)
  | false => (sn, r, k, w, 0)
/-! Beliefs -/
def gm_bel (k : Nat → Nat) (f g : Nat → Int32) (e : Nat) : Int32 := nI (k e) + f e + g e
def gm_bd (x : Int32) : Int32 := jmax (-1000) (jmin (nI 1000) x)
def gm_snd (t s : Nat → Int32) (k : Nat → Nat) : Nat → (Nat → Int32)
  | 0 => t
  | e + 1 => upd (gm_snd t s k e) e (gm_bd (nI (k e) + s e))
def gm_gl (l : Nat → Int32) (x : Nat) (y : Int32) : Nat → Int32 := if l x ≤ jabs y then l else upd l x (jabs y)
def gm_gn (l n : Nat → Int32) (x : Nat) (y : Int32) : Nat → Int32 := if l x ≤ jabs y then (if n x ≤ jabs y then n else upd n x (jabs y)) else upd n x (l x)
def gm_gf (f : Int32) (x : Nat) (y : Int32) : Int32 := if nI 0 ≤ y then f else f ^^^ jsh (nI 1) (nI x)
def gm_g1 (u : (Nat → Int32) × (Nat → Int32) × Int32) (x : Nat) (y : Int32) : (Nat → Int32) × (Nat → Int32) × Int32 := (gm_gl u.1 x y, gm_gn u.1 u.2.1 x y, gm_gf u.2.2 x y)
def gm_gat (a c : Nat → Nat) (t s : Nat → Int32) (fr : Int32) : Nat → (Nat → Int32) × (Nat → Int32) × Int32
  | 0 => ((fun _ => nI 1000), (fun _ => nI 1000), fr)
  | e + 1 => gm_g1 (gm_g1 (gm_gat a c t s fr e) (a e) (t e)) (c e) (s e)
def gm_ss (l n : Nat → Int32) (x : Nat) (y : Int32) : Int32 := if jabs y = l x then n x else l x
def gm_sb (bd : Int32) (l n : Nat → Int32) (fl : Int32) (x : Nat) (y : Int32) : Int32 :=
  if gm_bit bd (nI x) = false then (if jb fl (nI x) = nI 0 then (if nI 0 ≤ y then gm_ss l n x y else -gm_ss l n x y) else (if nI 0 ≤ y then -gm_ss l n x y else gm_ss l n x y)) else nI 0
def gm_se (f : Nat → Int32) (a : Nat → Nat) (t : Nat → Int32) (bd : Int32) (l n : Nat → Int32) (fl : Int32) : Nat → (Nat → Int32)
  | 0 => f
  | e + 1 => upd (gm_se f a t bd l n fl e) e (gm_sb bd l n fl (a e) (t e))
def gm_ng (k : Nat → Nat) (f g : Nat → Int32) : Nat → Int64
  | 0 => 0
  | e + 1 => if nI 0 ≤ gm_bel k f g e then gm_ng k f g e else gm_ng k f g e ||| jshl 1 (nI e)
/-! Rows -/
def gm_ins (wt : Nat → Int32) (x : Nat) : Nat → (Nat → Nat) → Nat × (Nat → Nat)
  | 0, o => (0, o)
  | n + 1, o => if wt (o n) ≤ wt x then (n + 1, o) else gm_ins wt x n (gd_uN o (n + 1) (o n))
theorem gm_ins_lt {wt : Nat → Int32} {x : Nat} : ∀ (n : Nat) (o : Nat → Nat), (∀ q, o q < 60) → ∀ q, (gm_ins wt x n o).2 q < 60
  | 0, _, h => h
  | n + 1, o, h => by
    intro q
    unfold gm_ins
    split
    · exact h q
    · exact gm_ins_lt n _ (gd_uN_lt h (h n)) q
def gm_wt (b : Bool) (k : Nat → Nat) (f g : Nat → Int32) (e : Nat) : Int32 := if b = false then nI (k e) else gm_bel k f g e
def gm_insO (wt : Nat → Int32) (o : Nat → Nat) (e : Nat) : Nat → Nat := gd_uN (gm_ins wt e e o).2 (gm_ins wt e e o).1 e
def gm_po (o : Nat → Nat) (wt : Nat → Int32) (b : Bool) (k : Nat → Nat) (f g : Nat → Int32) : Nat → (Nat → Nat) × (Nat → Int32)
  | 0 => (o, wt)
  | e + 1 => (gm_insO (upd (gm_po o wt b k f g e).2 e (gm_wt b k f g e)) (gm_po o wt b k f g e).1 e, upd (gm_po o wt b k f g e).2 e (gm_wt b k f g e))
theorem gm_po_lt {o : Nat → Nat} {wt : Nat → Int32} {b : Bool} {k : Nat → Nat} {f g : Nat → Int32} (h : ∀ q, o q < 60) : ∀ n, n ≤ 60 → ∀ q, (gm_po o wt b k f g n).1 q < 60
  | 0, _ => h
  | n + 1, hn => gd_uN_lt (gm_ins_lt n _ (gm_po_lt h n (by omega))) (by omega)
def gm_rd (rp : Nat → Int32) (re : Nat → Int64) (u : Int32 × Int64) : Nat → Int32 × Int64
  | 0 => u
  | p + 1 => if jb (gm_rd rp re u p).1 (nI p) = nI 0 then gm_rd rp re u p else if rp p = nI 0 then gm_rd rp re u p else ((gm_rd rp re u p).1 ^^^ rp p, (gm_rd rp re u p).2 ^^^ re p)
def gm_tz (x : Int32) : Nat := (jtz x).toNatClampNeg
/-- rowPoints, rowEdges, count, leftPoints, usedEdges -/
def gm_ch (o a c : Nat → Nat) (bd : Int32) (re : Nat → Int64) (l : Int32) (u : Int64) : Nat → (Nat → Int32) × (Nat → Int64) × Nat × Int32 × Int64
  | 0 => ((fun _ => nI 0), re, 0, l, u)
  | i + 1 =>
    if (gm_rd (gm_ch o a c bd re l u i).1 (gm_ch o a c bd re l u i).2.1 (gm_in a c bd (o i), jshl 1 (nI (o i))) 30).1 = nI 0 then ((gm_ch o a c bd re l u i).1, (gm_ch o a c bd re l u i).2.1, (gm_ch o a c bd re l u i).2.2.1, gm_rd (gm_ch o a c bd re l u i).1 (gm_ch o a c bd re l u i).2.1 (gm_in a c bd (o i), jshl 1 (nI (o i))) 30)
    else (upd (gm_ch o a c bd re l u i).1 (gm_tz (gm_rd (gm_ch o a c bd re l u i).1 (gm_ch o a c bd re l u i).2.1 (gm_in a c bd (o i), jshl 1 (nI (o i))) 30).1) (gm_rd (gm_ch o a c bd re l u i).1 (gm_ch o a c bd re l u i).2.1 (gm_in a c bd (o i), jshl 1 (nI (o i))) 30).1,
      vp_updL (gm_ch o a c bd re l u i).2.1 (gm_tz (gm_rd (gm_ch o a c bd re l u i).1 (gm_ch o a c bd re l u i).2.1 (gm_in a c bd (o i), jshl 1 (nI (o i))) 30).1) (gm_rd (gm_ch o a c bd re l u i).1 (gm_ch o a c bd re l u i).2.1 (gm_in a c bd (o i), jshl 1 (nI (o i))) 30).2,
      (gm_ch o a c bd re l u i).2.2.1 + 1, gm_rd (gm_ch o a c bd re l u i).1 (gm_ch o a c bd re l u i).2.1 (gm_in a c bd (o i), jshl 1 (nI (o i))) 30)
def gm_sol (rp : Nat → Int32) (re : Nat → Int64) (x : Int32) : Int64 := if (gm_rd rp re (x, 0) 30).1 = nI 0 then (gm_rd rp re (x, 0) 30).2 else -1
/-- one turn: fromFirst, fromSecond, toFirst, toSecond, least, next, flipped, negative -/
def gm_turn (a c k : Nat → Nat) (bd fr : Int32) (E : Nat) (u : (Nat → Int32) × (Nat → Int32) × (Nat → Int32) × (Nat → Int32) × (Nat → Int32) × (Nat → Int32) × Int32 × Int64) : (Nat → Int32) × (Nat → Int32) × (Nat → Int32) × (Nat → Int32) × (Nat → Int32) × (Nat → Int32) × Int32 × Int64 :=
  let t := gm_snd u.2.2.1 u.2.1 k E
  let s := gm_snd u.2.2.2.1 u.1 k E
  let q := gm_gat a c t s fr E
  let f := gm_se u.1 a t bd q.1 q.2.1 q.2.2 E
  let g := gm_se u.2.1 c s bd q.1 q.2.1 q.2.2 E
  (f, g, t, s, q.1, q.2.1, q.2.2, gm_ng k f g E)
def gm_set (a c k : Nat → Nat) (bd fr : Int32) (E : Nat) : Nat → Nat → ((Nat → Int32) × (Nat → Int32) × (Nat → Int32) × (Nat → Int32) × (Nat → Int32) × (Nat → Int32) × Int32 × Int64) → Nat × ((Nat → Int32) × (Nat → Int32) × (Nat → Int32) × (Nat → Int32) × (Nat → Int32) × (Nat → Int32) × Int32 × Int64)
  | 0, _, u => (0, u)
  | n + 1, t, u => if gm_odd a c bd (gm_turn a c k bd fr E u).2.2.2.2.2.2.2 E = fr then (t, gm_turn a c k bd fr E u) else gm_set a c k bd fr E n (t + 1) (gm_turn a c k bd fr E u)
