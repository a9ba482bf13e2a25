/-! sets of points: no bit from 30 on -/
def b30 (x : Int32) : Prop := ∀ i, 30 ≤ i → bt x i = false
theorem b30_0 : b30 (nI 0) := fun i _ => b_0 i
theorem b30_xor {x y : Int32} (hx : b30 x) (hy : b30 y) : b30 (x ^^^ y) := fun i hi => by rw [b_xor, hx i hi, hy i hi]; rfl
theorem b30_in {a c : Nat → Nat} {bd : Int32} (ha : ∀ q, a q < 30) (hc : ∀ q, c q < 30) (e : Nat) : b30 (gm_in a c bd e) := by
  intro i hi
  unfold gm_in
  rw [b_and, b_or]
  rcases Nat.lt_or_ge i 32 with h | h
  · have h1 := ha e
    have h2 := hc e
    rw [bt_jsh (by omega) h, bt_jsh (by omega) h, decide_eq_false (by omega), decide_eq_false (by omega)]
    rfl
  · rw [b_big h, b_big h]; rfl
theorem b30_rd {rp : Nat → Int32} {re : Nat → Int64} {u : Int32 × Int64} (hr : ∀ q, b30 (rp q)) (hu : b30 u.1) : ∀ n, b30 (gm_rd rp re u n).1
  | 0 => hu
  | n + 1 => by
    have ih := b30_rd (re := re) hr hu n
    unfold gm_rd
    split
    · exact ih
    · split
      · exact ih
      · exact b30_xor ih (hr n)
theorem b30_tz {x : Int32} (h : b30 x) (hx : ¬ x = nI 0) : jtz x = nI (gm_tz x) ∧ gm_tz x < 30 := by
  obtain ⟨k, hk, e, hb, -⟩ := jtz_low hx
  unfold gm_tz
  rw [e, nI_clamp (by omega)]
  refine ⟨rfl, ?_⟩
  rcases Nat.lt_or_ge k 30 with q | q
  · exact q
  · rw [h k q] at hb
    exact absurd hb (by decide)
theorem b30_ch {o a c : Nat → Nat} {bd : Int32} {re : Nat → Int64} {l : Int32} {u : Int64} (ha : ∀ q, a q < 30) (hc : ∀ q, c q < 30) : ∀ n q, b30 ((gm_ch o a c bd re l u n).1 q)
  | 0 => fun _ => b30_0
  | n + 1 => by
    have ih := b30_ch (o := o) (bd := bd) (re := re) (l := l) (u := u) ha hc n
    intro q
    unfold gm_ch
    split
    · exact ih q
    · show b30 (upd _ _ _ q)
      unfold upd
      split
      · exact b30_rd ih (b30_in ha hc _) 30
      · exact ih q
