/-! what the class's methods answer and do, as functions -/
theorem nI_one : nI 1 = 1 := rfl
def gm_has (n : Nat) (x : Int32) : Bool := !decide (x < nI 0) && !decide (nI n ≤ x)
def gm_bit (s x : Int32) : Bool := !decide (jb s x = nI 0)
def gm_join (n : Nat) (bd x y : Int32) : Bool := gm_has n x && (gm_has n y && (!decide (x = y) && !(gm_bit bd x && gm_bit bd y)))
def gm_addB (n : Nat) (bd : Int32) (b : Bool) : Int32 := if b = true then bd ||| jsh (nI 1) (nI n) else bd
def gm_in (a c : Nat → Nat) (bd : Int32) (e : Nat) : Int32 := (jsh (nI 1) (nI (a e)) ||| jsh (nI 1) (nI (c e))) &&& (bd ^^^ (-1))
def gm_odd (a c : Nat → Nat) (bd : Int32) (s : Int64) : Nat → Int32
  | 0 => nI 0
  | e + 1 => if jbl s (nI e) = 0 then gm_odd a c bd s e else gm_odd a c bd s e ^^^ gm_in a c bd e
