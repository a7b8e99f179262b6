/-! how many of those ahead have it -/
def cN (f : Nat → Bool) : Nat → Nat
  | 0 => 0
  | k + 1 => cN f k + (if f k = true then 1 else 0)
theorem cN_le {f : Nat → Bool} : ∀ k, cN f k ≤ k
  | 0 => Nat.le_refl _
  | k + 1 => by
    show cN f k + (if f k = true then 1 else 0) ≤ k + 1
    have := cN_le (f := f) k
    split <;> omega
theorem cN_s1 {f : Nat → Bool} {k : Nat} (h : f k = true) : cN f (k + 1) = cN f k + 1 := by
  show cN f k + (if f k = true then 1 else 0) = _
  rw [if_pos h]
theorem cN_s0 {f : Nat → Bool} {k : Nat} (h : f k = false) : cN f (k + 1) = cN f k := by
  show cN f k + (if f k = true then 1 else 0) = _
  rw [if_neg (by rw [h]; decide), Nat.add_zero]
