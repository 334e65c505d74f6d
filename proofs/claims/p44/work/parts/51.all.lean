def okZ (y : Nat) : Bool := Nat.beq y 245 || okY y
def okN : Nat → Nat → Bool
  | _, 0 => true
  | a, n + 1 => okZ a && okN (a + 1) n
theorem okN_ok : ∀ (n a y : Nat), okN a n = true → a ≤ y → y < a + n → okZ y = true
  | 0, a, y, _, h1, h2 => by omega
  | n + 1, a, y, h, h1, h2 => by
    unfold okN at h
    rw [Bool.and_eq_true] at h
    by_cases e : y = a
    · subst e; exact h.1
    · exact okN_ok n (a + 1) y h.2 (by omega) (by omega)
