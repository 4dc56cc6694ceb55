/-! apart and choose, both -/
theorem pow_ok {n t : Nat} (hn : uHn n) (ht : t ≤ 8) : n ^ t < 2 ^ 21 ∧ 0 < n ^ t := by
  have h1 : n ^ t ≤ 6 ^ t := Nat.pow_le_pow_left hn.2 t
  have h2 : 6 ^ t ≤ 6 ^ 8 := Nat.pow_le_pow_right (by decide) ht
  have h3 : (6 : Nat) ^ 8 < 2 ^ 21 := by decide
  exact ⟨by omega, Nat.pow_pos (by have := hn.1; omega)⟩
