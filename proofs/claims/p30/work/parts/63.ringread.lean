/-! what is a ring, in the reference -/
def tS (H i : Nat) : Nat := if i ≤ H then 0 else (i - H - 1) % 3 + 1
def rI (c : Nat → Nat) (H : Nat) (st : kS) (i : Nat) (s : kS) : Prop := kSame [10, 11] [] [9, 10, 11] [] st s ∧ (∀ j, j < i → tO c H j = true) ∧ gI s 10 = nI (min i H) ∧ gI s 11 = nI ((i - H) / 3) ∧ (∀ j, j < min i H → gA s 9 j = nI (tK (c j))) ∧ (∀ j, j < (i - H) / 3 → gA s 10 j = nI (c (H + 1 + 3 * j) - 48) ∧ gA s 11 j = nI (c (H + 2 + 3 * j) - 48)) ∧ (H < i → (i - H - 1) % 3 = 1 → gA s 10 ((i - H) / 3) = nI (c (i - 1) - 48))
theorem n_48 : ∀ x, x < 127 → 48 ≤ x → nI x - 48 = nI (x - 48) := by decide +kernel
theorem tDg_48 {H x : Nat} (h : tDg H x = true) : 48 ≤ x ∧ x < 48 + H := by
  unfold tDg at h
  rw [Bool.and_eq_true] at h
  exact ⟨Nat.le_of_ble_eq_true h.1, Nat.blt_eq.mp h.2⟩
section MX
variable {m H : Nat} {c : Nat → Nat} {st : kS}
theorem tO_a {i : Nat} (h : ∀ j, j < i → tO c H j = true) (hi : H + 1 < i) : i - H - 2 < 17 := by
  have := h (i - 1) (by omega)
  unfold tO tR at this
  rw [if_neg (by omega), if_neg (by omega), Bool.and_eq_true] at this
  have := Nat.blt_eq.mp this.1
  omega
def rW (m : Nat) (c : Nat → Nat) (H : Nat) (z : kS) : Prop := gI z 10 = nI H ∧ gI z 11 = nI ((m - H) / 3) ∧ (∀ j, j < H → gA z 9 j = nI (tK (c j))) ∧ ∀ j, j < (m - H) / 3 → gA z 10 j = nI (c (H + 1 + 3 * j) - 48) ∧ gA z 11 j = nI (c (H + 2 + 3 * j) - 48)
end MX
