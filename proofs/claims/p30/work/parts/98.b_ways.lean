/-! ways and must: both -/
def uMu (n : Nat) (κ : Nat → Nat) (N o : Nat) (v : Int32) : Prop := (yW n κ 9 N o = 0 ∧ v = 0) ∨ (0 < yW n κ 9 N o ∧ uMk n (fun q => decide (yW n κ q N o = 0)) v)
theorem uMu.uniq {n N o : Nat} {κ : Nat → Nat} {v v' : Int32} (h : uMu n κ N o v) (h' : uMu n κ N o v') : v = v' := by
  rcases h with ⟨h1, rfl⟩ | ⟨h1, h2⟩
  · rcases h' with ⟨g1, rfl⟩ | ⟨g1, g2⟩
    · rfl
    · omega
  · rcases h' with ⟨g1, rfl⟩ | ⟨g1, g2⟩
    · omega
    · exact h2.uniq g2
section WB
variable {n : Nat} {κ : Nat → Nat} {φ : Nat → Nat → Bool}
theorem no9 (hn : uHn n) : ∀ p, p < n → (nI p = -1 ↔ p = 9) := fun p hp => by
  have := hn.2
  exact ⟨fun e => absurd e (nI_m1 (n_lt31 (by omega))), fun e => by omega⟩
theorem noP (hn : uHn n) {q : Nat} (hq : q < n) : ∀ p, p < n → (nI p = nI q ↔ p = q) := fun p hp => by
  have := hn.2
  exact nI_eq (n_lt31 (by omega)) (n_lt31 (by omega))
variable {k r o h : Nat} {sx sm : kS}
end WB
