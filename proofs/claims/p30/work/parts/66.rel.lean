/-! THE RELATION between the class's state and the reference's -/
def uPn (n : Nat) (φ : Nat → Nat → Bool) : Nat := uRow (fun a => uRow (fun b => if φ a b then 1 else 0) n (a + 1)) n 0
def uWk (n : Nat) (κ : Nat → Nat) (a : Nat) : Nat → Nat → Prop
  | 0, k => k = a
  | t + 1, k => uWk n κ a t k ∨ ∃ p, p < n ∧ uWk n κ a t (xStep n κ k p)
def uSr (n : Nat) (κ : Nat → Nat) (a : Nat) : Nat → Nat → Prop
  | 0, k => k = a
  | t + 1, k => uSr n κ a t k ∨ ∀ d, d < n → ∃ c, c < 3 ∧ uSr n κ a t (xStep n κ k (aP n d c))
def lstIs (P : Nat → Prop) (v : Int32) : Prop := (∃ t, t < 1000 ∧ v = nI t ∧ P t ∧ ∀ s, s < t → ¬ P s) ∨ (v = -1 ∧ ∀ t, ¬ P t)
theorem lstIs.uniq {P : Nat → Prop} {v w : Int32} (h : lstIs P v) (h' : lstIs P w) : v = w := by
  rcases h with ⟨t, _, rfl, pt, mt⟩ | ⟨rfl, nt⟩
  · rcases h' with ⟨s, _, rfl, ps, ms⟩ | ⟨rfl, ns⟩
    · rcases Nat.lt_trichotomy t s with q | q | q
      · exact absurd pt (ms t q)
      · rw [q]
      · exact absurd ps (mt s q)
    · exact absurd pt (ns t)
  · rcases h' with ⟨s, _, rfl, ps, ms⟩ | ⟨rfl, ns⟩
    · exact absurd ps (nt s)
    · rfl
def rSeed (sx sm : kS) : Prop := 0 ≤ gI sx 6 ∧ gJ sm 0 = (gI sx 6).toInt64
def rGoal (n : Nat) (κ : Nat → Nat) (sx sm : kS) : Prop := (gI sx 13 = 0 ∧ gI sm 3 = 0) ∨ (gI sx 13 = 1 ∧ gI sm 3 = 1 ∧ ∃ a, uO n a (gA sx 21) ∧ uO n a (gA sm 5) ∧ (gI sx 14 = 0 ∨ gI sx 14 = 1 ∧ ∀ k, k < uF n → lstIs (fun t => uWk n κ a t k) (gA sx 22 k)) ∧ (gI sx 15 = 0 ∨ gI sx 15 = 1 ∧ ∀ k, k < uF n → lstIs (fun t => uSr n κ a t k) (gA sx 23 k)))
def rKeep (r n : Nat) (κ : Nat → Nat) (sx sm : kS) : Prop := (gI sx 0 = 0 ∧ (gI sm 5 = 0 ∨ ∃ r', r' < r ∧ gI sm 6 = nI r')) ∨ (gI sx 0 = 1 ∧ gI sm 5 = 1 ∧ gI sm 6 = nI r ∧ gI sx 9 = gI sm 7 ∧ 0 ≤ gI sx 8 ∧ gJ sm 1 = (gI sx 8).toInt64 ∧ ∃ o h, uO n o (gA sx 15) ∧ uO n o (gA sm 7) ∧ uO n h (gA sx 16) ∧ uO n h (gA sm 8) ∧ uCompat n κ o)
def rBare (sx sm : kS) : Prop := gI sx 3 = 0 ∧ gI sm 0 = 0 ∧ gI sx 10 = 0 ∧ gI sx 4 = 0 ∧ gI sx 0 = 0 ∧ gI sm 5 = 0 ∧ gI sx 13 = 0 ∧ gI sm 3 = 0
section FR
variable {sx sm tx tm : kS} {IX JX AX LX IM JM AM LM : List Nat}
theorem xA.same {n : Nat} {κ : Nat → Nat} {φ : Nat → Nat → Bool} (h : xA n κ φ sx) (hx : kSame IX JX AX LX sx tx) (d : 12 ∉ IX ∧ 19 ∉ AX) : xA n κ φ tx := by
  unfold xA
  rw [hx.1 12 d.1, hx.2.2.1 19 d.2]
  exact h
end FR
