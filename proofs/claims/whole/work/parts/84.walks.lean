/-! walks go both ways -/
theorem uWk_end {n p : Nat} {κ : Nat → Nat} (hp : p < n) : ∀ t a k, uWk n κ a t k → uWk n κ (xStep n κ a p) (t + 1) k := by
  intro t
  induction t with
  | zero =>
    intro a k h
    exact Or.inr ⟨p, hp, by rw [show k = a from h]; rfl⟩
  | succ t ih =>
    intro a k h
    rcases h with h | ⟨p', hp', h⟩
    · exact Or.inl (ih a k h)
    · exact Or.inr ⟨p', hp', ih a _ h⟩
theorem uWk_sym {n a : Nat} {κ : Nat → Nat} (hn : uHn n) : ∀ t k, k < uF n → uWk n κ a t k → uWk n κ k t a := by
  intro t
  induction t with
  | zero =>
    intro k _ h
    exact (show k = a from h).symm
  | succ t ih =>
    intro k hk h
    rcases h with h | ⟨p, hp, h⟩
    · exact Or.inl (ih k hk h)
    · have h2 := uWk_end hp t _ _ (ih _ (xStep_lt hn hk hp) h)
      rw [xStep_inv hn hk hp] at h2
      exact h2
theorem lstIs.congr {P P' : Nat → Prop} {v : Int32} (h : lstIs P v) (e : ∀ t, P t ↔ P' t) : lstIs P' v := by
  rcases h with ⟨t, h1, h2, h3, h4⟩ | ⟨h1, h2⟩
  · exact Or.inl ⟨t, h1, h2, (e t).mp h3, fun s hs q => h4 s hs ((e s).mpr q)⟩
  · exact Or.inr ⟨h1, fun t q => h2 t ((e t).mpr q)⟩
theorem few_sym {n a o : Nat} {κ : Nat → Nat} {v : Int32} (hn : uHn n) (ha : a < uF n) (ho : o < uF n) (h : lstIs (fun t => uWk n κ o t a) v) : lstIs (fun t => uWk n κ a t o) v :=
  h.congr (fun t => ⟨fun q => uWk_sym hn t a ha q, fun q => uWk_sym hn t o ho q⟩)
