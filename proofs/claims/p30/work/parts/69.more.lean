/-! house, count, image, restore -/
theorem uO.cp {n k : Nat} {f g : Nat → Int32} (hn : uHn n) (h : uO n k f) (e : ∀ j, j < 6 → g j = f j) : uO n k g :=
  ⟨h.1, fun j hj => by rw [e j (by have := hn.2; omega)]; exact h.2 j hj⟩
