/-! the search in breadth: what is known while it goes -/
def bI (n : Nat) (κ : Nat → Nat) (a T hd p : Nat) (q D : Nat → Nat) : Prop := (∀ j, j < T → q j < uF n) ∧ (∀ i j, i < j → j < T → q i ≠ q j) ∧ (∀ i j, i ≤ j → j < T → D (q i) ≤ D (q j)) ∧ (hd < T → ∀ j, j < T → D (q j) ≤ D (q hd) + 1) ∧ (∀ i, i < hd → ∀ p', p' < n → ∃ j, j < T ∧ q j = xStep n κ (q i) p' ∧ D (q j) ≤ D (q i) + 1) ∧ (hd < T → ∀ p', p' < p → ∃ j, j < T ∧ q j = xStep n κ (q hd) p' ∧ D (q j) ≤ D (q hd) + 1) ∧ (∀ j, j < T → uWk n κ a (D (q j)) (q j)) ∧ (0 < T ∧ q 0 = a ∧ D a = 0) ∧ (∀ j, j < T → D (q j) ≤ j) ∧ hd ≤ T
theorem bI.start {n a : Nat} {κ : Nat → Nat} {q D : Nat → Nat} (ha : a < uF n) (h0 : q 0 = a) (hD : D a = 0) : bI n κ a 1 0 0 q D := by
  refine ⟨fun j hj => ?_, fun i j hi hj => by omega, fun i j hi hj => ?_, fun _ j hj => ?_, fun i hi => absurd hi (Nat.not_lt_zero i), fun _ p hp => absurd hp (Nat.not_lt_zero p), fun j hj => ?_, ⟨by decide, h0, hD⟩, fun j hj => ?_, by decide⟩
  · rw [show j = 0 by omega, h0]; exact ha
  · rw [show j = 0 by omega, show i = 0 by omega]; exact Nat.le_refl _
  · rw [show j = 0 by omega]; omega
  · rw [show j = 0 by omega, h0, hD]; rfl
  · rw [show j = 0 by omega, h0, hD]; exact Nat.le_refl _
theorem bI.seen {n a T hd p : Nat} {κ : Nat → Nat} {q D : Nat → Nat} (h : bI n κ a T hd p q D) (hh : hd < T) (hs : ∃ j, j < T ∧ q j = xStep n κ (q hd) p) : bI n κ a T hd (p + 1) q D := by
  obtain ⟨h1, h2, h3, h4, h5, h6, h7⟩ := h
  refine ⟨h1, h2, h3, h4, h5, fun _ p' hp' => ?_, h7⟩
  rcases Nat.lt_or_ge p' p with r | r
  · exact h6 hh p' r
  · obtain ⟨j, hj, e⟩ := hs
    rw [show p' = p by omega]
    exact ⟨j, hj, e, h4 hh j hj⟩
theorem bI.next {n a T hd : Nat} {κ : Nat → Nat} {q D : Nat → Nat} (h : bI n κ a T hd n q D) (hh : hd < T) : bI n κ a T (hd + 1) 0 q D := by
  obtain ⟨h1, h2, h3, h4, h5, h6, h7, h8, h9, h10⟩ := h
  refine ⟨h1, h2, h3, fun hh2 j hj => ?_, fun i hi p' hp' => ?_, fun _ p hp => absurd hp (Nat.not_lt_zero p), h7, h8, h9, by omega⟩
  · have := h3 hd (hd + 1) (by omega) hh2
    have := h4 hh j hj
    omega
  · rcases Nat.lt_or_ge i hd with r | r
    · exact h5 i r p' hp'
    · rw [show i = hd by omega]
      exact h6 hh p' hp'
theorem bI.room {n a T hd p : Nat} {κ : Nat → Nat} {q D : Nat → Nat} (h : bI n κ a T hd p q D) : T ≤ uF n := pigeon _ T q h.1 h.2.1
theorem bI.add {n a T hd p : Nat} {κ : Nat → Nat} {q D : Nat → Nat} (hn : uHn n) (h : bI n κ a T hd p q D) (hh : hd < T) (hp : p < n) (hs : ∀ j, j < T → q j ≠ xStep n κ (q hd) p) : bI n κ a (T + 1) hd (p + 1) (fun j => if j = T then xStep n κ (q hd) p else q j) (fun k => if k = xStep n κ (q hd) p then D (q hd) + 1 else D k) := by
  obtain ⟨h1, h2, h3, h4, h5, h6, h7, ⟨h8, h8', h8''⟩, h9, h10⟩ := h
  have hx := xStep_lt (κ := κ) hn (h1 hd hh) hp
  have hinv := xStep_inv (κ := κ) hn (h1 hd hh) hp
  generalize hk : xStep n κ (q hd) p = k at hs hx hinv ⊢
  have eq : ∀ j, j < T → (if j = T then k else q j) = q j := fun j hj => if_neg (by omega)
  have eD : ∀ j, j < T → (if q j = k then D (q hd) + 1 else D (q j)) = D (q j) := fun j hj => if_neg (hs j hj)
  have old : ∀ i p', (∃ j, j < T ∧ q j = xStep n κ (q i) p' ∧ D (q j) ≤ D (q i) + 1) → i < T → ∃ j, j < T + 1 ∧ (if j = T then k else q j) = xStep n κ (if i = T then k else q i) p' ∧ (if (if j = T then k else q j) = k then D (q hd) + 1 else D (if j = T then k else q j)) ≤ (if (if i = T then k else q i) = k then D (q hd) + 1 else D (if i = T then k else q i)) + 1 := by
    rintro i p' ⟨j, hj, e, hD⟩ hi
    refine ⟨j, by omega, ?_, ?_⟩
    · rw [eq j hj, eq i hi]; exact e
    · rw [eq j hj, eq i hi, eD j hj, eD i hi]; exact hD
  refine ⟨fun j hj => ?_, fun i j hi hj => ?_, fun i j hi hj => ?_, fun _ j hj => ?_, fun i hi p' hp' => old i p' (h5 i hi p' hp') (by omega), fun _ p' hp' => ?_, fun j hj => ?_, ⟨by omega, ?_, ?_⟩, fun j hj => ?_, by omega⟩
  · dsimp only
    split
    · exact hx
    · exact h1 j (by omega)
  · dsimp only
    rw [eq i (by omega)]
    split
    · exact hs i (by omega)
    · exact h2 i j hi (by omega)
  · dsimp only
    by_cases e : j = T
    · rw [if_pos e, if_pos rfl]
      by_cases e2 : i = T
      · rw [if_pos e2, if_pos rfl]; exact Nat.le_refl _
      · rw [eq i (by omega), eD i (by omega)]
        exact h4 hh i (by omega)
    · rw [eq j (by omega), eD j (by omega), eq i (by omega), eD i (by omega)]
      exact h3 i j hi (by omega)
  · dsimp only
    rw [eq hd hh, eD hd hh]
    by_cases e : j = T
    · rw [if_pos e, if_pos rfl]; exact Nat.le_refl _
    · rw [eq j (by omega), eD j (by omega)]
      exact h4 hh j (by omega)
  · rcases Nat.lt_or_ge p' p with r | r
    · exact old hd p' (h6 hh p' r) hh
    · refine ⟨T, by omega, ?_, ?_⟩
      · dsimp only
        rw [if_pos rfl, eq hd hh, show p' = p by omega]
        exact hk.symm
      · dsimp only
        rw [if_pos rfl, if_pos rfl, eq hd hh, eD hd hh]
        exact Nat.le_refl _
  · dsimp only
    by_cases e : j = T
    · rw [if_pos e, if_pos rfl]
      exact Or.inr ⟨p, hp, by rw [hinv]; exact h7 hd hh⟩
    · rw [eq j (by omega), eD j (by omega)]
      exact h7 j (by omega)
  · dsimp only
    rw [eq 0 h8]; exact h8'
  · dsimp only
    rw [if_neg (fun e => hs 0 h8 (h8'.trans e))]
    exact h8''
  · dsimp only
    by_cases e : j = T
    · rw [if_pos e, if_pos rfl]
      have := h9 hd hh
      omega
    · rw [eq j (by omega), eD j (by omega)]
      exact h9 j (by omega)
theorem bI.least {n a T p : Nat} {κ : Nat → Nat} {q D : Nat → Nat} (hn : uHn n) (h : bI n κ a T T p q D) : ∀ t k, k < uF n → uWk n κ a t k → ∃ j, j < T ∧ q j = k ∧ D k ≤ t := by
  obtain ⟨h1, h2, h3, h4, h5, h6, h7, ⟨h8, h8', h8''⟩, h9, h10⟩ := h
  intro t
  induction t with
  | zero =>
    intro k hk hw
    exact ⟨0, h8, h8'.trans (show k = a from hw).symm, by rw [show k = a from hw, h8'']; exact Nat.le_refl 0⟩
  | succ t ih =>
    intro k hk hw
    rcases hw with hw | ⟨p, hp, hw⟩
    · obtain ⟨j, hj, e, hD⟩ := ih k hk hw
      exact ⟨j, hj, e, by omega⟩
    · obtain ⟨j, hj, e, hD⟩ := ih _ (xStep_lt hn hk hp) hw
      obtain ⟨i, hi, ei, hDi⟩ := h5 j hj p hp
      rw [e, xStep_inv hn hk hp] at ei
      rw [ei, e] at hDi
      exact ⟨i, hi, ei, by omega⟩
theorem bI.done {n a T p : Nat} {κ : Nat → Nat} {q D : Nat → Nat} (hn : uHn n) (h : bI n κ a T T p q D) : (∀ j, j < T → lstIs (fun t => uWk n κ a t (q j)) (nI (D (q j)))) ∧ ∀ k, k < uF n → (∀ j, j < T → q j ≠ k) → lstIs (fun t => uWk n κ a t k) (-1) := by
  have hl := h.least hn
  have hr := h.room
  have hF := uF_le hn
  refine ⟨fun j hj => Or.inl ⟨D (q j), ?_, rfl, h.2.2.2.2.2.2.1 j hj, fun s hs hw => ?_⟩, fun k hk hq => Or.inr ⟨rfl, fun t hw => ?_⟩⟩
  · have := h.2.2.2.2.2.2.2.2.1 j hj
    omega
  · obtain ⟨i, hi, e, hD⟩ := hl s (q j) (h.1 j hj) hw
    omega
  · obtain ⟨i, hi, e, _⟩ := hl t k hk hw
    exact hq i hi e
