/-! surely: levels, pure -/
theorem uSr_up {n a t k : Nat} {κ : Nat → Nat} (h : uSr n κ a t k) : uSr n κ a (t + 1) k := Or.inl h
theorem uSr_mono {n a k : Nat} {κ : Nat → Nat} {t u : Nat} (hu : t ≤ u) (h : uSr n κ a t k) : uSr n κ a u k := by
  obtain ⟨d, rfl⟩ : ∃ d, u = t + d := ⟨u - t, by omega⟩
  clear hu
  induction d with
  | zero => exact h
  | succ d ih => exact Or.inl ih
/-- what a cell holds at the begin of level t: a level below t, or none yet -/
def sOk (P : Nat → Prop) (t d : Nat) : Prop := (d < t ∧ P d ∧ ∀ s, s < d → ¬ P s) ∨ (d = 5000 ∧ ∀ s, s < t → ¬ P s)
theorem sOk.below {n a k t d : Nat} {κ : Nat → Nat} (h : sOk (fun s => uSr n κ a s k) (t + 1) d) (ht : t < 1000) : d < t + 1 ↔ uSr n κ a t k := by
  rcases h with ⟨h1, h2, h3⟩ | ⟨h1, h2⟩
  · exact ⟨fun _ => uSr_mono (by omega) h2, fun _ => h1⟩
  · exact ⟨fun q => by omega, fun q => absurd q (h2 t (by omega))⟩
theorem sOk.below2 {n a k t d : Nat} {κ : Nat → Nat} (h : sOk (fun s => uSr n κ a s k) (t + 2) d) (ht : t < 1000) : d < t + 1 ↔ uSr n κ a t k := by
  rcases h with ⟨h1, h2, h3⟩ | ⟨h1, h2⟩
  · refine ⟨fun q => uSr_mono (by omega) h2, fun q => ?_⟩
    rcases Nat.lt_or_ge d (t + 1) with r | r
    · exact r
    · exact absurd q (h3 t (by omega))
  · exact ⟨fun q => by omega, fun q => absurd q (h2 t (by omega))⟩
theorem sOk.keep {P : Nat → Prop} {t d : Nat} (h : sOk P t d) (hd : d ≠ 5000) : sOk P (t + 1) d := by
  rcases h with ⟨h1, h2, h3⟩ | ⟨h1, h2⟩
  · exact Or.inl ⟨by omega, h2, h3⟩
  · exact absurd h1 hd
theorem sOk.hit {P : Nat → Prop} {t : Nat} (h : sOk P t 5000) (ht : t < 1000) (hP : P t) : sOk P (t + 1) t := by
  rcases h with ⟨h1, h2, h3⟩ | ⟨h1, h2⟩
  · omega
  · exact Or.inl ⟨by omega, hP, h2⟩
theorem sOk.miss {P : Nat → Prop} {t : Nat} (h : sOk P t 5000) (ht : t < 1000) (hP : ¬ P t) : sOk P (t + 1) 5000 := by
  rcases h with ⟨h1, h2, h3⟩ | ⟨h1, h2⟩
  · omega
  · refine Or.inr ⟨rfl, fun s hs => ?_⟩
    rcases Nat.lt_or_ge s t with r | r
    · exact h2 s r
    · rw [show s = t by omega]; exact hP
/-- a level begins -/
def sO (n : Nat) (κ : Nat → Nat) (a : Nat) (C : Nat → Prop) (t : Nat) (D : Nat → Nat) : Prop := (∀ k, k < uF n → D k = 5000 ∨ D k < t) ∧ (∀ k, k < uF n → C k → sOk (fun s => uSr n κ a s k) t (D k)) ∧ ∃ q : Nat → Nat, ∀ s, s < t → q s < uF n ∧ D (q s) = s
/-- within a level -/
def sI_ (n : Nat) (κ : Nat → Nat) (a : Nat) (C : Nat → Prop) (t i : Nat) (D0 D : Nat → Nat) (m : Bool) : Prop := (∀ k, k < uF n → D0 k ≠ 5000 → D k = D0 k) ∧ (∀ k, k < uF n → i ≤ k → D k = D0 k) ∧ (∀ k, k < uF n → D k = 5000 ∨ D k < t + 1) ∧ (∀ k, k < uF n → k < i → C k → sOk (fun s => uSr n κ a s k) (t + 1) (D k)) ∧ ((m = false ∧ ∀ k, k < uF n → D k = D0 k) ∨ (m = true ∧ ∃ k, k < uF n ∧ D k = t))
section LV
variable {n a t i : Nat} {κ : Nat → Nat} {C : Nat → Prop} {D D0 : Nat → Nat} {m : Bool}
theorem sO.room (h : sO n κ a C t D) : t ≤ uF n := by
  obtain ⟨_, _, q, hq⟩ := h
  refine pigeon (uF n) t q (fun j hj => (hq j hj).1) (fun i j hi hj e => ?_)
  have h1 := (hq i (by omega)).2
  have h2 := (hq j hj).2
  rw [e, h2] at h1
  omega
theorem sO.first (ha : a < uF n) : sO n κ a C 1 (fun k => if k = a then 0 else 5000) := by
  refine ⟨fun k _ => ?_, fun k _ _ => ?_, fun _ => a, fun s hs => ⟨ha, ?_⟩⟩
  · dsimp only
    split
    · exact Or.inr (by decide)
    · exact Or.inl rfl
  · dsimp only
    split
    · rename_i e
      exact Or.inl ⟨by decide, e, fun s hs => absurd hs (Nat.not_lt_zero s)⟩
    · rename_i e
      refine Or.inr ⟨rfl, fun s hs q => e ?_⟩
      rw [show s = 0 by omega] at q
      exact q
  · dsimp only
    rw [if_pos rfl]
    omega
theorem sI_.start (h : sO n κ a C t D) : sI_ n κ a C t 0 D D false := ⟨fun _ _ _ => rfl, fun _ _ _ => rfl, fun k hk => (h.1 k hk).imp id (fun q => by omega), fun k _ q => absurd q (Nat.not_lt_zero k), Or.inl ⟨rfl, fun _ _ => rfl⟩⟩
theorem sI_.below (h0 : sO n κ a C (t + 1) D0) (h : sI_ n κ a C (t + 1) i D0 D m) (ht : t < 1000) {k : Nat} (hk : k < uF n) (hc : C k) : D k < t + 1 ↔ uSr n κ a t k := by
  obtain ⟨h1, h2, h3, h4, h5⟩ := h
  rcases Nat.lt_or_ge k i with r | r
  · exact (h4 k hk r hc).below2 ht
  · rw [h2 k hk r]
    exact (h0.2.1 k hk hc).below ht
theorem sI_.keep (h0 : sO n κ a C t D0) (h : sI_ n κ a C t i D0 D m) (hi : i < uF n) (hd : D i ≠ 5000) : sI_ n κ a C t (i + 1) D0 D m := by
  obtain ⟨h1, h2, h3, h4, h5⟩ := h
  refine ⟨h1, fun k hk q => h2 k hk (by omega), h3, fun k hk q hc => ?_, h5⟩
  rcases Nat.lt_or_ge k i with r | r
  · exact h4 k hk r hc
  · have e : k = i := by omega
    rw [e] at hc ⊢
    have h6 := h2 i hi (Nat.le_refl i)
    rw [h6] at hd ⊢
    exact (h0.2.1 i hi hc).keep hd
theorem sI_.miss (h0 : sO n κ a C t D0) (h : sI_ n κ a C t i D0 D m) (ht : t < 1000) (hi : i < uF n) (hd : D i = 5000) (hP : C i → ¬ uSr n κ a t i) : sI_ n κ a C t (i + 1) D0 D m := by
  obtain ⟨h1, h2, h3, h4, h5⟩ := h
  refine ⟨h1, fun k hk q => h2 k hk (by omega), h3, fun k hk q hc => ?_, h5⟩
  rcases Nat.lt_or_ge k i with r | r
  · exact h4 k hk r hc
  · have e : k = i := by omega
    rw [e] at hc ⊢
    have h6 := h2 i hi (Nat.le_refl i)
    have h7 := h0.2.1 i hi hc
    rw [← h6, hd] at h7
    rw [hd]
    exact h7.miss ht (hP hc)
theorem sI_.hit (h0 : sO n κ a C t D0) (h : sI_ n κ a C t i D0 D m) (ht : t < 1000) (hi : i < uF n) (hd : D i = 5000) (hP : C i → uSr n κ a t i) : sI_ n κ a C t (i + 1) D0 (fun k => if k = i then t else D k) true := by
  obtain ⟨h1, h2, h3, h4, h5⟩ := h
  have h6 := h2 i hi (Nat.le_refl i)
  refine ⟨fun k hk q => ?_, fun k hk q => ?_, fun k hk => ?_, fun k hk q hc => ?_, Or.inr ⟨rfl, i, hi, if_pos rfl⟩⟩
  · dsimp only
    rw [if_neg (fun e => by rw [e] at q; exact q (h6.symm.trans hd))]
    exact h1 k hk q
  · dsimp only
    rw [if_neg (by omega)]
    exact h2 k hk (by omega)
  · dsimp only
    split
    · exact Or.inr (by omega)
    · exact h3 k hk
  · dsimp only
    by_cases e : k = i
    · rw [if_pos e]
      rw [e] at hc ⊢
      have h7 := h0.2.1 i hi hc
      rw [← h6, hd] at h7
      exact h7.hit ht (hP hc)
    · rw [if_neg e]
      exact h4 k hk (by omega) hc
theorem sO.next (h0 : sO n κ a C t D0) (h : sI_ n κ a C t (uF n) D0 D true) (ht : t < 1000) : sO n κ a C (t + 1) D := by
  obtain ⟨h1, h2, h3, h4, h5⟩ := h
  rcases h5 with ⟨e, _⟩ | ⟨_, k0, hk0, hD⟩
  · exact absurd e (by decide)
  obtain ⟨g1, g2, q, g3⟩ := h0
  refine ⟨h3, fun k hk hc => h4 k hk hk hc, fun s => if s = t then k0 else q s, fun s hs => ?_⟩
  dsimp only
  by_cases e : s = t
  · rw [if_pos e, e]
    exact ⟨hk0, hD⟩
  · rw [if_neg e]
    obtain ⟨r1, r2⟩ := g3 s (by omega)
    refine ⟨r1, ?_⟩
    rw [h1 _ r1 (by omega)]
    exact r2
theorem sO.done (hC : ∀ k p, k < uF n → p < n → C k → xStep n κ k p < uF n ∧ C (xStep n κ k p)) (hn : uHn n) (h0 : sO n κ a C (t + 1) D0) (h : sI_ n κ a C (t + 1) (uF n) D0 D false) (ht : t < 900) : ∀ k, k < uF n → C k → (D k < 1000 ∧ uSr n κ a (D k) k ∧ ∀ s, s < D k → ¬ uSr n κ a s k) ∨ (D k = 5000 ∧ ∀ s, ¬ uSr n κ a s k) := by
  obtain ⟨h1, h2, h3, h4, h5⟩ := h
  have hD : ∀ k, k < uF n → D k = D0 k := by
    rcases h5 with ⟨_, hD⟩ | ⟨e, _⟩
    · exact hD
    · exact absurd e (by decide)
  have fix : ∀ d k, k < uF n → C k → uSr n κ a (t + d) k → uSr n κ a t k := by
    intro d
    induction d with
    | zero => intro k _ _ q; exact q
    | succ d ih =>
      intro k hk hc q
      rcases q with q | q
      · exact ih k hk hc q
      · have q2 : uSr n κ a (t + 1) k := Or.inr (fun d hd => by
          obtain ⟨c, hc3, q3⟩ := q d hd
          obtain ⟨s1, s2⟩ := hC k _ hk (aP_lt (d := d) (c := c) hn) hc
          exact ⟨c, hc3, ih _ s1 s2 q3⟩)
        have g1 := (h4 k hk hk hc).below (by omega)
        have g2 := (h0.2.1 k hk hc).below (by omega)
        rw [hD k hk] at g1
        have g3 := g1.mpr q2
        rcases h0.1 k hk with e | e
        · omega
        · exact g2.mp e
  intro k hk hc
  rcases h4 k hk hk hc with ⟨q1, q2, q3⟩ | ⟨q1, q2⟩
  · exact Or.inl ⟨by omega, q2, q3⟩
  · refine Or.inr ⟨q1, fun s hs => ?_⟩
    rcases Nat.lt_or_ge s t with r | r
    · exact q2 s (by omega) hs
    · obtain ⟨d, rfl⟩ : ∃ d, s = t + d := ⟨s - t, by omega⟩
      exact q2 t (by omega) (fix d k hk hc hs)
/-- one order's test at level t + 1 -/
theorem uSr_test {k : Nat} {G : Nat → Prop} (hG : ∀ p, p < n → (G p ↔ uSr n κ a t (xStep n κ k p))) (hn : uHn n) (hno : ¬ uSr n κ a t k) : (∀ d, d < n → ∃ c, c < 3 ∧ G (aP n d c)) ↔ uSr n κ a (t + 1) k := by
  constructor
  · intro h
    exact Or.inr (fun d hd => by
      obtain ⟨c, hc, g⟩ := h d hd
      exact ⟨c, hc, (hG _ (aP_lt hn)).mp g⟩)
  · intro h
    rcases h with h | h
    · exact absurd h hno
    · intro d hd
      obtain ⟨c, hc, g⟩ := h d hd
      exact ⟨c, hc, (hG _ (aP_lt hn)).mpr g⟩
end LV
