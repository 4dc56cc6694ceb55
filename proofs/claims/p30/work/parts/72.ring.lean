/-! ring -/
def uFe (pa pb : Nat → Nat) : Nat → Nat → Nat → Bool
  | 0, _, _ => false
  | t + 1, i, j => uFe pa pb t i j || (i == pa t && j == pb t) || (i == pb t && j == pa t)
theorem uFe_comm (pa pb : Nat → Nat) : ∀ t i j, uFe pa pb t i j = uFe pa pb t j i
  | 0, _, _ => rfl
  | t + 1, i, j => by
    show (uFe pa pb t i j || (i == pa t && j == pb t) || (i == pb t && j == pa t)) = (uFe pa pb t j i || (j == pa t && i == pb t) || (j == pb t && i == pa t))
    rw [uFe_comm pa pb t i j, Bool.and_comm (j == pa t), Bool.and_comm (j == pb t), Bool.or_assoc, Bool.or_assoc, Bool.or_comm (i == pa t && j == pb t)]
theorem uRow_cong2 {h g : Nat → Nat} {n : Nat} : ∀ d j, j + d = n → (∀ i, j ≤ i → i < n → h i = g i) → uRow h n j = uRow g n j := by
  intro d
  induction d with
  | zero => intro j hj _; rw [uRow_e (by omega), uRow_e (by omega)]
  | succ d ih =>
    intro j hj e
    rw [uRow_s (h := h) (by omega), uRow_s (h := g) (by omega), ih (j + 1) (by omega) (fun i h1 h2 => e i (by omega) h2), e j (Nat.le_refl j) (by omega)]
theorem uRow_one {h g : Nat → Nat} {n a : Nat} (ha : a < n) (e1 : h a = g a + 1) : ∀ d j, j + d = n → j ≤ a → (∀ i, j ≤ i → i < n → i ≠ a → h i = g i) → uRow h n j = uRow g n j + 1 := by
  intro d
  induction d with
  | zero => intro j hj hja; omega
  | succ d ih =>
    intro j hj hja e
    rw [uRow_s (h := h) (show j < n by omega), uRow_s (h := g) (show j < n by omega)]
    by_cases q : j = a
    · subst q
      rw [e1, uRow_cong2 (h := h) (g := g) d (j + 1) (by omega) (fun i h1 h2 => e i (by omega) h2 (by omega))]
      omega
    · rw [e j (Nat.le_refl j) (by omega) q, ih (j + 1) (by omega) (by omega) (fun i h1 h2 h3 => e i (by omega) h2 h3)]
      omega
theorem uPn_lt {n a b : Nat} {φ ψ : Nat → Nat → Bool} (hab : a < b) (hb : b < n) (h0 : φ a b = false) (e : ∀ i j, ψ i j = (φ i j || (i == a && j == b) || (i == b && j == a))) : uPn n ψ = uPn n φ + 1 := by
  unfold uPn
  refine uRow_one (a := a) (by omega) ?_ n 0 (by omega) (by omega) ?_
  · refine uRow_one (a := b) hb ?_ (n - (a + 1)) (a + 1) (by omega) (by omega) ?_
    · rw [e a b, h0, beq_self_eq_true, beq_self_eq_true]
      rfl
    · intro j h1 h2 h3
      rw [e a j, beq_eq_false_iff_ne.mpr h3, beq_eq_false_iff_ne.mpr (show a ≠ b by omega), Bool.and_false, Bool.false_and, Bool.or_false, Bool.or_false]
  · intro i _ hi hia
    refine uRow_cong2 (n - (i + 1)) (i + 1) (by omega) (fun j h1 h2 => ?_)
    rw [e i j, beq_eq_false_iff_ne.mpr hia, Bool.false_and, Bool.or_false]
    by_cases q : i = b
    · rw [beq_eq_false_iff_ne.mpr (show j ≠ a by omega), Bool.and_false, Bool.or_false]
    · rw [beq_eq_false_iff_ne.mpr q, Bool.false_and, Bool.or_false]
theorem uPn_add {n a b : Nat} {φ ψ : Nat → Nat → Bool} (hab : a ≠ b) (ha : a < n) (hb : b < n) (hφ : ∀ i j, φ i j = φ j i) (h0 : φ a b = false) (e : ∀ i j, ψ i j = (φ i j || (i == a && j == b) || (i == b && j == a))) : uPn n ψ = uPn n φ + 1 := by
  rcases Nat.lt_or_ge a b with q | q
  · exact uPn_lt q hb h0 e
  · exact uPn_lt (show b < a by omega) ha (by rw [hφ]; exact h0) (fun i j => by rw [e i j, Bool.or_assoc, Bool.or_assoc, Bool.or_comm (i == a && j == b)])
theorem uPn_none (n : Nat) : uPn n (fun _ _ => false) = 0 := by
  have z : ∀ d j, j + d = n → uRow (fun _ => 0) n j = 0 := by
    intro d
    induction d with
    | zero => intro j hj; rw [uRow_e (by omega)]
    | succ d ih => intro j hj; rw [uRow_s (by omega), ih (j + 1) (by omega)]
  unfold uPn
  rw [uRow_cong2 (h := fun a => uRow (fun b => if (false : Bool) = true then 1 else 0) n (a + 1)) (g := fun _ => 0) n 0 (by omega) (fun i _ hi => by
    show uRow _ n (i + 1) = 0
    rw [uRow_cong2 (h := fun b => if (false : Bool) = true then 1 else 0) (g := fun _ => 0) (n - (i + 1)) (i + 1) (by omega) (fun _ _ _ => rfl)]
    exact z (n - (i + 1)) (i + 1) (by omega))]
  exact z n 0 (by omega)
/-- bars -/
theorem bar_dec : ∀ M, M < 64 → ∀ p, p < 6 → (kushr (nI M) (nI p)) &&& 1 = b01 (M.testBit p) := by decide +kernel
theorem is_dec : ∀ a, a < 4 → (if (1 : Int32) = 0 then (1 : Int32) else if nI a = 1 then 1 else if (1 : Int32) = 1 then (if nI a = 3 then 1 else 0) else 0) = b01 (a == 1 || a == 3) := by decide +kernel
section RI
variable {n m : Nat} {c : Nat → Nat} {κ : Nat → Nat} {st : kS}
theorem x_is1 (hκ : ∀ i, i < n → κ i < 4 ∧ gA st 11 i = nI (κ i)) (hn : n ≤ 6) {i : Nat} (hi : i < n) : fX8_is st (nI i) 1 = b01 (uSt κ i) := by
  unfold fX8_is
  rw [kg_n _ (by omega) (by decide), (hκ i hi).2]
  exact is_dec _ (hκ i hi).1
theorem x_next' (h3 : gI st 3 = nI n) (hn : uHn n) {p : Nat} (hp : p < n) : fX8_next st (nI p) = nI (uN n p) := by
  have hn6 := hn.2
  unfold fX8_next uN
  rw [h3, show nI p + 1 = nI (p + 1) from nI_1 p]
  by_cases q : p + 1 < n
  · rw [if_neg (nI_ge q hn.lt)]
    split <;> first | rfl | omega
  · rw [if_pos (nI_le (by omega) (n_lt31 (by omega)))]
    split <;> first | rfl | omega
theorem x_setBars (hn : uHn n) (h3 : gI st 3 = nI n) (hκ : ∀ i, i < n → κ i < 4 ∧ gA st 11 i = nI (κ i)) : kZ (fX8_setBars st) (fun z => kSame [5] [] [] [] st z ∧ ∀ p, p < n → (kushr (gI z 5) (nI p)) &&& 1 = b01 (uBar n κ p)) := by
  have hn6 := hn.2
  unfold fX8_setBars
  refine kfor (σ := kS) (fun F i s => fX8_setBars_L7 _ F i s) (fun i s => kSame [5] [] [] [] st s ∧ ∃ M, M < 64 ∧ gI s 5 = nI M ∧ ∀ p, M.testBit p = true ↔ p < i ∧ uBar n κ p = true) n ?_ ?_ kFU 0 (sI st 5 0) (Nat.zero_le _) (kFU_lt0 (by omega)) ⟨kSame.rf.sI (by decide) _, 0, by decide, gI_e _ _ _, fun p => ⟨fun h => absurd h (by rw [Nat.zero_testBit]; decide), fun h => absurd h.1 (Nat.not_lt_zero p)⟩⟩
  · rintro F s ⟨hs, M, hM, e5, hb⟩
    show kZ (fX8_setBars_L7_B _ _ s (nI n)) _
    unfold fX8_setBars_L7_B
    rw [hs.1 3 (by decide), h3]
    refine kZ.ifp (nI_le (Nat.le_refl n) hn.lt) (kZ.ret ⟨hs, fun p hp => ?_⟩)
    rw [e5, bar_dec M hM p (by omega)]
    have := hb p
    cases hu : uBar n κ p with
    | true => rw [(hb p).mpr ⟨hp, hu⟩]
    | false =>
      cases ht : M.testBit p with
      | false => rfl
      | true => rw [((hb p).mp ht).2] at hu; cases hu
  · rintro F i s hi ⟨hs, M, hM, e5, hb⟩ next
    show kZ (fX8_setBars_L7_B _ _ s (nI i)) _
    unfold fX8_setBars_L7_B
    rw [hs.1 3 (by decide), h3]
    refine kZ.ifn (nI_ge hi hn.lt) ?_
    have hκs : ∀ i, i < n → κ i < 4 ∧ gA s 11 i = nI (κ i) := fun i hi => by rw [hs.2.2.1 11 (by decide)]; exact hκ i hi
    rw [x_next' ((hs.1 3 (by decide)).trans h3) hn hi, x_is1 hκs hn6 hi, x_is1 hκs hn6 (uN_lt hn hi), show nI i + 1 = nI (i + 1) from nI_1 i]
    have yes : uBar n κ i = true → kZ (fX8_setBars_L7 (fun _ st_5 => some st_5) F (nI (i + 1)) (sI s 5 ((gI s 5) ||| (kshl 1 (nI i))))) (fun z => kSame [5] [] [] [] st z ∧ ∀ p, p < n → (kushr (gI z 5) (nI p)) &&& 1 = b01 (uBar n κ p)) := fun hu => by
      rw [e5, kshl_1 _ (by omega), fa_or]
      refine next _ ⟨hs.sI (by decide) _, M ||| 2 ^ i, Nat.or_lt_two_pow (n := 6) hM (Nat.pow_lt_pow_right (by decide) (by omega)), gI_e _ _ _, fun p => ?_⟩
      rw [Nat.testBit_or, Bool.or_eq_true, hb, Nat.testBit_two_pow, decide_eq_true_iff]
      constructor
      · rintro (h | h)
        · exact ⟨by omega, h.2⟩
        · rw [← h]; exact ⟨by omega, hu⟩
      · rintro ⟨h1, h2⟩
        rcases Nat.lt_or_ge p i with q | q
        · exact Or.inl ⟨q, h2⟩
        · exact Or.inr (by omega)
    cases h1 : uSt κ i with
    | true => exact kZ.ifn (by decide) (yes (by unfold uBar; rw [h1]; rfl))
    | false =>
      refine kZ.ifp rfl ?_
      cases h2 : uSt κ (uN n i) with
      | true => exact kZ.ifn (by decide) (yes (by unfold uBar; rw [h1, h2]; rfl))
      | false =>
        refine kZ.ifp rfl (next _ ⟨hs, M, hM, e5, fun p => ?_⟩)
        rw [hb]
        constructor
        · rintro ⟨h1, h2⟩; exact ⟨by omega, h2⟩
        · rintro ⟨h3, h4⟩
          rcases Nat.lt_or_ge p i with q | q
          · exact ⟨q, h4⟩
          · rw [show p = i by omega] at h4
            unfold uBar at h4
            rw [h1, h2] at h4
            cases h4
end RI
