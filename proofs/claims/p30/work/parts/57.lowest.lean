/-! LOWEST TERMS, powers -/
theorem gcd_step {a b : Nat} : Nat.gcd b (a % b) = Nat.gcd a b := by
  rw [Nat.gcd_comm a b, Nat.gcd_rec b a, Nat.gcd_comm]
theorem mod_half {a b : Nat} (h0 : 0 < b) (h : b < a) : 2 * (a % b) < a := by
  rcases Nat.lt_or_ge a (2 * b) with q | q
  · have : a % b = a - b := by rw [Nat.mod_eq_sub_mod (Nat.le_of_lt h), Nat.mod_eq_of_lt (by omega)]
    omega
  · have := Nat.mod_lt a h0
    omega
/-- how far Euclid's steps are from their end -/
def uEu (g d a b : Nat) : Prop := Nat.gcd a b = g ∧ a < 2 ^ 31 ∧ b < 2 ^ 31 ∧ ∃ m, (b < 2 ^ m ∧ d = 2 * m + 1) ∨ (a < 2 ^ m ∧ b < a ∧ d = 2 * m)
theorem uEu.step {g d a b : Nat} (h : uEu g d a b) (h0 : 0 < b) : ∃ d', d' + 1 = d ∧ uEu g d' b (a % b) := by
  obtain ⟨hg, ha, hb, m, hm⟩ := h
  have hlt := Nat.mod_lt a h0
  rcases hm with ⟨h1, h2⟩ | ⟨h1, h2, h3⟩
  · exact ⟨2 * m, h2.symm, gcd_step.trans hg, hb, by omega, m, Or.inr ⟨h1, hlt, rfl⟩⟩
  · cases m with
    | zero => omega
    | succ m =>
      have := mod_half h0 h2
      have e2 : 2 ^ (m + 1) = 2 * 2 ^ m := by rw [Nat.pow_succ, Nat.mul_comm]
      exact ⟨2 * m + 1, by omega, gcd_step.trans hg, hb, by omega, m, Or.inl ⟨by omega, rfl⟩⟩
theorem b_pos {b : Nat} (e : ¬ nI b = 0) : 0 < b := by
  rcases Nat.eq_zero_or_pos b with q | q
  · rw [q] at e
    exact absurd rfl e
  · exact q
theorem x_lowest_L {Q : Int32 → Prop} {K : Int32 → Int32 → Int32 → Option Int32} {v0 v1 v2 : Int32} {g : Nat} (hK : ∀ v4 v5, kZ (K (nI g) v4 v5) Q) :
    ∀ F d (s : Nat × Nat × Nat), d < F → (uEu g d s.1 s.2.1 ∧ s.2.2 + d ≤ 45) → kZ (fX9_lowest_L8 K v0 v1 v2 F (nI s.1) (nI s.2.1) (nI s.2.2)) Q := by
  refine kwhile (fun F (s : Nat × Nat × Nat) => fX9_lowest_L8 K v0 v1 v2 F (nI s.1) (nI s.2.1) (nI s.2.2)) (fun d s => uEu g d s.1 s.2.1 ∧ s.2.2 + d ≤ 45) ?_
  rintro F d ⟨a, b, i⟩ ⟨hm, hi⟩ next
  dsimp only at hm hi
  show kZ (fX9_lowest_L8_B _ _ v0 v1 v2 (nI a) (nI b) (nI i)) Q
  unfold fX9_lowest_L8_B
  refine kZ.ifn ?_ ?_
  · rw [show (64 : Int32) = nI 64 from rfl, nI_leI (by decide) (n_lt31 (by omega))]
    omega
  · refine kZ.ite (fun e => ?_) (fun e => ?_)
    · have h0 : b = 0 := nI_inj hm.2.2.1 (by decide) e
      have hg := hm.1
      rw [h0, Nat.gcd_zero_right] at hg
      rw [hg]
      exact hK _ _
    · have h0 := b_pos e
      obtain ⟨d', hd, hm'⟩ := hm.step h0
      rw [kr_n hm.2.1 h0 hm.2.2.1, show nI i + 1 = nI (i + 1) from nI_1 i]
      exact next d' (b, a % b, i + 1) (by omega) ⟨hm', by dsimp only; omega⟩
/-- a fraction's parts -/
def uLw (a b : Nat) (p : Int32) : Nat := if p = 0 then a / Nat.gcd a b else b / Nat.gcd a b
theorem uEu.start {a b : Nat} (ha : a < 2 ^ 21) (hb : b < 2 ^ 21) : uEu (Nat.gcd a b) 43 a b := ⟨rfl, by omega, by omega, 21, Or.inl ⟨hb, rfl⟩⟩
theorem x_lowest {a b : Nat} {p : Int32} (ha : a < 2 ^ 21) (hb : b < 2 ^ 21) (h0 : 0 < b) : fX9_lowest (nI a) (nI b) p = some (nI (uLw a b p)) := by
  have hg : 0 < Nat.gcd a b := Nat.gcd_pos_of_pos_right a h0
  have hg2 : Nat.gcd a b ≤ b := Nat.gcd_le_right a h0
  have key : kZ (fX9_lowest (nI a) (nI b) p) (fun z => z = nI (uLw a b p)) := by
    unfold fX9_lowest
    refine x_lowest_L (g := Nat.gcd a b) (fun v4 v5 => ?_) kFU 43 (a, b, 0) (kFU_lt (by decide)) ⟨uEu.start ha hb, (show 0 + 43 ≤ 45 by decide)⟩
    unfold fX9_lowest_J39
    refine kZ.ite (fun e => ?_) (fun e => ?_)
    · unfold fX9_lowest_J48
      refine kZ.ifn (nI_ne0 hg (by omega)) (kZ.ret ?_)
      rw [pk_div (by omega) hg (by omega)]
      unfold uLw
      rw [if_pos e]
    · unfold fX9_lowest_J48
      refine kZ.ifn (nI_ne0 hg (by omega)) (kZ.ret ?_)
      rw [pk_div (by omega) hg (by omega)]
      unfold uLw
      rw [if_neg e]
  obtain ⟨z, hz, rfl⟩ := key
  exact hz
/-- powers -/
theorem x_rolls {n t : Nat} {st : kS} (hp : gI st 3 = nI n) (ht : t < 1000) : fX8_rolls st (nI t) = some (nI (n ^ t)) := by
  have key : kZ (fX8_rolls_L4 (fun v2_2 _ => some v2_2) st (nI t) kFU (nI 1) (nI 0)) (fun z => z = nI (n ^ t)) := by
    refine kfor (σ := Int32) (fun F i s => fX8_rolls_L4 (fun v2_2 _ => some v2_2) st (nI t) F s i) (fun i s => s = nI (n ^ i)) t ?_ ?_ kFU 0 (nI 1) (Nat.zero_le _) (kFU_lt0 (by omega)) rfl
    · rintro F s rfl
      show kZ (fX8_rolls_L4_B _ _ st (nI t) _ (nI t)) _
      unfold fX8_rolls_L4_B
      exact kZ.ifp (nI_le (Nat.le_refl t) (n_lt31 (by omega))) (kZ.ret rfl)
    · rintro F i s hi rfl next
      show kZ (fX8_rolls_L4_B _ _ st (nI t) _ (nI i)) _
      unfold fX8_rolls_L4_B
      refine kZ.ifn (nI_ge hi (n_lt31 (by omega))) ?_
      rw [hp, show nI i + 1 = nI (i + 1) from nI_1 i]
      exact next _ (by rw [pk_mul, Nat.pow_succ])
  obtain ⟨z, hz, rfl⟩ := key
  exact hz
