/-! the search in breadth, pure -/
theorem pigeon : ∀ N T (q : Nat → Nat), (∀ j, j < T → q j < N) → (∀ i j, i < j → j < T → q i ≠ q j) → T ≤ N := by
  intro N
  induction N with
  | zero =>
    intro T q h _
    rcases Nat.eq_zero_or_pos T with e | e
    · omega
    · have := h 0 e; omega
  | succ N ih =>
    intro T q h hd
    by_cases c : ∃ j, j < T ∧ q j = N
    · obtain ⟨j, hj, ej⟩ := c
      have := ih (T - 1) (fun i => if i < j then q i else q (i + 1)) (fun i hi => ?_) (fun i i' hii hi' => ?_)
      · omega
      · split
        · have h1 := h i (by omega)
          have h2 := hd i j (by omega) hj
          omega
        · have h1 := h (i + 1) (by omega)
          have h2 := hd j (i + 1) (by omega) (by omega)
          omega
      · split
        · split
          · exact hd i i' hii (by omega)
          · exact hd i (i' + 1) (by omega) (by omega)
        · split
          · omega
          · exact hd (i + 1) (i' + 1) (by omega) (by omega)
    · have := ih T q (fun j hj => by
        have := h j hj
        have : q j ≠ N := fun e => c ⟨j, hj, e⟩
        omega) hd
      omega
theorem uO_inj {n k l : Nat} (hn : uHn n) (hk : k < uF n) (hl : l < uF n) (e : ∀ j, j < n → uD n k j = uD n l j) : k = l := by
  have hL : uL n k = uL n l := by
    apply List.ext_getElem?
    intro j
    rcases Nat.lt_or_ge j n with q | q
    · rw [uD_get hn hk q, uD_get hn hl q, e j q]
    · rw [List.getElem?_eq_none (by rw [(u_1 hn hk).2.1]; exact q), List.getElem?_eq_none (by rw [(u_1 hn hl).2.1]; exact q)]
  have h1 := (u_1 hn hk).1
  have h2 := (u_1 hn hl).1
  rw [hL] at h1
  exact h1.symm.trans h2
theorem xStep_inv {n k p : Nat} {κ : Nat → Nat} (hn : uHn n) (hk : k < uF n) (hp : p < n) : xStep n κ (xStep n κ k p) p = k := by
  unfold xStep
  cases hb : uBar n κ p with
  | true => rw [if_pos rfl, if_pos rfl]
  | false =>
    rw [if_neg (by decide), if_neg (by decide)]
    have h1 := uC_lt hn hk hp
    have h2 := uC_lt hn h1 hp
    have hq := uN_lt hn hp
    have hne := uN_ne hn hp
    refine uO_inj hn h2 hk (fun j hj => ?_)
    rw [uD_uC hn h1 hp hj, uD_uC hn hk hp hq, uD_uC hn hk hp hp, uD_uC hn hk hp hj, if_neg hne, if_pos rfl, if_pos rfl]
    by_cases e1 : j = p
    · rw [if_pos e1, e1]
    · rw [if_neg e1]
      by_cases e2 : j = uN n p
      · rw [if_pos e2, e2]
      · rw [if_neg e2, if_neg e1, if_neg e2]
