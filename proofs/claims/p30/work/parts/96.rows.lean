/-! ways and must, pure -/
theorem uRow_cg {h g : Nat → Nat} {n i : Nat} (e : ∀ q, i ≤ q → q < n → h q = g q) : ∀ d j, i ≤ j → j + d = n → uRow h n j = uRow g n j := by
  intro d
  induction d with
  | zero => intro j _ hj; rw [uRow_e (by omega), uRow_e (by omega)]
  | succ d ih => intro j hi hj; rw [uRow_s (h := h) (show j < n by omega), uRow_s (h := g) (show j < n by omega), e j hi (by omega), ih (j + 1) (by omega) (by omega)]
theorem uRow_upd {h g : Nat → Nat} {n p c : Nat} (hp : p < n) (e : ∀ q, q < n → q ≠ p → h q = g q) (ep : h p = g p + c) : ∀ d j, j + d = n → j ≤ p → uRow h n j = uRow g n j + c := by
  intro d
  induction d with
  | zero => intro j hj hjp; omega
  | succ d ih =>
    intro j hj hjp
    rw [uRow_s (h := h) (show j < n by omega), uRow_s (h := g) (show j < n by omega)]
    by_cases q : j = p
    · rw [q, ep, uRow_cg (h := h) (g := g) (i := p + 1) (fun r hr hrn => e r hrn (by omega)) d (p + 1) (Nat.le_refl _) (by omega)]
      omega
    · rw [e j (by omega) q, ih (j + 1) (by omega) (by omega)]
      omega
theorem uRow_mono {h g : Nat → Nat} {n : Nat} (e : ∀ q, q < n → h q ≤ g q) : ∀ d j, j + d = n → uRow h n j ≤ uRow g n j := by
  intro d
  induction d with
  | zero => intro j hj; rw [uRow_e (by omega), uRow_e (by omega)]; exact Nat.le_refl 0
  | succ d ih =>
    intro j hj
    rw [uRow_s (h := h) (show j < n by omega), uRow_s (h := g) (show j < n by omega)]
    have h1 := e j (by omega)
    have h2 := ih (j + 1) (by omega)
    omega
theorem uRow_some {h : Nat → Nat} {n : Nat} : ∀ d j, j + d = n → 0 < uRow h n j → ∃ p, p < n ∧ 0 < h p := by
  intro d
  induction d with
  | zero => intro j hj h0; rw [uRow_e (by omega)] at h0; omega
  | succ d ih =>
    intro j hj h0
    rw [uRow_s (by omega)] at h0
    rcases Nat.eq_zero_or_pos (h j) with q | q
    · exact ih (j + 1) (by omega) (by omega)
    · exact ⟨j, by omega, q⟩
theorem uC_inv {n k p : Nat} (hn : uHn n) (hk : k < uF n) (hp : p < n) : uC n (uC n k p) p = k := by
  have h1 := uC_lt hn hk hp
  have h2 := uC_lt hn h1 hp
  have hq := uN_lt hn hp
  have hne := uN_ne hn hp
  refine uO_inj hn h2 hk (fun j hj => ?_)
  rw [uD_uC hn h1 hp hj, uD_uC hn hk hp hq, uD_uC hn hk hp hp, uD_uC hn hk hp hj, if_neg hne, if_pos rfl, if_pos rfl]
  by_cases e1 : j = p
  · rw [if_pos e1, e1]
  · rw [if_neg e1]
    by_cases e2 : j = uN n p
    · rw [if_pos e2, e2]
    · rw [if_neg e2, if_neg e1, if_neg e2]
/-- a change in a place that may be, and that is not the place left out -/
def yA (n : Nat) (κ : Nat → Nat) (w p : Nat) : Bool := !uBar n κ p && !(p == w)
def yW (n : Nat) (κ : Nat → Nat) (w : Nat) : Nat → Nat → Nat
  | 0, k => if k = 0 then 1 else 0
  | t + 1, k => uRow (fun p => if yA n κ w p then yW n κ w t (uC n k p) else 0) n 0
/-- what has come to an order when all orders below i are done, and of i the places below j -/
def yT (n : Nat) (κ : Nat → Nat) (w : Nat) (F : Nat → Nat) (i j k p : Nat) : Nat := if yA n κ w p && (decide (uC n k p < i) || (decide (uC n k p = i) && decide (p < j))) then F (uC n k p) else 0
def yP (n : Nat) (κ : Nat → Nat) (w : Nat) (F : Nat → Nat) (i j k : Nat) : Nat := uRow (yT n κ w F i j k) n 0
section YW
variable {n w : Nat} {κ : Nat → Nat} {F : Nat → Nat}
theorem yW_le (hn : uHn n) : ∀ t k, yW n κ w t k ≤ 6 ^ t := by
  intro t
  induction t with
  | zero =>
    intro k
    show (if k = 0 then 1 else 0) ≤ 1
    split <;> omega
  | succ t ih =>
    intro k
    have h := uRow_le (h := fun p => if yA n κ w p then yW n κ w t (uC n k p) else 0) (n := n) (B := 6 ^ t) (fun j => by
      split
      · exact ih _
      · exact Nat.zero_le _) n 0 (Nat.zero_add n)
    have h2 : n * 6 ^ t ≤ 6 * 6 ^ t := Nat.mul_le_mul_right _ hn.2
    rw [Nat.pow_succ, Nat.mul_comm]
    exact Nat.le_trans h h2
theorem yP_le (hn : uHn n) {B : Nat} (hF : ∀ k, F k ≤ B) (i j k : Nat) : yP n κ w F i j k ≤ 6 * B := by
  have h := uRow_le (h := yT n κ w F i j k) (n := n) (B := B) (fun p => by
    unfold yT
    split
    · exact hF _
    · exact Nat.zero_le _) n 0 (Nat.zero_add n)
  exact Nat.le_trans h (Nat.mul_le_mul_right _ hn.2)
theorem yP_start (k : Nat) : yP n κ w F 0 0 k = 0 := by
  refine (uRow_congr (g := fun _ => 0) (fun p _ => ?_) n 0 (Nat.zero_add n)).trans (uRow_zero n 0 (Nat.zero_add n))
  unfold yT
  rw [show decide (uC n k p < 0) = false from decide_eq_false (Nat.not_lt_zero _), show decide (p < 0) = false from decide_eq_false (Nat.not_lt_zero _), Bool.and_false, Bool.or_false, Bool.and_false]
  rfl
theorem yP_row (i k : Nat) : yP n κ w F i n k = yP n κ w F (i + 1) 0 k := by
  refine uRow_congr (fun p hp => ?_) n 0 (Nat.zero_add n)
  unfold yT
  rw [show decide (p < n) = true from decide_eq_true hp, show decide (p < 0) = false from decide_eq_false (Nat.not_lt_zero _), Bool.and_true, Bool.and_false, Bool.or_false, show (decide (uC n k p < i) || decide (uC n k p = i)) = decide (uC n k p < i + 1) from ?_]
  rw [← Bool.decide_or]
  exact decide_eq_decide.mpr (by omega)
theorem yP_skip {i : Nat} (h0 : F i = 0) (k : Nat) : yP n κ w F i 0 k = yP n κ w F (i + 1) 0 k := by
  refine uRow_congr (fun p hp => ?_) n 0 (Nat.zero_add n)
  unfold yT
  rw [show decide (p < 0) = false from decide_eq_false (Nat.not_lt_zero _), Bool.and_false, Bool.and_false, Bool.or_false, Bool.or_false]
  by_cases e : uC n k p = i
  · rw [e, h0, ite_self, ite_self]
  · rw [show decide (uC n k p < i) = decide (uC n k p < i + 1) from decide_eq_decide.mpr (by omega)]
theorem yP_end (hn : uHn n) {k : Nat} (hk : k < uF n) (t : Nat) : yP n κ w (yW n κ w t) (uF n) 0 k = yW n κ w (t + 1) k := by
  refine uRow_congr (fun p hp => ?_) n 0 (Nat.zero_add n)
  unfold yT
  rw [show decide (uC n k p < uF n) = true from decide_eq_true (uC_lt hn hk hp), Bool.true_or, Bool.and_true]
theorem yP_no {i p k : Nat} (h : yA n κ w p = false ∨ uC n k p ≠ i) : yP n κ w F i (p + 1) k = yP n κ w F i p k := by
  refine uRow_congr (fun q hq => ?_) n 0 (Nat.zero_add n)
  unfold yT
  by_cases e : q = p
  · rw [e]
    rcases h with h | h
    · rw [h]; rfl
    · rw [show decide (uC n k p = i) = false from decide_eq_false h, Bool.false_and, Bool.false_and]
  · rw [show decide (q < p + 1) = decide (q < p) from decide_eq_decide.mpr (by omega)]
theorem yP_yes {i p k : Nat} (hp : p < n) (h : yA n κ w p = true) (hc : uC n k p = i) : yP n κ w F i (p + 1) k = yP n κ w F i p k + F i := by
  refine uRow_upd hp (fun q hq e => ?_) ?_ n 0 (Nat.zero_add n) (Nat.zero_le p)
  · unfold yT
    rw [show decide (q < p + 1) = decide (q < p) from decide_eq_decide.mpr (by omega)]
  · unfold yT
    rw [h, hc, show decide (i < i) = false from decide_eq_false (Nat.lt_irrefl i), show decide (i = i) = true from decide_eq_true rfl, show decide (p < p + 1) = true from decide_eq_true (Nat.lt_succ_self p), show decide (p < p) = false from decide_eq_false (Nat.lt_irrefl p)]
    show (if true = true then F i else 0) = (if false = true then F i else 0) + F i
    rw [if_pos rfl, if_neg (by decide), Nat.zero_add]
theorem yA_9 {q p : Nat} (hn : uHn n) (hp : p < n) (h : yA n κ q p = true) : yA n κ 9 p = true := by
  have := hn.2
  unfold yA at h ⊢
  rw [Bool.and_eq_true] at h ⊢
  exact ⟨h.1, by simp; omega⟩
theorem yA_q {q p : Nat} (h : yA n κ 9 p = true) (e : p ≠ q) : yA n κ q p = true := by
  unfold yA at h ⊢
  rw [Bool.and_eq_true] at h ⊢
  exact ⟨h.1, by simp; exact e⟩
theorem yW_sub {q : Nat} (hn : uHn n) : ∀ t k, yW n κ q t k ≤ yW n κ 9 t k := by
  intro t
  induction t with
  | zero => intro k; exact Nat.le_refl _
  | succ t ih =>
    intro k
    refine uRow_mono (fun p hp => ?_) n 0 (Nat.zero_add n)
    cases h : yA n κ q p with
    | false => rw [if_neg (by decide)]; exact Nat.zero_le _
    | true => rw [if_pos rfl, if_pos (yA_9 hn hp h)]; exact ih _
theorem yP_sub {q i j k : Nat} (hn : uHn n) (t : Nat) : yP n κ q (yW n κ q t) i j k ≤ yP n κ 9 (yW n κ 9 t) i j k := by
  refine uRow_mono (fun p hp => ?_) n 0 (Nat.zero_add n)
  unfold yT
  cases h : yA n κ q p with
  | false => rw [Bool.false_and, if_neg (by decide)]; exact Nat.zero_le _
  | true =>
    rw [yA_9 hn hp h]
    split
    · exact yW_sub hn t _
    · exact Nat.le_refl 0
theorem yW_compat (hn : uHn n) : ∀ t k, k < uF n → 0 < yW n κ w t k → uCompat n κ k := by
  intro t
  induction t with
  | zero =>
    intro k hk h
    have h2 : 0 < (if k = 0 then 1 else 0) := h
    by_cases e : k = 0
    · rw [e]; exact uCompat_0 hn
    · rw [if_neg e] at h2; omega
  | succ t ih =>
    intro k hk h
    obtain ⟨p, hp, h2⟩ := uRow_some n 0 (Nat.zero_add n) h
    cases hA : yA n κ w p with
    | false => rw [hA, if_neg (by decide)] at h2; omega
    | true =>
      rw [hA, if_pos rfl] at h2
      have hc := uC_lt hn hk hp
      have h3 := xStep_compat hn hc (ih _ hc h2) hp
      have hb : uBar n κ p = false := by
        unfold yA at hA
        rw [Bool.and_eq_true] at hA
        cases hb : uBar n κ p with
        | false => rfl
        | true => rw [hb] at hA; exact absurd hA.1 (by decide)
      unfold xStep at h3
      rw [hb, if_neg (by decide), uC_inv hn hk hp] at h3
      exact h3
theorem p12 {t : Nat} (ht : t ≤ 12) : 6 ^ t ≤ 2176782336 := Nat.le_trans (Nat.pow_le_pow_right (by decide) ht) (by decide)
theorem yW_63 (hn : uHn n) {t k : Nat} (ht : t ≤ 12) : yW n κ w t k < 2 ^ 63 := by
  have h1 := yW_le (κ := κ) (w := w) hn t k
  have h2 := p12 ht
  omega
theorem yP_63 (hn : uHn n) {t i j k : Nat} (ht : t ≤ 12) : yP n κ w (yW n κ w t) i j k < 2 ^ 63 := by
  have h1 := yP_le (κ := κ) (w := w) hn (F := yW n κ w t) (B := 6 ^ t) (fun k => yW_le hn t k) i j k
  have h2 := p12 ht
  omega
theorem lN_0 {a : Nat} (h : a < 2 ^ 63) : (lg_cmp (lN a) 0 = 0 ↔ a = 0) ∧ (lg_cmp (lN a) 0 ≤ 0 ↔ a = 0) := by
  have e0 : (0 : Int64) = lN 0 := rfl
  refine ⟨?_, ?_⟩
  · rw [lg_cmp_eq, e0, pk_lEQ h (by decide)]
  · rw [lg_cmp_le, e0, pk_lLE h (by decide)]
    omega
theorem uMk.uniq {g : Nat → Bool} {v v' : Int32} (h : uMk n g v) (h' : uMk n g v') : v = v' := by
  obtain ⟨M, rfl, h2, h3⟩ := h
  obtain ⟨M', rfl, h2', h3'⟩ := h'
  rw [show M = M' from Nat.eq_of_testBit_eq (fun j => by rw [h3 j, h3' j])]
theorem uMk.cg {g g' : Nat → Bool} {v : Int32} (h : uMk n g v) (e : ∀ q, q < n → g q = g' q) : uMk n g' v := by
  obtain ⟨M, rfl, h2, h3⟩ := h
  refine ⟨M, rfl, h2, fun j => ?_⟩
  rw [h3 j]
  by_cases q : j < n
  · rw [e j q]
  · rw [show decide (j < n) = false from decide_eq_false q]; rfl
theorem uMk.or {g : Nat → Bool} {v : Int32} {p : Nat} (hn : uHn n) (hp : p < n) (h : uMk n g v) : uMk n (fun q => g q || decide (p = q)) (v ||| kshl 1 (nI p)) := by
  have := hn.2
  obtain ⟨M, rfl, h2, h3⟩ := h
  obtain ⟨r1, r2, r3⟩ := or_bit h2 (show p < 6 by omega)
  refine ⟨_, r1, r2, fun j => ?_⟩
  rw [r3 j, h3 j]
  by_cases q : j < n
  · rw [show decide (j < n) = true from decide_eq_true q, Bool.true_and, Bool.true_and]
  · rw [show decide (j < n) = false from decide_eq_false q, show decide (p = j) = false from decide_eq_false (by omega)]; rfl
theorem uMk.and {g g' : Nat → Bool} {v v' : Int32} (h : uMk n g v) (h' : uMk n g' v') : uMk n (fun q => g q && g' q) (v &&& v') := by
  obtain ⟨M, rfl, h2, h3⟩ := h
  obtain ⟨M', rfl, h2', h3'⟩ := h'
  refine ⟨M &&& M', fa_and M M', Nat.and_lt_two_pow (n := 6) M h2', fun j => ?_⟩
  rw [Nat.testBit_and, h3 j, h3' j]
  cases decide (j < n) <;> simp
end YW
