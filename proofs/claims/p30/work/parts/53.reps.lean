/-! THE RING in both: its number of houses, kinds, feuds, tables -/
def uSt (κ : Nat → Nat) (h : Nat) : Bool := κ h == 1 || κ h == 3
def uBar (n : Nat) (κ : Nat → Nat) (p : Nat) : Bool := uSt κ p || uSt κ (uN n p)
def xStep (n : Nat) (κ : Nat → Nat) (k p : Nat) : Nat := if uBar n κ p then k else uC n k p
def mStep (n : Nat) (κ : Nat → Nat) (k p : Nat) : Nat := if uSt κ (uD n k p) || uSt κ (uD n k (uN n p)) then k else uC n k p
def uCompat (n : Nat) (κ : Nat → Nat) (k : Nat) : Prop := ∀ p, p < n → uSt κ p = true → uD n k p = p
def uO (n k : Nat) (f : Nat → Int32) : Prop := k < uF n ∧ ∀ j, j < n → f j = nI (uD n k j)
def b01 (b : Bool) : Int32 := if b then 1 else 0
def xR (n : Nat) (κ : Nat → Nat) (φ : Nat → Nat → Bool) (st : kS) : Prop :=
  uHn n ∧ gI st 3 = nI n ∧ (∀ i, i < n → κ i < 4 ∧ gA st 11 i = nI (κ i)) ∧ (∀ i j, i < n → j < n → gA st 12 (6 * i + j) = b01 (φ i j)) ∧ (∀ p, p < n → (kushr (gI st 5) (nI p)) &&& 1 = b01 (uBar n κ p)) ∧ gI st 10 = nI n ∧ gI st 11 = nI (uF n) ∧ (∀ k p, k < uF n → p < n → gA st 17 (6 * k + p) = nI (uC n k p))
def mR (n : Nat) (κ : Nat → Nat) (φ : Nat → Nat → Bool) (st : kS) : Prop :=
  uHn n ∧ gI st 0 = nI n ∧ (∀ i, i < n → κ i < 4 ∧ gA st 1 i = nI (κ i)) ∧ (∀ i j, i < n → j < n → gA st 2 (6 * i + j) = b01 (φ i j)) ∧ gI st 16 = nI (uF n) ∧ (∀ k, k < uF n → gA st 12 k = nI (uCd n k)) ∧ (∀ k, k < uF n → gA st 13 (uCd n k) = nI k) ∧ (∀ k p, k < uF n → p < n → gA st 14 (6 * k + p) = nI (mStep n κ k p))
theorem xR.same {n : Nat} {κ : Nat → Nat} {φ : Nat → Nat → Bool} {I J A L : List Nat} {s t : kS} (h : xR n κ φ s) (hs : kSame I J A L s t) (d : (3 ∉ I ∧ 5 ∉ I ∧ 10 ∉ I ∧ 11 ∉ I) ∧ (11 ∉ A ∧ 12 ∉ A ∧ 17 ∉ A)) : xR n κ φ t := by
  obtain ⟨h1, h2, h3, h4, h5, h6, h7, h8⟩ := h
  obtain ⟨⟨d1, d2, d3, d4⟩, d5, d6, d7⟩ := d
  obtain ⟨s1, s2, s3, s4⟩ := hs
  exact ⟨h1, (s1 3 d1).trans h2, fun i hi => ⟨(h3 i hi).1, by rw [s3 11 d5]; exact (h3 i hi).2⟩, fun i j hi hj => by rw [s3 12 d6]; exact h4 i j hi hj, fun p hp => by rw [s1 5 d2]; exact h5 p hp, (s1 10 d3).trans h6, (s1 11 d4).trans h7, fun k p hk hp => by rw [s3 17 d7]; exact h8 k p hk hp⟩
theorem b01_0 {b : Bool} : b01 b = 0 ↔ b = false := by cases b <;> decide
theorem b01_c (b : Bool) : b01 b = 0 ∨ b01 b = 1 := by cases b <;> decide
theorem uHn.lt {n : Nat} (h : uHn n) : n < 2 ^ 31 := n_lt31 (by have := h.2; omega)
theorem uHn.lp {n p : Nat} (h : uHn n) (hp : p < n) : p < 2 ^ 31 := n_lt31 (by have := h.2; omega)
theorem uF.lt {n : Nat} (h : uHn n) : uF n < 2 ^ 31 := n_lt31 (by have := uF_le h; omega)
theorem uF.lk {n k : Nat} (h : uHn n) (hk : k < uF n) : k < 2 ^ 31 := n_lt31 (by have := uF_le h; omega)
/-- steps -/
theorem uSt_place {n : Nat} {κ : Nat → Nat} {k p : Nat} (hn : uHn n) (hk : k < uF n) (hc : uCompat n κ k) (hp : p < n) : uSt κ (uD n k p) = uSt κ p := by
  cases hs : uSt κ p with
  | true => rw [hc p hp hs]; exact hs
  | false =>
    cases hd : uSt κ (uD n k p) with
    | false => rfl
    | true =>
      have h1 := hc (uD n k p) (uD_lt hn hk hp) hd
      have h2 := uD_inj hn hk (uD_lt hn hk hp) hp h1
      rw [h2, hs] at hd
      cases hd
theorem mStep_eq {n : Nat} {κ : Nat → Nat} {k p : Nat} (hn : uHn n) (hk : k < uF n) (hc : uCompat n κ k) (hp : p < n) : mStep n κ k p = xStep n κ k p := by
  unfold mStep xStep uBar
  rw [uSt_place hn hk hc hp, uSt_place hn hk hc (uN_lt hn hp)]
theorem xStep_lt {n : Nat} {κ : Nat → Nat} {k p : Nat} (hn : uHn n) (hk : k < uF n) (hp : p < n) : xStep n κ k p < uF n := by
  unfold xStep
  split
  · exact hk
  · exact uC_lt hn hk hp
theorem mStep_lt {n : Nat} {κ : Nat → Nat} {k p : Nat} (hn : uHn n) (hk : k < uF n) (hp : p < n) : mStep n κ k p < uF n := by
  unfold mStep
  split
  · exact hk
  · exact uC_lt hn hk hp
theorem xStep_compat {n : Nat} {κ : Nat → Nat} {k p : Nat} (hn : uHn n) (hk : k < uF n) (hc : uCompat n κ k) (hp : p < n) : uCompat n κ (xStep n κ k p) := by
  unfold xStep
  cases hb : uBar n κ p with
  | true => exact hc
  | false =>
    intro q hq hs
    show uD n (uC n k p) q = q
    unfold uBar at hb
    rw [Bool.or_eq_false_iff] at hb
    rw [uD_uC hn hk hp hq, if_neg (fun e => by rw [e, hb.1] at hs; cases hs), if_neg (fun e => by rw [e, hb.2] at hs; cases hs)]
    exact hc q hq hs
theorem uCompat_0 {n : Nat} {κ : Nat → Nat} (hn : uHn n) : uCompat n κ 0 := fun p hp _ => uD_0 hn p hp
/-- an unbarred step leads elsewhere -/
theorem uC_ne {n k p : Nat} (hn : uHn n) (hk : k < uF n) (hp : p < n) : uC n k p ≠ k := fun e => by
  have h := uD_uC hn hk hp hp
  rw [e, if_pos rfl] at h
  have h2 := uD_inj hn hk hp (uN_lt hn hp) h
  unfold uN at h2
  have := hn.1
  split at h2 <;> omega
/-- small reads of the class -/
theorem xR.has {n : Nat} {κ : Nat → Nat} {φ : Nat → Nat → Bool} {st : kS} (h : xR n κ φ st) {j : Nat} (hj : j < n) : fX8_has st (nI j) = 1 := by
  unfold fX8_has
  rw [if_neg (nI_pos (h.1.lp hj)), h.2.1, if_neg (nI_ge hj h.1.lt)]
theorem xR.next {n : Nat} {κ : Nat → Nat} {φ : Nat → Nat → Bool} {st : kS} (h : xR n κ φ st) {p : Nat} (hp : p < n) : fX8_next st (nI p) = nI (uN n p) := by
  unfold fX8_next uN
  have := h.1.2
  rw [h.2.1, l1, nI_add]
  by_cases q : p + 1 < n
  · rw [if_neg (nI_ge q h.1.lt), if_pos q]
  · rw [if_pos (nI_le (by omega) (n_lt31 (by omega))), if_neg q]
    rfl
theorem xR.barred {n : Nat} {κ : Nat → Nat} {φ : Nat → Nat → Bool} {st : kS} (h : xR n κ φ st) {p : Nat} (hp : p < n) : fX8_barred st (nI p) = b01 (uBar n κ p) := by
  unfold fX8_barred
  rw [h.2.2.2.2.1 p hp]
  cases uBar n κ p <;> decide
theorem i6 {i j : Nat} : nI i * 6 + nI j = nI (6 * i + j) := by rw [l6, pk_mul, nI_add, Nat.mul_comm]
theorem i6' {i j : Nat} : 6 * nI i + nI j = nI (6 * i + j) := by rw [l6, pk_mul, nI_add]
theorem xR.hate {n : Nat} {κ : Nat → Nat} {φ : Nat → Nat → Bool} {st : kS} (h : xR n κ φ st) {i j : Nat} (hi : i < n) (hj : j < n) : fX8_hate st (nI i) (nI j) = b01 (φ i j) := by
  unfold fX8_hate
  have := h.1.2
  rw [i6, kg_n _ (by omega) (by decide), h.2.2.2.1 i j hi hj]
  cases φ i j <;> decide
theorem xR.kindg {n : Nat} {κ : Nat → Nat} {φ : Nat → Nat → Bool} {st : kS} (h : xR n κ φ st) {i : Nat} (hi : i < n) : kg 6 (gA st 11) (nI i) = nI (κ i) := by
  have := h.1.2
  rw [kg_n _ (by omega) (by decide), (h.2.2.1 i hi).2]
def uIs (κ k : Nat) : Bool := k == 0 || κ == k || (k == 1 && κ == 3)
theorem uIs_dec : ∀ a, a < 4 → ∀ k, k < 4 → (if nI k = 0 then (1 : Int32) else if nI a = nI k then 1 else if nI k = 1 then (if nI a = 3 then 1 else 0) else 0) = b01 (uIs a k) := by decide +kernel
theorem xR.is {n : Nat} {κ : Nat → Nat} {φ : Nat → Nat → Bool} {st : kS} (h : xR n κ φ st) {i k : Nat} (hi : i < n) (hk : k < 4) : fX8_is st (nI i) (nI k) = b01 (uIs (κ i) k) := by
  unfold fX8_is
  rw [h.kindg hi]
  exact uIs_dec (κ i) (h.2.2.1 i hi).1 k hk
theorem xR.is2 {n : Nat} {κ : Nat → Nat} {φ : Nat → Nat → Bool} {st : kS} (h : xR n κ φ st) {i : Nat} (hi : i < n) : fX8_is st (nI i) 2 = b01 (κ i == 2) := by
  rw [l2, h.is hi (by decide)]
  unfold uIs
  cases hq : κ i == 2 <;> simp
theorem xR.after {n : Nat} {κ : Nat → Nat} {φ : Nat → Nat → Bool} {st : kS} (h : xR n κ φ st) {k p : Nat} (hk : k < uF n) (hp : p < n) : fX4_after st (nI k) (nI p) = nI (uC n k p) := by
  unfold fX4_after
  have := h.1.2
  have := uF_le h.1
  rw [i6, kg_n _ (by omega) (by decide), h.2.2.2.2.2.2.2 k p hk hp]
theorem uSt_dec : ∀ a, a < 4 → ((some (nI a)).bind (fun x_1 => if x_1 = 1 then some (1 : Int32) else (some (nI a)).bind (fun x_4 => if x_4 = 3 then some 1 else some 0))) = some (b01 (a == 1 || a == 3)) := by decide +kernel
