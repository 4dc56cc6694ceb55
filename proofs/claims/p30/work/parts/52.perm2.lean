/-! WHAT THE NUMBERS OF ORDERS GIVE -/
def uHn (n : Nat) : Prop := 3 ≤ n ∧ n ≤ 6
theorem uHn.c {n : Nat} (h : uHn n) : n = 3 ∨ n = 4 ∨ n = 5 ∨ n = 6 := by
  obtain ⟨h1, h2⟩ := h
  omega
theorem uHn.all {P : Nat → Prop} (h3 : P 3) (h4 : P 4) (h5 : P 5) (h6 : P 6) {n : Nat} (h : uHn n) : P n := by
  rcases h.c with rfl | rfl | rfl | rfl <;> assumption
theorem uF_le {n : Nat} (h : uHn n) : uF n ≤ 720 := uHn.all (P := fun n => uF n ≤ 720) (by decide) (by decide) (by decide) (by decide) h
theorem uF_pos {n : Nat} (h : uHn n) : 0 < uF n := uHn.all (P := fun n => 0 < uF n) (by decide) (by decide) (by decide) (by decide) h
theorem u6_le {n : Nat} (h : uHn n) : 6 ^ n ≤ 46656 := uHn.all (P := fun n => 6 ^ n ≤ 46656) (by decide) (by decide) (by decide) (by decide) h
theorem uOk1_n {n : Nat} (h : uHn n) : uOk1 n = true := uHn.all (P := fun n => uOk1 n = true) uOk1_3 uOk1_4 uOk1_5 uOk1_6 h
theorem uOk2_n {n : Nat} (h : uHn n) : uOk2 n = true := uHn.all (P := fun n => uOk2 n = true) uOk2_3 uOk2_4 uOk2_5 uOk2_6 h
theorem uOk3_n {n : Nat} (h : uHn n) : uOk3 n = true := uHn.all (P := fun n => uOk3 n = true) uOk3_3 uOk3_4 uOk3_5 uOk3_6 h
theorem uScan_n {n : Nat} (h : uHn n) : uScan n (6 ^ n) (uF n) = true := uHn.all (P := fun n => uScan n (6 ^ n) (uF n) = true) uScan_3 uScan_4 uScan_5 uScan_6 h
theorem u_all {n : Nat} {P : Nat → Bool} (h : (List.range n).all P = true) {i : Nat} (hi : i < n) : P i = true := List.all_eq_true.mp h i (List.mem_range.mpr hi)
section UP
variable {n k : Nat} (hn : uHn n) (hk : k < uF n)
theorem u_1 (hn : uHn n) (hk : k < uF n) : uRk (uL n k) 0 = k ∧ (uL n k).length = n ∧ (∀ x ∈ uL n k, x < n) ∧ uCd n k < 6 ^ n ∧ ∀ i j, i < n → j < i → uD n k i ≠ uD n k j := by
  have h := u_all (uOk1_n hn) hk
  simp only [Bool.and_eq_true, beq_iff_eq, List.all_eq_true, Nat.blt_eq] at h
  obtain ⟨⟨⟨⟨h1, h2⟩, h3⟩, h4⟩, h5⟩ := h
  refine ⟨h1, h2, h3, h4, fun i j hi hj e => ?_⟩
  have := h5 i (List.mem_range.mpr hi) j (List.mem_range.mpr hj)
  rw [e] at this
  simp at this
theorem uRk_uL (hn : uHn n) (hk : k < uF n) : uRk (uL n k) 0 = k := (u_1 hn hk).1
theorem uL_len (hn : uHn n) (hk : k < uF n) : (uL n k).length = n := (u_1 hn hk).2.1
theorem uD_get (hn : uHn n) (hk : k < uF n) {j : Nat} (hj : j < n) : (uL n k)[j]? = some (uD n k j) := by
  have hl := uL_len hn hk
  unfold uD
  rw [List.getD_eq_getElem?_getD, List.getElem?_eq_getElem (by omega)]
  rfl
theorem uD_lt (hn : uHn n) (hk : k < uF n) {j : Nat} (hj : j < n) : uD n k j < n := (u_1 hn hk).2.2.1 _ (List.mem_of_getElem? (uD_get hn hk hj))
theorem uD_inj (hn : uHn n) (hk : k < uF n) {i j : Nat} (hi : i < n) (hj : j < n) (e : uD n k i = uD n k j) : i = j := by
  have h := (u_1 hn hk).2.2.2.2
  rcases Nat.lt_trichotomy i j with q | q | q
  · exact absurd e.symm (h j i hj q)
  · exact q
  · exact absurd e (h i j hi q)
theorem uCd_lt (hn : uHn n) (hk : k < uF n) : uCd n k < 6 ^ n := (u_1 hn hk).2.2.2.1
theorem uN_lt {p : Nat} (hn : uHn n) (hp : p < n) : uN n p < n := by
  unfold uN
  split <;> omega
theorem u_2 {p : Nat} (hn : uHn n) (hk : k < uF n) (hp : p < n) : uC n k p < uF n ∧ uL n (uC n k p) = uW n p (uL n k) := by
  have h := u_all (u_all (uOk2_n hn) hk) hp
  simp only [Bool.and_eq_true, beq_iff_eq, Nat.blt_eq] at h
  exact h
theorem uC_lt {p : Nat} (hn : uHn n) (hk : k < uF n) (hp : p < n) : uC n k p < uF n := (u_2 hn hk hp).1
theorem uD_uC {p j : Nat} (hn : uHn n) (hk : k < uF n) (hp : p < n) (hj : j < n) : uD n (uC n k p) j = if j = p then uD n k (uN n p) else if j = uN n p then uD n k p else uD n k j := by
  show (uL n (uC n k p)).getD j 0 = _
  rw [(u_2 hn hk hp).2]
  unfold uW
  rw [List.getD_eq_getElem?_getD, List.getElem?_map, List.getElem?_range hj]
  rfl
theorem uCd_s (hn : uHn n) (hk : k + 1 < uF n) : uCd n k < uCd n (k + 1) := by
  have h := u_all (uOk3_n hn) (show k < uF n - 1 by omega)
  simpa only [Nat.blt_eq] using h
theorem uCd_mono (hn : uHn n) : ∀ (d k : Nat), k + d + 1 < uF n → uCd n k < uCd n (k + d + 1) := by
  intro d
  induction d with
  | zero => intro k h; exact uCd_s hn h
  | succ d ih => intro k h; exact Nat.lt_trans (ih k (by omega)) (uCd_s hn (by omega))
theorem uCd_lt_iff {j : Nat} (hn : uHn n) (hk : k < uF n) (hj : j < uF n) : uCd n k < uCd n j ↔ k < j := by
  have key : ∀ a b, a < b → b < uF n → uCd n a < uCd n b := fun a b h hb => by
    have := uCd_mono hn (b - a - 1) a (by omega)
    rwa [show a + (b - a - 1) + 1 = b by omega] at this
  constructor
  · intro h
    rcases Nat.lt_trichotomy k j with q | q | q
    · exact q
    · rw [q] at h; omega
    · have := key j k q hk; omega
  · intro h; exact key k j h hj
theorem uCd_inj {j : Nat} (hn : uHn n) (hk : k < uF n) (hj : j < uF n) (e : uCd n k = uCd n j) : k = j := by
  have h1 := (uCd_lt_iff hn hk hj)
  have h2 := (uCd_lt_iff hn hj hk)
  omega
end UP
theorem uScan_spec (n : Nat) : ∀ c k, uScan n c k = true → (∀ c', c' < c → uFull n c' = true → ∃ j, j < k ∧ c' = uCd n j) ∧ (∀ j, j < k → uCd n j < c ∧ uFull n (uCd n j) = true) := by
  intro c
  induction c with
  | zero =>
    intro k h
    have : k = 0 := by simpa [uScan] using h
    subst this
    exact ⟨fun c' h => absurd h (Nat.not_lt_zero _), fun j h => absurd h (Nat.not_lt_zero _)⟩
  | succ c ih =>
    intro k h
    unfold uScan at h
    by_cases hf : uFull n c = true
    · rw [if_pos hf] at h
      simp only [Bool.and_eq_true, beq_iff_eq, Nat.blt_eq] at h
      obtain ⟨⟨h1, h2⟩, h3⟩ := h
      obtain ⟨g1, g2⟩ := ih (k - 1) h3
      refine ⟨fun c' hc hf' => ?_, fun j hj => ?_⟩
      · rcases Nat.lt_or_ge c' c with q | q
        · obtain ⟨j, hj, e⟩ := g1 c' q hf'
          exact ⟨j, by omega, e⟩
        · exact ⟨k - 1, by omega, by omega⟩
      · rcases Nat.lt_or_ge j (k - 1) with q | q
        · have := g2 j q
          exact ⟨by omega, this.2⟩
        · obtain rfl : j = k - 1 := by omega
          rw [h2]
          exact ⟨by omega, hf⟩
    · rw [if_neg hf] at h
      obtain ⟨g1, g2⟩ := ih k h
      refine ⟨fun c' hc hf' => ?_, fun j hj => ?_⟩
      · rcases Nat.lt_or_ge c' c with q | q
        · exact g1 c' q hf'
        · obtain rfl : c' = c := by omega
          exact absurd hf' hf
      · have := g2 j hj
        exact ⟨by omega, this.2⟩
theorem uFull_ex {n c : Nat} (hn : uHn n) (hc : c < 6 ^ n) (h : uFull n c = true) : ∃ j, j < uF n ∧ c = uCd n j := (uScan_spec n _ _ (uScan_n hn)).1 c hc h
theorem uFull_cd {n k : Nat} (hn : uHn n) (hk : k < uF n) : uFull n (uCd n k) = true := ((uScan_spec n _ _ (uScan_n hn)).2 k hk).2
theorem uD_0 {n : Nat} (hn : uHn n) : ∀ j, j < n → uD n 0 j = j := uHn.all (P := fun n => ∀ j, j < n → uD n 0 j = j) (by decide +kernel) (by decide +kernel) (by decide +kernel) (by decide +kernel) hn
/-- where a house stands -/
def uI (n k h : Nat) : Nat := (uL n k).findIdx (fun x => x == h)
def uOk4 (n : Nat) : Bool := (List.range (uF n)).all (fun k => (List.range n).all (fun h => Nat.blt (uI n k h) n && (uD n k (uI n k h) == h)))
theorem uOk4_3 : uOk4 3 = true := by decide +kernel
theorem uOk4_4 : uOk4 4 = true := by decide +kernel
theorem uOk4_5 : uOk4 5 = true := by decide +kernel
theorem uOk4_6 : uOk4 6 = true := by decide +kernel
theorem u_4 {n k h : Nat} (hn : uHn n) (hk : k < uF n) (hh : h < n) : uI n k h < n ∧ uD n k (uI n k h) = h := by
  have q := u_all (u_all (uHn.all (P := fun n => uOk4 n = true) uOk4_3 uOk4_4 uOk4_5 uOk4_6 hn) hk) hh
  simpa only [Bool.and_eq_true, beq_iff_eq, Nat.blt_eq] using q
theorem uI_lt {n k h : Nat} (hn : uHn n) (hk : k < uF n) (hh : h < n) : uI n k h < n := (u_4 hn hk hh).1
theorem uD_uI {n k h : Nat} (hn : uHn n) (hk : k < uF n) (hh : h < n) : uD n k (uI n k h) = h := (u_4 hn hk hh).2
theorem uI_uD {n k p : Nat} (hn : uHn n) (hk : k < uF n) (hp : p < n) : uI n k (uD n k p) = p := uD_inj hn hk (uI_lt hn hk (uD_lt hn hk hp)) hp (uD_uI hn hk (uD_lt hn hk hp))
/-- beside one another -/
def uBs (n p q : Nat) : Bool := uN n p == q || uN n q == p
def uAdj (n k a b : Nat) : Bool := uBs n (uI n k a) (uI n k b)
def uPairs (n : Nat) : List (Nat × Nat) := (List.range n).flatMap (fun a => (List.range' (a + 1) (n - (a + 1))).map (fun b => (a, b)))
def uEdges (n k : Nat) : List (Nat × Nat) := (List.range n).map (fun p => if uD n k p < uD n k (uN n p) then (uD n k p, uD n k (uN n p)) else (uD n k (uN n p), uD n k p))
def uOk5 (n : Nat) : Bool := (List.range (uF n)).all (fun k => (uEdges n k).isPerm ((uPairs n).filter (fun q => uAdj n k q.1 q.2)))
theorem uOk5_3 : uOk5 3 = true := by decide +kernel
theorem uOk5_4 : uOk5 4 = true := by decide +kernel
theorem uOk5_5 : uOk5 5 = true := by decide +kernel
theorem uOk5_6 : uOk5 6 = true := by decide +kernel
theorem u_perm {α : Type} {l m : List α} (h : l.Perm m) (g : α → Nat) : (l.map g).sum = (m.map g).sum := by
  induction h with
  | nil => rfl
  | cons x _ ih => simp only [List.map_cons, List.sum_cons, ih]
  | swap x y l => simp only [List.map_cons, List.sum_cons]; omega
  | trans _ _ h1 h2 => exact h1.trans h2
theorem u_5 {n k : Nat} (hn : uHn n) (hk : k < uF n) (g : Nat × Nat → Nat) : ((uEdges n k).map g).sum = (((uPairs n).filter (fun q => uAdj n k q.1 q.2)).map g).sum := by
  have q := u_all (uHn.all (P := fun n => uOk5 n = true) uOk5_3 uOk5_4 uOk5_5 uOk5_6 hn) hk
  exact u_perm (List.isPerm_iff.mp q) g
