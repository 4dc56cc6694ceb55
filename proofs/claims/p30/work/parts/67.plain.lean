/-! the calls that only look -/
theorem xR.houseIn {n k j : Nat} {κ : Nat → Nat} {φ : Nat → Nat → Bool} {st : kS} (h : xR n κ φ st) (ho : uO n k (gA st 13)) (hj : j < n) : fX3_houseIn_3 st (nI j) = nI (uD n k j) := by
  have := h.1.2
  unfold fX3_houseIn_3
  rw [kg_n _ (by omega) (by decide), ho.2 j hj]
theorem way_dec : ∀ n, n < 7 → ∀ p, p < 7 → ∀ q, q < 7 → (kmin (kabs (nI p - nI q)) ((nI n) - (kabs (nI p - nI q)))) = if nI q ≤ nI p then (if (nI n - (nI p - nI q)) ≤ (nI p - nI q) then (nI n - (nI p - nI q)) else (nI p - nI q)) else (if (nI n - (nI q - nI p)) ≤ (nI q - nI p) then (nI n - (nI q - nI p)) else (nI q - nI p)) := by decide +kernel
def uWy (n p q : Nat) : Int32 := kmin (kabs (nI p - nI q)) ((nI n) - (kabs (nI p - nI q)))
def uWlk (n o h j : Nat) : Int32 := uWy n 0 (uI n h j) + uWy n (uI n h j) (uI n o j)
theorem x_walk {n o h j : Nat} {κ : Nat → Nat} {φ : Nat → Nat → Bool} {sx : kS} (hx : xR n κ φ sx) (h6 : uO n o (gA sx 13)) (h8 : uO n h (gA sx 14)) (hj : j < n) : fX9_walk sx (nI j) = some (uWlk n o h j) := by
  unfold fX9_walk
  rw [hx.has hj, if_neg (by decide), hx.ahead h8 hj, hx.place h6 hj]
  simp only [Option.bind_some]
  unfold fX8_way
  rw [hx.2.1]
  rfl
