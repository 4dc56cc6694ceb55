/-! PATHS: counted by their first change, and by their last -/
theorem sB_add {f g : Nat → Nat} : ∀ n, sB (fun i => f i + g i) n = sB f n + sB g n
  | 0 => rfl
  | n + 1 => by
    show sB (fun i => f i + g i) n + (f n + g n) = sB f n + f n + (sB g n + g n)
    rw [sB_add n]
    omega
theorem sB_zero : ∀ n, sB (fun _ => 0) n = 0
  | 0 => rfl
  | n + 1 => sB_zero n
theorem sB_swap {g : Nat → Nat → Nat} {m : Nat} : ∀ n, sB (fun a => sB (fun b => g a b) m) n = sB (fun b => sB (fun a => g a b) n) m
  | 0 => (sB_zero m).symm
  | n + 1 => by
    show sB (fun a => sB (fun b => g a b) m) n + sB (fun b => g n b) m = sB (fun b => sB (fun a => g a b) n + g n b) m
    rw [sB_add, sB_swap n]
theorem sB_if {c : Prop} [Decidable c] {f : Nat → Nat} {n : Nat} : (if c then sB f n else 0) = sB (fun i => if c then f i else 0) n := by
  by_cases h : c
  · rw [if_pos h]
    exact sB_cg n (fun i _ => (if_pos h).symm)
  · rw [if_neg h, sB_cg (h := fun _ => 0) n (fun i _ => if_neg h), sB_zero]
theorem sB_one {a v : Nat} : ∀ n, sB (fun i => if i = a then v else 0) n = if a < n then v else 0
  | 0 => (if_neg (Nat.not_lt_zero a)).symm
  | n + 1 => by
    show sB (fun i => if i = a then v else 0) n + (if n = a then v else 0) = _
    rw [sB_one n]
    by_cases e : n = a
    · rw [if_pos e, if_neg (by omega), if_pos (by omega)]
      omega
    · rw [if_neg e]
      by_cases q : a < n
      · rw [if_pos q, if_pos (by omega)]
        rfl
      · rw [if_neg q, if_neg (by omega)]
theorem sB_plus {f : Nat → Nat} {m : Nat} : ∀ n, sB f (m + n) = sB f m + sB (fun d => f (m + d)) n
  | 0 => rfl
  | n + 1 => by
    show sB f (m + n) + f (m + n) = sB f m + (sB (fun d => f (m + d)) n + f (m + n))
    rw [sB_plus n]
    omega
theorem sB_split {n : Nat} (hn : 0 < n) {F : Nat → Nat → Nat} : ∀ m, sB (fun c => F (c % n) (c / n)) (m * n) = sB (fun d => sB (fun q => F d q) m) n
  | 0 => by
    rw [Nat.zero_mul]
    exact (sB_zero n).symm
  | m + 1 => by
    rw [Nat.succ_mul, sB_plus, sB_split hn m]
    show _ = sB (fun d => sB (fun q => F d q) m + F d m) n
    rw [sB_add]
    congr 1
    refine sB_cg n (fun d hd => ?_)
    rw [Nat.mul_comm m n, Nat.mul_add_mod, Nat.mod_eq_of_lt hd, Nat.mul_add_div hn, Nat.div_eq_of_lt hd, Nat.add_zero]
theorem sB_eq0 {f : Nat → Nat} : ∀ n, sB f n = 0 → ∀ i, i < n → f i = 0
  | 0, _, _, hi => absurd hi (Nat.not_lt_zero _)
  | n + 1, h, i, hi => by
    have h2 : sB f n + f n = 0 := h
    by_cases e : i = n
    · rw [e]; omega
    · exact sB_eq0 n (by omega) i (by omega)
theorem sB_le {f : Nat → Nat} {B : Nat} (h : ∀ i, f i ≤ B) : ∀ n, sB f n ≤ n * B
  | 0 => Nat.zero_le _
  | n + 1 => by
    show sB f n + f n ≤ _
    rw [Nat.succ_mul]
    have := sB_le h n
    have := h n
    omega
section PT
variable {n : Nat} {κ : Nat → Nat}
theorem eT_sB {f : Nat → Nat} {j : Nat} : eT n κ f j = sB (fun q => sB (fun d => if uPa n κ q d = j then f q else 0) n) n := by
  unfold eT
  rw [← sB_row]
  refine sB_cg n (fun q _ => ?_)
  rw [← sB_row]
  rfl
theorem eT_cg {f g : Nat → Nat} {j : Nat} (h : ∀ q, q < n → f q = g q) : eT n κ f j = eT n κ g j := by
  rw [eT_sB, eT_sB]
  refine sB_cg n (fun q hq => sB_cg n (fun d _ => ?_))
  rw [h q hq]
theorem eT_sum {F : Nat → Nat → Nat} {j m : Nat} : eT n κ (fun q => sB (fun d => F d q) m) j = sB (fun d => eT n κ (F d) j) m := by
  rw [eT_sB]
  have e1 : ∀ q, sB (fun d => if uPa n κ q d = j then sB (fun d => F d q) m else 0) n = sB (fun b => sB (fun e => if uPa n κ q e = j then F b q else 0) n) m := by
    intro q
    rw [← sB_swap]
    exact sB_cg n (fun d _ => sB_if)
  rw [sB_cg n (fun q _ => e1 q), sB_swap]
  exact sB_cg m (fun d _ => eT_sB.symm)
theorem eP_first {p : Nat} (hp : p < n) (t : Nat) : ∀ j, eP n κ p (t + 1) j = sB (fun d => eP n κ (uPa n κ p d) t j) n := by
  induction t with
  | zero =>
    intro j
    show eT n κ (eP n κ p 0) j = _
    rw [eT_sB, sB_swap]
    refine sB_cg n (fun d _ => ?_)
    show sB (fun q => if uPa n κ q d = j then (if q = p then 1 else 0) else 0) n = if j = uPa n κ p d then 1 else 0
    rw [sB_cg (h := fun q => if q = p then (if uPa n κ p d = j then 1 else 0) else 0) n (fun q _ => by
      by_cases e : q = p
      · rw [if_pos e, if_pos e, e]
      · rw [if_neg e, if_neg e]
        split <;> rfl), sB_one, if_pos hp]
    by_cases e : j = uPa n κ p d
    · rw [if_pos e, if_pos e.symm]
    · rw [if_neg e, if_neg (Ne.symm e)]
  | succ t ih =>
    intro j
    show eT n κ (eP n κ p (t + 1)) j = _
    rw [eT_cg (fun q _ => ih q), eT_sum]
    rfl
/-- the order behind t changes, told by a number's digits -/
def wO (n : Nat) (κ : Nat → Nat) : Nat → Nat → Nat → Nat
  | 0, _, k => k
  | t + 1, c, k => wO n κ t (c / n) (xStep n κ k (c % n))
theorem uI_step {k h d : Nat} (hn : uHn n) (hk : k < uF n) (hh : h < n) (hd : d < n) : uI n (xStep n κ k d) h = uPa n κ (uI n k h) d := by
  have hi := uI_lt hn hk hh
  have hd2 := uN_lt hn hd
  have hne := uN_ne hn hd
  unfold xStep uPa
  by_cases c : uBar n κ d = true
  · rw [if_pos c, if_pos c]
  · rw [if_neg c, if_neg c]
    have hk2 := uC_lt hn hk hd
    have key : ∀ q, q < n → uD n (uC n k d) q = h → uI n (uC n k d) h = q := fun q hq e => by rw [← e, uI_uD hn hk2 hq]
    by_cases c1 : uI n k h = d
    · rw [if_pos c1]
      refine key _ hd2 ?_
      rw [uD_uC hn hk hd hd2, if_neg hne, if_pos rfl, ← c1, uD_uI hn hk hh]
    · rw [if_neg c1]
      by_cases c2 : uI n k h = uN n d
      · rw [if_pos c2]
        refine key _ hd ?_
        rw [uD_uC hn hk hd hd, if_pos rfl, ← c2, uD_uI hn hk hh]
      · rw [if_neg c2]
        refine key _ hi ?_
        rw [uD_uC hn hk hd hi, if_neg c1, if_neg c2, uD_uI hn hk hh]
theorem wO_ok (hn : uHn n) : ∀ t c k, k < uF n → uCompat n κ k → wO n κ t c k < uF n ∧ uCompat n κ (wO n κ t c k)
  | 0, _, _, h1, h2 => ⟨h1, h2⟩
  | t + 1, c, k, h1, h2 => wO_ok hn t (c / n) _ (xStep_lt hn h1 (Nat.mod_lt _ (by have := hn.1; omega))) (xStep_compat hn h1 h2 (Nat.mod_lt _ (by have := hn.1; omega)))
theorem odds_count (hn : uHn n) {h p : Nat} (hh : h < n) (hp : p < n) : ∀ t k, k < uF n → sB (fun c => if uD n (wO n κ t c k) p = h then 1 else 0) (n ^ t) = eP n κ (uI n k h) t p := by
  intro t
  induction t with
  | zero =>
    intro k hk
    show 0 + (if uD n k p = h then 1 else 0) = if p = uI n k h then 1 else 0
    by_cases e : uD n k p = h
    · rw [if_pos e, ← e, uI_uD hn hk hp, if_pos rfl]
    · rw [if_neg e, if_neg (fun q => e (by rw [q, uD_uI hn hk hh]))]
  | succ t ih =>
    intro k hk
    have hn0 : 0 < n := by have := hn.1; omega
    rw [Nat.pow_succ]
    refine (sB_split hn0 (F := fun d q => if uD n (wO n κ t q (xStep n κ k d)) p = h then 1 else 0) (n ^ t)).trans ?_
    rw [eP_first (uI_lt hn hk hh) t p]
    refine sB_cg n (fun d hd => ?_)
    rw [ih _ (xStep_lt hn hk hd), uI_step hn hk hh hd]
/-! the nights that there may have been -/
def yS (n : Nat) (κ : Nat → Nat) (w s : Nat) : Nat → Nat → Nat
  | 0, k => if k = s then 1 else 0
  | t + 1, k => sB (fun p => if yA n κ w p then yS n κ w s t (uC n k p) else 0) n
theorem yS_0 {w : Nat} : ∀ t k, yS n κ w 0 t k = yW n κ w t k
  | 0, _ => rfl
  | t + 1, k => by
    show sB (fun p => if yA n κ w p then yS n κ w 0 t (uC n k p) else 0) n = uRow (fun p => if yA n κ w p then yW n κ w t (uC n k p) else 0) n 0
    rw [← sB_row]
    refine sB_cg n (fun p _ => ?_)
    rw [yS_0 t]
theorem yS_first (hn : uHn n) {w s : Nat} (hs : s < uF n) (t : Nat) : ∀ k, k < uF n → yS n κ w s (t + 1) k = sB (fun p => if yA n κ w p then yS n κ w (uC n s p) t k else 0) n := by
  induction t with
  | zero =>
    intro k hk
    refine sB_cg n (fun p hp => ?_)
    show (if yA n κ w p then (if uC n k p = s then 1 else 0) else 0) = if yA n κ w p then (if k = uC n s p then 1 else 0) else 0
    have e : (uC n k p = s) ↔ (k = uC n s p) := ⟨fun q => by rw [← q, uC_inv hn hk hp], fun q => by rw [q, uC_inv hn hs hp]⟩
    by_cases c : uC n k p = s
    · rw [if_pos c, if_pos (e.mp c)]
    · rw [if_neg c, if_neg (fun q => c (e.mpr q))]
  | succ t ih =>
    intro k hk
    show sB (fun p => if yA n κ w p then yS n κ w s (t + 1) (uC n k p) else 0) n = _
    have e1 : ∀ p, p < n → (if yA n κ w p then yS n κ w s (t + 1) (uC n k p) else 0) = sB (fun q => if yA n κ w p then (if yA n κ w q then yS n κ w (uC n s q) t (uC n k p) else 0) else 0) n := by
      intro p hp
      rw [ih _ (uC_lt hn hk hp), sB_if]
    rw [sB_cg n e1, sB_swap]
    refine sB_cg n (fun q hq => ?_)
    show sB (fun p => if yA n κ w p then (if yA n κ w q then yS n κ w (uC n s q) t (uC n k p) else 0) else 0) n = if yA n κ w q then sB (fun p => if yA n κ w p then yS n κ w (uC n s q) t (uC n k p) else 0) n else 0
    rw [sB_if]
    refine sB_cg n (fun p _ => ?_)
    cases yA n κ w p <;> cases yA n κ w q <;> rfl
/-- all digits allowed -/
def wA (n : Nat) (κ : Nat → Nat) (w : Nat) : Nat → Nat → Bool
  | 0, _ => true
  | t + 1, c => yA n κ w (c % n) && wA n κ w t (c / n)
/-- a digit is q -/
def wU (n : Nat) : Nat → Nat → Nat → Bool
  | 0, _, _ => false
  | t + 1, c, q => (c % n == q) || wU n t (c / n) q
def wC (n : Nat) (κ : Nat → Nat) (w t s k c : Nat) : Nat := if wA n κ w t c && (wO n κ t c s == k) then 1 else 0
theorem ways_count (hn : uHn n) {w k : Nat} (hk : k < uF n) : ∀ t s, s < uF n → sB (wC n κ w t s k) (n ^ t) = yS n κ w s t k := by
  intro t
  induction t with
  | zero =>
    intro s hs
    show 0 + (if true && (s == k) then 1 else 0) = if k = s then 1 else 0
    by_cases e : s = k
    · rw [e, beq_self_eq_true, if_pos (show k = k from rfl)]
      rfl
    · rw [beq_eq_false_iff_ne.mpr e, if_neg (Ne.symm e)]
      rfl
  | succ t ih =>
    intro s hs
    have hn0 : 0 < n := by have := hn.1; omega
    rw [Nat.pow_succ]
    refine (sB_split hn0 (F := fun d q => if (yA n κ w d && wA n κ w t q) && (wO n κ t q (xStep n κ s d) == k) then 1 else 0) (n ^ t)).trans ?_
    rw [yS_first hn hs t k hk]
    refine sB_cg n (fun d hd => ?_)
    show sB (fun q => if (yA n κ w d && wA n κ w t q) && (wO n κ t q (xStep n κ s d) == k) then 1 else 0) (n ^ t) = _
    cases e : yA n κ w d with
    | false =>
      rw [sB_cg (h := fun _ => 0) _ (fun q _ => by rw [Bool.false_and, Bool.false_and]; rfl), sB_zero]
      rfl
    | true =>
      have hb : uBar n κ d = false := by
        unfold yA at e
        cases q : uBar n κ d with
        | false => rfl
        | true => rw [q] at e; exact absurd e (by simp)
      have hx : xStep n κ s d = uC n s d := by
        unfold xStep
        rw [hb]
        rfl
      rw [hx]
      show sB (fun q => if (true && wA n κ w t q) && (wO n κ t q (uC n s d) == k) then 1 else 0) (n ^ t) = yS n κ w (uC n s d) t k
      rw [← ih _ (uC_lt hn hs hd)]
      refine sB_cg _ (fun q _ => ?_)
      rw [Bool.true_and]
      rfl
theorem wA_q (hn : uHn n) {q : Nat} : ∀ t c, wA n κ q t c = (wA n κ 9 t c && !(wU n t c q))
  | 0, _ => rfl
  | t + 1, c => by
    have hn6 := hn.2
    have hd : c % n < n := Nat.mod_lt _ (by have := hn.1; omega)
    show (yA n κ q (c % n) && wA n κ q t (c / n)) = ((yA n κ 9 (c % n) && wA n κ 9 t (c / n)) && !((c % n == q) || wU n t (c / n) q))
    rw [wA_q hn t]
    unfold yA
    rw [beq_eq_false_iff_ne.mpr (show c % n ≠ 9 by omega)]
    cases uBar n κ (c % n) <;> cases (c % n == q) <;> cases wA n κ 9 t (c / n) <;> cases wU n t (c / n) q <;> rfl
end PT
