/-! surely: the class -/
def sX (d : Nat) : Int32 := if d = 5000 then -1 else nI d
theorem sX_m1 {d : Nat} (h : d = 5000 ∨ d < 1000) : sX d = -1 ↔ d = 5000 := by
  unfold sX
  rcases h with h | h
  · rw [if_pos h]; exact ⟨fun _ => h, fun _ => rfl⟩
  · rw [if_neg (by omega)]
    exact ⟨fun e => absurd e (nI_m1 (n_lt31 (by omega))), fun e => by omega⟩
theorem reach_dec (n : Nat) (hn : uHn n) : ∀ d, d < n → ∀ M, M < 64 → ((nI M &&& ((kshl 1 (nI d) ||| kshl 1 (nI (uN n d))) ||| kshl 1 (nI (aP n d 0))) = 0) ↔ (M.testBit (aP n d 0) || M.testBit (aP n d 1) || M.testBit (aP n d 2)) = false) :=
  uHn.all (P := fun n => ∀ d, d < n → ∀ M, M < 64 → ((nI M &&& ((kshl 1 (nI d) ||| kshl 1 (nI (uN n d))) ||| kshl 1 (nI (aP n d 0))) = 0) ↔ (M.testBit (aP n d 0) || M.testBit (aP n d 1) || M.testBit (aP n d 2)) = false)) (by decide +kernel) (by decide +kernel) (by decide +kernel) (by decide +kernel) hn
theorem sub_c0 (x : Int32) : x - 1 = x + (nI 0 - 1) := by
  rw [show nI 0 - 1 = (-1 : Int32) by decide, Int32.sub_eq_add_neg]
theorem or_bit {M p : Nat} (hM : M < 64) (hp : p < 6) : nI M ||| kshl 1 (nI p) = nI (M ||| 2 ^ p) ∧ M ||| 2 ^ p < 64 ∧ ∀ j, (M ||| 2 ^ p).testBit j = (M.testBit j || decide (p = j)) := by
  refine ⟨by rw [kshl_1 p (by omega), fa_or], ?_, fun j => by rw [Nat.testBit_or, Nat.testBit_two_pow]⟩
  exact Nat.or_lt_two_pow (n := 6) hM (Nat.pow_lt_pow_right (by decide) hp)
def uMk (p : Nat) (g : Nat → Bool) (v : Int32) : Prop := ∃ M, v = nI M ∧ M < 64 ∧ ∀ j, M.testBit j = (decide (j < p) && g j)
theorem uMk.zero (g : Nat → Bool) : uMk 0 g 0 := ⟨0, rfl, by decide, fun j => by rw [Nat.zero_testBit, show decide (j < 0) = false from decide_eq_false (Nat.not_lt_zero j)]; rfl⟩
theorem uMk.no {p : Nat} {g : Nat → Bool} {v : Int32} (h : uMk p g v) (hg : g p = false) : uMk (p + 1) g v := by
  obtain ⟨M, h1, h2, h3⟩ := h
  refine ⟨M, h1, h2, fun j => ?_⟩
  rw [h3 j]
  by_cases e : j = p
  · rw [e, hg, Bool.and_false, Bool.and_false]
  · rw [show decide (j < p) = decide (j < p + 1) from decide_eq_decide.mpr ⟨fun q => by omega, fun q => by omega⟩]
theorem uMk.yes {p : Nat} {g : Nat → Bool} {v : Int32} (h : uMk p g v) (hp : p < 6) (hg : g p = true) : uMk (p + 1) g (v ||| kshl 1 (nI p)) := by
  obtain ⟨M, rfl, h2, h3⟩ := h
  obtain ⟨r1, r2, r3⟩ := or_bit h2 hp
  refine ⟨_, r1, r2, fun j => ?_⟩
  rw [r3 j, h3 j]
  by_cases e : p = j
  · rw [← e, hg, show decide (p = p) = true from decide_eq_true rfl, show decide (p < p + 1) = true from decide_eq_true (Nat.lt_succ_self p), Bool.or_true]; rfl
  · rw [show decide (p = j) = false from decide_eq_false e, Bool.or_false, show decide (j < p) = decide (j < p + 1) from decide_eq_decide.mpr ⟨fun q => by omega, fun q => by omega⟩]
section SX
variable {n a : Nat} {κ : Nat → Nat} {φ : Nat → Nat → Bool} {st : kS}
def xSv (n : Nat) (D : Nat → Nat) (s : kS) : Prop := ∀ k, k < uF n → gA s 23 k = sX (D k)
theorem x_force5 {K : Int32 → Int32 → Option Int32} {Q : Int32 → Prop} {D : Nat → Nat} {t i : Nat} (h : xR n κ φ st) (hD : ∀ k, k < uF n → D k = 5000 ∨ D k < 1000) (hX : xSv n D st) (ht : t < 1000) (hi : i < uF n) (hK : ∀ v w, uMk n (fun p => !uBar n κ p && decide (D (uC n i p) < t)) v → kZ (K v w) Q) : kZ (fX1_canForce_L5 K st (nI i) (nI t) kFU 0 0) Q := by
  have hn := h.1
  have hn6 := hn.2
  have hF := uF_le hn
  refine kfor (σ := Int32) (fun F p s => fX1_canForce_L5 K st (nI i) (nI t) F s p) (fun p s => uMk p (fun p => !uBar n κ p && decide (D (uC n i p) < t)) s) n ?_ ?_ kFU 0 0 (Nat.zero_le _) (kFU_lt0 (by omega)) (uMk.zero _)
  · rintro F s hs
    show kZ (fX1_canForce_L5_B _ _ st (nI i) (nI t) s (nI n)) _
    unfold fX1_canForce_L5_B
    rw [h.2.1]
    exact kZ.ifp (nI_le (Nat.le_refl n) hn.lt) (hK _ _ hs)
  · rintro F p s hp hs next
    show kZ (fX1_canForce_L5_B _ _ st (nI i) (nI t) s (nI p)) _
    unfold fX1_canForce_L5_B fX1_canForce_J50
    have hk1 := uC_lt hn hi hp
    rw [h.2.1]
    refine kZ.ifn (nI_ge hp hn.lt) ?_
    rw [h.barred hp, show nI p + 1 = nI (p + 1) from nI_1 p]
    cases hb : uBar n κ p with
    | true =>
      refine kZ.ifn (by decide) (kZ.ifp rfl (next _ (hs.no ?_)))
      rw [hb]; rfl
    | false =>
      refine kZ.ifp rfl ?_
      rw [h.after hi hp, kg_n _ (by omega) (by decide), hX _ hk1]
      have hd := hD _ hk1
      refine kZ.ite (fun e => next _ (hs.no ?_)) (fun e => ?_)
      · rw [show decide (D (uC n i p) < t) = false from decide_eq_false (by have := (sX_m1 hd).mp e; omega), Bool.and_false]
      · have e2 : ¬ D (uC n i p) = 5000 := fun q => e ((sX_m1 hd).mpr q)
        have e3 : sX (D (uC n i p)) = nI (D (uC n i p)) := if_neg e2
        rw [e3]
        refine kZ.ite (fun q => next _ (hs.no ?_)) (fun q => next _ (hs.yes (by omega) ?_))
        · have r := (nI_leI (n_lt31 (by omega)) (n_lt31 (by omega))).mp q
          rw [show decide (D (uC n i p) < t) = false from decide_eq_false (by omega), Bool.and_false]
        · have r : ¬ t ≤ D (uC n i p) := fun r => q (nI_le r (n_lt31 (by omega)))
          rw [hb, show decide (D (uC n i p) < t) = true from decide_eq_true (by omega)]
          decide
theorem x_force80 {g : Nat → Bool} {v : Int32} (h : xR n κ φ st) (hv : uMk n g v) : kZ (fX1_canForce_L80 (fun _ => some 1) st v kFU 0) (fun z => ∃ b, z = b01 b ∧ (b = true ↔ ∀ d, d < n → ∃ c, c < 3 ∧ g (aP n d c) = true)) := by
  have hn := h.1
  have hn6 := hn.2
  obtain ⟨M, rfl, h2, h3⟩ := hv
  have hb : ∀ d c, M.testBit (aP n d c) = g (aP n d c) := fun d c => by
    rw [h3, show decide (aP n d c < n) = true from decide_eq_true (aP_lt hn)]; rfl
  refine kfor (σ := Unit) (fun F p _ => fX1_canForce_L80 (fun _ => some 1) st (nI M) F p) (fun p _ => ∀ d, d < p → ∃ c, c < 3 ∧ g (aP n d c) = true) n ?_ ?_ kFU 0 () (Nat.zero_le _) (kFU_lt0 (by omega)) (fun d q => absurd q (Nat.not_lt_zero d))
  · rintro F _ hs
    show kZ (fX1_canForce_L80_B _ _ st (nI M) (nI n)) _
    unfold fX1_canForce_L80_B
    rw [h.2.1]
    exact kZ.ifp (nI_le (Nat.le_refl n) hn.lt) (kZ.ret ⟨true, rfl, fun _ => hs, fun _ => rfl⟩)
  · rintro F p _ hp hs next
    show kZ (fX1_canForce_L80_B _ _ st (nI M) (nI p)) _
    unfold fX1_canForce_L80_B
    rw [h.2.1]
    refine kZ.ifn (nI_ge hp hn.lt) ?_
    rw [sub_c0, h.around hp (by decide), h.next hp, show nI p + 1 = nI (p + 1) from nI_1 p]
    have hr := reach_dec n hn p hp M h2
    refine kZ.ite (fun e => kZ.ret ⟨false, rfl, fun q => absurd q (by decide), fun q => ?_⟩) (fun e => next () (fun d hd => ?_))
    · have e2 := hr.mp e
      rw [hb, hb, hb] at e2
      obtain ⟨c, hc, hg⟩ := q p hp
      rcases (show c = 0 ∨ c = 1 ∨ c = 2 by omega) with r | r | r <;> rw [r] at hg <;> rw [hg] at e2 <;> simp at e2
    · rcases Nat.lt_or_ge d p with r | r
      · exact hs d r
      · rw [show d = p by omega]
        have e2 : ¬ (M.testBit (aP n p 0) || M.testBit (aP n p 1) || M.testBit (aP n p 2)) = false := fun q => e (hr.mpr q)
        rw [hb, hb, hb] at e2
        cases g0 : g (aP n p 0) with
        | true => exact ⟨0, by decide, g0⟩
        | false =>
          cases g1 : g (aP n p 1) with
          | true => exact ⟨1, by decide, g1⟩
          | false =>
            cases g2 : g (aP n p 2) with
            | true => exact ⟨2, by decide, g2⟩
            | false => rw [g0, g1, g2] at e2; exact absurd rfl e2
theorem x_force {D : Nat → Nat} {t i : Nat} (h : xR n κ φ st) (hD : ∀ k, k < uF n → D k = 5000 ∨ D k < 1000) (hX : xSv n D st) (ht : t < 1000) (hi : i < uF n) : kZ (fX1_canForce st (nI i) (nI t)) (fun z => ∃ b, z = b01 b ∧ (b = true ↔ ∀ d, d < n → ∃ c, c < 3 ∧ (!uBar n κ (aP n d c) && decide (D (uC n i (aP n d c)) < t)) = true)) := by
  unfold fX1_canForce
  exact x_force5 h hD hX ht hi (fun v w hv => x_force80 h hv)
end SX
