/-! ring: the class and the reference -/
section RR
variable {n m : Nat} {c : Nat → Nat} {st : kS}
def pA (c : Nat → Nat) (n t : Nat) : Nat := c (n + 1 + 3 * t) - 48
def pB (c : Nat → Nat) (n t : Nat) : Nat := c (n + 2 + 3 * t) - 48
/-- a whole ring: its houses, its pairs -/
def wR (c : Nat → Nat) (m n f : Nat) : Prop := uHn n ∧ (m ≤ 26 ∧ f ≤ 6) ∧ (m = n ∧ f = 0 ∨ 0 < f ∧ m = n + 3 * f) ∧ (∀ i, i < n → tK (c i) < 4) ∧ ∀ t, t < f → (48 ≤ c (n + 1 + 3 * t) ∧ c (n + 1 + 3 * t) < 48 + n) ∧ (48 ≤ c (n + 2 + 3 * t) ∧ c (n + 2 + 3 * t) < 48 + n) ∧ c (n + 1 + 3 * t) ≠ c (n + 2 + 3 * t)
theorem wR_of (hm : m ≤ 26) (hH : Fst (tH c) m n) (hP : Fst (tO c n) m m) (hW : tW m n m = true) : wR c m n ((m - n) / 3) := by
  unfold tW at hW
  rw [decide_eq_true_iff] at hW
  have h6 := tH_le hH
  have hle := hH.1
  have h17 : (m - n) / 3 ≤ 6 := by
    rcases Nat.lt_or_ge ((m - n) / 3) 7 with q | q
    · omega
    · have h1 := hP.2.1 (n + 18) (by omega)
      unfold tO tR at h1
      rw [if_neg (by omega), if_neg (by omega), Bool.and_eq_true] at h1
      have := Nat.blt_eq.mp h1.1
      omega
  refine ⟨⟨hW.1, h6⟩, ⟨hm, h17⟩, by omega, fun i hi => ?_, fun t ht => ?_⟩
  · have := hH.2.1 i hi
    unfold tH at this
    rw [Bool.and_eq_true] at this
    exact Nat.blt_eq.mp this.2
  · have h1 := hP.2.1 (n + 1 + 3 * t) (by omega)
    have h2 := hP.2.1 (n + 2 + 3 * t) (by omega)
    unfold tO tR at h1 h2
    rw [if_neg (by omega), if_neg (by omega), if_pos (by omega), Bool.and_eq_true] at h1
    rw [if_neg (by omega), if_neg (by omega), if_neg (by omega), if_pos (by omega), Bool.and_eq_true, Bool.and_eq_true] at h2
    have d1 := tDg_48 h1.2
    have d2 := tDg_48 h2.2.1
    refine ⟨d1, d2, fun e => ?_⟩
    have h3 := h2.2.2
    rw [show n + 2 + 3 * t - 1 = n + 1 + 3 * t by omega, e, beq_self_eq_true] at h3
    cases h3
theorem x_readKinds {f : Nat} {Q : kS → Prop} {K : Int32 → kS → Option kS} (hw : wR c m n f) (h : pgX m c st) (h3 : gI st 3 = nI n) (hK : ∀ v s, kSame [] [] [11] [] st s → (∀ i, i < n → gA s 11 i = nI (tK (c i))) → kZ (K v s) Q) : kZ (fX8_read_L10 K kFU 0 st) Q := by
  obtain ⟨hn, hm, hmf, hk, hp⟩ := hw
  have hn6 := hn.2
  refine kfor (σ := kS) (fun F i s => fX8_read_L10 K F i s) (fun i s => kSame [] [] [11] [] st s ∧ ∀ j, j < i → gA s 11 j = nI (tK (c j))) n ?_ ?_ kFU 0 st (Nat.zero_le _) (kFU_lt0 (by omega)) ⟨kSame.rf, fun j hj => absurd hj (Nat.not_lt_zero j)⟩
  · rintro F s ⟨hs, ht⟩
    show kZ (fX8_read_L10_B _ _ s (nI n)) _
    unfold fX8_read_L10_B
    rw [hs.1 3 (by decide), h3]
    exact kZ.ifp (nI_le (Nat.le_refl n) hn.lt) (hK _ s hs ht)
  · rintro F i s hi ⟨hs, ht⟩ next
    show kZ (fX8_read_L10_B _ _ s (nI i)) _
    unfold fX8_read_L10_B
    rw [hs.1 3 (by decide), h3]
    refine kZ.ifn (nI_ge hi hn.lt) ?_
    have hk4 := hk i hi
    rw [(h.same hs (by decide)).code (show i < m by omega), tK_x _ (h.2.2 i (by omega)).1, show (if tK (c i) = 4 then (-1 : Int32) else nI (tK (c i))) = nI (tK (c i)) from if_neg (by omega), kp_n _ _ (by omega) (by decide), show nI i + 1 = nI (i + 1) from nI_1 i]
    refine next _ ⟨hs.sA (by decide) _, fun j hj => ?_⟩
    rw [gA_e]
    by_cases e : j = i
    · rw [e, upd_e]
    · rw [upd_n e]; exact ht j (by omega)
/-- the feuds told so far stand in the class's table -/
def xF (n : Nat) (φ : Nat → Nat → Bool) (s : kS) : Prop := gI s 4 = nI (uPn n φ) ∧ ∀ i j, i < n → j < n → gA s 12 (6 * i + j) = b01 (φ i j)
theorem x_quarrel {φ ψ : Nat → Nat → Bool} {a b : Nat} (hn : uHn n) (ha : a < n) (hb : b < n) (hab : a ≠ b) (hφ : ∀ i j, φ i j = φ j i) (h : xF n φ st) (e : ∀ i j, ψ i j = (φ i j || (i == a && j == b) || (i == b && j == a))) : kSame [4] [] [12] [] st (fX8_quarrel st (nI a) (nI b)) ∧ xF n ψ (fX8_quarrel st (nI a) (nI b)) := by
  have hn6 := hn.2
  have eh : fX8_hate st (nI a) (nI b) = b01 (φ a b) := by
    unfold fX8_hate
    rw [i6, kg_n _ (by omega) (by decide), h.2 a b ha hb]
    cases φ a b <;> rfl
  unfold fX8_quarrel
  rw [eh]
  cases h0 : φ a b with
  | true =>
    rw [if_neg (by decide)]
    refine ⟨kSame.rf, ?_⟩
    have : ψ = φ := by
      funext i j
      rw [e i j]
      cases hi : (i == a && j == b) with
      | true =>
        rw [Bool.and_eq_true, beq_iff_eq, beq_iff_eq] at hi
        rw [hi.1, hi.2, h0]; rfl
      | false =>
        cases hj : (i == b && j == a) with
        | true =>
          rw [Bool.and_eq_true, beq_iff_eq, beq_iff_eq] at hj
          rw [hj.1, hj.2, hφ b a, h0]; rfl
        | false => rw [Bool.or_false, Bool.or_false]
    rw [this]
    exact h
  | false =>
    rw [if_pos (show b01 false = 0 from rfl), i6, i6, kp_n _ _ (show 6 * a + b < 36 by omega) (by decide), kp_n _ _ (show 6 * b + a < 36 by omega) (by decide), h.1, show nI (uPn n φ) + 1 = nI (uPn n φ + 1) from nI_1 _]
    refine ⟨((kSame.rf.sA (by decide) _).sA (by decide) _).sI (by decide) _, ?_, fun i j hi hj => ?_⟩
    · rw [gI_e, uPn_add hab ha hb hφ h0 e]
    · show gA (sA (sA st 12 _) 12 _) 12 (6 * i + j) = _
      rw [gA_e, e i j]
      by_cases e1 : i = b ∧ j = a
      · rw [e1.1, e1.2, upd_e, beq_self_eq_true, beq_self_eq_true, Bool.and_self, Bool.or_true]; rfl
      · rw [upd_n (by omega)]
        have x1 : (i == b && j == a) = false := by
          cases hq : (i == b && j == a) with
          | false => rfl
          | true =>
            rw [Bool.and_eq_true, beq_iff_eq, beq_iff_eq] at hq
            exact absurd hq e1
        rw [x1, Bool.or_false]
        by_cases e2 : i = a ∧ j = b
        · rw [e2.1, e2.2, upd_e, beq_self_eq_true, beq_self_eq_true, Bool.and_self, Bool.or_true]; rfl
        · rw [upd_n (by omega)]
          have x2 : (i == a && j == b) = false := by
            cases hq : (i == a && j == b) with
            | false => rfl
            | true =>
              rw [Bool.and_eq_true, beq_iff_eq, beq_iff_eq] at hq
              exact absurd hq e2
          rw [x2, Bool.or_false]
          exact h.2 i j hi hj
theorem x_readPairs {f : Nat} (hw : wR c m n f) (h : pgX m c st) (h0 : xF n (fun _ _ => false) st) : kZ (fX8_read_L64 (fun _ s => some s) kFU (nI (n + 1)) st) (fun z => kSame [4] [] [12] [] st z ∧ xF n (uFe (pA c n) (pB c n) f) z) := by
  obtain ⟨hn, hm, hmf, hk, hp⟩ := hw
  have hn6 := hn.2
  have key : ∀ d F t s, t + d = f → d + 1 ≤ F → kSame [4] [] [12] [] st s → xF n (uFe (pA c n) (pB c n) t) s → kZ (fX8_read_L64 (fun _ s => some s) F (nI (n + 1 + 3 * t)) s) (fun z => kSame [4] [] [12] [] st z ∧ xF n (uFe (pA c n) (pB c n) f) z) := by
    intro d
    induction d with
    | zero =>
      intro F t s ht hF hs hx
      obtain ⟨F, rfl⟩ : ∃ F', F = F' + 1 := ⟨F - 1, by omega⟩
      show kZ (fX8_read_L64_B _ _ s (nI (n + 1 + 3 * t))) _
      unfold fX8_read_L64_B
      rw [hs.1 2 (by decide), h.2.1]
      refine kZ.ifp (nI_le (by omega) (n_lt31 (by omega))) (kZ.ret ⟨hs, ?_⟩)
      rw [show f = t by omega]
      exact hx
    | succ d ih =>
      intro F t s ht hF hs hx
      obtain ⟨F, rfl⟩ : ∃ F', F = F' + 1 := ⟨F - 1, by omega⟩
      show kZ (fX8_read_L64_B _ _ s (nI (n + 1 + 3 * t))) _
      unfold fX8_read_L64_B
      rw [hs.1 2 (by decide), h.2.1]
      refine kZ.ifn (nI_ge (by omega) (n_lt31 (by omega))) ?_
      have hq := hp t (by omega)
      unfold fX5_digit
      rw [show nI (n + 1 + 3 * t) + 1 = nI (n + 2 + 3 * t) from by rw [nI_1, show n + 1 + 3 * t + 1 = n + 2 + 3 * t by omega], kg_n _ (by omega) (by decide), kg_n _ (by omega) (by decide), hs.2.2.1 10 (by decide), (h.2.2 (n + 1 + 3 * t) (by omega)).2, (h.2.2 (n + 2 + 3 * t) (by omega)).2, n_48 _ (by omega) hq.1.1, n_48 _ (by omega) hq.2.1.1, l3, nI_add, show n + 1 + 3 * t + 3 = n + 1 + 3 * (t + 1) by omega]
      obtain ⟨s1, x1⟩ := x_quarrel (a := pA c n t) (b := pB c n t) hn (by unfold pA; omega) (by unfold pB; omega) (by unfold pA pB; omega) (uFe_comm _ _ t) hx (ψ := uFe (pA c n) (pB c n) (t + 1)) (fun i j => rfl)
      exact ih F (t + 1) _ (by omega) (by omega) (hs.trans s1) x1
  exact key f kFU 0 st (by omega) (by show _ ≤ 60000; omega) kSame.rf h0
theorem x_read {f : Nat} (hw : wR c m n f) (h : pgX m c st) (hH : Fst (tH c) m n) : kZ (fX8_read st) (fun z => kSame [3, 4, 5] [] [11, 12] [] st z ∧ gI z 3 = nI n ∧ (∀ i, i < n → gA z 11 i = nI (tK (c i))) ∧ xF n (uFe (pA c n) (pB c n) f) z ∧ ∀ p, p < n → (kushr (gI z 5) (nI p)) &&& 1 = b01 (uBar n (fun i => tK (c i)) p)) := by
  have hn := hw.1
  unfold fX8_read
  obtain ⟨z, hz, H', hH', rfl⟩ := x_housesTold h
  rw [hz, hH'.uniq hH]
  simp only [Option.bind_some]
  have k0 : kSame [3] [] [] [] st (sI st 3 (nI n)) := kSame.rf.sI (by decide) _
  refine x_readKinds hw (h.same k0 (by decide)) (gI_e _ _ _) (fun v s hs hk => ?_)
  have e3 : gI s 3 = nI n := (hs.1 3 (by decide)).trans (gI_e _ _ _)
  refine (x_setBars hn e3 (κ := fun i => tK (c i)) (fun i hi => ⟨hw.2.2.2.1 i hi, hk i hi⟩)).bind (fun z hz => ?_)
  have kz : kSame [3, 5] [] [11] [] st z := ((k0.sub (by decide) (by decide) (by decide) (by decide)).trans (hs.sub (by decide) (by decide) (by decide) (by decide))).trans (hz.1.sub (by decide) (by decide) (by decide) (by decide))
  have kz2 : kSame [4] [] [12] [] z (sI (sA z 12 (kfill 36 (gA z 12) 0)) 4 0) := (kSame.rf.sA (by decide) _).sI (by decide) _
  rw [hz.1.1 3 (by decide), e3, show nI n + 1 = nI (n + 1) from nI_1 n]
  refine (x_readPairs hw (h.same ((kz.sub (I := [3, 4, 5]) (J := []) (A := [11, 12]) (L := []) (by decide) (by decide) (by decide) (by decide)).trans (kz2.sub (by decide) (by decide) (by decide) (by decide))) (by decide)) ⟨?_, fun i j hi hj => ?_⟩).mono (fun z2 hz2 => ?_)
  · rw [gI_e, uPn_none]; rfl
  · show gA (sA z 12 _) 12 _ = _
    rw [gA_e]
    unfold kfill
    have := hn.2
    rw [if_pos (by omega)]
    rfl
  · refine ⟨?_, ?_, ?_, hz2.2, ?_⟩
    · exact ((kz.sub (by decide) (by decide) (by decide) (by decide)).trans (kz2.sub (by decide) (by decide) (by decide) (by decide))).trans (hz2.1.sub (by decide) (by decide) (by decide) (by decide))
    · rw [hz2.1.1 3 (by decide), kz2.1 3 (by decide), hz.1.1 3 (by decide), e3]
    · intro i hi
      rw [hz2.1.2.2.1 11 (by decide), kz2.2.2.1 11 (by decide), hz.1.2.2.1 11 (by decide)]
      exact hk i hi
    · intro p hp
      rw [hz2.1.1 5 (by decide), kz2.1 5 (by decide)]
      exact hz.2 p hp
end RR
