/-! letter: who gets it -/
def tri (g : Nat → Bool) (n : Nat) (f : Nat → Nat) (z : Int32) : Prop := (z = -1 ∧ ((∀ w, w < n → g w = false) ∨ ∃ w w', w < w' ∧ w' < n ∧ g w = true ∧ g w' = true)) ∨ ∃ w, w < n ∧ g w = true ∧ (∀ w', w' < n → g w' = true → w' = w) ∧ z = nI (f w)
theorem tri_eq {n k : Nat} {g : Nat → Bool} {z z' : Int32} (hn : uHn n) (hk : k < uF n) (h : tri g n (uD n k) z) (h' : tri (fun x => g (uI n k x)) n (fun x => x) z') : z = z' := by
  rcases h with ⟨rfl, h⟩ | ⟨w, hw, gw, uw, rfl⟩
  · rcases h' with ⟨rfl, h'⟩ | ⟨x, hx, gx, ux, rfl⟩
    · rfl
    · exfalso
      rcases h with h | ⟨w, w', h1, h2, h3, h4⟩
      · have := h (uI n k x) (uI_lt hn hk hx)
        exact absurd (this.symm.trans gx) (by decide)
      · have e1 := ux (uD n k w) (uD_lt hn hk (by omega)) (by show g (uI n k (uD n k w)) = true; rw [uI_uD hn hk (by omega)]; exact h3)
        have e2 := ux (uD n k w') (uD_lt hn hk h2) (by show g (uI n k (uD n k w')) = true; rw [uI_uD hn hk h2]; exact h4)
        have := uD_inj hn hk (by omega) h2 (e1.trans e2.symm)
        omega
  · rcases h' with ⟨rfl, h'⟩ | ⟨x, hx, gx, ux, rfl⟩
    · exfalso
      rcases h' with h' | ⟨x, x', h1, h2, h3, h4⟩
      · have : g (uI n k (uD n k w)) = false := h' (uD n k w) (uD_lt hn hk hw)
        rw [uI_uD hn hk hw, gw] at this; cases this
      · have e1 := uw _ (uI_lt hn hk (show x < n by omega)) h3
        have e2 := uw _ (uI_lt hn hk h2) h4
        have e3 : uD n k (uI n k x) = uD n k (uI n k x') := by rw [e1, e2]
        rw [uD_uI hn hk (show x < n by omega), uD_uI hn hk h2] at e3
        omega
    · have e1 := uw _ (uI_lt hn hk hx) gx
      rw [← e1, uD_uI hn hk hx]
theorem tri_none {g : Nat → Bool} {n : Nat} {f : Nat → Nat} (h : ∀ w, w < n → g w = false) : tri g n f (-1) := Or.inl ⟨rfl, Or.inl h⟩
section LE
variable {n k : Nat} {κ : Nat → Nat} {φ : Nat → Nat → Bool} {st : kS}
theorem x_between (h : xR n κ φ st) (ho : uO n k (gA st 13)) {p q : Nat} (hp : p < n) (hq : q < n) : kZ (fX9_between st (nI p) (nI q)) (fun z => tri (fun w => uBs n w p && uBs n w q) n (uD n k) z) := by
  have hn := h.1
  have hn6 := hn.2
  unfold fX9_between
  refine kfor (σ := Int32) (fun F i s => fX9_between_L5 _ st (nI p) (nI q) F s i) (fun i s => (s = -1 ∧ ∀ w, w < i → (uBs n w p && uBs n w q) = false) ∨ ∃ w, w < i ∧ (uBs n w p && uBs n w q) = true ∧ (∀ w', w' < i → (uBs n w' p && uBs n w' q) = true → w' = w) ∧ s = nI (uD n k w)) n ?_ ?_ kFU 0 (-1) (Nat.zero_le _) (kFU_lt0 (by omega)) (Or.inl ⟨rfl, fun j hj => absurd hj (Nat.not_lt_zero j)⟩)
  · rintro F s hs
    show kZ (fX9_between_L5_B _ _ st (nI p) (nI q) s (nI n)) _
    unfold fX9_between_L5_B
    rw [h.2.1]
    refine kZ.ifp (nI_le (Nat.le_refl n) hn.lt) (kZ.ret ?_)
    rcases hs with ⟨rfl, hs⟩ | hs
    · exact tri_none hs
    · exact Or.inr hs
  · rintro F i s hi hs next
    show kZ (fX9_between_L5_B _ _ st (nI p) (nI q) s (nI i)) _
    unfold fX9_between_L5_B
    rw [h.2.1]
    refine kZ.ifn (nI_ge hi hn.lt) ?_
    rw [h.beside hi hp, h.beside hi hq, show nI i + 1 = nI (i + 1) from nI_1 i]
    have no : (uBs n i p && uBs n i q) = false → kZ (fX9_between_L5 (fun v3_5 _ => some v3_5) st (nI p) (nI q) F s (nI (i + 1))) (fun z => tri (fun w => uBs n w p && uBs n w q) n (uD n k) z) := fun e => next _ (by
      rcases hs with ⟨rfl, hs⟩ | ⟨w, hw, gw, uw, rfl⟩
      · refine Or.inl ⟨rfl, fun w hw => ?_⟩
        rcases Nat.lt_or_ge w i with r | r
        · exact hs w r
        · rw [show w = i by omega]; exact e
      · refine Or.inr ⟨w, by omega, gw, fun w' hw' g' => ?_, rfl⟩
        rcases Nat.lt_or_ge w' i with r | r
        · exact uw w' r g'
        · rw [show w' = i by omega, e] at g'; cases g')
    cases hb1 : uBs n i p with
    | false => exact kZ.ifp rfl (no (by rw [hb1]; rfl))
    | true =>
      refine kZ.ifn (by decide) ?_
      cases hb2 : uBs n i q with
      | false => exact kZ.ifp rfl (no (by rw [hb1, hb2]; rfl))
      | true =>
        refine kZ.ifn (by decide) ?_
        have gi : (uBs n i p && uBs n i q) = true := by rw [hb1, hb2]; rfl
        rcases hs with ⟨rfl, hs⟩ | ⟨w, hw, gw, uw, rfl⟩
        · refine kZ.ifp rfl ?_
          rw [h.houseIn ho hi]
          refine next _ (Or.inr ⟨i, by omega, gi, fun w' hw' g' => ?_, rfl⟩)
          rcases Nat.lt_or_ge w' i with r | r
          · rw [hs w' r] at g'; cases g'
          · omega
        · have dec : ∀ a, a < 6 → ¬ nI a = -1 := by decide
          refine kZ.ifn (dec _ (by have := uD_lt hn ho.1 (show w < n by omega); omega)) (kZ.ret (Or.inl ⟨rfl, Or.inr ⟨w, i, hw, hi, gw, gi⟩⟩))
theorem uBs_self (hn : uHn n) {p : Nat} (hp : p < n) : uBs n p p = false := by
  unfold uBs
  rw [beq_eq_false_iff_ne.mpr (uN_ne hn hp)]
  rfl
theorem m_between {a b : Nat} (hn : uHn n) (h0 : gI st 0 = nI n) (ho : uO n k (gA st 3)) (ha : a < n) (hb : b < n) (h14 : gI st 14 = nI a) (h15 : gI st 15 = nI b) : kZ (fX10_betweenBoth st) (fun z => tri (fun x => uBs n (uI n k x) (uI n k a) && uBs n (uI n k x) (uI n k b)) n (fun x => x) z) := by
  have hn6 := hn.2
  have hk := ho.1
  unfold fX10_betweenBoth
  refine kfor (σ := Int32 × Nat) (fun F i s => fX10_betweenBoth_L6 _ st F s.1 (nI s.2) i) (fun i s => s.2 ≤ i ∧ ((s.2 = 0 ∧ ∀ w, w < i → (uBs n (uI n k w) (uI n k a) && uBs n (uI n k w) (uI n k b)) = false) ∨ (s.2 = 1 ∧ ∃ w, w < i ∧ (uBs n (uI n k w) (uI n k a) && uBs n (uI n k w) (uI n k b)) = true ∧ (∀ w', w' < i → (uBs n (uI n k w') (uI n k a) && uBs n (uI n k w') (uI n k b)) = true → w' = w) ∧ s.1 = nI w) ∨ (2 ≤ s.2 ∧ ∃ w w', w < w' ∧ w' < i ∧ (uBs n (uI n k w) (uI n k a) && uBs n (uI n k w) (uI n k b)) = true ∧ (uBs n (uI n k w') (uI n k a) && uBs n (uI n k w') (uI n k b)) = true))) n ?_ ?_ kFU 0 (-1, 0) (Nat.zero_le _) (kFU_lt0 (by omega)) ⟨Nat.le_refl 0, Or.inl ⟨rfl, fun j hj => absurd hj (Nat.not_lt_zero j)⟩⟩
  · rintro F ⟨v, cn⟩ ⟨hc, hs⟩
    dsimp only at hc hs
    show kZ (fX10_betweenBoth_L6_B _ _ st v (nI cn) (nI n)) _
    unfold fX10_betweenBoth_L6_B
    rw [h0]
    refine kZ.ifp (nI_le (Nat.le_refl n) hn.lt) ?_
    rcases hs with ⟨e, hs⟩ | ⟨e, w, hw, gw, uw, ew⟩ | ⟨e, hs⟩
    · exact kZ.ifn (by rw [e]; decide) (kZ.ret (tri_none hs))
    · exact kZ.ifp (by rw [e]; rfl) (kZ.ret (Or.inr ⟨w, hw, gw, uw, ew⟩))
    · exact kZ.ifn (fun q => by have := nI_inj (n_lt31 (by omega)) (by decide) (q.trans l1); omega) (kZ.ret (Or.inl ⟨rfl, Or.inr hs⟩))
  · rintro F i ⟨v, cn⟩ hi ⟨hc, hs⟩ next
    dsimp only at hc hs
    show kZ (fX10_betweenBoth_L6_B _ _ st v (nI cn) (nI i)) _
    unfold fX10_betweenBoth_L6_B
    rw [h0, h14, h15]
    refine kZ.ifn (nI_ge hi hn.lt) ?_
    rw [show nI i + 1 = nI (i + 1) from nI_1 i]
    have no : (uBs n (uI n k i) (uI n k a) && uBs n (uI n k i) (uI n k b)) = false → kZ (fX10_betweenBoth_L6 (fun v1_8 v2_9 _ => if v2_9 = 1 then (some v1_8) else (some (-1))) st F v (nI cn) (nI (i + 1))) (fun z => tri (fun x => uBs n (uI n k x) (uI n k a) && uBs n (uI n k x) (uI n k b)) n (fun x => x) z) := fun e => next (v, cn) ⟨by dsimp only; omega, by
      dsimp only
      rcases hs with ⟨e1, hs⟩ | ⟨e1, w, hw, gw, uw, ew⟩ | ⟨e1, w, w', h1, h2, h3, h4⟩
      · refine Or.inl ⟨e1, fun w hw => ?_⟩
        rcases Nat.lt_or_ge w i with r | r
        · exact hs w r
        · rw [show w = i by omega]; exact e
      · refine Or.inr (Or.inl ⟨e1, w, by omega, gw, fun w' hw' g' => ?_, ew⟩)
        rcases Nat.lt_or_ge w' i with r | r
        · exact uw w' r g'
        · rw [show w' = i by omega, e] at g'; cases g'
      · exact Or.inr (Or.inr ⟨e1, w, w', h1, by omega, h3, h4⟩)⟩
    by_cases ea : i = a
    · exact kZ.ifp (by rw [ea]) (no (by rw [ea, uBs_self hn (uI_lt hn hk ha)]; rfl))
    refine kZ.ifn (fun q => ea (nI_inj (n_lt31 (by omega)) (n_lt31 (by omega)) q)) ?_
    by_cases eb : i = b
    · exact kZ.ifp (by rw [eb]) (no (by rw [eb, uBs_self hn (uI_lt hn hk hb), Bool.and_false]))
    refine kZ.ifn (fun q => eb (nI_inj (n_lt31 (by omega)) (n_lt31 (by omega)) q)) ?_
    rw [m_areBeside hn h0 ho hi ha, m_areBeside hn h0 ho hi hb]
    simp only [Option.bind_some]
    unfold uAdj
    cases hb1 : uBs n (uI n k i) (uI n k a) with
    | false => exact kZ.ifp rfl (no (by rw [hb1]; rfl))
    | true =>
      refine kZ.ifn (by decide) ?_
      cases hb2 : uBs n (uI n k i) (uI n k b) with
      | false => exact kZ.ifp rfl (no (by rw [hb1, hb2]; rfl))
      | true =>
        refine kZ.ifn (by decide) ?_
        have gi : (uBs n (uI n k i) (uI n k a) && uBs n (uI n k i) (uI n k b)) = true := by rw [hb1, hb2]; rfl
        rw [show nI cn + 1 = nI (cn + 1) from nI_1 cn]
        refine next (nI i, cn + 1) ⟨by dsimp only; omega, ?_⟩
        dsimp only
        rcases hs with ⟨e1, hs⟩ | ⟨e1, w, hw, gw, uw, ew⟩ | ⟨e1, w, w', h1, h2, h3, h4⟩
        · refine Or.inr (Or.inl ⟨by omega, i, by omega, gi, fun w' hw' g' => ?_, rfl⟩)
          rcases Nat.lt_or_ge w' i with r | r
          · rw [hs w' r] at g'; cases g'
          · omega
        · exact Or.inr (Or.inr ⟨by omega, w, i, hw, by omega, gw, gi⟩)
        · exact Or.inr (Or.inr ⟨by omega, w, w', h1, by omega, h3, h4⟩)
theorem kfm_dec : ∀ n, n < 7 → 0 < n → ∀ a, a < 16 → kfm (nI a) (nI n) = nI (a % n) := by decide +kernel
theorem kfm_dec2 : ∀ n, n < 7 → 0 < n → ∀ p, p < 7 → ∀ s, s < 10 → kfm (nI p - nI s) (nI n) = nI ((p + 9 * n - s) % n) := by decide +kernel
theorem kr_dec2 : ∀ n, n < 7 → 0 < n → ∀ p, p < 7 → ∀ s, s < 10 → kr ((nI p + (9 * nI n)) - nI s) (nI n) = nI ((p + 9 * n - s) % n) := by decide +kernel
theorem kr_dec1 : ∀ n, n < 7 → 0 < n → ∀ p, p < 7 → ∀ s, s < 10 → kr (nI p + nI s) (nI n) = nI ((p + s) % n) := by decide +kernel
theorem xR.arnd (h : xR n κ φ st) (x : Int32) : fX8_around st x = kfm x (nI n) := by
  have := h.1.1
  unfold fX8_around
  rw [h.2.1, if_neg (nI_nle (by omega) h.1.lt)]
end LE
/-- whom a letter tells -/
def lWho (c : Nat → Nat) : Nat := if uZs (c 0) = 0 ∨ uZs (c 0) = 3 then c 1 - 48 else c 2 - 48
theorem m_J54 {n k : Nat} {κ : Nat → Nat} {φ : Nat → Nat → Bool} {z : kS} {c : Nat → Nat} {v : Int32} (hm : mR n κ φ z) (ho : uO n k (gA z 3)) (h12 : gI z 12 = nI (uZs (c 0))) (h14 : gI z 14 = nI (lWho c)) (ha : lWho c < n)
    (h0 : uZs (c 0) = 0 → v = nI (lWho c)) (h1 : uZs (c 0) = 1 → ∃ s, s < 10 ∧ gI z 13 = nI s ∧ v = nI (uD n k ((uI n k (lWho c) + s) % n))) (h2 : uZs (c 0) = 2 → ∃ s, s < 10 ∧ gI z 13 = nI s ∧ v = nI (uD n k ((uI n k (lWho c) + 9 * n - s) % n))) (h3 : uZs (c 0) = 3 → ∃ b, b < n ∧ gI z 15 = nI b ∧ tri (fun w => uBs n w (uI n k (lWho c)) && uBs n w (uI n k b)) n (uD n k) v) (h4 : uZs (c 0) < 4) : fX10_letter_J54 z = some (v, sI z 4 0) := by
  have hn := hm.1
  have hn6 := hn.2
  have hn3 := hn.1
  have hk := ho.1
  have hp := uI_lt hn hk ha
  unfold fX10_letter_J54
  rw [h14, m_placeIn _ hn ho ha]
  simp only [Option.bind_some]
  have hm' := hm.2.1
  rw [h12, hm']
  rcases (show uZs (c 0) = 0 ∨ uZs (c 0) = 1 ∨ uZs (c 0) = 2 ∨ uZs (c 0) = 3 by omega) with e | e | e | e
  · rw [e, if_pos (show nI 0 = 0 from rfl), h0 e]
  · obtain ⟨s, hs, e13, ev⟩ := h1 e
    rw [e, if_neg (show ¬ nI 1 = 0 by decide), if_pos (show nI 1 = 1 from rfl), if_neg (nI_ne0 (by omega) hn.lt), e13, kr_dec1 n (by omega) (by omega) _ (by omega) s hs]
    have hq : (uI n k (lWho c) + s) % n < n := Nat.mod_lt _ (by omega)
    rw [ka_n _ (by omega) (by decide), ho.2 _ hq, ev]
    rfl
  · obtain ⟨s, hs, e13, ev⟩ := h2 e
    rw [e, if_neg (show ¬ nI 2 = 0 by decide), if_neg (show ¬ nI 2 = 1 by decide), if_pos (show nI 2 = 2 from rfl), if_neg (nI_ne0 (by omega) hn.lt), e13, kr_dec2 n (by omega) (by omega) _ (by omega) s hs]
    have hq : (uI n k (lWho c) + 9 * n - s) % n < n := Nat.mod_lt _ (by omega)
    rw [ka_n _ (by omega) (by decide), ho.2 _ hq, ev]
    rfl
  · obtain ⟨b, hb, e15, ev⟩ := h3 e
    rw [e, if_neg (show ¬ nI 3 = 0 by decide), if_neg (show ¬ nI 3 = 1 by decide), if_neg (show ¬ nI 3 = 2 by decide)]
    obtain ⟨z2, hz2, ht⟩ := m_between (st := sI z 4 0) (k := k) hn ((gI_n (by decide)).trans hm') ho ha hb ((gI_n (by decide)).trans h14) ((gI_n (by decide)).trans e15)
    rw [hz2]
    simp only [Option.bind_some]
    rw [tri_eq hn hk ev ht]
theorem sim_letter : kH_letter R := by
  intro k sx sm _ H
  obtain ⟨m, c, p1, p2⟩ := H.1
  have hm26 := p1.1
  obtain ⟨zl, hzl, P', hP', rfl⟩ := x_isLetter p1
  obtain ⟨zm, hzm, P, hP, e8, e9, hs, hI⟩ := m_readLetter p2
  rw [hP'.uniq hP] at hzl
  have Hm : R (k + 1) sx zm := R_fr H (Nat.le_succ k) kSame.rf (hs.sub (by decide) (by decide) (by decide) (by decide))
  unfold fX9_letter fX10_letter
  rw [hzm]
  simp only [Option.bind_some]
  rcases R_stands H with ⟨e1, e2, _⟩ | ⟨r, n, κ, φ, o, h, A, e1, e2⟩
  · rw [if_pos e1, if_pos ((hs.1 0 (by decide)).trans e2)]
    exact ⟨_, _, rfl, rfl, rfl, Hm⟩
  · obtain ⟨a1, a2, a3, a4, a5, a6, hx, hm, hφ, a7, h5, h6, h7, h8, h9, h10, h11, h12⟩ := A
    have hn := hx.1
    have hn6 := hn.2
    have hn3 := hn.1
    have hko := h6.1
    rw [if_neg (show ¬ fX8_stands sx = 0 by rw [e1]; decide), if_neg (show ¬ gI zm 0 = 0 by rw [hs.1 0 (by decide)]; exact e2), hzl, e9]
    simp only [Option.bind_some]
    by_cases q : P = m ∧ m = (if uZs (c 0) = 0 then 2 else 3)
    · have hlt : tLW m P (uZs (c 0)) = true := decide_eq_true q
      rw [hlt, if_neg (show ¬ b01 true = 0 by decide), if_neg (show ¬ b01 true = 0 by decide)]
      have hq2 := q.2
      obtain ⟨I1, I2, I3, I4, I5, I6, I7⟩ := hI q.1
      have m2 : 2 ≤ m := by rw [hq2]; split <;> omega
      have u4 : uZs (c 0) < 4 := by
        have := I2 0 (by omega)
        unfold tL at this
        rw [if_pos rfl] at this
        exact Nat.blt_eq.mp this
      have i1 := I2 1 (by omega)
      unfold tL at i1
      rw [if_neg (by decide), if_pos rfl] at i1
      have d2 : uZs (c 0) ≠ 0 → tB (c 2) = true ∧ ((uZs (c 0) = 1 ∨ uZs (c 0) = 2) ∨ c 2 ≠ c 1) := fun w => by
        have := I2 2 (by rw [hq2, if_neg w]; omega)
        unfold tL at this
        rw [if_neg (by decide), if_neg (by decide), if_pos rfl, if_neg w, Bool.and_eq_true] at this
        refine ⟨this.1, ?_⟩
        by_cases w2 : uZs (c 0) = 1 ∨ uZs (c 0) = 2
        · exact Or.inl w2
        · have t2 := this.2
          rw [if_neg w2] at t2
          exact Or.inr (fun e => by rw [e, beq_self_eq_true] at t2; cases t2)
      have hc1 := (p1.2.2 1 (by omega)).1
      have d1 : fX5_digit sx 1 = nI (c 1) - 48 := by
        unfold fX5_digit
        rw [l1, kg_n _ (by decide) (by decide), (p1.2.2 1 (by omega)).2]
      have hS := x_S _ (p1.2.2 0 (by omega)).1
      have dl : fX5_digit sx ((gI sx 2) - 1) = nI (c (m - 1)) - 48 := by
        unfold fX5_digit
        rw [p1.2.1, l1, pk_sub (by omega), kg_n _ (by omega) (by decide), (p1.2.2 (m - 1) (by omega)).2]
      have c0 : fX5_code sx 0 = nI (c 0) := p1.code (j := 0) (by omega)
      rw [dl, d1, c0]
      have h12' := I3 (by omega)
      have km : kSame [4, 8, 9, 12, 13, 14, 15] [] [] [] sm (sI zm 4 0) := (hs.sub (by decide) (by decide) (by decide) (by decide)).sI (by decide) _
      have done : R (k + 1) (sI sx 2 0) (sI zm 4 0) := R_page H (Nat.le_succ k) (kSame.rf.sI (by decide) _) (km.sub (by decide) (by decide) (by decide) (by decide)) ⟨0, c, ⟨Nat.zero_le _, gI_e _ _ _, fun j hj => absurd hj (Nat.not_lt_zero j)⟩, ⟨Nat.zero_le _, gI_e _ _ _, fun j hj => absurd hj (Nat.not_lt_zero j)⟩⟩
      have hmz := hm.same hs (by decide)
      have hoz : uO n o (gA zm 3) := by rw [hs.2.2.1 3 (by decide)]; exact h7
      have kx : kSame [2] [] [] [] sx (sI sx 2 0) := kSame.rf.sI (by decide) _
      have hx2 := hx.same kx (by decide)
      have ho2 : uO n o (gA (sI sx 2 0) 13) := by rw [kx.2.2.1 13 (by decide)]; exact h6
      have hcase : ∀ d, d < 100 → (∀ j, nI d = nI j → j < n → d < n) := fun d hd j e hj => by
        have := nI_inj (n_lt31 (by omega)) (n_lt31 (by omega)) e
        omega
      -- what both do in the end
      have fin : ∀ (x1 x2 x3 v : Int32), fX9_receiver (sI sx 2 0) x1 x2 x3 = some v → fX10_letter_J54 zm = some (v, sI zm 4 0) → ∃ zx, ∃ zm', fX9_letter_J89 sx x1 x2 x3 = some zx ∧ fX10_letter_J54 zm = some zm' ∧ zx.1 = zm'.1 ∧ R (k + 1) zx.2 zm'.2 := by
        intro x1 x2 x3 v g1 g2
        refine ⟨(v, sI sx 2 0), (v, sI zm 4 0), ?_, g2, rfl, done⟩
        unfold fX9_letter_J89
        show (fX9_receiver (sI sx 2 0) x1 x2 x3).bind _ = _
        rw [g1]
        rfl
      rcases (show uZs (c 0) = 0 ∨ (uZs (c 0) = 1 ∨ uZs (c 0) = 2) ∨ uZs (c 0) = 3 by omega) with w | w | w
      · -- n: the house itself
        rw [if_neg (by omega)] at i1
        have b1 := tB_48 i1
        have em : m = 2 := by rw [hq2, if_pos w]
        have hw : lWho c = c 1 - 48 := by unfold lWho; rw [if_pos (Or.inl w)]
        have e14 : gI zm 14 = nI (lWho c) := by rw [hw]; exact I5 (by omega) (Or.inl w)
        rw [em, show 2 - 1 = 1 from rfl, n_48 _ hc1 (by omega), e14, hw]
        rcases has_cases hx.2.1 hmz.2.1 hn6 (nI (c 1 - 48)) with ⟨j, hj, ej, f1, f2⟩ | ⟨f1, f2⟩
        · rw [f1, f2]
          simp only [Option.bind_some]
          rw [if_neg (show ¬ (1 : Int32) = 0 by decide), if_neg (show ¬ (1 : Int32) = 0 by decide), h12', w, if_neg (show ¬ nI 0 = 3 by decide), if_neg (show ¬ nI (c 0) = 98 from fun z => by have := hS.2.2.2.mp z; omega)]
          have hlt2 : lWho c < n := by rw [hw]; exact hcase _ (by omega) j ej hj
          refine fin _ _ _ (nI (lWho c)) ?_ (m_J54 hmz hoz h12' e14 hlt2 (fun _ => rfl) (fun z => by omega) (fun z => by omega) (fun z => by omega) u4)
          unfold fX9_receiver
          rw [← hw, hx2.place ho2 hlt2]
          simp only [Option.bind_some]
          rw [if_neg (show ¬ nI (c 0) = 98 from fun z => by have := hS.2.2.2.mp z; omega), if_neg (show ¬ nI (c 0) = 108 from fun z => by have := hS.2.1.mp z; omega), if_neg (show ¬ nI (c 0) = 114 from fun z => by have := hS.1.mp z; omega)]
        · rw [f1, f2]
          exact ⟨_, _, rfl, rfl, rfl, Hm⟩
      · -- r, l: some places on
        rw [if_pos w] at i1
        have b1 := tC_49 i1
        have b2 := tB_48 (d2 (by omega)).1
        have em : m = 3 := by rw [hq2, if_neg (by omega)]
        have hc2 := (p1.2.2 2 (by omega)).1
        have hw : lWho c = c 2 - 48 := by unfold lWho; rw [if_neg (by omega)]
        have e14 : gI zm 14 = nI (lWho c) := by rw [hw]; exact I6 (by omega) w
        have e13 := I4 (by omega) w
        rw [em, show 3 - 1 = 2 from rfl, n_48 _ hc1 (by omega), n_48 _ hc2 (by omega), e14, hw]
        rcases has_cases hx.2.1 hmz.2.1 hn6 (nI (c 2 - 48)) with ⟨j, hj, ej, f1, f2⟩ | ⟨f1, f2⟩
        · rw [f1, f2]
          simp only [Option.bind_some]
          have h3 : ∀ u, u < 4 → nI u = 3 → u = 3 := by decide
          rw [if_neg (show ¬ (1 : Int32) = 0 by decide), if_neg (show ¬ (1 : Int32) = 0 by decide), h12', if_neg (show ¬ nI (uZs (c 0)) = 3 from fun z => by have := h3 _ u4 z; omega), if_neg (show ¬ nI (c 0) = 98 from fun z => by have := hS.2.2.2.mp z; omega)]
          have hlt2 : lWho c < n := by rw [hw]; exact hcase _ (by omega) j ej hj
          have hp := uI_lt hn hko hlt2
          rcases w with w | w
          · refine fin _ _ _ (nI (uD n o ((uI n o (lWho c) + (c 1 - 48)) % n))) ?_ (m_J54 hmz hoz h12' e14 hlt2 (fun z => by omega) (fun _ => ⟨_, by omega, e13, rfl⟩) (fun z => by omega) (fun z => by omega) u4)
            unfold fX9_receiver
            rw [← hw, hx2.place ho2 hlt2]
            simp only [Option.bind_some]
            have hq : (uI n o (lWho c) + (c 1 - 48)) % n < n := Nat.mod_lt _ (by omega)
            rw [if_neg (show ¬ nI (c 0) = 98 from fun z => by have := hS.2.2.2.mp z; omega), if_neg (show ¬ nI (c 0) = 108 from fun z => by have := hS.2.1.mp z; omega), if_pos (show nI (c 0) = 114 from hS.1.mpr w), hx2.arnd, nI_add, kfm_dec n (by omega) (by omega) _ (by omega), hx2.houseIn ho2 hq]
          · refine fin _ _ _ (nI (uD n o ((uI n o (lWho c) + 9 * n - (c 1 - 48)) % n))) ?_ (m_J54 hmz hoz h12' e14 hlt2 (fun z => by omega) (fun z => by omega) (fun _ => ⟨_, by omega, e13, rfl⟩) (fun z => by omega) u4)
            unfold fX9_receiver
            rw [← hw, hx2.place ho2 hlt2]
            simp only [Option.bind_some]
            have hq : (uI n o (lWho c) + 9 * n - (c 1 - 48)) % n < n := Nat.mod_lt _ (by omega)
            rw [if_neg (show ¬ nI (c 0) = 98 from fun z => by have := hS.2.2.2.mp z; omega), if_pos (show nI (c 0) = 108 from hS.2.1.mpr w), hx2.arnd, kfm_dec2 n (by omega) (by omega) _ (by omega) _ (by omega), hx2.houseIn ho2 hq]
        · rw [f1, f2]
          exact ⟨_, _, rfl, rfl, rfl, Hm⟩
      · -- b: between the two
        rw [if_neg (by omega)] at i1
        have b1 := tB_48 i1
        have b2 := tB_48 (d2 (by omega)).1
        have em : m = 3 := by rw [hq2, if_neg (by omega)]
        have hc2 := (p1.2.2 2 (by omega)).1
        have hw : lWho c = c 1 - 48 := by unfold lWho; rw [if_pos (Or.inr w)]
        have e14 : gI zm 14 = nI (lWho c) := by rw [hw]; exact I5 (by omega) (Or.inr w)
        have e15 := I7 (by omega) w
        rw [em, show 3 - 1 = 2 from rfl, n_48 _ hc1 (by omega), n_48 _ hc2 (by omega), e14, hw, e15, h12', w, if_pos (show nI 3 = 3 from rfl), if_pos (show nI (c 0) = 98 from hS.2.2.2.mpr w)]
        rcases has_cases hx.2.1 hmz.2.1 hn6 (nI (c 2 - 48)) with ⟨j, hj, ej, f1, f2⟩ | ⟨f1, f2⟩
        · rcases has_cases hx.2.1 hmz.2.1 hn6 (nI (c 1 - 48)) with ⟨j', hj', ej', f1', f2'⟩ | ⟨f1', f2'⟩
          · rw [f1, f2, f1', f2']
            simp only [Option.bind_some]
            rw [if_neg (show ¬ (1 : Int32) = 0 by decide), if_neg (show ¬ (1 : Int32) = 0 by decide)]
            have hlt2 : lWho c < n := by rw [hw]; exact hcase _ (by omega) j' ej' hj'
            have hlt3 : c 2 - 48 < n := hcase _ (by omega) j ej hj
            obtain ⟨v, hv, tv⟩ := x_between hx2 ho2 (uI_lt hn hko hlt2) (uI_lt hn hko hlt3)
            refine fin _ _ _ v ?_ (m_J54 hmz hoz h12' e14 hlt2 (fun z => by omega) (fun z => by omega) (fun z => by omega) (fun _ => ⟨_, hlt3, e15, tv⟩) u4)
            unfold fX9_receiver
            rw [← hw, hx2.place ho2 hlt3]
            simp only [Option.bind_some]
            rw [if_pos (show nI (c 0) = 98 from hS.2.2.2.mpr w), hx2.place ho2 hlt2]
            simp only [Option.bind_some]
            rw [hv]
            rfl
          · rw [f1, f1', f2']
            exact ⟨_, _, rfl, rfl, rfl, Hm⟩
        · rw [f1, f2]
          refine ⟨_, (-101, zm), rfl, ?_, rfl, Hm⟩
          rcases has_cases hx.2.1 hmz.2.1 hn6 (nI (c 1 - 48)) with ⟨j', hj', ej', f1', f2'⟩ | ⟨f1', f2'⟩
          · rw [f2']; rfl
          · rw [f2']; rfl
    · have hlt : tLW m P (uZs (c 0)) = false := decide_eq_false q
      rw [hlt, if_pos (show b01 false = 0 from rfl), if_pos (show b01 false = 0 from rfl)]
      exact ⟨_, _, rfl, rfl, rfl, Hm⟩
