/-! what is a letter, in the reference -/
def lS (c : Nat → Nat) (i : Nat) : Nat := if i = 0 then 0 else if i = 1 then (if uZs (c 0) = 0 then 2 else if uZs (c 0) = 3 then 3 else 1) else if i = 2 then (if uZs (c 0) = 0 then 5 else if uZs (c 0) = 3 then 4 else 2) else 5
def lI (c : Nat → Nat) (st : kS) (i : Nat) (s : kS) : Prop := kSame [12, 13, 14, 15] [] [] [] st s ∧ (∀ j, j < i → tL c j = true) ∧ (0 < i → gI s 12 = nI (uZs (c 0))) ∧ (1 < i → (uZs (c 0) = 1 ∨ uZs (c 0) = 2) → gI s 13 = nI (c 1 - 48)) ∧ (1 < i → (uZs (c 0) = 0 ∨ uZs (c 0) = 3) → gI s 14 = nI (c 1 - 48)) ∧ (2 < i → (uZs (c 0) = 1 ∨ uZs (c 0) = 2) → gI s 14 = nI (c 2 - 48)) ∧ (2 < i → uZs (c 0) = 3 → gI s 15 = nI (c 2 - 48))
section LM
variable {m : Nat} {c : Nat → Nat} {st : kS}
theorem m_nextLetter {i : Nat} {s : kS} (h : pgM m c st) (hi : i < m) (hs : lI c st i s) : (tL c i = true ∧ (fX10_nextLetter s (nI (lS c i)) (nI (c i))).1 = nI (lS c (i + 1)) ∧ lI c st (i + 1) (fX10_nextLetter s (nI (lS c i)) (nI (c i))).2) ∨ (tL c i = false ∧ (fX10_nextLetter s (nI (lS c i)) (nI (c i))).1 = -1 ∧ kSame [12, 13, 14, 15] [] [] [] st (fX10_nextLetter s (nI (lS c i)) (nI (c i))).2) := by
  have hm := h.1
  have hc := (h.2.2 i hi).1
  obtain ⟨h1, h2, h3, h4, h5, h6, h7⟩ := hs
  have up : tL c i = true → ∀ j, j < i + 1 → tL c j = true := fun he j hj => by
    rcases Nat.lt_or_ge j i with r | r
    · exact h2 j r
    · rw [show j = i by omega, he]
  have u4 : 0 < i → uZs (c 0) < 4 := fun q => by
    have := h2 0 q
    unfold tL at this
    rw [if_pos rfl] at this
    exact Nat.blt_eq.mp this
  have h48 := n_48 _ hc
  generalize hx : nI (c i) = x at h48
  have hB : fX10_within x 48 53 = b01 (tB (c i)) := by rw [← hx]; exact m_B _ hc
  have hC : fX10_within x 49 57 = b01 (tC (c i)) := by rw [← hx]; exact m_C _ hc
  rcases (show i = 0 ∨ i = 1 ∨ i = 2 ∨ 3 ≤ i by omega) with q | q | q | q
  · subst q
    have et : tL c 0 = Nat.blt (uZs (c 0)) 4 := by unfold tL; rw [if_pos rfl]
    rw [show nI (lS c 0) = 0 from rfl]
    unfold fX10_nextLetter
    rw [if_pos rfl, ← hx, uZs_m _ hc]
    have u := uZs_le (c 0)
    have k2 : kSame [12, 13, 14, 15] [] [] [] st (sI s 12 (if uZs (c 0) = 4 then (-1 : Int32) else nI (uZs (c 0)))) := h1.sI (by decide) _
    by_cases e4 : uZs (c 0) = 4
    · rw [e4, if_pos rfl, if_pos rfl]
      rw [e4, if_pos rfl] at k2
      exact Or.inr ⟨by rw [et, e4]; rfl, rfl, k2⟩
    · rw [if_neg e4] at k2
      rw [show (if uZs (c 0) = 4 then (-1 : Int32) else nI (uZs (c 0))) = nI (uZs (c 0)) from if_neg e4, if_neg (tK_n _ (by omega))]
      have e1 : tL c 0 = true := by rw [et]; exact Nat.blt_eq.mpr (by omega)
      have hI : lI c st 1 (sI s 12 (nI (uZs (c 0)))) := ⟨k2, up e1, fun _ => gI_e _ _ _, fun q => by omega, fun q => by omega, fun q => by omega, fun q => by omega⟩
      refine Or.inl ⟨e1, ?_⟩
      rcases (show uZs (c 0) = 0 ∨ uZs (c 0) = 1 ∨ uZs (c 0) = 2 ∨ uZs (c 0) = 3 by omega) with w | w | w | w
      · have hI2 := hI
        rw [w] at hI2
        rw [w, if_pos (show nI 0 = 0 from rfl)]
        exact ⟨by unfold lS; rw [if_neg (by decide), if_pos rfl, if_pos w]; rfl, hI2⟩
      · have hI2 := hI
        rw [w] at hI2
        rw [w, if_neg (show ¬ nI 1 = 0 by decide), if_neg (show ¬ nI 1 = 3 by decide)]
        exact ⟨by unfold lS; rw [if_neg (by decide), if_pos rfl, if_neg (by omega), if_neg (by omega)]; rfl, hI2⟩
      · have hI2 := hI
        rw [w] at hI2
        rw [w, if_neg (show ¬ nI 2 = 0 by decide), if_neg (show ¬ nI 2 = 3 by decide)]
        exact ⟨by unfold lS; rw [if_neg (by decide), if_pos rfl, if_neg (by omega), if_neg (by omega)]; rfl, hI2⟩
      · have hI2 := hI
        rw [w] at hI2
        rw [w, if_neg (show ¬ nI 3 = 0 by decide), if_pos (show nI 3 = 3 from rfl)]
        exact ⟨by unfold lS; rw [if_neg (by decide), if_pos rfl, if_neg (by omega), if_pos w]; rfl, hI2⟩
  · subst q
    have w4 := u4 (by decide)
    rcases (show uZs (c 0) = 0 ∨ (uZs (c 0) = 1 ∨ uZs (c 0) = 2) ∨ uZs (c 0) = 3 by omega) with w | w | w
    · have et : tL c 1 = tB (c 1) := by unfold tL; rw [if_neg (by decide), if_pos rfl, if_neg (by omega)]
      have es : lS c 1 = 2 := by unfold lS; rw [if_neg (by decide), if_pos rfl, if_pos w]
      rw [es]
      unfold fX10_nextLetter
      rw [if_neg (by decide), if_neg (by decide), if_pos (show nI 2 = 2 from rfl), hB]
      cases hb : tB (c 1) with
      | false => rw [if_pos (show b01 false = 0 from rfl)]; exact Or.inr ⟨et.trans hb, rfl, h1.sI (by decide) _⟩
      | true =>
        rw [if_neg (show ¬ b01 true = 0 by decide)]
        refine Or.inl ⟨et.trans hb, by unfold lS; rw [if_neg (by decide), if_neg (by decide), if_pos rfl, if_pos w]; rfl, h1.sI (by decide) _, up (et.trans hb), fun _ => (gI_n (by decide)).trans (h3 (by decide)), fun _ q => by omega, fun _ _ => (gI_e _ _ _).trans (h48 (tB_48 hb).1), fun q => by omega, fun q => by omega⟩
    · have et : tL c 1 = tC (c 1) := by unfold tL; rw [if_neg (by decide), if_pos rfl, if_pos w]
      have es : lS c 1 = 1 := by unfold lS; rw [if_neg (by decide), if_pos rfl, if_neg (by omega), if_neg (by omega)]
      rw [es]
      unfold fX10_nextLetter
      rw [if_neg (by decide), if_pos (show nI 1 = 1 from rfl), hC]
      cases hb : tC (c 1) with
      | false => rw [if_pos (show b01 false = 0 from rfl)]; exact Or.inr ⟨et.trans hb, rfl, h1.sI (by decide) _⟩
      | true =>
        rw [if_neg (show ¬ b01 true = 0 by decide)]
        refine Or.inl ⟨et.trans hb, by unfold lS; rw [if_neg (by decide), if_neg (by decide), if_pos rfl, if_neg (by omega), if_neg (by omega)]; rfl, h1.sI (by decide) _, up (et.trans hb), fun _ => (gI_n (by decide)).trans (h3 (by decide)), fun _ _ => (gI_e _ _ _).trans (h48 (by have := tC_49 hb; omega)), fun _ q => by omega, fun q => by omega, fun q => by omega⟩
    · have et : tL c 1 = tB (c 1) := by unfold tL; rw [if_neg (by decide), if_pos rfl, if_neg (by omega)]
      have es : lS c 1 = 3 := by unfold lS; rw [if_neg (by decide), if_pos rfl, if_neg (by omega), if_pos w]
      rw [es]
      unfold fX10_nextLetter
      rw [if_neg (by decide), if_neg (by decide), if_neg (by decide), if_pos (show nI 3 = 3 from rfl), hB]
      cases hb : tB (c 1) with
      | false => rw [if_pos (show b01 false = 0 from rfl)]; exact Or.inr ⟨et.trans hb, rfl, h1.sI (by decide) _⟩
      | true =>
        rw [if_neg (show ¬ b01 true = 0 by decide)]
        refine Or.inl ⟨et.trans hb, by unfold lS; rw [if_neg (by decide), if_neg (by decide), if_pos rfl, if_neg (by omega), if_pos w]; rfl, h1.sI (by decide) _, up (et.trans hb), fun _ => (gI_n (by decide)).trans (h3 (by decide)), fun _ q => by omega, fun _ _ => (gI_e _ _ _).trans (h48 (tB_48 hb).1), fun q => by omega, fun q => by omega⟩
  · subst q
    have w4 := u4 (by decide)
    rcases (show uZs (c 0) = 0 ∨ (uZs (c 0) = 1 ∨ uZs (c 0) = 2) ∨ uZs (c 0) = 3 by omega) with w | w | w
    · have et : tL c 2 = false := by unfold tL; rw [if_neg (by decide), if_neg (by decide), if_pos rfl, if_pos w]
      have es : lS c 2 = 5 := by unfold lS; rw [if_neg (by decide), if_neg (by decide), if_pos rfl, if_pos w]
      rw [es]
      unfold fX10_nextLetter
      rw [if_neg (by decide), if_neg (by decide), if_neg (by decide), if_neg (by decide), if_neg (by decide)]
      exact Or.inr ⟨et, rfl, h1⟩
    · have et : tL c 2 = tB (c 2) := by unfold tL; rw [if_neg (by decide), if_neg (by decide), if_pos rfl, if_neg (by omega), if_pos w, Bool.and_true]
      have es : lS c 2 = 2 := by unfold lS; rw [if_neg (by decide), if_neg (by decide), if_pos rfl, if_neg (by omega), if_neg (by omega)]
      rw [es]
      unfold fX10_nextLetter
      rw [if_neg (by decide), if_neg (by decide), if_pos (show nI 2 = 2 from rfl), hB]
      cases hb : tB (c 2) with
      | false => rw [if_pos (show b01 false = 0 from rfl)]; exact Or.inr ⟨et.trans hb, rfl, h1.sI (by decide) _⟩
      | true =>
        rw [if_neg (show ¬ b01 true = 0 by decide)]
        refine Or.inl ⟨et.trans hb, by unfold lS; rw [if_neg (by decide), if_neg (by decide), if_neg (by decide)]; rfl, h1.sI (by decide) _, up (et.trans hb), fun _ => (gI_n (by decide)).trans (h3 (by decide)), fun _ q => (gI_n (by decide)).trans (h4 (by decide) q), fun _ q => by omega, fun _ _ => (gI_e _ _ _).trans (h48 (tB_48 hb).1), fun _ q => by omega⟩
    · have et : tL c 2 = (tB (c 2) && !(c 2 == c 1)) := by unfold tL; rw [if_neg (by decide), if_neg (by decide), if_pos rfl, if_neg (by omega), if_neg (by omega)]
      have es : lS c 2 = 4 := by unfold lS; rw [if_neg (by decide), if_neg (by decide), if_pos rfl, if_neg (by omega), if_pos w]
      have hb1 : tB (c 1) = true := by
        have := h2 1 (by decide)
        unfold tL at this
        rw [if_neg (by decide), if_pos rfl, if_neg (by omega)] at this
        exact this
      have hc1 := tB_48 hb1
      rw [es]
      unfold fX10_nextLetter
      rw [if_neg (by decide), if_neg (by decide), if_neg (by decide), if_neg (by decide), if_pos (show nI 4 = 4 from rfl), hB]
      cases hb : tB (c 2) with
      | false => rw [if_pos (show b01 false = 0 from rfl)]; exact Or.inr ⟨by rw [et, hb]; rfl, rfl, h1.sI (by decide) _⟩
      | true =>
        have hc2 := tB_48 hb
        rw [if_neg (show ¬ b01 true = 0 by decide), h5 (by decide) (Or.inr w), h48 hc2.1]
        by_cases e : c 2 = c 1
        · rw [if_pos (by rw [e])]
          exact Or.inr ⟨by rw [et, hb, e, beq_self_eq_true]; rfl, rfl, h1.sI (by decide) _⟩
        · rw [if_neg (fun q => e (by have := nI_inj (n_lt31 (by omega)) (n_lt31 (by omega)) q; omega))]
          have et' : tL c 2 = true := by rw [et, hb, beq_eq_false_iff_ne.mpr e]; rfl
          exact Or.inl ⟨et', by unfold lS; rw [if_neg (by decide), if_neg (by decide), if_neg (by decide)]; rfl, h1.sI (by decide) _, up et', fun _ => (gI_n (by decide)).trans (h3 (by decide)), fun _ q => by omega, fun _ q => (gI_n (by decide)).trans (h5 (by decide) q), fun _ q => by omega, fun _ _ => gI_e _ _ _⟩
  · have et : tL c i = false := by unfold tL; rw [if_neg (by omega), if_neg (by omega), if_neg (by omega)]
    have es : lS c i = 5 := by unfold lS; rw [if_neg (by omega), if_neg (by omega), if_neg (by omega)]
    rw [es]
    unfold fX10_nextLetter
    rw [if_neg (by decide), if_neg (by decide), if_neg (by decide), if_neg (by decide), if_neg (by decide)]
    exact Or.inr ⟨et, rfl, h1⟩
theorem lS_le (c : Nat → Nat) (i : Nat) : lS c i ≤ 5 := by
  unfold lS
  split
  · omega
  · split
    · split
      · omega
      · split <;> omega
    · split
      · split
        · omega
        · split <;> omega
      · omega
theorem m_readLetter_loop (h : pgM m c st) {Q : kS → Prop} {K : Int32 → Int32 → Int32 → kS → Option kS}
    (hE : ∀ s v, lI c st m s → kZ (K (nI (lS c m)) (nI m) v s) Q) (hB : ∀ P s v w, Fst (tL c) m P → P < m → kSame [12, 13, 14, 15] [] [] [] st s → kZ (K v (nI P) w s) Q) :
    ∀ d F i s, i + d = m → d + 2 ≤ F → lI c st i s → kZ (fX10_readLetter_L6 K F (nI (lS c i)) (nI i) 1 s) Q := by
  have hm := h.1
  intro d
  induction d with
  | zero =>
    intro F i s hi hF hs
    obtain ⟨F, rfl⟩ : ∃ F', F = F' + 1 := ⟨F - 1, by omega⟩
    show kZ (fX10_readLetter_L6_B _ _ s (nI (lS c i)) (nI i) 1) _
    unfold fX10_readLetter_L6_B
    rw [hs.1.1 4 (by decide), h.2.1, show i = m by omega]
    rw [show i = m by omega] at hs
    exact kZ.ifp (nI_le (Nat.le_refl m) (n_lt31 (by omega))) (hE s 1 hs)
  | succ d ih =>
    intro F i s hi hF hs
    obtain ⟨F, rfl⟩ : ∃ F', F = F' + 1 := ⟨F - 1, by omega⟩
    show kZ (fX10_readLetter_L6_B _ _ s (nI (lS c i)) (nI i) 1) _
    unfold fX10_readLetter_L6_B
    rw [hs.1.1 4 (by decide), h.2.1]
    refine kZ.ifn (nI_ge (by omega) (n_lt31 (by omega))) (kZ.ifn (by decide) ?_)
    refine kZ.ka (by omega) (by decide) ?_
    rw [hs.1.2.2.1 6 (by decide), (h.2.2 i (by omega)).2]
    rcases m_nextLetter h (by omega) hs with ⟨e, ez, hz⟩ | ⟨e, ez, hz⟩
    · rw [ez]
      have ht : ∀ k, k ≤ 5 → ¬ nI k = -1 := by decide
      refine kZ.ifn (ht _ (lS_le _ _)) ?_
      show kZ (fX10_readLetter_L6 K F (nI (lS c (i + 1))) (nI i + 1) 1 _) Q
      rw [show nI i + 1 = nI (i + 1) from nI_1 i]
      exact ih F (i + 1) _ (by omega) (by omega) hz
    · rw [ez]
      refine kZ.ifp rfl ?_
      show kZ (fX10_readLetter_L6 K F (nI (lS c i)) (nI i + 0) 0 _) Q
      obtain ⟨F, rfl⟩ : ∃ F', F = F' + 1 := ⟨F - 1, by omega⟩
      show kZ (fX10_readLetter_L6_B _ _ _ (nI (lS c i)) (nI i + 0) 0) _
      unfold fX10_readLetter_L6_B
      rw [hz.1 4 (by decide), h.2.1, l0, nI_add, show i + 0 = i from rfl]
      refine kZ.ifn (nI_ge (by omega) (n_lt31 (by omega))) (kZ.ifp rfl ?_)
      exact hB i _ _ _ ⟨by omega, hs.2.1, fun _ => e⟩ (by omega) hz
theorem m_readLetter (h : pgM m c st) : kZ (fX10_readLetter st) (fun z => ∃ P, Fst (tL c) m P ∧ gI z 8 = nI P ∧ gI z 9 = b01 (tLW m P (uZs (c 0))) ∧ kSame [8, 9, 12, 13, 14, 15] [] [] [] st z ∧ (P = m → lI c (sI (sI st 8 (gI z 8)) 9 (gI z 9)) m z)) := by
  have hm := h.1
  unfold fX10_readLetter
  refine m_readLetter_loop h ?_ ?_ m kFU 0 _ (by omega) (by show _ ≤ 60000; omega) ⟨kSame.rf, fun j hj => absurd hj (Nat.not_lt_zero j), fun q => by omega, fun q => by omega, fun q => by omega, fun q => by omega, fun q => by omega⟩
  · intro s v hs
    have hF : Fst (tL c) m m := ⟨Nat.le_refl m, hs.2.1, by omega⟩
    have fin : ∀ b : Bool, b = tLW m m (uZs (c 0)) → ∃ P, Fst (tL c) m P ∧ gI (sI (sI s 8 (nI m)) 9 (b01 b)) 8 = nI P ∧ gI (sI (sI s 8 (nI m)) 9 (b01 b)) 9 = b01 (tLW m P (uZs (c 0))) ∧ kSame [8, 9, 12, 13, 14, 15] [] [] [] st (sI (sI s 8 (nI m)) 9 (b01 b)) ∧ (P = m → lI c (sI (sI st 8 (gI (sI (sI s 8 (nI m)) 9 (b01 b)) 8)) 9 (gI (sI (sI s 8 (nI m)) 9 (b01 b)) 9)) m (sI (sI s 8 (nI m)) 9 (b01 b))) := by
      rintro b rfl
      obtain ⟨h1, h2, h3, h4, h5, h6, h7⟩ := hs
      have e8 : gI (sI (sI s 8 (nI m)) 9 (b01 (tLW m m (uZs (c 0))))) 8 = nI m := (gI_n (by decide)).trans (gI_e _ _ _)
      have e9 : gI (sI (sI s 8 (nI m)) 9 (b01 (tLW m m (uZs (c 0))))) 9 = b01 (tLW m m (uZs (c 0))) := gI_e _ _ _
      refine ⟨m, hF, e8, e9, ((h1.sub (by decide) (by decide) (by decide) (by decide)).sI (by decide) _).sI (by decide) _, fun _ => ?_⟩
      rw [e8, e9]
      refine ⟨⟨fun k hk => ?_, h1.2.1, h1.2.2.1, h1.2.2.2⟩, h2, fun q => ?_, fun q w => ?_, fun q w => ?_, fun q w => ?_, fun q w => ?_⟩
      · by_cases k9 : k = 9
        · rw [k9, gI_e, gI_e]
        · rw [gI_n k9, gI_n k9]
          by_cases k8 : k = 8
          · rw [k8, gI_e, gI_e]
          · rw [gI_n k8, gI_n k8]
            exact h1.1 k hk
      · rw [gI_n (by decide), gI_n (by decide)]; exact h3 q
      · rw [gI_n (by decide), gI_n (by decide)]; exact h4 q w
      · rw [gI_n (by decide), gI_n (by decide)]; exact h5 q w
      · rw [gI_n (by decide), gI_n (by decide)]; exact h6 q w
      · rw [gI_n (by decide), gI_n (by decide)]; exact h7 q w
    show kZ (fX10_readLetter_J69 s (nI (lS c m)) (nI m)) _
    unfold fX10_readLetter_J69
    rw [hs.1.1 4 (by decide), h.2.1]
    refine kZ.ifp rfl ?_
    have hl : nI (lS c m) = 5 ↔ tLW m m (uZs (c 0)) = true := by
      have u4 : 0 < m → uZs (c 0) < 4 := fun q => by
        have := hs.2.1 0 q
        unfold tL at this
        rw [if_pos rfl] at this
        exact Nat.blt_eq.mp this
      have u3 : 2 < m → ¬ uZs (c 0) = 0 := fun q w => by
        have := hs.2.1 2 q
        unfold tL at this
        rw [if_neg (by decide), if_neg (by decide), if_pos rfl, if_pos w] at this
        cases this
      have m3 : ¬ 3 < m := fun q => by
        have := hs.2.1 3 q
        unfold tL at this
        rw [if_neg (by decide), if_neg (by decide), if_neg (by decide)] at this
        cases this
      have e5 : nI (lS c m) = 5 ↔ lS c m = 5 := ⟨fun q => nI_inj (n_lt31 (by have := lS_le c m; omega)) (by decide) (q.trans l5), fun q => by rw [q]; rfl⟩
      rw [e5]
      unfold tLW
      rw [decide_eq_true_iff]
      unfold lS
      split
      · constructor
        · intro q; omega
        · intro q; have := q.2; split at this <;> omega
      · split
        · constructor
          · intro q; split at q
            · omega
            · split at q <;> omega
          · intro q; have := q.2; split at this <;> omega
        · split
          · constructor
            · intro q; split at q
              · exact ⟨rfl, by rw [if_pos (by assumption)]; assumption⟩
              · split at q <;> omega
            · intro q
              have := q.2
              split at this
              · rw [if_pos (by assumption)]
              · omega
          · exact ⟨fun _ => ⟨rfl, by rw [if_neg (u3 (by omega))]; omega⟩, fun _ => rfl⟩
    cases hb : tLW m m (uZs (c 0)) with
    | true => exact kZ.ifp (hl.mpr hb) (kZ.ret (fin true hb.symm))
    | false => exact kZ.ifn (fun q => by rw [hl.mp q] at hb; cases hb) (kZ.ret (fin false hb.symm))
  · intro P s v w hP hPm hs
    show kZ (fX10_readLetter_J69 s v (nI P)) _
    unfold fX10_readLetter_J69
    rw [hs.1 4 (by decide), h.2.1]
    refine kZ.ifn (fun q => by have := nI_inj (n_lt31 (by omega)) (n_lt31 (by omega)) q; omega) (kZ.ret ⟨P, hP, ?_, ?_, ?_, fun e => by omega⟩)
    · rw [gI_n (by decide)]; exact gI_e _ _ _
    · rw [show b01 (tLW m P (uZs (c 0))) = 0 from b01_nd (by omega)]; exact gI_e _ _ _
    · exact ((hs.sub (by decide) (by decide) (by decide) (by decide)).sI (by decide) _).sI (by decide) _
end LM
