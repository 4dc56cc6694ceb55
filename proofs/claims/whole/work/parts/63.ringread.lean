/-! what is a ring, in the reference -/
def tS (H i : Nat) : Nat := if i ≤ H then 0 else (i - H - 1) % 3 + 1
def rI (c : Nat → Nat) (H : Nat) (st : kS) (i : Nat) (s : kS) : Prop := kSame [10, 11] [] [9, 10, 11] [] st s ∧ (∀ j, j < i → tO c H j = true) ∧ gI s 10 = nI (min i H) ∧ gI s 11 = nI ((i - H) / 3) ∧ (∀ j, j < min i H → gA s 9 j = nI (tK (c j))) ∧ (∀ j, j < (i - H) / 3 → gA s 10 j = nI (c (H + 1 + 3 * j) - 48) ∧ gA s 11 j = nI (c (H + 2 + 3 * j) - 48)) ∧ (H < i → (i - H - 1) % 3 = 1 → gA s 10 ((i - H) / 3) = nI (c (i - 1) - 48))
theorem m_isD : ∀ x, x < 127 → ∀ H, H < 7 → fX10_within (nI x) 48 (47 + nI H) = b01 (tDg H x) := by decide +kernel
theorem n_48 : ∀ x, x < 127 → 48 ≤ x → nI x - 48 = nI (x - 48) := by decide +kernel
theorem tDg_48 {H x : Nat} (h : tDg H x = true) : 48 ≤ x ∧ x < 48 + H := by
  unfold tDg at h
  rw [Bool.and_eq_true] at h
  exact ⟨Nat.le_of_ble_eq_true h.1, Nat.blt_eq.mp h.2⟩
section MX
variable {m H : Nat} {c : Nat → Nat} {st : kS}
theorem tO_a {i : Nat} (h : ∀ j, j < i → tO c H j = true) (hi : H + 1 < i) : i - H - 2 < 17 := by
  have := h (i - 1) (by omega)
  unfold tO tR at this
  rw [if_neg (by omega), if_neg (by omega), Bool.and_eq_true] at this
  have := Nat.blt_eq.mp this.1
  omega
theorem m_J82 {s : kS} {x : Nat} (hH : H < 7) (hx : x < 127) (h10 : gI s 10 = nI H) : fX10_nextRing_J82 s (nI x) = some (if (Nat.ble 3 H && x == 59) = true then 1 else -1, s) := by
  unfold fX10_nextRing_J82
  rw [h10, show (59 : Int32) = nI 59 from rfl, l2]
  by_cases e : x = 59
  · rw [if_pos (by rw [e])]
    rcases Nat.lt_or_ge H 3 with q | q
    · rw [if_pos (nI_le (by omega) (by decide)), if_neg (fun hh => by rw [Bool.and_eq_true] at hh; have := Nat.le_of_ble_eq_true hh.1; omega)]
    · rw [if_neg (nI_ge (by omega) (n_lt31 (by omega))), if_pos (by rw [Nat.ble_eq.mpr q, e]; rfl)]
  · rw [if_neg (fun q => e (nI_inj (n_lt31 (by omega)) (by decide) q)), if_neg (fun hh => by rw [Bool.and_eq_true] at hh; exact e (eq_of_beq hh.2))]
theorem m_J180 {s : kS} {v a f : Nat} (ha : a < 2) : fX10_nextRing_J180 s (nI a) (nI v) (nI f) = some (if a = 0 then -1 else 3, sI s 11 (nI (f + v))) := by
  unfold fX10_nextRing_J180
  rw [nI_add]
  rcases Nat.lt_or_ge a 1 with q | q
  · rw [show a = 0 by omega]; rfl
  · rw [show a = 1 by omega]; rfl
theorem m_nextRing {i : Nat} {s : kS} (h : pgM m c st) (hH : Fst (tH c) m H) (hi : i < m) (hs : rI c H st i s) : kZ (fX10_nextRing s (nI (tS H i)) (nI (c i))) (fun z => (tO c H i = true ∧ z.1 = nI (tS H (i + 1)) ∧ rI c H st (i + 1) z.2) ∨ (tO c H i = false ∧ z.1 = -1 ∧ kSame [10, 11] [] [9, 10, 11] [] st z.2)) := by
  have hm := h.1
  have hH6 := tH_le hH
  have hc := (h.2.2 i hi).1
  obtain ⟨h1, h2, h3, h4, h5, h6, h7⟩ := hs
  unfold fX10_nextRing
  have up : tO c H i = true → ∀ j, j < i + 1 → tO c H j = true := fun he j hj => by
    rcases Nat.lt_or_ge j i with r | r
    · exact h2 j r
    · rw [show j = i by omega, he]
  rcases Nat.lt_trichotomy i H with q | q | q
  · -- a house more
    have hk := hH.2.1 i q
    unfold tH at hk
    rw [Bool.and_eq_true] at hk
    have k6 := Nat.blt_eq.mp hk.1
    have k4 := Nat.blt_eq.mp hk.2
    have e0 : tO c H i = true := by unfold tO; rw [if_pos q]
    have et : tS H i = 0 := by unfold tS; rw [if_pos (by omega)]
    have et' : tS H (i + 1) = 0 := by unfold tS; rw [if_pos (by omega)]
    rw [et]
    refine kZ.ifp rfl ?_
    rw [tK_m _ hc, show (if tK (c i) = 4 then (-1 : Int32) else nI (tK (c i))) = nI (tK (c i)) from if_neg (by omega)]
    refine kZ.ifn (tK_n _ k4) ?_
    rw [h3, show min i H = i by omega, l6]
    refine kZ.ifn (nI_ge k6 (by decide)) ?_
    refine kZ.gd k6 (by decide) ?_
    rw [nI_clamp (n_lt31 (by omega)), show nI i + 1 = nI (i + 1) from nI_1 i]
    refine kZ.ret (Or.inl ⟨e0, by rw [et']; rfl, (h1.sA (by decide) _).sI (by decide) _, up e0, ?_, ?_, ?_, ?_, by omega⟩)
    · rw [show min (i + 1) H = i + 1 by omega]; exact gI_e _ _ _
    · show gI (sI (sA s 9 _) 10 _) 11 = _
      rw [gI_n (by decide)]
      exact h4.trans (by rw [show (i - H) / 3 = (i + 1 - H) / 3 by rw [show i - H = 0 by omega, show i + 1 - H = 0 by omega]])
    · intro j hj
      show gA (sA s 9 _) 9 j = _
      rw [gA_e]
      by_cases e : j = i
      · rw [e, upd_e]
      · rw [upd_n e]; exact h5 j (by omega)
    · intro j hj
      rw [show i + 1 - H = 0 by omega] at hj
      exact absurd hj (Nat.not_lt_zero j)
  · -- the end of the houses
    subst q
    have hk := hH.2.2 hi
    have et : tS i i = 0 := by unfold tS; rw [if_pos (by omega)]
    have et' : tS i (i + 1) = 1 := by unfold tS; rw [if_neg (by omega), show i + 1 - i - 1 = 0 by omega]
    have e0 : tO c i i = (Nat.ble 3 i && c i == 59) := by unfold tO tR; rw [if_neg (by omega), if_pos rfl]
    rw [et]
    refine kZ.ifp rfl ?_
    have fin : kZ (fX10_nextRing_J82 s (nI (c i))) (fun z => (tO c i i = true ∧ z.1 = nI (tS i (i + 1)) ∧ rI c i st (i + 1) z.2) ∨ (tO c i i = false ∧ z.1 = -1 ∧ kSame [10, 11] [] [9, 10, 11] [] st z.2)) := by
      rw [m_J82 (H := i) (by omega) hc (by rw [h3, show min i i = i by omega])]
      refine kZ.ret ?_
      cases hb : (Nat.ble 3 i && c i == 59) with
      | false => exact Or.inr ⟨e0.trans hb, rfl, h1⟩
      | true =>
        refine Or.inl ⟨e0.trans hb, by rw [et']; rfl, h1, up (e0.trans hb), ?_, ?_, ?_, ?_, ?_⟩
        · rw [h3, show min i i = min (i + 1) i by omega]
        · rw [h4, show (i - i) / 3 = (i + 1 - i) / 3 by rw [show i - i = 0 by omega, show i + 1 - i = 1 by omega]]
        · intro j hj; exact h5 j (by omega)
        · intro j hj
          rw [show i + 1 - i = 1 by omega] at hj
          exact absurd hj (Nat.not_lt_zero j)
        · intro _ hh
          rw [show i + 1 - i - 1 = 0 by omega] at hh
          cases hh
    rw [tK_m _ hc]
    rcases tK_le (c i) with e | e
    · rw [show (if tK (c i) = 4 then (-1 : Int32) else nI (tK (c i))) = nI (tK (c i)) from if_neg (by omega)]
      refine kZ.ifn (tK_n _ e) ?_
      have : ¬ i < 6 := fun q => by
        unfold tH at hk
        rw [Nat.blt_eq.mpr q, Nat.blt_eq.mpr e] at hk
        cases hk
      rw [h3, show min i i = i by omega, l6]
      exact kZ.ifp (nI_le (by omega) (n_lt31 (by omega))) fin
    · rw [if_pos e]
      exact kZ.ifp rfl fin
  · -- behind the houses
    have ha : i - H - 1 ≤ 17 := by
      rcases Nat.lt_or_ge (H + 1) i with r | r
      · have := tO_a h2 r; omega
      · omega
    have hmin : min i H = H := by omega
    have hmin' : min (i + 1) H = H := by omega
    have e0 : tO c H i = (Nat.blt (i - H - 1) 17 && (if (i - H - 1) % 3 = 0 then tDg H (c i) else if (i - H - 1) % 3 = 1 then tDg H (c i) && !(c i == c (i - 1)) else c i == 44)) := by unfold tO tR; rw [if_neg (by omega), if_neg (by omega)]
    have et : tS H i = (i - H - 1) % 3 + 1 := by unfold tS; rw [if_neg (by omega)]
    have et' : tS H (i + 1) = (i - H) % 3 + 1 := by unfold tS; rw [if_neg (by omega), show i + 1 - H - 1 = i - H by omega]
    have hr : (i - H - 1) % 3 = 0 ∨ (i - H - 1) % 3 = 1 ∨ (i - H - 1) % 3 = 2 := by omega
    rw [hmin] at h3
    rcases hr with r | r | r
    · have h17 : Nat.blt (i - H - 1) 17 = true := Nat.blt_eq.mpr (by omega)
      rw [r, h17, Bool.true_and, if_pos rfl] at e0
      rw [et, r]
      refine kZ.ifn (by decide) (kZ.ifp rfl ?_)
      rw [h4, h3]
      refine kZ.gd (by omega) (by decide) ?_
      rw [nI_clamp (n_lt31 (by omega)), m_isD _ hc H (by omega)]
      cases hb : tDg H (c i) with
      | false => exact kZ.ifp rfl (kZ.ret (Or.inr ⟨e0.trans hb, rfl, h1.sA (by decide) _⟩))
      | true =>
        have h48 := tDg_48 hb
        refine kZ.ifn (by decide) (kZ.ret (Or.inl ⟨e0.trans hb, by rw [et', show (i - H) % 3 = 1 by omega]; rfl, h1.sA (by decide) _, up (e0.trans hb), ?_, ?_, ?_, ?_, ?_⟩))
        · rw [hmin']; exact h3
        · show gI s 11 = _
          rw [h4, show (i - H) / 3 = (i + 1 - H) / 3 by omega]
        · intro j hj
          show gA (sA s 10 _) 9 j = _
          rw [gA_n (by decide)]
          exact h5 j (by omega)
        · intro j hj
          show gA (sA s 10 _) 10 j = _ ∧ gA (sA s 10 _) 11 j = _
          rw [gA_n (show 11 ≠ 10 by decide), gA_e, upd_n (by omega)]
          exact h6 j (by omega)
        · intro _ _
          show gA (sA s 10 _) 10 _ = _
          rw [gA_e, show (i + 1 - H) / 3 = (i - H) / 3 by omega, upd_e, show i + 1 - 1 = i by omega, n_48 _ hc h48.1]
    · have h17 : Nat.blt (i - H - 1) 17 = true := Nat.blt_eq.mpr (by omega)
      rw [r, h17, Bool.true_and, if_neg (by omega), if_pos rfl] at e0
      rw [et, r]
      refine kZ.ifn (by decide) (kZ.ifn (by decide) (kZ.ifp rfl ?_))
      rw [h3, m_isD _ hc H (by omega)]
      have hp := h7 q r
      have bad : tO c H i = false → kZ (fX10_nextRing_J149 s (nI (c i))) (fun z => (tO c H i = true ∧ z.1 = nI (tS H (i + 1)) ∧ rI c H st (i + 1) z.2) ∨ (tO c H i = false ∧ z.1 = -1 ∧ kSame [10, 11] [] [9, 10, 11] [] st z.2)) := fun hf => by
        unfold fX10_nextRing_J149 fX10_nextRing_J150
        rw [h4]
        refine kZ.gd (by omega) (by decide) (kZ.ifp rfl ?_)
        rw [l0, m_J180 (a := 0) (v := 0) (by decide)]
        exact kZ.ret (Or.inr ⟨hf, rfl, (h1.sA (by decide) _).sI (by decide) _⟩)
      cases hb : tDg H (c i) with
      | false => exact kZ.ifp rfl (bad (by rw [e0, hb]; rfl))
      | true =>
        have h48 := tDg_48 hb
        refine kZ.ifn (by decide) ?_
        rw [h4]
        refine kZ.ka (by omega) (by decide) ?_
        have hc1 := (h.2.2 (i - 1) (by omega)).1
        have hd1 : tDg H (c (i - 1)) = true := by
          have := h2 (i - 1) (by omega)
          unfold tO tR at this
          rw [if_neg (by omega), if_neg (by omega), Bool.and_eq_true, if_pos (by omega)] at this
          exact this.2
        have h481 := tDg_48 hd1
        rw [hp, n_48 _ hc h48.1]
        by_cases e : c i = c (i - 1)
        · exact kZ.ifp (by rw [e]) (bad (by rw [e0, hb, e, beq_self_eq_true]; rfl))
        · refine kZ.ifn (fun q => e (by have := nI_inj (n_lt31 (by omega)) (n_lt31 (by omega)) q; omega)) ?_
          have e1 : tO c H i = true := by rw [e0, hb, beq_eq_false_iff_ne.mpr e]; rfl
          unfold fX10_nextRing_J150
          rw [h4]
          refine kZ.gd (by omega) (by decide) (kZ.ifn (by decide) ?_)
          rw [l1, m_J180 (a := 1) (v := 1) (by decide), nI_clamp (n_lt31 (by omega)), n_48 _ hc h48.1]
          refine kZ.ret (Or.inl ⟨e1, by rw [et', show (i - H) % 3 = 2 by omega]; rfl, (h1.sA (by decide) _).sI (by decide) _, up e1, ?_, ?_, ?_, ?_, fun _ hh => by omega⟩)
          · show gI (sI (sA s 11 _) 11 _) 10 = _
            rw [gI_n (by decide), hmin']; exact h3
          · rw [show (i + 1 - H) / 3 = (i - H) / 3 + 1 by omega]; exact gI_e _ _ _
          · intro j hj
            show gA (sA s 11 _) 9 j = _
            rw [gA_n (by decide)]
            exact h5 j (by omega)
          · intro j hj
            show gA (sA s 11 _) 10 j = _ ∧ gA (sA s 11 _) 11 j = _
            rw [gA_n (show 10 ≠ 11 by decide), gA_e]
            by_cases e5 : j = (i - H) / 3
            · rw [e5, upd_e, hp, show H + 1 + 3 * ((i - H) / 3) = i - 1 by omega, show H + 2 + 3 * ((i - H) / 3) = i by omega]
              exact ⟨rfl, rfl⟩
            · rw [upd_n e5]
              exact h6 j (by omega)
    · rw [r, if_neg (by omega), if_neg (by omega)] at e0
      rw [et, r]
      refine kZ.ifn (by decide) (kZ.ifn (by decide) (kZ.ifn (by decide) ?_))
      rw [show (44 : Int32) = nI 44 from rfl, h4, l6]
      by_cases e : c i = 44
      · refine kZ.ifp (by rw [e]) ?_
        rcases Nat.lt_or_ge ((i - H) / 3) 6 with w | w
        · have e1 : tO c H i = true := by rw [e0, e, Nat.blt_eq.mpr (show i - H - 1 < 17 by omega)]; rfl
          refine kZ.ifn (nI_ge w (by decide)) (kZ.ret (Or.inl ⟨e1, by rw [et', show (i - H) % 3 = 0 by omega]; rfl, h1, up e1, by rw [hmin']; exact h3, ?_, ?_, ?_, fun _ hh => by omega⟩))
          · rw [h4, show (i - H) / 3 = (i + 1 - H) / 3 by omega]
          · intro j hj; exact h5 j (by omega)
          · intro j hj; exact h6 j (by omega)
        · refine kZ.ifp (nI_le w (n_lt31 (by omega))) (kZ.ret (Or.inr ⟨?_, rfl, h1⟩))
          have : Nat.blt (i - H - 1) 17 = false := by cases hb : Nat.blt (i - H - 1) 17; rfl; have := Nat.blt_eq.mp hb; omega
          rw [e0, this]
          rfl
      · refine kZ.ifn (fun q => e (nI_inj (n_lt31 (by omega)) (by decide) q)) (kZ.ret (Or.inr ⟨?_, rfl, h1⟩))
        rw [e0, beq_eq_false_iff_ne.mpr e, Bool.and_false]
theorem m_readRing_loop (h : pgM m c st) (hH : Fst (tH c) m H) {Q : kS → Prop} {K : Int32 → Int32 → Int32 → kS → Option kS}
    (hE : ∀ s v, rI c H st m s → kZ (K (nI (tS H m)) (nI m) v s) Q) (hB : ∀ P s v w, Fst (tO c H) m P → P < m → kSame [10, 11] [] [9, 10, 11] [] st s → kZ (K v (nI P) w s) Q) :
    ∀ d F i s, i + d = m → d + 2 ≤ F → rI c H st i s → kZ (fX10_readRing_L16 K F (nI (tS H i)) (nI i) 1 s) Q := by
  have hm := h.1
  intro d
  induction d with
  | zero =>
    intro F i s hi hF hs
    obtain ⟨F, rfl⟩ : ∃ F', F = F' + 1 := ⟨F - 1, by omega⟩
    show kZ (fX10_readRing_L16_B _ _ s (nI (tS H i)) (nI i) 1) _
    unfold fX10_readRing_L16_B
    rw [hs.1.1 4 (by decide), h.2.1, show i = m by omega]
    rw [show i = m by omega] at hs
    exact kZ.ifp (nI_le (Nat.le_refl m) (n_lt31 (by omega))) (hE s 1 hs)
  | succ d ih =>
    intro F i s hi hF hs
    obtain ⟨F, rfl⟩ : ∃ F', F = F' + 1 := ⟨F - 1, by omega⟩
    show kZ (fX10_readRing_L16_B _ _ s (nI (tS H i)) (nI i) 1) _
    unfold fX10_readRing_L16_B
    rw [hs.1.1 4 (by decide), h.2.1]
    refine kZ.ifn (nI_ge (by omega) (n_lt31 (by omega))) (kZ.ifn (by decide) ?_)
    refine kZ.ka (by omega) (by decide) ?_
    rw [hs.1.2.2.1 6 (by decide), (h.2.2 i (by omega)).2]
    refine (m_nextRing h hH (by omega) hs).bind (fun z hz => ?_)
    rcases hz with ⟨e, ez, hz⟩ | ⟨e, ez, hz⟩
    · rw [ez]
      have ht : tS H (i + 1) < 4 := by unfold tS; split <;> omega
      refine kZ.ifn (tK_n _ ht) ?_
      show kZ (fX10_readRing_L16 K F (nI (tS H (i + 1))) (nI i + 1) 1 z.2) Q
      rw [show nI i + 1 = nI (i + 1) from nI_1 i]
      exact ih F (i + 1) z.2 (by omega) (by omega) hz
    · rw [ez]
      refine kZ.ifp rfl ?_
      show kZ (fX10_readRing_L16 K F (nI (tS H i)) (nI i + 0) 0 z.2) Q
      obtain ⟨F, rfl⟩ : ∃ F', F = F' + 1 := ⟨F - 1, by omega⟩
      show kZ (fX10_readRing_L16_B _ _ z.2 (nI (tS H i)) (nI i + 0) 0) _
      unfold fX10_readRing_L16_B
      rw [hz.1 4 (by decide), h.2.1, l0, nI_add, show i + 0 = i from rfl]
      refine kZ.ifn (nI_ge (by omega) (n_lt31 (by omega))) (kZ.ifp rfl ?_)
      exact hB i z.2 _ _ ⟨by omega, hs.2.1, fun _ => e⟩ (by omega) hz
def rW (m : Nat) (c : Nat → Nat) (H : Nat) (z : kS) : Prop := gI z 10 = nI H ∧ gI z 11 = nI ((m - H) / 3) ∧ (∀ j, j < H → gA z 9 j = nI (tK (c j))) ∧ ∀ j, j < (m - H) / 3 → gA z 10 j = nI (c (H + 1 + 3 * j) - 48) ∧ gA z 11 j = nI (c (H + 2 + 3 * j) - 48)
theorem m_readRing (h : pgM m c st) (hH : Fst (tH c) m H) : kZ (fX10_readRing st) (fun z => ∃ P, Fst (tO c H) m P ∧ gI z 8 = nI P ∧ gI z 9 = b01 (tW m H P) ∧ kSame [8, 9, 10, 11] [] [9, 10, 11] [] st z ∧ (P = m → rW m c H z)) := by
  have hm := h.1
  have hH6 := tH_le hH
  have hHm := hH.1
  unfold fX10_readRing
  have hs0 : kSame [10, 11] [] [9, 10, 11] [] st (sI (sI st 10 0) 11 0) := (kSame.rf.sI (by decide) _).sI (by decide) _
  refine m_readRing_loop h hH ?_ ?_ m kFU 0 _ (by omega) (by show _ ≤ 60000; omega) ⟨hs0, fun j hj => absurd hj (Nat.not_lt_zero j), ?_, ?_, ?_, ?_, fun hh => by omega⟩
  · intro s v hs
    obtain ⟨h1, h2, h3, h4, h5, h6, h7⟩ := hs
    have hmin : min m H = H := by omega
    rw [hmin] at h3 h5
    have hF : Fst (tO c H) m m := ⟨Nat.le_refl m, h2, by omega⟩
    have fin : ∀ b : Bool, b = tW m H m → ∃ P, Fst (tO c H) m P ∧ gI (sI (sI s 8 (nI m)) 9 (b01 b)) 8 = nI P ∧ gI (sI (sI s 8 (nI m)) 9 (b01 b)) 9 = b01 (tW m H P) ∧ kSame [8, 9, 10, 11] [] [9, 10, 11] [] st (sI (sI s 8 (nI m)) 9 (b01 b)) ∧ (P = m → rW m c H (sI (sI s 8 (nI m)) 9 (b01 b))) := by
      rintro b rfl
      refine ⟨m, hF, ?_, gI_e _ _ _, ?_, fun _ => ⟨?_, ?_, h5, h6⟩⟩
      · rw [gI_n (by decide)]; exact gI_e _ _ _
      · exact ((h1.sub (by decide) (by decide) (by decide) (by decide)).sI (by decide) _).sI (by decide) _
      · rw [gI_n (by decide), gI_n (by decide)]; exact h3
      · rw [gI_n (by decide), gI_n (by decide)]; exact h4
    show kZ (fX10_readRing_J79 s (nI (tS H m)) (nI m)) _
    unfold fX10_readRing_J79
    rw [h1.1 4 (by decide), h.2.1, h3]
    refine kZ.ifp rfl ?_
    have h105 : ∀ b : Bool, b = tW m H m → (nI (tS H m) = 3 ↔ b = true) → kZ (fX10_readRing_J105 (sI s 8 (nI m)) (nI (tS H m))) (fun z => ∃ P, Fst (tO c H) m P ∧ gI z 8 = nI P ∧ gI z 9 = b01 (tW m H P) ∧ kSame [8, 9, 10, 11] [] [9, 10, 11] [] st z ∧ (P = m → rW m c H z)) := by
      intro b hb hh
      unfold fX10_readRing_J105
      cases b with
      | true => exact kZ.ifp (hh.mpr rfl) (kZ.ret (fin true hb))
      | false => exact kZ.ifn (fun q => by cases hh.mp q) (kZ.ret (fin false hb))
    by_cases e : H = m
    · have et : tS H m = 0 := by unfold tS; rw [if_pos (by omega)]
      rw [et] at h105 ⊢
      refine kZ.ifp rfl ?_
      rw [l2]
      rcases Nat.lt_or_ge 2 H with w | w
      · exact kZ.ifp (nI_lt w (n_lt31 (by omega))) (kZ.ret (fin true (by unfold tW; exact (decide_eq_true (by omega)).symm)))
      · exact kZ.ifn (nI_nlt w (by decide)) (h105 false (by unfold tW; exact (decide_eq_false (by omega)).symm) ⟨fun q => absurd q (by decide), fun q => by cases q⟩)
    · have et : tS H m = (m - H - 1) % 3 + 1 := by unfold tS; rw [if_neg (by omega)]
      have h3H : 3 ≤ H := by
        have := h2 H (by omega)
        unfold tO tR at this
        rw [if_neg (by omega), if_pos rfl, Bool.and_eq_true] at this
        exact Nat.le_of_ble_eq_true this.1
      refine kZ.ifn ?_ (h105 (tW m H m) rfl ?_)
      · rw [et]
        exact fun q => by have := nI_inj (n_lt31 (by omega)) (by decide) (q.trans l0); omega
      · rw [et, l3]
        unfold tW
        rw [decide_eq_true_iff]
        constructor
        · intro q
          have := nI_inj (n_lt31 (by omega)) (by decide) q
          omega
        · intro q
          rw [show (m - H - 1) % 3 = 2 by omega]
  · intro P s v w hP hPm hs
    show kZ (fX10_readRing_J79 s v (nI P)) _
    unfold fX10_readRing_J79
    rw [hs.1 4 (by decide), h.2.1]
    refine kZ.ifn (fun q => by have := nI_inj (n_lt31 (by omega)) (n_lt31 (by omega)) q; omega) (kZ.ret ⟨P, hP, ?_, ?_, ?_, fun e => by omega⟩)
    · rw [gI_n (by decide)]; exact gI_e _ _ _
    · rw [show b01 (tW m H P) = 0 from b01_nd (by omega)]; exact gI_e _ _ _
    · exact ((hs.sub (by decide) (by decide) (by decide) (by decide)).sI (by decide) _).sI (by decide) _
  · rw [gI_n (by decide)]
    rw [show min 0 H = 0 by omega]; exact gI_e _ _ _
  · rw [show (0 - H) / 3 = 0 by omega]; exact gI_e _ _ _
  · intro j hj
    rw [show min 0 H = 0 by omega] at hj
    exact absurd hj (Nat.not_lt_zero j)
  · intro j hj
    rw [show (0 - H) / 3 = 0 by omega] at hj
    exact absurd hj (Nat.not_lt_zero j)
end MX
