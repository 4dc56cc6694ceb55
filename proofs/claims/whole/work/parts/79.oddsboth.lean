/-! odds: the reference's count, and both -/
section OM
variable {n o : Nat} {κ : Nat → Nat} {φ : Nat → Nat → Bool} {st : kS} {Q : Int32 × kS → Prop}
theorem m_stillPlace (h : mR n κ φ st) (ho : uO n o (gA st 3)) (hc : uCompat n κ o) {p : Nat} (hp : p < n) : fX10_isStillPlace st (nI p) = some (b01 (uSt κ p)) := by
  have hn6 := h.1.2
  unfold fX10_isStillPlace
  rw [ka_n _ (by omega) (by decide), ho.2 p hp]
  simp only [Option.bind_some]
  rw [h.isStill (uD_lt h.1 ho.1 hp), uSt_place h.1 ho.1 hc hp]
  simp only [Option.bind_some]
  rw [if_neg (fun q => q (b01_c _))]
theorem m_odds94 {K : Int32 → kS → Option (Int32 × kS)} {v2 v3 v4 : Int32} {f s0 : Nat → Nat} {q : Nat} (h : mR n κ φ st) (ho : uO n o (gA st 3)) (hc : uCompat n κ o) (hq : q < n) (hf : gA st 20 q = nI (f q)) (h21 : ∀ j, j < n → gA st 21 j = nI (s0 j)) (hK : ∀ v s, kSame [] [] [21] [] st s → (∀ j, j < n → gA s 21 j = nI (s0 j + uRow (eQ n κ f q j) n 0)) → kZ (K v s) Q) : kZ (fX10_oddsOf_L94 K v2 v3 v4 (nI q) kFU 0 st) Q := by
  have hn := h.1
  have hn6 := hn.2
  have hn3 := hn.1
  refine kfor (σ := kS) (fun F i s => fX10_oddsOf_L94 K v2 v3 v4 (nI q) F i s) (fun i s => kSame [] [] [21] [] st s ∧ ∃ w : Nat → Nat, (∀ j, j < n → gA s 21 j = nI (w j)) ∧ ∀ j, j < n → w j + uRow (eQ n κ f q j) n i = s0 j + uRow (eQ n κ f q j) n 0) n ?_ ?_ kFU 0 st (Nat.zero_le _) (kFU_lt0 (by omega)) ⟨kSame.rf, s0, h21, fun _ _ => rfl⟩
  · rintro F s ⟨hs, w, hw, he⟩
    show kZ (fX10_oddsOf_L94_B _ _ s v2 v3 v4 (nI q) (nI n)) _
    unfold fX10_oddsOf_L94_B
    rw [hs.1 0 (by decide), h.2.1]
    refine kZ.ifp (nI_le (Nat.le_refl n) hn.lt) (hK _ s hs (fun j hj => ?_))
    rw [hw j hj, ← he j hj, uRow_e (Nat.le_refl n), Nat.add_zero]
  · rintro F d s hd ⟨hs, w, hw, he⟩ next
    show kZ (fX10_oddsOf_L94_B _ _ s v2 v3 v4 (nI q) (nI d)) _
    unfold fX10_oddsOf_L94_B
    have hx := h.same hs (by decide)
    have hos : uO n o (gA s 3) := by rw [hs.2.2.1 3 (by decide)]; exact ho
    have hp := uPa_lt (κ := κ) hn hq hd
    have hnd := uN_lt hn hd
    rw [hx.2.1]
    refine kZ.ifn (nI_ge hd hn.lt) (kZ.ifn (nI_ne0 (by omega) hn.lt) ?_)
    rw [kr_next hn hd]
    -- what is written, at the place that the walk says
    have fin : ∀ p, p = uPa n κ q d → ∀ x, x = nI (w p + f q) → kZ (fX10_oddsOf_L94 K v2 v3 v4 (nI q) F (nI (d + 1)) (sA s 21 (upd (gA s 21) p x))) Q := by
      rintro p rfl x rfl
      refine next _ ⟨hs.sA (by decide) _, fun j => if j = uPa n κ q d then w j + f q else w j, fun j hj => ?_, fun j hj => ?_⟩
      · rw [gA_e]
        dsimp only
        by_cases e : j = uPa n κ q d
        · rw [e, upd_e, if_pos rfl]
        · rw [upd_n e, if_neg e]; exact hw j hj
      · have := he j hj
        dsimp only
        rw [uRow_s hd] at this
        have e1 : eQ n κ f q j d = if uPa n κ q d = j then f q else 0 := rfl
        rw [e1] at this
        by_cases e : j = uPa n κ q d
        · rw [if_pos e]; rw [if_pos e.symm] at this; omega
        · rw [if_neg e]; rw [if_neg (fun z => e z.symm)] at this; omega
    have hf20 : gA s 20 q = nI (f q) := by rw [hs.2.2.1 20 (by decide)]; exact hf
    have j150 : uPa n κ q d = q → ∀ v7, kZ (fX10_oddsOf_J150 K (fX10_oddsOf_L94 K v2 v3 v4 (nI q) F) s v2 v3 v4 (nI q) (nI d) v7) Q := by
      intro e v7
      unfold fX10_oddsOf_J150 fX10_oddsOf_J151
      refine kZ.ifp rfl (kZ.ka (show q < 6 by omega) (by decide) (kZ.ka (show q < 6 by omega) (by decide) (kZ.gd (show q < 6 by omega) (by decide) ?_)))
      rw [nI_clamp (hn.lp hq), hw q hq, hf20, nI_add, show nI d + 1 = nI (d + 1) from nI_1 d]
      exact fin q e.symm _ rfl
    have j128 : (q = d ∨ q = uN n d) → kZ (fX10_oddsOf_J128 K (fX10_oddsOf_L94 K v2 v3 v4 (nI q) F) s v2 v3 v4 (nI q) (nI d) (nI (uN n d))) Q := by
      intro e
      unfold fX10_oddsOf_J128
      rw [m_stillPlace hx hos hc hd]
      simp only [Option.bind_some]
      cases h1 : uSt κ d with
      | true => exact kZ.ifn (by decide) (j150 (by unfold uPa uBar; rw [h1]; rfl) _)
      | false =>
        refine kZ.ifp rfl ?_
        rw [m_stillPlace hx hos hc hnd]
        simp only [Option.bind_some]
        cases h2 : uSt κ (uN n d) with
        | true => exact kZ.ifn (by decide) (j150 (by unfold uPa uBar; rw [h1, h2]; rfl) _)
        | false =>
          have hb : uBar n κ d = false := by unfold uBar; rw [h1, h2]; rfl
          refine kZ.ifp rfl ?_
          unfold fX10_oddsOf_J151
          refine kZ.ifn (by decide) ?_
          rw [show nI d + 1 = nI (d + 1) from nI_1 d]
          by_cases e1 : q = d
          · have ep : uPa n κ q d = uN n d := by unfold uPa; rw [hb, if_neg (by decide), if_pos e1]
            refine kZ.ifp (by rw [e1]) (kZ.ka (show uN n d < 6 by omega) (by decide) (kZ.ka (show q < 6 by omega) (by decide) (kZ.gd (show uN n d < 6 by omega) (by decide) ?_)))
            rw [nI_clamp (hn.lp hnd), hw _ hnd, hf20, nI_add]
            exact fin _ ep.symm _ rfl
          · have e2 : q = uN n d := by omega
            have ep : uPa n κ q d = d := by unfold uPa; rw [hb, if_neg (show ¬ (false : Bool) = true by decide), if_neg e1, if_pos e2]
            refine kZ.ifn (fun z => e1 (nI_inj (hn.lp hq) (hn.lp hd) z)) (kZ.ka (show d < 6 by omega) (by decide) (kZ.ka (show q < 6 by omega) (by decide) (kZ.gd (show d < 6 by omega) (by decide) ?_)))
            rw [nI_clamp (hn.lp hd), hw _ hd, hf20, nI_add]
            exact fin _ ep.symm _ rfl
    by_cases e1 : q = d
    · exact kZ.ifp (by rw [e1]) (j128 (Or.inl e1))
    · refine kZ.ifn (fun z => e1 (nI_inj (hn.lp hq) (hn.lp hd) z)) ?_
      by_cases e2 : q = uN n d
      · exact kZ.ifp (by rw [← e2]) (j128 (Or.inr e2))
      · refine kZ.ifn (fun z => e2 (nI_inj (hn.lp hq) (hn.lp hnd) z)) (j150 ?_ _)
        unfold uPa
        rw [if_neg e1, if_neg e2]
        split <;> rfl
theorem m_odds82 {K : Int32 → kS → Option (Int32 × kS)} {v2 v3 v4 : Int32} {f : Nat → Nat} (h : mR n κ φ st) (ho : uO n o (gA st 3)) (hc : uCompat n κ o) (hf : ∀ j, j < n → gA st 20 j = nI (f j)) (h21 : ∀ j, j < n → gA st 21 j = nI 0) (hK : ∀ v s, kSame [] [] [21] [] st s → (∀ j, j < n → gA s 21 j = nI (eT n κ f j)) → kZ (K v s) Q) : kZ (fX10_oddsOf_L82 K v2 v3 v4 kFU 0 st) Q := by
  have hn := h.1
  have hn6 := hn.2
  refine kfor (σ := kS) (fun F i s => fX10_oddsOf_L82 K v2 v3 v4 F i s) (fun i s => kSame [] [] [21] [] st s ∧ ∃ w : Nat → Nat, (∀ j, j < n → gA s 21 j = nI (w j)) ∧ ∀ j, j < n → w j + uRow (fun q => uRow (eQ n κ f q j) n 0) n i = eT n κ f j) n ?_ ?_ kFU 0 st (Nat.zero_le _) (kFU_lt0 (by omega)) ⟨kSame.rf, fun _ => 0, h21, fun _ _ => Nat.zero_add _⟩
  · rintro F s ⟨hs, w, hw, he⟩
    show kZ (fX10_oddsOf_L82_B _ _ s v2 v3 v4 (nI n)) _
    unfold fX10_oddsOf_L82_B
    rw [hs.1 0 (by decide), h.2.1]
    refine kZ.ifp (nI_le (Nat.le_refl n) hn.lt) (hK _ s hs (fun j hj => ?_))
    rw [hw j hj, ← he j hj, uRow_e (Nat.le_refl n), Nat.add_zero]
  · rintro F q s hq ⟨hs, w, hw, he⟩ next
    show kZ (fX10_oddsOf_L82_B _ _ s v2 v3 v4 (nI q)) _
    unfold fX10_oddsOf_L82_B
    have hx := h.same hs (by decide)
    rw [hx.2.1]
    refine kZ.ifn (nI_ge hq hn.lt) ?_
    refine m_odds94 hx (o := o) (by rw [hs.2.2.1 3 (by decide)]; exact ho) hc hq (by rw [hs.2.2.1 20 (by decide)]; exact hf q hq) hw (fun v s2 hs2 h2 => ?_)
    rw [show nI q + 1 = nI (q + 1) from nI_1 q]
    refine next _ ⟨hs.trans hs2, _, h2, fun j hj => ?_⟩
    have := he j hj
    rw [uRow_s hq] at this
    omega
theorem m_odds207 {K : Int32 → kS → Option (Int32 × kS)} {v2 v3 v4 : Int32} {g : Nat → Nat} (h : mR n κ φ st) (hg : ∀ j, j < n → gA st 21 j = nI (g j)) (hK : ∀ v s, kSame [] [] [20] [] st s → (∀ j, j < n → gA s 20 j = nI (g j)) → kZ (K v s) Q) : kZ (fX10_oddsOf_L207 K v2 v3 v4 kFU 0 st) Q := by
  have hn := h.1
  have hn6 := hn.2
  refine kfor (σ := kS) (fun F i s => fX10_oddsOf_L207 K v2 v3 v4 F i s) (fun i s => kSame [] [] [20] [] st s ∧ ∀ j, j < i → gA s 20 j = nI (g j)) n ?_ ?_ kFU 0 st (Nat.zero_le _) (kFU_lt0 (by omega)) ⟨kSame.rf, fun j hj => absurd hj (Nat.not_lt_zero j)⟩
  · rintro F s ⟨hs, hw⟩
    show kZ (fX10_oddsOf_L207_B _ _ s v2 v3 v4 (nI n)) _
    unfold fX10_oddsOf_L207_B
    rw [hs.1 0 (by decide), h.2.1]
    exact kZ.ifp (nI_le (Nat.le_refl n) hn.lt) (hK _ s hs hw)
  · rintro F q s hq ⟨hs, hw⟩ next
    show kZ (fX10_oddsOf_L207_B _ _ s v2 v3 v4 (nI q)) _
    unfold fX10_oddsOf_L207_B
    rw [hs.1 0 (by decide), h.2.1]
    refine kZ.ifn (nI_ge hq hn.lt) (kZ.ka (show q < 6 by omega) (by decide) (kZ.gd (show q < 6 by omega) (by decide) ?_))
    rw [nI_clamp (hn.lp hq), hs.2.2.1 21 (by decide), hg q hq, show nI q + 1 = nI (q + 1) from nI_1 q]
    refine next _ ⟨hs.sA (by decide) _, fun j hj => ?_⟩
    rw [gA_e]
    by_cases e : j = q
    · rw [e, upd_e]
    · rw [upd_n e]; exact hw j (by omega)
theorem m_odds56 {K : Int32 → kS → Option (Int32 × kS)} {v2 v3 v4 : Int32} (h : mR n κ φ st) (hK : ∀ v s, kSame [] [] [21] [] st s → (∀ j, j < n → gA s 21 j = nI 0) → kZ (K v s) Q) : kZ (fX10_oddsOf_L56 K v2 v3 v4 kFU 0 st) Q := by
  have hn := h.1
  have hn6 := hn.2
  refine kfor (σ := kS) (fun F i s => fX10_oddsOf_L56 K v2 v3 v4 F i s) (fun i s => kSame [] [] [21] [] st s ∧ ∀ j, j < i → gA s 21 j = nI 0) n ?_ ?_ kFU 0 st (Nat.zero_le _) (kFU_lt0 (by omega)) ⟨kSame.rf, fun j hj => absurd hj (Nat.not_lt_zero j)⟩
  · rintro F s ⟨hs, hw⟩
    show kZ (fX10_oddsOf_L56_B _ _ s v2 v3 v4 (nI n)) _
    unfold fX10_oddsOf_L56_B
    rw [hs.1 0 (by decide), h.2.1]
    exact kZ.ifp (nI_le (Nat.le_refl n) hn.lt) (hK _ s hs hw)
  · rintro F q s hq ⟨hs, hw⟩ next
    show kZ (fX10_oddsOf_L56_B _ _ s v2 v3 v4 (nI q)) _
    unfold fX10_oddsOf_L56_B
    rw [hs.1 0 (by decide), h.2.1]
    refine kZ.ifn (nI_ge hq hn.lt) (kZ.gd (show q < 6 by omega) (by decide) ?_)
    rw [nI_clamp (hn.lp hq), show nI q + 1 = nI (q + 1) from nI_1 q]
    refine next _ ⟨hs.sA (by decide) _, fun j hj => ?_⟩
    rw [gA_e]
    by_cases e : j = q
    · rw [e, upd_e]; rfl
    · rw [upd_n e]; exact hw j (by omega)
theorem m_odds3 {K : Int32 → kS → Option (Int32 × kS)} {v2 v3 : Int32} {j0 : Nat} (h : mR n κ φ st) (ho : uO n o (gA st 3)) (hj0 : j0 < n) (hK : ∀ v s, kSame [] [] [20] [] st s → (∀ j, j < n → gA s 20 j = nI (if j = uI n o j0 then 1 else 0)) → kZ (K v s) Q) : kZ (fX10_oddsOf_L3 K (nI j0) v2 v3 kFU 0 st) Q := by
  have hn := h.1
  have hn6 := hn.2
  have hp := uI_lt hn ho.1 hj0
  refine kfor (σ := kS) (fun F i s => fX10_oddsOf_L3 K (nI j0) v2 v3 F i s) (fun i s => kSame [] [] [20] [] st s ∧ ∀ j, j < i → gA s 20 j = nI (if j = uI n o j0 then 1 else 0)) n ?_ ?_ kFU 0 st (Nat.zero_le _) (kFU_lt0 (by omega)) ⟨kSame.rf, fun j hj => absurd hj (Nat.not_lt_zero j)⟩
  · rintro F s ⟨hs, hw⟩
    show kZ (fX10_oddsOf_L3_B _ _ s (nI j0) v2 v3 (nI n)) _
    unfold fX10_oddsOf_L3_B
    rw [hs.1 0 (by decide), h.2.1]
    exact kZ.ifp (nI_le (Nat.le_refl n) hn.lt) (hK _ s hs hw)
  · rintro F q s hq ⟨hs, hw⟩ next
    show kZ (fX10_oddsOf_L3_B _ _ s (nI j0) v2 v3 (nI q)) _
    unfold fX10_oddsOf_L3_B
    rw [hs.1 0 (by decide), h.2.1]
    refine kZ.ifn (nI_ge hq hn.lt) ?_
    rw [m_placeIn s hn (by rw [hs.2.2.1 3 (by decide)]; exact ho) hj0, show nI q + 1 = nI (q + 1) from nI_1 q]
    simp only [Option.bind_some]
    have fin : ∀ x, x = nI (if q = uI n o j0 then 1 else 0) → kZ (fX10_oddsOf_L3 K (nI j0) v2 v3 F (nI (q + 1)) (sA s 20 (upd (gA s 20) q x))) Q := by
      rintro x rfl
      refine next _ ⟨hs.sA (by decide) _, fun j hj => ?_⟩
      rw [gA_e]
      by_cases e : j = q
      · rw [e, upd_e]
      · rw [upd_n e]; exact hw j (by omega)
    by_cases e : q = uI n o j0
    · refine kZ.ifp (by rw [e]) (kZ.gd (show q < 6 by omega) (by decide) ?_)
      rw [nI_clamp (hn.lp hq)]
      exact fin _ (by rw [if_pos e]; rfl)
    · refine kZ.ifn (fun z => e (nI_inj (hn.lp hq) (hn.lp hp) z)) (kZ.gd (show q < 6 by omega) (by decide) ?_)
      rw [nI_clamp (hn.lp hq)]
      exact fin _ (by rw [if_neg e]; rfl)
theorem m_oddsOf {j0 w t : Nat} (h : mR n κ φ st) (ho : uO n o (gA st 3)) (hc : uCompat n κ o) (hj0 : j0 < n) (hw : w < n) (ht : t ≤ 8) : kZ (fX10_oddsOf st (nI j0) (nI w) (nI t)) (fun z => z.1 = nI (eP n κ (uI n o j0) t w) ∧ kSame [] [] [20, 21] [] st z.2) := by
  have hn := h.1
  have hn6 := hn.2
  unfold fX10_oddsOf
  refine m_odds3 h ho hj0 (fun v s0 hs0 h0 => ?_)
  refine kfor (σ := kS) (fun F i s => fX10_oddsOf_L47 _ (nI w) (nI t) F i s) (fun i s => kSame [] [] [20, 21] [] st s ∧ ∀ j, j < n → gA s 20 j = nI (eP n κ (uI n o j0) i j)) t ?_ ?_ kFU 0 s0 (Nat.zero_le _) (kFU_lt0 (by omega)) ⟨hs0.sub (by decide) (by decide) (by decide) (by decide), h0⟩
  · rintro F s ⟨hs, hj⟩
    show kZ (fX10_oddsOf_L47_B _ _ s (nI w) (nI t) (nI t)) _
    unfold fX10_oddsOf_L47_B
    refine kZ.ifp (nI_le (Nat.le_refl t) (n_lt31 (by omega))) (kZ.ka (show w < 6 by omega) (by decide) (kZ.ret ⟨hj w hw, hs⟩))
  · rintro F i s hi ⟨hs, hj⟩ next
    show kZ (fX10_oddsOf_L47_B _ _ s (nI w) (nI t) (nI i)) _
    unfold fX10_oddsOf_L47_B
    refine kZ.ifn (nI_ge hi (n_lt31 (by omega))) ?_
    refine m_odds56 (h.same hs (by decide)) (fun v s1 hs1 h1 => ?_)
    have k1 : kSame [] [] [20, 21] [] st s1 := hs.trans (hs1.sub (by decide) (by decide) (by decide) (by decide))
    refine m_odds82 (o := o) (f := eP n κ (uI n o j0) i) (h.same k1 (by decide)) (by rw [k1.2.2.1 3 (by decide)]; exact ho) hc (fun j hj' => by rw [hs1.2.2.1 20 (by decide)]; exact hj j hj') h1 (fun v s2 hs2 h2 => ?_)
    have k2 : kSame [] [] [20, 21] [] st s2 := k1.trans (hs2.sub (by decide) (by decide) (by decide) (by decide))
    refine m_odds207 (h.same k2 (by decide)) h2 (fun v s3 hs3 h3 => ?_)
    rw [show nI i + 1 = nI (i + 1) from nI_1 i]
    exact next _ ⟨k2.trans (hs3.sub (by decide) (by decide) (by decide) (by decide)), h3⟩
end OM
theorem sim_odds : kH_odds R := by
  intro k sx sm x y u v _ H
  unfold fX9_odds fX10_odds
  rcases R_has H x with ⟨e1, e2⟩ | ⟨r, n, κ, φ, o, h, j, A, hj, rfl, e1, e2⟩
  · rw [e1, e2]
    exact ⟨_, _, rfl, rfl, rfl, R_mono H (Nat.le_succ k)⟩
  · rw [e1, e2]
    simp only [Option.bind_some]
    have A0 := A
    obtain ⟨a1, a2, a3, a4, a5, a6, hx, hm, hφ, a7, h5, h6, h7, h8, h9, h10, h11, h12⟩ := A
    have hn := hx.1
    rw [if_neg (show ¬ (1 : Int32) = 0 by decide), if_neg (show ¬ (1 : Int32) = 0 by decide)]
    rcases has_cases hx.2.1 hm.2.1 hn.2 y with ⟨w, hw, rfl, f1, f2⟩ | ⟨f1, f2⟩
    · rw [f1, f2]
      simp only [Option.bind_some]
      rw [if_neg (show ¬ (1 : Int32) = 0 by decide), if_neg (show ¬ (1 : Int32) = 0 by decide)]
      rcases rng u 8 (by decide) with ⟨t, ht, rfl, w1, w2, w3, ww⟩ | ⟨w1, ww, _⟩ | ⟨w1, w2, w3, ww, _⟩
      · rw [show fX10_within (nI t) 0 8 = 1 from ww, if_neg (show ¬ (1 : Int32) = 0 by decide), if_neg w1, if_neg (show ¬ 8 < nI t from w3)]
        rcases rng v 1 (by decide) with ⟨b, hb, rfl, v1, v2, v3, vw⟩ | ⟨v1, vw, _⟩ | ⟨v1, v2, v3, vw, _⟩
        · rw [show fX10_within (nI b) 0 1 = 1 from vw, if_neg (show ¬ (1 : Int32) = 0 by decide), if_neg v1, if_pos (show nI b ≤ 1 from v2), hx.place h6 hj]
          simp only [Option.bind_some]
          have hp := uI_lt hn h6.1 hj
          obtain ⟨⟨b1, tx⟩, hz1, g1, kx⟩ := x_oddsRolls (t := t) hx hp hw ht
          obtain ⟨⟨b2, tm⟩, hz2, g2, km⟩ := m_oddsOf (t := t) hm h7 h10 hj hw ht
          dsimp only at g1 kx g2 km
          obtain ⟨hp1, hp2⟩ := pow_ok (t := t) hn ht
          have hle := eP_le (κ := κ) (p := uI n o j) hn t w
          rw [hz1, hz2]
          simp only [Option.bind_some]
          rw [x_rolls (hx.same kx (by decide)).2.1 (by omega), m_whole (hm.same km (by decide)).2.1 (by omega)]
          simp only [Option.bind_some]
          rw [g1, g2, x_lowest (by omega) hp1 hp2, m_lowest (by omega) hp1 hp2]
          exact ⟨_, _, rfl, rfl, rfl, R_fr H (Nat.le_succ k) (kx.sub (by decide) (by decide) (by decide) (by decide)) (km.sub (by decide) (by decide) (by decide) (by decide))⟩
        · rw [show fX10_within v 0 1 = 0 from vw, if_pos (show (0 : Int32) = 0 from rfl), if_pos v1]
          exact ⟨_, _, rfl, rfl, rfl, R_mono H (Nat.le_succ k)⟩
        · rw [show fX10_within v 0 1 = 0 from vw, if_pos (show (0 : Int32) = 0 from rfl), if_neg v1, if_neg (show ¬ v ≤ 1 from v2)]
          exact ⟨_, _, rfl, rfl, rfl, R_mono H (Nat.le_succ k)⟩
      · rw [show fX10_within u 0 8 = 0 from ww, if_pos (show (0 : Int32) = 0 from rfl), if_pos w1]
        exact ⟨_, _, rfl, rfl, rfl, R_mono H (Nat.le_succ k)⟩
      · rw [show fX10_within u 0 8 = 0 from ww, if_pos (show (0 : Int32) = 0 from rfl), if_neg w1, if_pos (show 8 < u from w3)]
        exact ⟨_, _, rfl, rfl, rfl, R_mono H (Nat.le_succ k)⟩
    · rw [f1, f2]
      exact ⟨_, _, rfl, rfl, rfl, R_mono H (Nat.le_succ k)⟩
