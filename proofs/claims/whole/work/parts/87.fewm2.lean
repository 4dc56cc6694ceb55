/-! fewest: the reference's search, outer loop -/
section FM2
variable {n o : Nat} {κ : Nat → Nat} {φ : Nat → Nat → Bool} {st : kS} {Q : Int32 × kS → Prop}
theorem m_few48 {K : Int32 → Int32 → kS → Option (Int32 × kS)} (h : mR n κ φ st) (hK : ∀ v w T s, kSame [] [] [18, 19] [] st s → (∃ q D, bI n κ o T T 0 q D ∧ mB n κ T q D s) → kZ (K v w s) Q) : ∀ d F T hd s, uF n - hd ≤ d → d + 1 ≤ F → kSame [] [] [18, 19] [] st s → (∃ q D, bI n κ o T hd 0 q D ∧ mB n κ T q D s) → kZ (fX10_fewestNow_L48 K F (nI T) (nI hd) s) Q := by
  have hn := h.1
  have hF := uF_le hn
  intro d
  induction d with
  | zero =>
    rintro F T hd s h1 h2 hs ⟨q, D, hB, hX⟩
    obtain ⟨F, rfl⟩ : ∃ F', F = F' + 1 := ⟨F - 1, by omega⟩
    have hr := hB.room
    have h10 : hd ≤ T := hB.2.2.2.2.2.2.2.2.2
    show kZ (fX10_fewestNow_L48_B _ _ s (nI T) (nI hd)) _
    unfold fX10_fewestNow_L48_B
    refine kZ.ifp (nI_le (by omega) (n_lt31 (by omega))) (hK _ _ T s hs ⟨q, D, ?_, hX⟩)
    rw [show hd = T by omega] at hB
    exact hB
  | succ d ih =>
    rintro F T hd s h1 h2 hs ⟨q, D, hB, hX⟩
    obtain ⟨F, rfl⟩ : ∃ F', F = F' + 1 := ⟨F - 1, by omega⟩
    have hr := hB.room
    have h10 : hd ≤ T := hB.2.2.2.2.2.2.2.2.2
    show kZ (fX10_fewestNow_L48_B _ _ s (nI T) (nI hd)) _
    unfold fX10_fewestNow_L48_B
    rcases Nat.lt_or_ge hd T with r | r
    · refine kZ.ifn (nI_ge r (n_lt31 (by omega))) ?_
      refine m_few55 (h.same hs (by decide)) r ⟨q, D, hB, hX⟩ (fun v T' s2 hs2 hb2 hh => ?_)
      rw [show nI hd + 1 = nI (hd + 1) from nI_1 hd]
      obtain ⟨q2, D2, hB2, hX2⟩ := hb2
      exact ih F T' (hd + 1) s2 (by omega) (by omega) (hs.trans hs2) ⟨q2, D2, hB2.next hh, hX2⟩
    · refine kZ.ifp (nI_le r (n_lt31 (by omega))) (hK _ _ T s hs ⟨q, D, ?_, hX⟩)
      rw [show hd = T by omega] at hB
      exact hB
theorem m_few2 {K : Int32 → kS → Option (Int32 × kS)} (h : mR n κ φ st) (hK : ∀ v s, kSame [] [] [18] [] st s → (∀ j, j < uF n → gA s 18 j = 268435456) → kZ (K v s) Q) : kZ (fX10_fewestNow_L2 K kFU 0 st) Q := by
  have hn := h.1
  have hF := uF_le hn
  refine kfor (σ := kS) (fun F i s => fX10_fewestNow_L2 K F i s) (fun i s => kSame [] [] [18] [] st s ∧ ∀ j, j < i → gA s 18 j = 268435456) (uF n) ?_ ?_ kFU 0 st (Nat.zero_le _) (kFU_lt0 (by omega)) ⟨kSame.rf, fun j hj => absurd hj (Nat.not_lt_zero j)⟩
  · rintro F s ⟨hs, ht⟩
    show kZ (fX10_fewestNow_L2_B _ _ s (nI (uF n))) _
    unfold fX10_fewestNow_L2_B
    rw [hs.1 16 (by decide), h.2.2.2.2.1]
    exact kZ.ifp (nI_le (Nat.le_refl _) (n_lt31 (by omega))) (hK _ s hs ht)
  · rintro F i s hi ⟨hs, ht⟩ next
    show kZ (fX10_fewestNow_L2_B _ _ s (nI i)) _
    unfold fX10_fewestNow_L2_B
    rw [hs.1 16 (by decide), h.2.2.2.2.1]
    refine kZ.ifn (nI_ge hi (n_lt31 (by omega))) (kZ.gd (show i < 720 by omega) (by decide) ?_)
    rw [nI_clamp (n_lt31 (by omega)), show nI i + 1 = nI (i + 1) from nI_1 i]
    refine next _ ⟨hs.sA (by decide) _, fun j hj => ?_⟩
    rw [gA_e]
    by_cases e : j = i
    · rw [e, upd_e]
    · rw [upd_n e]; exact ht j (by omega)
end FM2
