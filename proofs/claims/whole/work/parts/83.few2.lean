/-! fewest: the class, the whole search -/
section FW2
variable {n a : Nat} {κ : Nat → Nat} {φ : Nat → Nat → Bool} {st : kS} {Q : kS → Prop}
theorem x_few42 {K : Int32 → Int32 → kS → Option kS} (h : xR n κ φ st) (hK : ∀ v w T s, kSame [] [] [22, 24] [] st s → (∃ q D, bI n κ a T T 0 q D ∧ xB n T q D s) → kZ (K v w s) Q) : ∀ d F T hd s, uF n - hd ≤ d → d + 1 ≤ F → kSame [] [] [22, 24] [] st s → (∃ q D, bI n κ a T hd 0 q D ∧ xB n T q D s) → kZ (fX1_countFew_L42 K F (nI T) (nI hd) s) Q := by
  have hn := h.1
  have hF := uF_le hn
  intro d
  induction d with
  | zero =>
    rintro F T hd s h1 h2 hs ⟨q, D, hB, hX⟩
    obtain ⟨F, rfl⟩ : ∃ F', F = F' + 1 := ⟨F - 1, by omega⟩
    have hr := hB.room
    have h10 : hd ≤ T := hB.2.2.2.2.2.2.2.2.2
    show kZ (fX1_countFew_L42_B _ _ s (nI T) (nI hd)) _
    unfold fX1_countFew_L42_B
    refine kZ.ifp (nI_le (by omega) (n_lt31 (by omega))) (hK _ _ T s hs ⟨q, D, ?_, hX⟩)
    rw [show hd = T by omega] at hB
    exact hB
  | succ d ih =>
    rintro F T hd s h1 h2 hs ⟨q, D, hB, hX⟩
    obtain ⟨F, rfl⟩ : ∃ F', F = F' + 1 := ⟨F - 1, by omega⟩
    have hr := hB.room
    have h10 : hd ≤ T := hB.2.2.2.2.2.2.2.2.2
    show kZ (fX1_countFew_L42_B _ _ s (nI T) (nI hd)) _
    unfold fX1_countFew_L42_B
    rcases Nat.lt_or_ge hd T with r | r
    · refine kZ.ifn (nI_ge r (n_lt31 (by omega))) (kZ.ifn (show ¬ nI 720 ≤ nI hd from nI_ge (by omega) (by decide)) ?_)
      rw [kg_n _ (by omega) (by decide), hX.1 hd r]
      refine x_few67 (h.same hs (by decide)) r ⟨q, D, hB, hX, rfl⟩ (fun v T' s2 hs2 hb2 hh => ?_)
      rw [show nI hd + 1 = nI (hd + 1) from nI_1 hd]
      obtain ⟨q2, D2, hB2, hX2⟩ := hb2
      exact ih F T' (hd + 1) s2 (by omega) (by omega) (hs.trans hs2) ⟨q2, D2, hB2.next hh, hX2⟩
    · refine kZ.ifp (nI_le r (n_lt31 (by omega))) (hK _ _ T s hs ⟨q, D, ?_, hX⟩)
      rw [show hd = T by omega] at hB
      exact hB
theorem x_countFew (h : xR n κ φ st) (ho : uO n a (gA st 21)) : kZ (fX1_countFew st) (fun z => kSame [] [] [22, 24] [] st z ∧ ∀ k, k < uF n → lstIs (fun t => uWk n κ a t k) (gA z 22 k)) := by
  have hn := h.1
  have hF := uF_le hn
  have ha := ho.1
  have hp := uF_pos hn
  unfold fX1_countFew
  rw [x_numberOf (st := sA st 22 (kfill 720 (gA st 22) (-1))) hn h.2.2.2.2.2.1 ho]
  simp only [Option.bind_some]
  rw [kp_n _ _ (show a < 720 by omega) (by decide), show kp 720 (gA st 24) 0 (nI a) = upd (gA st 24) 0 (nI a) from kp_n (j := 0) _ _ (by decide) (by decide)]
  have k0 : kSame [] [] [22, 24] [] st (sA (sA (sA st 22 (kfill 720 (gA st 22) (-1))) 22 (upd (kfill 720 (gA st 22) (-1)) a 0)) 24 (upd (gA st 24) 0 (nI a))) := ((kSame.rf.sA (by decide) _).sA (by decide) _).sA (by decide) _
  refine x_few42 (a := a) h (fun v w T s hs hb => ?_) (uF n) kFU 1 0 _ (by omega) (by show _ ≤ 60000; omega) k0 ⟨fun _ => a, fun _ => 0, bI.start ha rfl rfl, ?_, ?_⟩
  · obtain ⟨q, D, hB, hX⟩ := hb
    obtain ⟨d1, d2⟩ := hB.done hn
    refine kZ.ret ⟨hs, fun k hk => ?_⟩
    rcases hX.2 k hk with ⟨j, hj, ej, e⟩ | ⟨e, hne⟩
    · rw [e, ← ej]; exact d1 j hj
    · rw [e]; exact d2 k hk hne
  · intro j hj
    rw [show j = 0 by omega]
    show gA (sA (sA (sA st 22 _) 22 _) 24 _) 24 0 = nI a
    rw [gA_e, upd_e]
  · intro k hk
    show (∃ j, j < 1 ∧ a = k ∧ gA (sA (sA (sA st 22 _) 22 _) 24 _) 22 k = nI 0) ∨ (gA (sA (sA (sA st 22 _) 22 _) 24 _) 22 k = -1 ∧ ∀ j, j < 1 → a ≠ k)
    rw [gA_n (show 22 ≠ 24 by decide), gA_e]
    by_cases e : k = a
    · exact Or.inl ⟨0, by decide, e.symm, by rw [e, upd_e]; rfl⟩
    · refine Or.inr ⟨?_, fun _ _ z => e z.symm⟩
      rw [upd_n e]
      unfold kfill
      rw [if_pos (by omega)]
end FW2
