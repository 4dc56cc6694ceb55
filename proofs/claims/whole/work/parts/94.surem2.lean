/-! surely: the reference, all levels; both -/
section SM2
variable {n a : Nat} {κ : Nat → Nat} {φ : Nat → Nat → Bool} {st : kS} {Q : Int32 × kS → Prop}
theorem m_sure57 {K : Int32 → Int32 → kS → Option (Int32 × kS)} {D0 : Nat → Nat} {t : Nat} (h : mR n κ φ st) (h0 : sO n κ a (uCompat n κ) (t + 1) D0) (hX : mSv n D0 st)
    (hK : ∀ m v s, kSame [] [] [18] [] st s → (∃ D, sI_ n κ a (uCompat n κ) (t + 1) (uF n) D0 D m ∧ mSv n D s) → kZ (K (b01 m) v s) Q) : kZ (fX10_surelyNow_L57 K (nI (t + 1)) kFU 0 0 st) Q := by
  have hn := h.1
  have hF := uF_le hn
  have hr := h0.room
  refine kfor (σ := Bool × kS) (fun F i s => fX10_surelyNow_L57 K (nI (t + 1)) F (b01 s.1) i s.2) (fun i s => kSame [] [] [18] [] st s.2 ∧ ∃ D, sI_ n κ a (uCompat n κ) (t + 1) i D0 D s.1 ∧ mSv n D s.2) (uF n) ?_ ?_ kFU 0 (false, st) (Nat.zero_le _) (kFU_lt0 (by omega)) ⟨kSame.rf, D0, sI_.start h0, hX⟩
  · rintro F ⟨m, s⟩ ⟨hs, hD⟩
    dsimp only at hs hD
    show kZ (fX10_surelyNow_L57_B _ _ s (b01 m) (nI (t + 1)) (nI (uF n))) _
    unfold fX10_surelyNow_L57_B
    rw [(h.same hs (by decide)).2.2.2.2.1]
    exact kZ.ifp (nI_le (Nat.le_refl _) (uF.lt hn)) (hK m _ s hs hD)
  · rintro F i ⟨m, s⟩ hi ⟨hs, D, hI, hXs⟩ next
    dsimp only at hs hI hXs
    show kZ (fX10_surelyNow_L57_B _ _ s (b01 m) (nI (t + 1)) (nI i)) _
    unfold fX10_surelyNow_L57_B
    have hx := h.same hs (by decide)
    have hDr : ∀ k, k < uF n → D k = 5000 ∨ D k < 1000 := fun k hk => (hI.2.2.1 k hk).imp id (fun q => by omega)
    rw [hx.2.2.2.2.1]
    refine kZ.ifn (nI_ge hi (uF.lt hn)) (kZ.ka (by omega) (by decide) ?_)
    rw [hXs i hi, show nI i + 1 = nI (i + 1) from nI_1 i]
    refine kZ.ite (fun e => ?_) (fun e => next (m, s) ⟨hs, D, hI.keep h0 hi (fun q => e ((mX_far (hDr i hi)).mpr q)), hXs⟩)
    have e5 := (mX_far (hDr i hi)).mp e
    refine (m_isSure hx hDr hXs (show t + 1 < 1000 by omega) hi).bind (fun z hz => ?_)
    obtain ⟨b, rfl, hb⟩ := hz
    have htest : uCompat n κ i → (b = true ↔ uSr n κ a (t + 1) i) := fun hc => by
      have hno : ¬ uSr n κ a t i := fun q => by
        have := (hI.below h0 (by omega) hi hc).mpr q
        omega
      have hG : ∀ p, p < n → (D (mStep n κ i p) < t + 1 ↔ uSr n κ a t (xStep n κ i p)) := fun p hp => by
        rw [mStep_eq hn hi hc hp]
        exact hI.below h0 (by omega) (xStep_lt hn hi hp) (xStep_compat hn hi hc hp)
      exact hb.trans (uSr_test (G := fun p => D (mStep n κ i p) < t + 1) hG hn hno)
    cases b with
    | false => exact kZ.ifp rfl (next (m, s) ⟨hs, D, hI.miss h0 (by omega) hi e5 (fun hc q => absurd ((htest hc).mpr q) (by decide)), hXs⟩)
    | true =>
      refine kZ.ifn (by decide) (kZ.gd (by omega) (by decide) ?_)
      rw [nI_clamp (n_lt31 (by omega))]
      refine next (true, _) ⟨hs.sA (by decide) _, _, hI.hit h0 (by omega) hi e5 (fun hc => (htest hc).mp rfl), fun k hk => ?_⟩
      show gA (sA s 18 _) 18 k = mX (if k = i then t + 1 else D k)
      rw [gA_e]
      by_cases e2 : k = i
      · rw [e2, upd_e, if_pos rfl]
        exact (if_neg (by omega)).symm
      · rw [upd_n e2, if_neg e2]
        exact hXs k hk
theorem m_sure49 {K : Int32 → Int32 → kS → Option (Int32 × kS)} (h : mR n κ φ st) (hK : ∀ v w s, kSame [] [] [18] [] st s → (∃ D, mSv n D s ∧ ∀ k, k < uF n → uCompat n κ k → (D k < 1000 ∧ uSr n κ a (D k) k ∧ ∀ s, s < D k → ¬ uSr n κ a s k) ∨ (D k = 5000 ∧ ∀ s, ¬ uSr n κ a s k)) → kZ (K v w s) Q) : ∀ d F t D s, uF n ≤ t + d → d + 2 ≤ F → kSame [] [] [18] [] st s → sO n κ a (uCompat n κ) (t + 1) D → mSv n D s → kZ (fX10_surelyNow_L49 K F 1 (nI (t + 1)) s) Q := by
  have hn := h.1
  have hF := uF_le hn
  intro d
  induction d with
  | zero =>
    rintro F t D s h1 h2 hs h0 hX
    have := h0.room
    omega
  | succ d ih =>
    rintro F t D s h1 h2 hs h0 hX
    have hr := h0.room
    obtain ⟨F, rfl⟩ : ∃ F', F = F' + 2 := ⟨F - 2, by omega⟩
    show kZ (fX10_surelyNow_L49_B _ _ s 1 (nI (t + 1))) _
    unfold fX10_surelyNow_L49_B
    refine kZ.ifn (by decide) ?_
    refine m_sure57 (h.same hs (by decide)) h0 hX (fun m v s2 hs2 hD => ?_)
    obtain ⟨D2, hI, hX2⟩ := hD
    rw [show nI (t + 1) + 1 = nI (t + 1 + 1) from nI_1 _]
    cases m with
    | true => exact ih (F + 1) (t + 1) D2 s2 (by omega) (by omega) (hs.trans hs2) (h0.next hI (by omega)) hX2
    | false =>
      show kZ (fX10_surelyNow_L49_B _ _ s2 0 _) _
      unfold fX10_surelyNow_L49_B
      exact kZ.ifp rfl (hK _ _ s2 (hs.trans hs2) ⟨D2, hX2, sO.done (fun k p hk hp hc => ⟨xStep_lt hn hk hp, xStep_compat hn hk hc hp⟩) hn h0 hI (by omega)⟩)
theorem m_surelyNow {o : Nat} (h : mR n κ φ st) (ho : uO n o (gA st 3)) (hc : uCompat n κ o) (ha : uO n a (gA st 5)) : kZ (fX10_surelyNow st) (fun z => lstIs (fun t => uSr n κ a t o) z.1 ∧ kSame [] [] [18] [] st z.2) := by
  have hn := h.1
  have hF := uF_le hn
  have hko := ho.1
  have hka := ha.1
  unfold fX10_surelyNow
  refine m_sure2 h ha (fun v s hs hi => ?_)
  refine m_sure49 (a := a) h (fun v w s2 hs2 hD => ?_) (uF n) kFU 0 _ s (by omega) (by show _ ≤ 60000; omega) hs (sO.first hka) hi
  obtain ⟨D, hX, hd⟩ := hD
  have hm2 := h.same hs2 (by decide)
  rw [hm2.index (k := o) (by rw [hs2.2.2.1 3 (by decide)]; exact ho)]
  simp only [Option.bind_some]
  refine kZ.ka (show o < 720 by omega) (by decide) ?_
  rw [hX o hko]
  rcases hd o hko hc with ⟨q1, q2, q3⟩ | ⟨q1, q2⟩
  · have e : mX (D o) = nI (D o) := if_neg (by omega)
    rw [e]
    exact kZ.ifn (nI_inf q1) (kZ.ret ⟨Or.inl ⟨D o, q1, rfl, q2, q3⟩, hs2⟩)
  · have e : mX (D o) = 268435456 := if_pos q1
    rw [e]
    exact kZ.ifp rfl (kZ.ret ⟨Or.inr ⟨rfl, q2⟩, hs2⟩)
end SM2
