/-! surely: the class, all levels -/
section SX2
variable {n a : Nat} {κ : Nat → Nat} {φ : Nat → Nat → Bool} {st : kS} {Q : kS → Prop}
theorem x_sure46 {K : Int32 → Int32 → kS → Option kS} {D0 : Nat → Nat} {t : Nat} (h : xR n κ φ st) (h0 : sO n κ a (fun _ => True) (t + 1) D0) (hX : xSv n D0 st)
    (hK : ∀ m v s, kSame [] [] [23] [] st s → (∃ D, sI_ n κ a (fun _ => True) (t + 1) (uF n) D0 D m ∧ xSv n D s) → kZ (K (b01 m) v s) Q) : kZ (fX1_countSure_L46 K (nI (t + 1)) kFU 0 0 st) Q := by
  have hn := h.1
  have hF := uF_le hn
  have hr := h0.room
  refine kfor (σ := Bool × kS) (fun F i s => fX1_countSure_L46 K (nI (t + 1)) F (b01 s.1) i s.2) (fun i s => kSame [] [] [23] [] st s.2 ∧ ∃ D, sI_ n κ a (fun _ => True) (t + 1) i D0 D s.1 ∧ xSv n D s.2) (uF n) ?_ ?_ kFU 0 (false, st) (Nat.zero_le _) (kFU_lt0 (by omega)) ⟨kSame.rf, D0, sI_.start h0, hX⟩
  · rintro F ⟨m, s⟩ ⟨hs, hD⟩
    dsimp only at hs hD
    show kZ (fX1_countSure_L46_B _ _ s (b01 m) (nI (t + 1)) (nI (uF n))) _
    unfold fX1_countSure_L46_B
    rw [(h.same hs (by decide)).2.2.2.2.2.2.1]
    exact kZ.ifp (nI_le (Nat.le_refl _) (uF.lt hn)) (hK m _ s hs hD)
  · rintro F i ⟨m, s⟩ hi ⟨hs, D, hI, hXs⟩ next
    dsimp only at hs hI hXs
    show kZ (fX1_countSure_L46_B _ _ s (b01 m) (nI (t + 1)) (nI i)) _
    unfold fX1_countSure_L46_B
    have hx := h.same hs (by decide)
    have hDr : ∀ k, k < uF n → D k = 5000 ∨ D k < 1000 := fun k hk => (hI.2.2.1 k hk).imp id (fun q => by omega)
    rw [hx.2.2.2.2.2.2.1]
    refine kZ.ifn (nI_ge hi (uF.lt hn)) ?_
    rw [kg_n _ (by omega) (by decide), hXs i hi, show nI i + 1 = nI (i + 1) from nI_1 i]
    refine kZ.ite (fun e => ?_) (fun e => next (m, s) ⟨hs, D, hI.keep h0 hi (fun q => e ((sX_m1 (hDr i hi)).mpr q)), hXs⟩)
    have e5 := (sX_m1 (hDr i hi)).mp e
    refine (x_force hx hDr hXs (show t + 1 < 1000 by omega) hi).bind (fun z hz => ?_)
    obtain ⟨b, rfl, hb⟩ := hz
    have hno : ¬ uSr n κ a t i := fun q => by
      have := (hI.below h0 (by omega) hi trivial).mpr q
      omega
    have hG : ∀ p, p < n → ((!uBar n κ p && decide (D (uC n i p) < t + 1)) = true ↔ uSr n κ a t (xStep n κ i p)) := fun p hp => by
      unfold xStep
      cases hbar : uBar n κ p with
      | true => exact ⟨fun q => absurd q (by simp), fun q => absurd q hno⟩
      | false =>
        have := hI.below h0 (by omega) (uC_lt hn hi hp) trivial
        rw [if_neg (by decide), ← this]
        simp
    have htest := hb.trans (uSr_test hG hn hno)
    cases b with
    | false => exact kZ.ifp rfl (next (m, s) ⟨hs, D, hI.miss h0 (by omega) hi e5 (fun _ q => absurd (htest.mpr q) (by decide)), hXs⟩)
    | true =>
      refine kZ.ifn (by decide) ?_
      rw [kp_n _ _ (by omega) (by decide)]
      refine next (true, _) ⟨hs.sA (by decide) _, _, hI.hit h0 (by omega) hi e5 (fun _ => htest.mp rfl), fun k hk => ?_⟩
      show gA (sA s 23 _) 23 k = sX (if k = i then t + 1 else D k)
      rw [gA_e]
      by_cases e2 : k = i
      · rw [e2, upd_e, if_pos rfl]
        exact (if_neg (by omega)).symm
      · rw [upd_n e2, if_neg e2]
        exact hXs k hk
theorem sX_lst {k d : Nat} (h : (d < 1000 ∧ uSr n κ a d k ∧ ∀ s, s < d → ¬ uSr n κ a s k) ∨ (d = 5000 ∧ ∀ s, ¬ uSr n κ a s k)) : lstIs (fun t => uSr n κ a t k) (sX d) := by
  rcases h with ⟨h1, h2, h3⟩ | ⟨h1, h2⟩
  · exact Or.inl ⟨d, h1, if_neg (by omega), h2, h3⟩
  · exact Or.inr ⟨if_pos h1, h2⟩
theorem x_sure31 {K : Int32 → Int32 → kS → Option kS} (h : xR n κ φ st) (hK : ∀ v w s, kSame [] [] [23] [] st s → (∀ k, k < uF n → lstIs (fun t => uSr n κ a t k) (gA s 23 k)) → kZ (K v w s) Q) : ∀ d F t D s, uF n ≤ t + d → d + 2 ≤ F → kSame [] [] [23] [] st s → sO n κ a (fun _ => True) (t + 1) D → xSv n D s → kZ (fX1_countSure_L31 K F 1 (nI (t + 1)) s) Q := by
  have hn := h.1
  have hF := uF_le hn
  intro d
  induction d with
  | zero =>
    rintro F t D s h1 h2 hs h0 hX
    have := h0.room
    omega
  | succ d ih =>
    rintro F t D s h1 h2 hs h0 hX
    have hr := h0.room
    obtain ⟨F, rfl⟩ : ∃ F', F = F' + 2 := ⟨F - 2, by omega⟩
    show kZ (fX1_countSure_L31_B _ _ s 1 (nI (t + 1))) _
    unfold fX1_countSure_L31_B
    refine kZ.ifn (by decide) (kZ.ifn (show ¬ nI 720 < nI (t + 1) from nI_nlt (by omega) (by decide)) ?_)
    refine x_sure46 (h.same hs (by decide)) h0 hX (fun m v s2 hs2 hD => ?_)
    obtain ⟨D2, hI, hX2⟩ := hD
    rw [show nI (t + 1) + 1 = nI (t + 1 + 1) from nI_1 _]
    cases m with
    | true => exact ih (F + 1) (t + 1) D2 s2 (by omega) (by omega) (hs.trans hs2) (h0.next hI (by omega)) hX2
    | false =>
      show kZ (fX1_countSure_L31_B _ _ s2 0 _) _
      unfold fX1_countSure_L31_B
      refine kZ.ifp rfl (hK _ _ s2 (hs.trans hs2) (fun k hk => ?_))
      rw [hX2 k hk]
      exact sX_lst (sO.done (fun k p hk hp _ => ⟨xStep_lt hn hk hp, trivial⟩) hn h0 hI (by omega) k hk trivial)
theorem x_countSure (h : xR n κ φ st) (ho : uO n a (gA st 21)) : kZ (fX1_countSure st) (fun z => kSame [] [] [23] [] st z ∧ ∀ k, k < uF n → lstIs (fun t => uSr n κ a t k) (gA z 23 k)) := by
  have hn := h.1
  have hF := uF_le hn
  have ha := ho.1
  unfold fX1_countSure
  rw [x_numberOf (st := sA st 23 (kfill 720 (gA st 23) (-1))) hn h.2.2.2.2.2.1 ho]
  simp only [Option.bind_some]
  rw [kp_n _ _ (show a < 720 by omega) (by decide)]
  have k0 : kSame [] [] [23] [] st (sA (sA st 23 (kfill 720 (gA st 23) (-1))) 23 (upd (kfill 720 (gA st 23) (-1)) a 0)) := (kSame.rf.sA (by decide) _).sA (by decide) _
  refine x_sure31 (a := a) h (fun v w s hs hb => kZ.ret ⟨hs, hb⟩) (uF n) kFU 0 _ _ (by omega) (by show _ ≤ 60000; omega) k0 (sO.first ha) (fun k hk => ?_)
  rw [gA_e]
  by_cases e : k = a
  · rw [e, upd_e, if_pos rfl]; rfl
  · rw [upd_n e, if_neg e]
    unfold kfill
    rw [if_pos (by omega)]; rfl
theorem x_surely {k r o h : Nat} {sx sm : kS} (A : rAll k r n κ φ o h sx sm) (h13 : gI sx 13 = 1) : ∃ v tx a, fX9_surely sx = some (v, tx) ∧ uO n a (gA sm 5) ∧ gI sm 3 = 1 ∧ gI tx 13 = 1 ∧ lstIs (fun t => uSr n κ a t o) v ∧ rAll k r n κ φ o h tx sm := by
  have A0 := A
  obtain ⟨a1, a2, a3, a4, a5, a6, hx, hm, hφ, a7, h5, h6, h7, h8, h9, h10, h11, h12⟩ := A
  have hn := hx.1
  have hF := uF_le hn
  have hko := h6.1
  rcases h11 with ⟨g1, _⟩ | ⟨g1, g2, a, g3, g4, g5, g6⟩
  · rw [g1] at h13
    exact absurd h13 (by decide)
  have num := number_x A0
  rcases g6 with g6 | ⟨g6, g7⟩
  · obtain ⟨z, hz, s1, g23⟩ := x_countSure hx g3
    have kx : kSame [15] [] [23] [] sx (sI z 15 1) := (s1.sub (by decide) (by decide) (by decide) (by decide)).sI (by decide) _
    have km : kSame [] [] [] [] sm sm := kSame.rf
    refine ⟨gA z 23 o, sI z 15 1, a, ?_, g4, g2, (kx.1 13 (by decide)).trans g1, g23 o hko, a1.fr kx km (by decide) (by decide), (kx.1 7 (by decide)).trans a2, a3.fr kx km (by decide) (by decide), a4, (kx.1 1 (by decide)).trans a5, a6, hx.same kx (by decide), hm, hφ, (kx.1 4 (by decide)).trans a7, h5.same kx (by decide), by rw [kx.2.2.1 13 (by decide)]; exact h6, h7, by rw [kx.2.2.1 14 (by decide)]; exact h8, h9, h10, Or.inr ⟨(kx.1 13 (by decide)).trans g1, g2, a, by rw [kx.2.2.1 21 (by decide)]; exact g3, g4, ?_, Or.inr ⟨gI_e _ _ _, fun i hi => g23 i hi⟩⟩, h12.fr kx km (by decide) (by decide)⟩
    · unfold fX9_surely
      rw [if_neg (show ¬ gI sx 13 = 0 by rw [g1]; decide), num]
      simp only [Option.bind_some]
      unfold fX1_surelyFrom fX1_surelyFrom_J16
      rw [if_pos g6, hz]
      simp only [Option.bind_some]
      rw [kg_n _ (by omega) (by decide)]
      rfl
    · rw [kx.1 14 (by decide), kx.2.2.1 22 (by decide)]
      exact g5
  · refine ⟨gA sx 23 o, sx, a, ?_, g4, g2, g1, g7 o hko, A0⟩
    unfold fX9_surely
    rw [if_neg (show ¬ gI sx 13 = 0 by rw [g1]; decide), num]
    simp only [Option.bind_some]
    unfold fX1_surelyFrom fX1_surelyFrom_J16
    rw [if_neg (show ¬ gI sx 15 = 0 by rw [g6]; decide), kg_n _ (by omega) (by decide)]
    rfl
end SX2
