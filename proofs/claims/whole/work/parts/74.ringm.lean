/-! ring: the reference, and both -/
theorem x_begin {st : kS} : kZ (fX3_begin_3 st) (fun z => kSame [7] [] [13, 14] [] st z ∧ (∀ j, j < 6 → gA z 13 j = nI j ∧ gA z 14 j = nI j) ∧ gI z 7 = 0) := by
  unfold fX3_begin_3
  refine kfor (σ := kS) (fun F i s => fX3_begin_3_L2 _ F i s) (fun i s => kSame [] [] [13, 14] [] st s ∧ ∀ j, j < i → gA s 13 j = nI j ∧ gA s 14 j = nI j) 6 ?_ ?_ kFU 0 st (Nat.zero_le _) (kFU_lt0 (by decide)) ⟨kSame.rf, fun j hj => absurd hj (Nat.not_lt_zero j)⟩
  · rintro F s ⟨hs, ht⟩
    show kZ (fX3_begin_3_L2_B _ _ s (nI 6)) _
    unfold fX3_begin_3_L2_B
    exact kZ.ifp (by decide) (kZ.ret ⟨(hs.sub (by decide) (by decide) (by decide) (by decide)).sI (by decide) _, ht, gI_e _ _ _⟩)
  · rintro F i s hi ⟨hs, ht⟩ next
    show kZ (fX3_begin_3_L2_B _ _ s (nI i)) _
    unfold fX3_begin_3_L2_B
    rw [l6]
    refine kZ.ifn (nI_ge hi (by decide)) ?_
    rw [kp_n _ _ hi (by decide), kp_n _ _ hi (by decide), show nI i + 1 = nI (i + 1) from nI_1 i]
    refine next _ ⟨(hs.sA (by decide) _).sA (by decide) _, fun j hj => ?_⟩
    rw [gA_n (show 13 ≠ 14 by decide), gA_e, gA_e]
    by_cases e : j = i
    · rw [e, upd_e, upd_e]; exact ⟨rfl, rfl⟩
    · rw [upd_n e, upd_n e]
      exact ht j (by omega)
section MR
variable {n m f : Nat} {c : Nat → Nat} {st : kS} {Q : Int32 × kS → Prop} {K : Int32 → kS → Option (Int32 × kS)}
theorem m_ringZero (hK : ∀ v s, kSame [] [] [2] [] st s → (∀ j, j < 36 → gA s 2 j = 0) → kZ (K v s) Q) : kZ (fX10_ring_L24 K kFU 0 st) Q := by
  refine kfor (σ := kS) (fun F i s => fX10_ring_L24 K F i s) (fun i s => kSame [] [] [2] [] st s ∧ ∀ j, j < i → gA s 2 j = 0) 36 ?_ ?_ kFU 0 st (Nat.zero_le _) (kFU_lt0 (by decide)) ⟨kSame.rf, fun j hj => absurd hj (Nat.not_lt_zero j)⟩
  · rintro F s ⟨hs, ht⟩
    show kZ (fX10_ring_L24_B _ _ s (nI 36)) _
    unfold fX10_ring_L24_B
    exact kZ.ifp (by decide) (hK _ s hs ht)
  · rintro F i s hi ⟨hs, ht⟩ next
    show kZ (fX10_ring_L24_B _ _ s (nI i)) _
    unfold fX10_ring_L24_B
    refine kZ.ifn (show ¬ nI 36 ≤ nI i from nI_ge hi (by decide)) (kZ.gd hi (by decide) ?_)
    rw [nI_clamp (n_lt31 (by omega)), show nI i + 1 = nI (i + 1) from nI_1 i]
    refine next _ ⟨hs.sA (by decide) _, fun j hj => ?_⟩
    rw [gA_e]
    by_cases e : j = i
    · rw [e, upd_e]; rfl
    · rw [upd_n e]; exact ht j (by omega)
theorem m_ringPairs (hw : wR c m n f) (h11 : gI st 11 = nI f) (hab : ∀ j, j < f → gA st 10 j = nI (pA c n j) ∧ gA st 11 j = nI (pB c n j)) (h0 : ∀ j, j < 36 → gA st 2 j = 0) (hK : ∀ v s, kSame [] [] [2] [] st s → (∀ i j, i < n → j < n → gA s 2 (6 * i + j) = b01 (uFe (pA c n) (pB c n) f i j)) → kZ (K v s) Q) : kZ (fX10_ring_L45 K kFU 0 st) Q := by
  obtain ⟨hn, hm, hmf, hk, hp⟩ := hw
  have hn6 := hn.2
  refine kfor (σ := kS) (fun F i s => fX10_ring_L45 K F i s) (fun t s => kSame [] [] [2] [] st s ∧ ∀ i j, i < n → j < n → gA s 2 (6 * i + j) = b01 (uFe (pA c n) (pB c n) t i j)) f ?_ ?_ kFU 0 st (Nat.zero_le _) (kFU_lt0 (by omega)) ⟨kSame.rf, fun i j hi hj => h0 _ (by omega)⟩
  · rintro F s ⟨hs, ht⟩
    show kZ (fX10_ring_L45_B _ _ s (nI f)) _
    unfold fX10_ring_L45_B
    rw [hs.1 11 (by decide), h11]
    exact kZ.ifp (nI_le (Nat.le_refl f) (n_lt31 (by omega))) (hK _ s hs ht)
  · rintro F t s htf ⟨hs, ht⟩ next
    show kZ (fX10_ring_L45_B _ _ s (nI t)) _
    unfold fX10_ring_L45_B
    rw [hs.1 11 (by decide), h11]
    refine kZ.ifn (nI_ge htf (n_lt31 (by omega))) ?_
    have hq := hp t htf
    have ea : pA c n t < n := by unfold pA; omega
    have eb : pB c n t < n := by unfold pB; omega
    have t6 : t < 6 := by omega
    rw [hs.2.2.1 10 (by decide), hs.2.2.1 11 (by decide)]
    refine kZ.ka t6 (by decide) (kZ.ka t6 (by decide) ?_)
    rw [(hab t htf).1, (hab t htf).2, i6']
    refine kZ.gd (by omega) (by decide) (kZ.ka t6 (by decide) (kZ.ka t6 (by decide) ?_))
    rw [(hab t htf).1, (hab t htf).2, i6']
    refine kZ.gd (by omega) (by decide) ?_
    rw [nI_clamp (n_lt31 (by omega)), nI_clamp (n_lt31 (by omega)), show nI t + 1 = nI (t + 1) from nI_1 t]
    refine next _ ⟨(hs.sA (by decide) _).sA (by decide) _, fun i j hi hj => ?_⟩
    rw [gA_e]
    show _ = b01 (uFe (pA c n) (pB c n) t i j || (i == pA c n t && j == pB c n t) || (i == pB c n t && j == pA c n t))
    by_cases e1 : i = pB c n t ∧ j = pA c n t
    · rw [e1.1, e1.2, upd_e, beq_self_eq_true, beq_self_eq_true, Bool.and_self, Bool.or_true]; rfl
    · rw [upd_n (by omega)]
      have x1 : (i == pB c n t && j == pA c n t) = false := by
        cases hq : (i == pB c n t && j == pA c n t) with
        | false => rfl
        | true =>
          rw [Bool.and_eq_true, beq_iff_eq, beq_iff_eq] at hq
          exact absurd hq e1
      rw [x1, Bool.or_false]
      by_cases e2 : i = pA c n t ∧ j = pB c n t
      · rw [e2.1, e2.2, upd_e, beq_self_eq_true, beq_self_eq_true, Bool.and_self, Bool.or_true]; rfl
      · rw [upd_n (by omega)]
        have x2 : (i == pA c n t && j == pB c n t) = false := by
          cases hq : (i == pA c n t && j == pB c n t) with
          | false => rfl
          | true =>
            rw [Bool.and_eq_true, beq_iff_eq, beq_iff_eq] at hq
            exact absurd hq e2
        rw [x2, Bool.or_false]
        exact ht i j hi hj
theorem m_ringKinds (hK : ∀ v s, kSame [] [] [1, 3, 4] [] st s → (∀ j, j < 6 → gA s 1 j = gA st 9 j ∧ gA s 3 j = nI j ∧ gA s 4 j = nI j) → kZ (K v s) Q) : kZ (fX10_ring_L105 K kFU 0 st) Q := by
  refine kfor (σ := kS) (fun F i s => fX10_ring_L105 K F i s) (fun i s => kSame [] [] [1, 3, 4] [] st s ∧ ∀ j, j < i → gA s 1 j = gA st 9 j ∧ gA s 3 j = nI j ∧ gA s 4 j = nI j) 6 ?_ ?_ kFU 0 st (Nat.zero_le _) (kFU_lt0 (by decide)) ⟨kSame.rf, fun j hj => absurd hj (Nat.not_lt_zero j)⟩
  · rintro F s ⟨hs, ht⟩
    show kZ (fX10_ring_L105_B _ _ s (nI 6)) _
    unfold fX10_ring_L105_B
    exact kZ.ifp (by decide) (hK _ s hs ht)
  · rintro F i s hi ⟨hs, ht⟩ next
    show kZ (fX10_ring_L105_B _ _ s (nI i)) _
    unfold fX10_ring_L105_B
    rw [l6]
    refine kZ.ifn (nI_ge hi (by decide)) (kZ.ka hi (by decide) (kZ.gd hi (by decide) (kZ.gd hi (by decide) (kZ.gd hi (by decide) ?_))))
    rw [nI_clamp (n_lt31 (by omega)), show nI i + 1 = nI (i + 1) from nI_1 i, hs.2.2.1 9 (by decide)]
    refine next _ ⟨((hs.sA (by decide) _).sA (by decide) _).sA (by decide) _, fun j hj => ?_⟩
    rw [gA_n (show 1 ≠ 4 by decide), gA_n (show 1 ≠ 3 by decide), gA_e, gA_n (show 3 ≠ 4 by decide), gA_e, gA_e]
    by_cases e : j = i
    · rw [e, upd_e, upd_e, upd_e]; exact ⟨rfl, rfl, rfl⟩
    · rw [upd_n e, upd_n e, upd_n e]
      exact ht j (by omega)
end MR
/-- what the reference's ring leaves -/
theorem m_ring {n m : Nat} {c : Nat → Nat} {sm : kS} (p2 : pgM m c sm) (hH : Fst (tH c) m n) (hP : Fst (tO c n) m m) (hW : tW m n m = true) : kZ (fX10_ring sm) (fun z => z.1 = nI n ∧ kSame [0, 1, 2, 3, 4, 8, 9, 10, 11, 16] [] [1, 2, 3, 4, 9, 10, 11, 12, 13, 14, 15] [] sm z.2 ∧ mR n (fun i => tK (c i)) (uFe (pA c n) (pB c n) ((m - n) / 3)) z.2 ∧ gI z.2 1 = gI sm 1 + 1 ∧ gI z.2 2 = 0 ∧ gI z.2 3 = 0 ∧ gI z.2 4 = 0 ∧ ∀ j, j < 6 → gA z.2 3 j = nI j ∧ gA z.2 4 j = nI j) := by
  have hw := wR_of p2.1 hH hP hW
  have hn := hw.1
  have hn6 := hn.2
  unfold fX10_ring
  refine (m_readRing p2 hH).bind (fun z1 hz1 => ?_)
  obtain ⟨P, hP', e8, e9, s1, hrw⟩ := hz1
  obtain ⟨w10, w11, w9, wab⟩ := hrw (hP'.uniq hP)
  rw [e9, hP'.uniq hP, hW]
  refine kZ.ifn (by decide) ?_
  rw [w10]
  have k1 : kSame [0, 8, 9, 10, 11] [] [9, 10, 11] [] sm (sI z1 0 (nI n)) := (s1.sub (by decide) (by decide) (by decide) (by decide)).sI (by decide) _
  refine m_ringZero (fun v s hs hz => ?_)
  refine m_ringPairs (f := (m - n) / 3) hw ?_ (fun j hj => ?_) hz (fun v2 s2 hs2 hf => ?_)
  · rw [hs.1 11 (by decide), gI_n (by decide)]; exact w11
  · rw [hs.2.2.1 10 (by decide), hs.2.2.1 11 (by decide)]; exact wab j hj
  refine m_ringKinds (fun v3 s3 hs3 h3 => ?_)
  have k3 : kSame [0, 8, 9, 10, 11] [] [1, 2, 3, 4, 9, 10, 11] [] sm s3 := (((k1.sub (by decide) (by decide) (by decide) (by decide)).trans (hs.sub (by decide) (by decide) (by decide) (by decide))).trans (hs2.sub (by decide) (by decide) (by decide) (by decide))).trans (hs3.sub (by decide) (by decide) (by decide) (by decide))
  have e0 : gI s3 0 = nI n := by rw [hs3.1 0 (by decide), hs2.1 0 (by decide), hs.1 0 (by decide), gI_e]
  have k4 : kSame [1, 2, 3, 4] [] [] [] s3 (sI (sI (sI (sI s3 2 0) 3 0) 1 ((gI s3 1) + 1)) 4 0) := (((kSame.rf.sI (by decide) _).sI (by decide) _).sI (by decide) _).sI (by decide) _
  refine (m_layOrders (n := n) (κ := fun i => tK (c i)) (φ := uFe (pA c n) (pB c n) ((m - n) / 3)) ⟨hn, (k4.1 0 (by decide)).trans e0, fun i hi => ⟨hw.2.2.2.1 i hi, ?_⟩⟩ (fun i j hi hj => ?_)).bind (fun z hz => ?_)
  · rw [k4.2.2.1 1 (by decide), (h3 i (by omega)).1, hs2.2.2.1 9 (by decide), hs.2.2.1 9 (by decide)]
    exact w9 i hi
  · rw [k4.2.2.1 2 (by decide), hs3.2.2.1 2 (by decide)]
    exact hf i j hi hj
  · have e1 : gI s3 1 = gI sm 1 := k3.1 1 (by decide)
    refine kZ.ret ⟨hz.2.2.1, ?_, hz.2, ?_, ?_, ?_, ?_, fun j hj => ?_⟩
    · exact ((k3.sub (by decide) (by decide) (by decide) (by decide)).trans (k4.sub (by decide) (by decide) (by decide) (by decide))).trans (hz.1.sub (by decide) (by decide) (by decide) (by decide))
    · show gI z 1 = _
      rw [hz.1.1 1 (by decide), gI_n (by decide), gI_e, e1]
    · show gI z 2 = _
      rw [hz.1.1 2 (by decide), gI_n (by decide), gI_n (by decide), gI_n (by decide), gI_e]
    · show gI z 3 = _
      rw [hz.1.1 3 (by decide), gI_n (by decide), gI_n (by decide), gI_e]
    · show gI z 4 = _
      rw [hz.1.1 4 (by decide), gI_e]
    · show gA z 3 j = _ ∧ gA z 4 j = _
      rw [hz.1.2.2.1 3 (by decide), hz.1.2.2.1 4 (by decide), k4.2.2.1 3 (by decide), k4.2.2.1 4 (by decide)]
      exact (h3 j hj).2
theorem m_ringNot {n m P : Nat} {c : Nat → Nat} {sm : kS} (p2 : pgM m c sm) (hH : Fst (tH c) m n) (hP : Fst (tO c n) m P) (hW : tW m n P = false) : kZ (fX10_ring sm) (fun z => z.1 = -103 ∧ kSame [8, 9, 10, 11] [] [9, 10, 11] [] sm z.2) := by
  unfold fX10_ring
  refine (m_readRing p2 hH).bind (fun z1 hz1 => ?_)
  obtain ⟨P', hP', e8, e9, s1, hrw⟩ := hz1
  rw [e9, hP'.uniq hP, hW]
  exact kZ.ifp rfl (kZ.ret ⟨rfl, s1⟩)
theorem uO_0 {n : Nat} {f : Nat → Int32} (hn : uHn n) (h : ∀ j, j < 6 → f j = nI j) : uO n 0 f := ⟨uF_pos hn, fun j hj => by rw [uD_0 hn j hj]; exact h j (by have := hn.2; omega)⟩
/-- what the class's ring leaves -/
theorem x_ring {n m : Nat} {c : Nat → Nat} {sx : kS} (p1 : pgX m c sx) (hH : Fst (tH c) m n) (hP : Fst (tO c n) m m) (hW : tW m n m = true) (hT0 : gI sx 10 = nI n → xTab n sx) : kZ (fX9_ring sx) (fun z => z.1 = nI n ∧ kSame [0, 1, 2, 3, 4, 5, 7, 10, 11, 12, 13] [] [11, 12, 13, 14, 17, 18] [] sx z.2 ∧ xR n (fun i => tK (c i)) (uFe (pA c n) (pB c n) ((m - n) / 3)) z.2 ∧ gI z.2 1 = gI sx 1 + 1 ∧ gI z.2 2 = 0 ∧ gI z.2 7 = 0 ∧ gI z.2 0 = 0 ∧ gI z.2 13 = 0 ∧ gI z.2 12 = 0 ∧ gI z.2 4 = nI (uPn n (uFe (pA c n) (pB c n) ((m - n) / 3))) ∧ ∀ j, j < 6 → gA z.2 13 j = nI j ∧ gA z.2 14 j = nI j) := by
  have hw := wR_of p1.1 hH hP hW
  have hn := hw.1
  unfold fX9_ring
  refine (x_isRing p1).bind (fun z hz => ?_)
  obtain ⟨n', P, hH', hP', rfl⟩ := hz
  have en := hH'.uniq hH
  rw [en] at hP' ⊢
  rw [hP'.uniq hP, hW]
  refine kZ.ifn (by decide) ((x_read hw p1 hH).bind (fun z3 hz3 => ?_))
  obtain ⟨s3, e3, k3, f3, b3⟩ := hz3
  have kc : kSame [2] [] [] [] z3 (sI z3 2 0) := kSame.rf.sI (by decide) _
  refine (show kZ (fX3_begin_3 (fX5_clear z3).2) _ from x_begin (st := sI z3 2 0)).bind (fun z4 hz4 => ?_)
  obtain ⟨s4, o4, n4⟩ := hz4
  have k4 : kSame [2, 3, 4, 5, 7] [] [11, 12, 13, 14] [] sx z4 := ((s3.sub (by decide) (by decide) (by decide) (by decide)).trans (kc.sub (by decide) (by decide) (by decide) (by decide))).trans (s4.sub (by decide) (by decide) (by decide) (by decide))
  have g3 : gI z4 3 = nI n := by rw [s4.1 3 (by decide), gI_n (by decide)]; exact e3
  rw [g3]
  refine (x_prepare hn (fun e => ?_)).bind (fun z5 hz5 => ?_)
  · unfold xTab
    rw [k4.1 11 (by decide), k4.2.2.1 17 (by decide)]
    rw [k4.1 10 (by decide)] at e
    exact hT0 e
  obtain ⟨s5, e10, hTab⟩ := hz5
  have k5 : kSame [2, 3, 4, 5, 7, 10, 11] [] [11, 12, 13, 14, 17, 18] [] sx z5 := (k4.sub (by decide) (by decide) (by decide) (by decide)).trans (s5.sub (by decide) (by decide) (by decide) (by decide))
  have kt : kSame [12, 13] [] [] [] z5 (fX1_forget (fX2_forget z5)) := by
    unfold fX1_forget fX2_forget
    exact (kSame.rf.sI (by decide) _).sI (by decide) _
  have t12 : gI (fX1_forget (fX2_forget z5)) 12 = 0 := by
    unfold fX1_forget fX2_forget
    rw [gI_n (by decide), gI_e]
  have t13 : gI (fX1_forget (fX2_forget z5)) 13 = 0 := by
    unfold fX1_forget
    rw [gI_e]
  generalize fX1_forget (fX2_forget z5) = z6 at kt t12 t13
  have ku : kSame [0, 1] [] [] [] z6 (sI (sI z6 0 0) 1 ((gI z6 1) + 1)) := (kSame.rf.sI (by decide) _).sI (by decide) _
  have u0 : gI (sI (sI z6 0 0) 1 ((gI z6 1) + 1)) 0 = 0 := by rw [gI_n (by decide), gI_e]
  have u1 : gI (sI (sI z6 0 0) 1 ((gI z6 1) + 1)) 1 = gI z6 1 + 1 := gI_e _ _ _
  generalize sI (sI z6 0 0) 1 ((gI z6 1) + 1) = z7 at ku u0 u1 ⊢
  refine kZ.ret ⟨?_, ?_, ⟨hn, ?_, fun i hi => ⟨hw.2.2.2.1 i hi, ?_⟩, fun i j hi hj => ?_, fun p hp => ?_, ?_, ?_, fun i p hi hp => ?_⟩, ?_, ?_, ?_, u0, ?_, ?_, ?_, fun j hj => ?_⟩
  · show gI z6 3 = nI n
    rw [kt.1 3 (by decide), s5.1 3 (by decide), g3]
  · exact ((k5.sub (by decide) (by decide) (by decide) (by decide)).trans (kt.sub (by decide) (by decide) (by decide) (by decide))).trans (ku.sub (by decide) (by decide) (by decide) (by decide))
  · show gI z7 3 = nI n
    rw [ku.1 3 (by decide), kt.1 3 (by decide), s5.1 3 (by decide), g3]
  · show gA z7 11 i = _
    rw [ku.2.2.1 11 (by decide), kt.2.2.1 11 (by decide), s5.2.2.1 11 (by decide), s4.2.2.1 11 (by decide), kc.2.2.1 11 (by decide)]
    exact k3 i hi
  · show gA z7 12 _ = _
    rw [ku.2.2.1 12 (by decide), kt.2.2.1 12 (by decide), s5.2.2.1 12 (by decide), s4.2.2.1 12 (by decide), kc.2.2.1 12 (by decide)]
    exact f3.2 i j hi hj
  · show (kushr (gI z7 5) (nI p)) &&& 1 = _
    rw [ku.1 5 (by decide), kt.1 5 (by decide), s5.1 5 (by decide), s4.1 5 (by decide), kc.1 5 (by decide)]
    exact b3 p hp
  · show gI z7 10 = _
    rw [ku.1 10 (by decide), kt.1 10 (by decide)]; exact e10
  · show gI z7 11 = _
    rw [ku.1 11 (by decide), kt.1 11 (by decide)]; exact hTab.1
  · show gA z7 17 _ = _
    rw [ku.2.2.1 17 (by decide), kt.2.2.1 17 (by decide)]
    exact hTab.2 i p hi hp
  · show gI z7 1 = _
    rw [u1, kt.1 1 (by decide), k5.1 1 (by decide)]
  · show gI z7 2 = 0
    rw [ku.1 2 (by decide), kt.1 2 (by decide), s5.1 2 (by decide), s4.1 2 (by decide), gI_e]
  · show gI z7 7 = 0
    rw [ku.1 7 (by decide), kt.1 7 (by decide), s5.1 7 (by decide), n4]
  · show gI z7 13 = 0
    rw [ku.1 13 (by decide), t13]
  · show gI z7 12 = 0
    rw [ku.1 12 (by decide), t12]
  · show gI z7 4 = _
    rw [ku.1 4 (by decide), kt.1 4 (by decide), s5.1 4 (by decide), s4.1 4 (by decide), kc.1 4 (by decide)]
    exact f3.1
  · show gA z7 13 j = _ ∧ gA z7 14 j = _
    rw [ku.2.2.1 13 (by decide), ku.2.2.1 14 (by decide), kt.2.2.1 13 (by decide), kt.2.2.1 14 (by decide), s5.2.2.1 13 (by decide), s5.2.2.1 14 (by decide)]
    exact o4 j hj
theorem x_ringNot {n m P : Nat} {c : Nat → Nat} {sx : kS} (p1 : pgX m c sx) (hH : Fst (tH c) m n) (hP : Fst (tO c n) m P) (hW : tW m n P = false) : fX9_ring sx = some (-103, sx) := by
  unfold fX9_ring
  obtain ⟨z, hz, n', P', hH', hP', rfl⟩ := x_isRing p1
  have en := hH'.uniq hH
  rw [en] at hP' hz
  rw [hP'.uniq hP, hW] at hz
  rw [hz]
  rfl
theorem sim_ring : kH_ring R := by
  intro k sx sm _ H
  obtain ⟨m, c, p1, p2⟩ := H.1
  obtain ⟨z, hz, n, P, hH, hP, rfl⟩ := x_isRing p1
  cases hW : tW m n P with
  | false =>
    obtain ⟨zm, hzm, e1, s1⟩ := m_ringNot p2 hH hP hW
    exact ⟨_, zm, x_ringNot p1 hH hP hW, hzm, e1.symm, R_fr H (Nat.le_succ k) kSame.rf (s1.sub (by decide) (by decide) (by decide) (by decide))⟩
  | true =>
    have eP : P = m := by
      unfold tW at hW
      rw [decide_eq_true_iff] at hW
      exact hW.2.1
    rw [eP] at hW hP
    have hn := (wR_of p1.1 hH hP hW).1
    obtain ⟨h1, h2, h3, r, hr, h4, h5, h6⟩ := H
    have hT : gI sx 10 = nI n → xTab n sx := fun e => by
      rcases h6 with b | ⟨n', κ', φ', o', h', t⟩
      · rw [b.2.2.1] at e
        have := nI_inj (n_lt31 (by decide)) hn.lt (l0.symm.trans e)
        have := hn.1
        omega
      · have hx := t.1
        rw [hx.2.2.2.2.2.1] at e
        have en := nI_inj hx.1.lt hn.lt e
        rw [en] at hx
        exact hx.2.2.2.2.2.2
    obtain ⟨zm, hzm, d1, d2, d3, d4, d5, d6, d7, d8⟩ := m_ring p2 hH hP hW
    obtain ⟨zx, hzx, x1, x2, x3, x4, x5, x6, x7, x8, x9, x10, x11⟩ := x_ring p1 hH hP hW hT
    refine ⟨zx, zm, hzx, hzm, x1.trans d1.symm, ⟨0, c, ⟨Nat.zero_le _, x5, fun j hj => absurd hj (Nat.not_lt_zero j)⟩, ⟨Nat.zero_le _, d7, fun j hj => absurd hj (Nat.not_lt_zero j)⟩⟩, x6.trans d5.symm, h3.fr x2 d2 (by decide) (by decide), r + 1, by omega, by rw [x4, h4]; exact nI_1 r, by rw [d4, h5]; exact nI_1 r, Or.inr ⟨n, fun i => tK (c i), uFe (pA c n) (pB c n) ((m - n) / 3), 0, 0, x3, d3, uFe_comm _ _ _, x10, ⟨0, by decide, x9, fun u _ hu => absurd hu (Nat.not_lt_zero u)⟩, uO_0 hn (fun j hj => (x11 j hj).1), uO_0 hn (fun j hj => (d8 j hj).1), uO_0 hn (fun j hj => (x11 j hj).2), uO_0 hn (fun j hj => (d8 j hj).2), uCompat_0 hn, Or.inl ⟨x8, d6⟩, Or.inl ⟨x7, ?_⟩⟩⟩
    rw [d2.1 5 (by decide), d2.1 6 (by decide)]
    rcases h6 with b | ⟨n', κ', φ', o', h', t⟩
    · exact Or.inl b.2.2.2.2.2.1
    · rcases t.2.2.2.2.2.2.2.2.2.2.2 with ⟨_, g2 | ⟨r', hr', g2⟩⟩ | ⟨_, _, g3, _⟩
      · exact Or.inl g2
      · exact Or.inr ⟨r', by omega, g2⟩
      · exact Or.inr ⟨r, by omega, g3⟩
