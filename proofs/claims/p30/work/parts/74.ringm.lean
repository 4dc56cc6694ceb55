/-! ring: the reference, and both -/
theorem x_begin {st : kS} : kZ (fX3_begin_3 st) (fun z => kSame [7] [] [13, 14] [] st z ∧ (∀ j, j < 6 → gA z 13 j = nI j ∧ gA z 14 j = nI j) ∧ gI z 7 = 0) := by
  unfold fX3_begin_3
  refine kfor (σ := kS) (fun F i s => fX3_begin_3_L2 _ F i s) (fun i s => kSame [] [] [13, 14] [] st s ∧ ∀ j, j < i → gA s 13 j = nI j ∧ gA s 14 j = nI j) 6 ?_ ?_ kFU 0 st (Nat.zero_le _) (kFU_lt0 (by decide)) ⟨kSame.rf, fun j hj => absurd hj (Nat.not_lt_zero j)⟩
  · rintro F s ⟨hs, ht⟩
    show kZ (fX3_begin_3_L2_B _ _ s (nI 6)) _
    unfold fX3_begin_3_L2_B
    exact kZ.ifp (by decide) (kZ.ret ⟨(hs.sub (by decide) (by decide) (by decide) (by decide)).sI (by decide) _, ht, gI_e _ _ _⟩)
  · rintro F i s hi ⟨hs, ht⟩ next
    show kZ (fX3_begin_3_L2_B _ _ s (nI i)) _
    unfold fX3_begin_3_L2_B
    rw [l6]
    refine kZ.ifn (nI_ge hi (by decide)) ?_
    rw [kp_n _ _ hi (by decide), kp_n _ _ hi (by decide), show nI i + 1 = nI (i + 1) from nI_1 i]
    refine next _ ⟨(hs.sA (by decide) _).sA (by decide) _, fun j hj => ?_⟩
    rw [gA_n (show 13 ≠ 14 by decide), gA_e, gA_e]
    by_cases e : j = i
    · rw [e, upd_e, upd_e]; exact ⟨rfl, rfl⟩
    · rw [upd_n e, upd_n e]
      exact ht j (by omega)
section MR
variable {n m f : Nat} {c : Nat → Nat} {st : kS} {Q : Int32 × kS → Prop} {K : Int32 → kS → Option (Int32 × kS)}
end MR
theorem uO_0 {n : Nat} {f : Nat → Int32} (hn : uHn n) (h : ∀ j, j < 6 → f j = nI j) : uO n 0 f := ⟨uF_pos hn, fun j hj => by rw [uD_0 hn j hj]; exact h j (by have := hn.2; omega)⟩
/-- what the class's ring leaves -/
theorem x_ring {n m : Nat} {c : Nat → Nat} {sx : kS} (p1 : pgX m c sx) (hH : Fst (tH c) m n) (hP : Fst (tO c n) m m) (hW : tW m n m = true) (hT0 : gI sx 10 = nI n → xTab n sx) : kZ (fX9_ring sx) (fun z => z.1 = nI n ∧ kSame [0, 1, 2, 3, 4, 5, 7, 10, 11, 12, 13] [] [11, 12, 13, 14, 17, 18] [] sx z.2 ∧ xR n (fun i => tK (c i)) (uFe (pA c n) (pB c n) ((m - n) / 3)) z.2 ∧ gI z.2 1 = gI sx 1 + 1 ∧ gI z.2 2 = 0 ∧ gI z.2 7 = 0 ∧ gI z.2 0 = 0 ∧ gI z.2 13 = 0 ∧ gI z.2 12 = 0 ∧ gI z.2 4 = nI (uPn n (uFe (pA c n) (pB c n) ((m - n) / 3))) ∧ ∀ j, j < 6 → gA z.2 13 j = nI j ∧ gA z.2 14 j = nI j) := by
  have hw := wR_of p1.1 hH hP hW
  have hn := hw.1
  unfold fX9_ring
  refine (x_isRing p1).bind (fun z hz => ?_)
  obtain ⟨n', P, hH', hP', rfl⟩ := hz
  have en := hH'.uniq hH
  rw [en] at hP' ⊢
  rw [hP'.uniq hP, hW]
  refine kZ.ifn (by decide) ((x_read hw p1 hH).bind (fun z3 hz3 => ?_))
  obtain ⟨s3, e3, k3, f3, b3⟩ := hz3
  have kc : kSame [2] [] [] [] z3 (sI z3 2 0) := kSame.rf.sI (by decide) _
  refine (show kZ (fX3_begin_3 (fX5_clear z3).2) _ from x_begin (st := sI z3 2 0)).bind (fun z4 hz4 => ?_)
  obtain ⟨s4, o4, n4⟩ := hz4
  have k4 : kSame [2, 3, 4, 5, 7] [] [11, 12, 13, 14] [] sx z4 := ((s3.sub (by decide) (by decide) (by decide) (by decide)).trans (kc.sub (by decide) (by decide) (by decide) (by decide))).trans (s4.sub (by decide) (by decide) (by decide) (by decide))
  have g3 : gI z4 3 = nI n := by rw [s4.1 3 (by decide), gI_n (by decide)]; exact e3
  rw [g3]
  refine (x_prepare hn (fun e => ?_)).bind (fun z5 hz5 => ?_)
  · unfold xTab
    rw [k4.1 11 (by decide), k4.2.2.1 17 (by decide)]
    rw [k4.1 10 (by decide)] at e
    exact hT0 e
  obtain ⟨s5, e10, hTab⟩ := hz5
  have k5 : kSame [2, 3, 4, 5, 7, 10, 11] [] [11, 12, 13, 14, 17, 18] [] sx z5 := (k4.sub (by decide) (by decide) (by decide) (by decide)).trans (s5.sub (by decide) (by decide) (by decide) (by decide))
  have kt : kSame [12, 13] [] [] [] z5 (fX1_forget (fX2_forget z5)) := by
    unfold fX1_forget fX2_forget
    exact (kSame.rf.sI (by decide) _).sI (by decide) _
  have t12 : gI (fX1_forget (fX2_forget z5)) 12 = 0 := by
    unfold fX1_forget fX2_forget
    rw [gI_n (by decide), gI_e]
  have t13 : gI (fX1_forget (fX2_forget z5)) 13 = 0 := by
    unfold fX1_forget
    rw [gI_e]
  generalize fX1_forget (fX2_forget z5) = z6 at kt t12 t13
  have ku : kSame [0, 1] [] [] [] z6 (sI (sI z6 0 0) 1 ((gI z6 1) + 1)) := (kSame.rf.sI (by decide) _).sI (by decide) _
  have u0 : gI (sI (sI z6 0 0) 1 ((gI z6 1) + 1)) 0 = 0 := by rw [gI_n (by decide), gI_e]
  have u1 : gI (sI (sI z6 0 0) 1 ((gI z6 1) + 1)) 1 = gI z6 1 + 1 := gI_e _ _ _
  generalize sI (sI z6 0 0) 1 ((gI z6 1) + 1) = z7 at ku u0 u1 ⊢
  refine kZ.ret ⟨?_, ?_, ⟨hn, ?_, fun i hi => ⟨hw.2.2.2.1 i hi, ?_⟩, fun i j hi hj => ?_, fun p hp => ?_, ?_, ?_, fun i p hi hp => ?_⟩, ?_, ?_, ?_, u0, ?_, ?_, ?_, fun j hj => ?_⟩
  · show gI z6 3 = nI n
    rw [kt.1 3 (by decide), s5.1 3 (by decide), g3]
  · exact ((k5.sub (by decide) (by decide) (by decide) (by decide)).trans (kt.sub (by decide) (by decide) (by decide) (by decide))).trans (ku.sub (by decide) (by decide) (by decide) (by decide))
  · show gI z7 3 = nI n
    rw [ku.1 3 (by decide), kt.1 3 (by decide), s5.1 3 (by decide), g3]
  · show gA z7 11 i = _
    rw [ku.2.2.1 11 (by decide), kt.2.2.1 11 (by decide), s5.2.2.1 11 (by decide), s4.2.2.1 11 (by decide), kc.2.2.1 11 (by decide)]
    exact k3 i hi
  · show gA z7 12 _ = _
    rw [ku.2.2.1 12 (by decide), kt.2.2.1 12 (by decide), s5.2.2.1 12 (by decide), s4.2.2.1 12 (by decide), kc.2.2.1 12 (by decide)]
    exact f3.2 i j hi hj
  · show (kushr (gI z7 5) (nI p)) &&& 1 = _
    rw [ku.1 5 (by decide), kt.1 5 (by decide), s5.1 5 (by decide), s4.1 5 (by decide), kc.1 5 (by decide)]
    exact b3 p hp
  · show gI z7 10 = _
    rw [ku.1 10 (by decide), kt.1 10 (by decide)]; exact e10
  · show gI z7 11 = _
    rw [ku.1 11 (by decide), kt.1 11 (by decide)]; exact hTab.1
  · show gA z7 17 _ = _
    rw [ku.2.2.1 17 (by decide), kt.2.2.1 17 (by decide)]
    exact hTab.2 i p hi hp
  · show gI z7 1 = _
    rw [u1, kt.1 1 (by decide), k5.1 1 (by decide)]
  · show gI z7 2 = 0
    rw [ku.1 2 (by decide), kt.1 2 (by decide), s5.1 2 (by decide), s4.1 2 (by decide), gI_e]
  · show gI z7 7 = 0
    rw [ku.1 7 (by decide), kt.1 7 (by decide), s5.1 7 (by decide), n4]
  · show gI z7 13 = 0
    rw [ku.1 13 (by decide), t13]
  · show gI z7 12 = 0
    rw [ku.1 12 (by decide), t12]
  · show gI z7 4 = _
    rw [ku.1 4 (by decide), kt.1 4 (by decide), s5.1 4 (by decide), s4.1 4 (by decide), kc.1 4 (by decide)]
    exact f3.1
  · show gA z7 13 j = _ ∧ gA z7 14 j = _
    rw [ku.2.2.1 13 (by decide), ku.2.2.1 14 (by decide), kt.2.2.1 13 (by decide), kt.2.2.1 14 (by decide), s5.2.2.1 13 (by decide), s5.2.2.1 14 (by decide)]
    exact o4 j hj
theorem x_ringNot {n m P : Nat} {c : Nat → Nat} {sx : kS} (p1 : pgX m c sx) (hH : Fst (tH c) m n) (hP : Fst (tO c n) m P) (hW : tW m n P = false) : fX9_ring sx = some (-103, sx) := by
  unfold fX9_ring
  obtain ⟨z, hz, n', P', hH', hP', rfl⟩ := x_isRing p1
  have en := hH'.uniq hH
  rw [en] at hP' hz
  rw [hP'.uniq hP, hW] at hz
  rw [hz]
  rfl
