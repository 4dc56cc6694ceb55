/-! house, count, image, restore -/
theorem sim_house : kH_house R := by
  intro k sx sm x y _ H
  unfold fX9_house fX10_house
  rcases R_has H x with ⟨e1, e2⟩ | ⟨r, n, κ, φ, o, h, j, A, hj, rfl, e1, e2⟩
  · rw [e1, e2]
    exact ⟨_, _, rfl, rfl, rfl, R_mono H (Nat.le_succ k)⟩
  · rw [e1, e2]
    simp only [Option.bind_some]
    obtain ⟨a1, a2, a3, a4, a5, a6, hx, hm, hφ, a7, h5, h6, h7, h8, h9, h10, h11, h12⟩ := A
    have hn := hx.1
    have hn6 := hn.2
    rw [if_neg (show ¬ (1 : Int32) = 0 by decide), if_neg (show ¬ (1 : Int32) = 0 by decide)]
    rcases rng y 3 (by decide) with ⟨i, hi, rfl, w1, w2, w3, hw⟩ | ⟨w1, hw, hne⟩ | ⟨w1, w2, w3, hw, hne⟩
    · rw [show fX10_within (nI i) 0 3 = 1 from hw, if_neg (show ¬ (1 : Int32) = 0 by decide)]
      unfold fX10_houseNow
      rcases (show i = 0 ∨ i = 1 ∨ i = 2 ∨ i = 3 by omega) with rfl | rfl | rfl | rfl
      · rw [if_pos (show nI 0 = 0 from rfl), if_pos (show nI 0 = 0 from rfl), hm.kind hj]
        refine ⟨_, _, rfl, rfl, ?_, R_mono H (Nat.le_succ k)⟩
        exact hx.kindg hj
      · rw [if_neg (show ¬ nI 1 = 0 by decide), if_pos (show nI 1 = 1 from rfl), if_neg (show ¬ nI 1 = 0 by decide), if_pos (show nI 1 = 1 from rfl), hx.place h6 hj, m_placeIn sm hn h7 hj]
        exact ⟨_, _, rfl, rfl, rfl, R_mono H (Nat.le_succ k)⟩
      · rw [if_neg (show ¬ nI 2 = 0 by decide), if_neg (show ¬ nI 2 = 1 by decide), if_pos (show nI 2 = 2 from rfl), if_neg (show ¬ nI 2 = 0 by decide), if_neg (show ¬ nI 2 = 1 by decide), if_pos (show nI 2 = 2 from rfl), hx.ahead h8 hj, m_placeIn sm hn h9 hj]
        exact ⟨_, _, rfl, rfl, rfl, R_mono H (Nat.le_succ k)⟩
      · rw [if_neg (show ¬ nI 3 = 0 by decide), if_neg (show ¬ nI 3 = 1 by decide), if_neg (show ¬ nI 3 = 2 by decide), if_pos (show nI 3 = 3 from rfl), if_neg (show ¬ nI 3 = 0 by decide), if_neg (show ¬ nI 3 = 1 by decide), if_neg (show ¬ nI 3 = 2 by decide)]
        unfold fX1_placeOf
        rcases h11 with ⟨g1, g2⟩ | ⟨g1, g2, a, g3, g4, _⟩
        · rw [if_pos g1, if_pos g2]
          exact ⟨_, _, rfl, rfl, rfl, R_mono H (Nat.le_succ k)⟩
        · rw [if_neg (by rw [g1]; decide), if_neg (by rw [g2]; decide), hx.2.1, x_placeIn hn g3 hj, m_placeIn sm hn g4 hj]
          exact ⟨_, _, rfl, rfl, rfl, R_mono H (Nat.le_succ k)⟩
    · rw [show fX10_within y 0 3 = 0 from hw, if_pos (show (0 : Int32) = 0 from rfl), if_neg (show ¬ y = 0 from hne 0 (by decide)), if_neg (show ¬ y = 1 from hne 1 (by decide)), if_neg (show ¬ y = 2 from hne 2 (by decide)), if_neg (show ¬ y = 3 from hne 3 (by decide))]
      exact ⟨_, _, rfl, rfl, rfl, R_mono H (Nat.le_succ k)⟩
    · rw [show fX10_within y 0 3 = 0 from hw, if_pos (show (0 : Int32) = 0 from rfl), if_neg (show ¬ y = 0 from hne 0 (by decide)), if_neg (show ¬ y = 1 from hne 1 (by decide)), if_neg (show ¬ y = 2 from hne 2 (by decide)), if_neg (show ¬ y = 3 from hne 3 (by decide))]
      exact ⟨_, _, rfl, rfl, rfl, R_mono H (Nat.le_succ k)⟩
theorem m_feudRow {n a acc : Nat} {κ : Nat → Nat} {φ : Nat → Nat → Bool} {st : kS} {Q : Int32 → Prop} {K : Int32 → Int32 → Option Int32} (h : mR n κ φ st) (ha : a < n) (hK : kZ (K (nI (acc + uRow (fun b => if φ a b then 1 else 0) n (a + 1))) (nI n)) Q) : kZ (fX10_feudMany_L16 K st (nI a) kFU (nI acc) (nI (a + 1))) Q := by
  have hn := h.1
  have hn6 := hn.2
  refine kfor (σ := Nat) (fun F i s => fX10_feudMany_L16 K st (nI a) F (nI s) i) (fun i s => s + uRow (fun b => if φ a b then 1 else 0) n i = acc + uRow (fun b => if φ a b then 1 else 0) n (a + 1)) n ?_ ?_ kFU (a + 1) acc (by omega) (by show n < 60000 + (a + 1); omega) rfl
  · intro F s hs
    show kZ (fX10_feudMany_L16_B _ _ st (nI s) (nI a) (nI n)) _
    unfold fX10_feudMany_L16_B
    rw [h.2.1]
    refine kZ.ifp (nI_le (Nat.le_refl n) hn.lt) ?_
    rw [← hs, uRow_e (Nat.le_refl n)] at hK
    exact hK
  · intro F i s hi hs next
    show kZ (fX10_feudMany_L16_B _ _ st (nI s) (nI a) (nI i)) _
    unfold fX10_feudMany_L16_B
    rw [h.2.1]
    refine kZ.ifn (nI_ge hi hn.lt) ?_
    rw [h.feud ha hi]
    simp only [Option.bind_some]
    rw [uRow_s hi] at hs
    rw [show nI i + 1 = nI (i + 1) from nI_1 i, l0, l1, nI_add, nI_add]
    cases hb : φ a i with
    | false =>
      rw [hb, if_neg (by decide)] at hs
      exact kZ.ifp rfl (next _ (by omega))
    | true =>
      rw [hb, if_pos rfl] at hs
      exact kZ.ifn (by decide) (next _ (by omega))
theorem m_feudMany {n : Nat} {κ : Nat → Nat} {φ : Nat → Nat → Bool} {st : kS} (h : mR n κ φ st) : fX10_feudMany st = some (nI (uPn n φ)) := by
  have hn := h.1
  have hn6 := hn.2
  have key : kZ (fX10_feudMany st) (fun z => z = nI (uPn n φ)) := by
    unfold fX10_feudMany
    refine kfor (σ := Nat) (fun F i s => fX10_feudMany_L4 (fun v1_8 _ => some v1_8) st F (nI s) i) (fun i s => s + uRow (fun a => uRow (fun b => if φ a b then 1 else 0) n (a + 1)) n i = uPn n φ) n ?_ ?_ kFU 0 0 (Nat.zero_le _) (kFU_lt0 (by omega)) (by rw [Nat.zero_add]; rfl)
    · intro F s hs
      show kZ (fX10_feudMany_L4_B _ _ st (nI s) (nI n)) _
      unfold fX10_feudMany_L4_B
      rw [h.2.1]
      refine kZ.ifp (nI_le (Nat.le_refl n) hn.lt) (kZ.ret ?_)
      rw [uRow_e (Nat.le_refl n)] at hs
      rw [← hs, Nat.add_zero]
    · intro F i s hi hs next
      show kZ (fX10_feudMany_L4_B _ _ st (nI s) (nI i)) _
      unfold fX10_feudMany_L4_B
      rw [h.2.1]
      refine kZ.ifn (nI_ge hi hn.lt) ?_
      rw [show nI i + 1 = nI (i + 1) from nI_1 i]
      refine m_feudRow h hi ?_
      exact next _ (by rw [uRow_s hi] at hs; omega)
  obtain ⟨z, hz, rfl⟩ := key
  exact hz
theorem R_howMany {k : Nat} {sx sm : kS} (H : R k sx sm) (x : Int32) : fX10_howMany sm x = some (fX9_count sx x) := by
  obtain ⟨⟨m, c, p1, p2⟩, h2, h3, r, hr, h4, h5, h6⟩ := H
  unfold fX10_howMany fX9_count
  rw [h4, h5, h2, p1.2.1, p2.2.1, h3.2, Int32.toInt32_toInt64]
  have e : gI sx 3 = gI sm 0 ∧ fX10_feudMany sm = some (gI sx 4) := by
    rcases h6 with h6 | ⟨n, κ, φ, o, h, h6⟩
    · refine ⟨h6.1.trans h6.2.1.symm, ?_⟩
      obtain ⟨F, hF⟩ : ∃ F, kFU = F + 1 := ⟨59999, rfl⟩
      unfold fX10_feudMany
      rw [hF]
      show fX10_feudMany_L4_B _ _ sm 0 0 = _
      unfold fX10_feudMany_L4_B
      rw [h6.2.1, if_pos (by decide), h6.2.2.2.1]
    · exact ⟨h6.1.2.1.trans h6.2.1.2.1.symm, by rw [m_feudMany h6.2.1, h6.2.2.2.1]⟩
  rw [e.1, e.2]
  by_cases e0 : x = 0
  · rw [if_pos e0, if_pos e0]
  rw [if_neg e0, if_neg e0]
  by_cases e0 : x = 1
  · rw [if_pos e0, if_pos e0]; rfl
  rw [if_neg e0, if_neg e0]
  by_cases e0 : x = 2
  · rw [if_pos e0, if_pos e0]
  rw [if_neg e0, if_neg e0]
  by_cases e0 : x = 3
  · rw [if_pos e0, if_pos e0]
  rw [if_neg e0, if_neg e0]
  by_cases e0 : x = 4
  · rw [if_pos e0, if_pos e0]
  rw [if_neg e0, if_neg e0]
  by_cases e0 : x = 5
  · rw [if_pos e0, if_pos e0]
  rw [if_neg e0, if_neg e0]
theorem sim_count : kH_count R := by
  intro k sx sm x _ H
  unfold fX10_count
  rw [R_howMany H x]
  exact ⟨_, rfl, rfl, R_mono H (Nat.le_succ k)⟩
/-- copying six numbers -/
theorem x_copyIn {st : kS} : kZ (fX3_copy_4_3 st) (fun z => kSame [8, 9] [] [15, 16] [] st z ∧ (∀ j, j < 6 → gA z 15 j = gA st 13 j ∧ gA z 16 j = gA st 14 j) ∧ gI z 8 = gI st 6 ∧ gI z 9 = gI st 7) := by
  unfold fX3_copy_4_3
  refine kfor (σ := kS) (fun F i s => fX3_copy_4_3_L2 _ F i s) (fun i s => kSame [] [] [15, 16] [] st s ∧ ∀ j, j < i → gA s 15 j = gA st 13 j ∧ gA s 16 j = gA st 14 j) 6 ?_ ?_ kFU 0 st (Nat.zero_le _) (kFU_lt0 (by decide)) ⟨kSame.rf, fun j hj => absurd hj (Nat.not_lt_zero j)⟩
  · rintro F s ⟨hs, ht⟩
    show kZ (fX3_copy_4_3_L2_B _ _ s (nI 6)) _
    unfold fX3_copy_4_3_L2_B
    refine kZ.ifp (by decide) (kZ.ret ⟨((hs.sub (by decide) (by decide) (by decide) (by decide)).sI (by decide) _).sI (by decide) _, ht, ?_, ?_⟩)
    · rw [gI_n (by decide), gI_e, hs.1 6 (by decide)]
    · rw [gI_e, hs.1 7 (by decide)]
  · rintro F i s hi ⟨hs, ht⟩ next
    show kZ (fX3_copy_4_3_L2_B _ _ s (nI i)) _
    unfold fX3_copy_4_3_L2_B
    rw [l6]
    refine kZ.ifn (nI_ge hi (by decide)) ?_
    rw [kg_n _ (by omega) (by decide), kg_n _ (by omega) (by decide), kp_n _ _ (by omega) (by decide), kp_n _ _ (by omega) (by decide), show nI i + 1 = nI (i + 1) from nI_1 i]
    refine next _ ⟨(hs.sA (by decide) _).sA (by decide) _, fun j hj => ?_⟩
    rw [gA_n (show 15 ≠ 16 by decide), gA_e, gA_e, hs.2.2.1 13 (by decide), hs.2.2.1 14 (by decide)]
    by_cases e : j = i
    · rw [e, upd_e, upd_e]; exact ⟨rfl, rfl⟩
    · rw [upd_n e, upd_n e]
      exact ht j (by omega)
theorem x_copyOut {st : kS} : kZ (fX3_copy_3_4 st) (fun z => kSame [6, 7] [] [13, 14] [] st z ∧ (∀ j, j < 6 → gA z 13 j = gA st 15 j ∧ gA z 14 j = gA st 16 j) ∧ gI z 6 = gI st 8 ∧ gI z 7 = gI st 9) := by
  unfold fX3_copy_3_4
  refine kfor (σ := kS) (fun F i s => fX3_copy_3_4_L2 _ F i s) (fun i s => kSame [] [] [13, 14] [] st s ∧ ∀ j, j < i → gA s 13 j = gA st 15 j ∧ gA s 14 j = gA st 16 j) 6 ?_ ?_ kFU 0 st (Nat.zero_le _) (kFU_lt0 (by decide)) ⟨kSame.rf, fun j hj => absurd hj (Nat.not_lt_zero j)⟩
  · rintro F s ⟨hs, ht⟩
    show kZ (fX3_copy_3_4_L2_B _ _ s (nI 6)) _
    unfold fX3_copy_3_4_L2_B
    refine kZ.ifp (by decide) (kZ.ret ⟨((hs.sub (by decide) (by decide) (by decide) (by decide)).sI (by decide) _).sI (by decide) _, ht, ?_, ?_⟩)
    · rw [gI_n (by decide), gI_e, hs.1 8 (by decide)]
    · rw [gI_e, hs.1 9 (by decide)]
  · rintro F i s hi ⟨hs, ht⟩ next
    show kZ (fX3_copy_3_4_L2_B _ _ s (nI i)) _
    unfold fX3_copy_3_4_L2_B
    rw [l6]
    refine kZ.ifn (nI_ge hi (by decide)) ?_
    rw [kg_n _ (by omega) (by decide), kg_n _ (by omega) (by decide), kp_n _ _ (by omega) (by decide), kp_n _ _ (by omega) (by decide), show nI i + 1 = nI (i + 1) from nI_1 i]
    refine next _ ⟨(hs.sA (by decide) _).sA (by decide) _, fun j hj => ?_⟩
    rw [gA_n (show 13 ≠ 14 by decide), gA_e, gA_e, hs.2.2.1 15 (by decide), hs.2.2.1 16 (by decide)]
    by_cases e : j = i
    · rw [e, upd_e, upd_e]; exact ⟨rfl, rfl⟩
    · rw [upd_n e, upd_n e]
      exact ht j (by omega)
theorem m_copyIn {st : kS} : kZ (fX10_image_L41 (fun _ s => some ((gI s 2), s)) kFU 0 st) (fun z => z.1 = gI st 2 ∧ kSame [] [] [7, 8] [] st z.2 ∧ ∀ j, j < 6 → gA z.2 7 j = gA st 3 j ∧ gA z.2 8 j = gA st 4 j) := by
  refine kfor (σ := kS) (fun F i s => fX10_image_L41 _ F i s) (fun i s => kSame [] [] [7, 8] [] st s ∧ ∀ j, j < i → gA s 7 j = gA st 3 j ∧ gA s 8 j = gA st 4 j) 6 ?_ ?_ kFU 0 st (Nat.zero_le _) (kFU_lt0 (by decide)) ⟨kSame.rf, fun j hj => absurd hj (Nat.not_lt_zero j)⟩
  · rintro F s ⟨hs, ht⟩
    show kZ (fX10_image_L41_B _ _ s (nI 6)) _
    unfold fX10_image_L41_B
    exact kZ.ifp (by decide) (kZ.ret ⟨hs.1 2 (by decide), hs, ht⟩)
  · rintro F i s hi ⟨hs, ht⟩ next
    show kZ (fX10_image_L41_B _ _ s (nI i)) _
    unfold fX10_image_L41_B
    rw [l6]
    refine kZ.ifn (nI_ge hi (by decide)) ?_
    refine kZ.ka hi (by decide) (kZ.gd hi (by decide) (kZ.ka hi (by decide) (kZ.gd hi (by decide) ?_)))
    rw [nI_clamp (n_lt31 (by omega)), show nI i + 1 = nI (i + 1) from nI_1 i]
    refine next _ ⟨(hs.sA (by decide) _).sA (by decide) _, fun j hj => ?_⟩
    rw [gA_n (show 7 ≠ 8 by decide), gA_e, gA_e, hs.2.2.1 3 (by decide), hs.2.2.1 4 (by decide)]
    by_cases e : j = i
    · rw [e, upd_e, upd_e]; exact ⟨rfl, rfl⟩
    · rw [upd_n e, upd_n e]
      exact ht j (by omega)
theorem m_copyOut {st : kS} : kZ (fX10_restore_L39 (fun _ s => some ((gI s 2), s)) kFU 0 st) (fun z => z.1 = gI st 2 ∧ kSame [] [] [3, 4] [] st z.2 ∧ ∀ j, j < 6 → gA z.2 3 j = gA st 7 j ∧ gA z.2 4 j = gA st 8 j) := by
  refine kfor (σ := kS) (fun F i s => fX10_restore_L39 _ F i s) (fun i s => kSame [] [] [3, 4] [] st s ∧ ∀ j, j < i → gA s 3 j = gA st 7 j ∧ gA s 4 j = gA st 8 j) 6 ?_ ?_ kFU 0 st (Nat.zero_le _) (kFU_lt0 (by decide)) ⟨kSame.rf, fun j hj => absurd hj (Nat.not_lt_zero j)⟩
  · rintro F s ⟨hs, ht⟩
    show kZ (fX10_restore_L39_B _ _ s (nI 6)) _
    unfold fX10_restore_L39_B
    exact kZ.ifp (by decide) (kZ.ret ⟨hs.1 2 (by decide), hs, ht⟩)
  · rintro F i s hi ⟨hs, ht⟩ next
    show kZ (fX10_restore_L39_B _ _ s (nI i)) _
    unfold fX10_restore_L39_B
    rw [l6]
    refine kZ.ifn (nI_ge hi (by decide)) ?_
    refine kZ.ka hi (by decide) (kZ.gd hi (by decide) (kZ.ka hi (by decide) (kZ.gd hi (by decide) ?_)))
    rw [nI_clamp (n_lt31 (by omega)), show nI i + 1 = nI (i + 1) from nI_1 i]
    refine next _ ⟨(hs.sA (by decide) _).sA (by decide) _, fun j hj => ?_⟩
    rw [gA_n (show 3 ≠ 4 by decide), gA_e, gA_e, hs.2.2.1 7 (by decide), hs.2.2.1 8 (by decide)]
    by_cases e : j = i
    · rw [e, upd_e, upd_e]; exact ⟨rfl, rfl⟩
    · rw [upd_n e, upd_n e]
      exact ht j (by omega)
theorem uO.cp {n k : Nat} {f g : Nat → Int32} (hn : uHn n) (h : uO n k f) (e : ∀ j, j < 6 → g j = f j) : uO n k g :=
  ⟨h.1, fun j hj => by rw [e j (by have := hn.2; omega)]; exact h.2 j hj⟩
theorem sim_image : kH_image R := by
  intro k sx sm _ H
  unfold fX9_image fX10_image
  rcases R_stands H with ⟨e1, e2, _⟩ | ⟨r, n, κ, φ, o, h, A, e1, e2⟩
  · rw [if_pos e1, if_pos e2]
    exact ⟨_, _, rfl, rfl, rfl, R_mono H (Nat.le_succ k)⟩
  · obtain ⟨a1, a2, a3, a4, a5, a6, hx, hm, hφ, a7, h5, h6, h7, h8, h9, h10, h11, h12⟩ := A
    have hn := hx.1
    rw [if_neg (by rw [e1]; decide), if_neg e2]
    obtain ⟨zx, hzx, s1, c1, c2, c3⟩ := x_copyIn (st := sx)
    obtain ⟨zm, hzm, d0, d1, d2⟩ := m_copyIn (st := sJ (sI (sI (sI sm 5 1) 6 (gI sm 1)) 7 (gI sm 2)) 1 (gJ sm 0))
    rw [hzx]
    refine ⟨_, zm, rfl, hzm, ?_, ?_⟩
    · rw [d0, c3]
      exact a2
    · have kx : kSame [0, 8, 9] [] [15, 16] [] sx (sI zx 0 1) := (s1.sub (by decide) (by decide) (by decide) (by decide)).sI (by decide) _
      have km0 : kSame [5, 6, 7] [1] [] [] sm (sJ (sI (sI (sI sm 5 1) 6 (gI sm 1)) 7 (gI sm 2)) 1 (gJ sm 0)) := (((kSame.rf.sI (by decide) _).sI (by decide) _).sI (by decide) _).sJ (by decide) _
      have km : kSame [5, 6, 7] [1] [7, 8] [] sm zm.2 := (km0.sub (by decide) (by decide) (by decide) (by decide)).trans (d1.sub (by decide) (by decide) (by decide) (by decide))
      refine ⟨a1.fr kx km (by decide) (by decide), ?_, a3.fr kx km (by decide) (by decide), r, by omega, (kx.1 1 (by decide)).trans a5, (km.1 1 (by decide)).trans a6, Or.inr ⟨n, κ, φ, o, h, hx.same kx (by decide), hm.same km (by decide), hφ, (kx.1 4 (by decide)).trans a7, h5.same kx (by decide), ?_, ?_, ?_, ?_, h10, h11.fr kx km (by decide) (by decide), Or.inr ⟨gI_e _ _ _, ?_, ?_, ?_, ?_, ?_, o, h, ?_, ?_, ?_, ?_, h10⟩⟩⟩
      · show gI (sI zx 0 1) 7 = _
        rw [kx.1 7 (by decide), km.1 2 (by decide)]; exact a2
      · show uO n o (gA (sI zx 0 1) 13)
        rw [kx.2.2.1 13 (by decide)]; exact h6
      · rw [km.2.2.1 3 (by decide)]; exact h7
      · show uO n h (gA (sI zx 0 1) 14)
        rw [kx.2.2.1 14 (by decide)]; exact h8
      · rw [km.2.2.1 4 (by decide)]; exact h9
      · rw [d1.1 5 (by decide)]
        show gI (sI (sI (sI sm 5 1) 6 (gI sm 1)) 7 (gI sm 2)) 5 = 1
        rw [gI_n (by decide), gI_n (by decide), gI_e]
      · rw [d1.1 6 (by decide)]
        show gI (sI (sI (sI sm 5 1) 6 (gI sm 1)) 7 (gI sm 2)) 6 = nI r
        rw [gI_n (by decide), gI_e, a6]
      · rw [d1.1 7 (by decide)]
        show gI (sI zx 0 1) 9 = gI (sI (sI (sI sm 5 1) 6 (gI sm 1)) 7 (gI sm 2)) 7
        rw [gI_n (by decide), gI_e, c3, a2]
      · show 0 ≤ gI (sI zx 0 1) 8
        rw [gI_n (by decide), c2]; exact a3.1
      · rw [d1.2.1 1 (by decide), gJ_e, a3.2]
        show _ = (gI (sI zx 0 1) 8).toInt64
        rw [gI_n (by decide), c2]
      · exact h6.cp hn (fun j hj => (c1 j hj).1)
      · exact h7.cp hn (fun j hj => (d2 j hj).1)
      · exact h8.cp hn (fun j hj => (c1 j hj).2)
      · exact h9.cp hn (fun j hj => (d2 j hj).2)
theorem sim_restore : kH_restore R := by
  intro k sx sm hk H
  have H0 := H
  unfold fX9_restore fX10_restore
  obtain ⟨a1, a2, a3, r, a4, a5, a6, h6⟩ := H
  rcases h6 with b | ⟨n, κ, φ, o, h, hx, hm, hφ, a7, h5, h6, h7, h8, h9, h10, h11, h12⟩
  · rw [if_pos b.2.2.2.2.1, if_pos b.2.2.2.2.2.1]
    exact ⟨_, _, rfl, rfl, rfl, R_mono H0 (Nat.le_succ k)⟩
  · have hn := hx.1
    rcases h12 with ⟨g1, g2⟩ | ⟨g1, g2, g3, g4, g5, g6, o', h', g7, g8, g9, g10, g11⟩
    · rw [if_pos g1]
      rcases g2 with g2 | ⟨r', hr', g2⟩
      · rw [if_pos g2]
        exact ⟨_, _, rfl, rfl, rfl, R_mono H0 (Nat.le_succ k)⟩
      · rw [if_neg (show ¬ gI sm 6 = gI sm 1 by
          rw [g2, a6]
          intro q
          have := nI_inj (n_lt31 (by omega)) (n_lt31 (by omega)) q
          omega)]
        refine ⟨_, (-103, sm), rfl, ?_, rfl, R_mono H0 (Nat.le_succ k)⟩
        split <;> rfl
    · rw [if_neg (by rw [g1]; decide), if_neg (by rw [g2]; decide), if_pos (by rw [g3, a6])]
      obtain ⟨zx, hzx, s1, c1, c2, c3⟩ := x_copyOut (st := sx)
      obtain ⟨zm, hzm, d0, d1, d2⟩ := m_copyOut (st := sJ (sI sm 2 (gI sm 7)) 0 (gJ sm 1))
      rw [hzx]
      have km0 : kSame [2] [0] [] [] sm (sJ (sI sm 2 (gI sm 7)) 0 (gJ sm 1)) := (kSame.rf.sI (by decide) _).sJ (by decide) _
      have km : kSame [2] [0] [3, 4] [] sm zm.2 := (km0.sub (by decide) (by decide) (by decide) (by decide)).trans (d1.sub (by decide) (by decide) (by decide) (by decide))
      have e2 : gI (sJ (sI sm 2 (gI sm 7)) 0 (gJ sm 1)) 2 = gI sm 7 := by show gI (sI sm 2 (gI sm 7)) 2 = _; exact gI_e _ _ _
      refine ⟨_, zm, rfl, hzm, ?_, ?_⟩
      · show gI zx 7 = zm.1
        rw [d0, c3, g4, e2]
      · show R (k + 1) zx zm.2
        refine ⟨a1.fr s1 km (by decide) (by decide), ?_, ⟨?_, ?_⟩, r, by omega, (s1.1 1 (by decide)).trans a5, (km.1 1 (by decide)).trans a6, Or.inr ⟨n, κ, φ, o', h', hx.same s1 (by decide), hm.same km (by decide), hφ, (s1.1 4 (by decide)).trans a7, h5.same s1 (by decide), ?_, ?_, ?_, ?_, g11, h11.fr s1 km (by decide) (by decide), ?_⟩⟩
        · rw [d1.1 2 (by decide), c3, g4, e2]
        · rw [c2]; exact g5
        · rw [d1.2.1 0 (by decide), gJ_e, c2]; exact g6
        · exact g7.cp hn (fun j hj => (c1 j hj).1)
        · exact g8.cp hn (fun j hj => (d2 j hj).1)
        · exact g9.cp hn (fun j hj => (c1 j hj).2)
        · exact g10.cp hn (fun j hj => (d2 j hj).2)
        · exact rKeep.fr (Or.inr ⟨g1, g2, g3, g4, g5, g6, o', h', g7, g8, g9, g10, g11⟩) s1 km (by decide) (by decide)
