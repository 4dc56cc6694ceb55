/-! THE LAW: its nights, its refused calls, its end -/
section LZ
variable {n o h t : Nat} {κ : Nat → Nat} {φ : Nat → Nat → Bool} {st : kS} {L : Nat} {xs : Nat → Int32}
theorem l_J310g {K Gc : Int32 → Int32 → Int32 → Int32 → kS → Option (Int32 × kS)} {Q : Int32 × kS → Prop} {X : Nat} {v10 : Int32} (H : lS n κ φ o h t st) (hX : X < 2 ^ 31) (hG : ∀ st', lS n κ φ o h t st' → kZ (Gc (nI (oP n o)) (nI (oP n h)) (nI t) (v10 + 1) st') Q) : kZ (fL_law_J310 K Gc L xs st (nI n) (nI (oP n 0)) (nI (oP n o)) (nI (oP n h)) (nI t) v10 (nI X)) Q := by
  refine l_J310 H ?_
  refine l_J531 H hX (fun s1 H1 => ?_)
  refine l_J713 H1 hX (fun s2 H2 => ?_)
  exact l_J944 H2 hG
theorem l_L219 {K : Int32 → Int32 → Int32 → Int32 → kS → Option (Int32 × kS)} {Q : Int32 × kS → Prop} (hL : L ≤ 260) (H : lS n κ φ 0 0 0 st) (hK : ∀ o h t st' w, lS n κ φ o h t st' → kZ (K (nI (oP n o)) (nI (oP n h)) (nI t) w st') Q) : kZ (fL_law_L219 K L xs (nI n) (nI (oP n 0)) kFU (nI (oP n 0)) (nI (oP n 0)) 0 0 st) Q := by
  have hn := H.1.1
  have h0 : 0 < n := by have := hn.1; omega
  refine kfor (σ := Int32 × Int32 × Int32 × kS) (fun F i s => fL_law_L219 K L xs (nI n) (nI (oP n 0)) F s.1 s.2.1 s.2.2.1 i s.2.2.2) (fun i s => ∃ o h, s.1 = nI (oP n o) ∧ s.2.1 = nI (oP n h) ∧ s.2.2.1 = nI (i - 1) ∧ lS n κ φ o h (i - 1) s.2.2.2) 14 ?_ ?_ kFU 0 (nI (oP n 0), nI (oP n 0), 0, st) (Nat.zero_le _) (kFU_lt0 (by omega)) ⟨0, 0, rfl, rfl, rfl, H⟩
  · rintro F ⟨s1, s2, s3, s4⟩ ⟨o, h, e1, e2, e3, H⟩
    dsimp only at e1 e2 e3 H
    subst e1 e2 e3
    show kZ (fL_law_L219_B _ _ _ _ _ _ _ _ _ _ (nI 14)) _
    unfold fL_law_L219_B
    exact kZ.ifp (by decide) (hK _ _ _ _ _ H)
  · rintro F i ⟨s1, s2, s3, s4⟩ hi ⟨o, h, e1, e2, e3, H⟩ next
    dsimp only at e1 e2 e3 H
    subst e1 e2 e3
    show kZ (fL_law_L219_B _ _ _ _ _ _ _ _ _ _ (nI i)) _
    unfold fL_law_L219_B
    refine kZ.ifn (show ¬ (14 : Int32) ≤ nI i from nI_ge (b := 14) hi (by decide)) ?_
    rw [show (2 : Int32) + nI i = nI (2 + i) from nI_add 2 i, l_cell hL (show 2 + i < 1000 by omega)]
    simp only [Option.bind_some]
    have hX : lX L xs (2 + i) < 2 ^ 31 := lX_lt
    generalize lX L xs (2 + i) = X at hX ⊢
    refine kZ.ite (fun c => ?_) (fun c => ?_)
    · have i0 : i = 0 := by
        rcases Nat.eq_zero_or_pos i with q | q
        · exact q
        · exact absurd c (nI_nle q (n_lt31 (by omega)))
      subst i0
      refine l_J310g H hX (fun st' H' => ?_)
      rw [nI_1]
      exact next (nI (oP n o), nI (oP n h), nI (0 - 1), st') ⟨o, h, rfl, rfl, rfl, H'⟩
    · have i0 : 0 < i := by
        rcases Nat.eq_zero_or_pos i with q | q
        · exact absurd (show nI i ≤ 0 by rw [q]; decide) c
        · exact q
      have ho := H.2.2.2.2.2.1.1
      have hco := H.2.2.2.2.2.2.2.1
      have ed : kr (nI X) (nI n) = nI (X % n) := kr_n hX h0 hn.lt
      have ec : kr (nI X / 8) 3 = nI (X / 8 % 3) := l_dm (d := 8) (m := 3) hX (by decide) (by decide) (by decide) (by decide)
      have hd : X % n < n := Nat.mod_lt _ h0
      have hc3 : X / 8 % 3 < 3 := Nat.mod_lt _ (by decide)
      have hp := aP_lt (d := X % n) (c := X / 8 % 3) hn
      have hk2 := xStep_lt (κ := κ) hn ho hp
      refine kZ.ifn (nI_ne0 h0 hn.lt) ?_
      rw [ed, ec, l_go H ho hco hd hc3]
      simp only [Option.bind_some]
      obtain ⟨z, ez, e1, H1⟩ := c_night H hd hc3
      rw [ez]
      simp only [Option.bind_some]
      have fin : kZ (fL_law_J310 K (fL_law_L219 K L xs (nI n) (nI (oP n 0)) F) L xs (kJ s4 z.2) (nI n) (nI (oP n 0)) (nI (oP n (xStep n κ o (aP n (X % n) (X / 8 % 3))))) (nI (oP n o)) (nI (i - 1) + 1) (nI i) (nI X)) Q := by
        rw [nI_1]
        refine l_J310g H1 hX (fun st' H' => ?_)
        rw [nI_1]
        refine next (nI (oP n (xStep n κ o (aP n (X % n) (X / 8 % 3)))), nI (oP n o), nI (i - 1 + 1), st') ⟨_, o, rfl, rfl, ?_, ?_⟩
        · show nI (i - 1 + 1) = nI (i + 1 - 1)
          rw [show i - 1 + 1 = i + 1 - 1 by omega]
        · show lS n κ φ _ o (i + 1 - 1) st'
          rw [show i + 1 - 1 = i - 1 + 1 by omega]
          exact H'
      unfold fL_law_J294
      cases hb : uBar n κ (aP n (X % n) (X / 8 % 3)) with
      | true =>
        have hx : xStep n κ o (aP n (X % n) (X / 8 % 3)) = o := by
          unfold xStep
          rw [hb]
          rfl
        rw [hb] at e1
        rw [hx] at fin ⊢
        exact kZ.ifp rfl (kZ.ifp e1 fin)
      | false =>
        have hx : xStep n κ o (aP n (X % n) (X / 8 % 3)) = uC n o (aP n (X % n) (X / 8 % 3)) := by
          unfold xStep
          rw [hb]
          rfl
        rw [hb] at e1
        have hne : ¬ nI (oP n (xStep n κ o (aP n (X % n) (X / 8 % 3)))) = nI (oP n o) := fun q => uC_ne hn ho hp (by rw [← hx]; exact oP_inj hn hk2 ho (nI_inj (oP31 hn hk2) (oP31 hn ho) q))
        exact kZ.ifn hne (kZ.ifp e1 fin)
/-! what is refused -/
theorem r_1 (H : lS n κ φ o h t st) : fX9_house st (nI n) 0 = some (-101) := by
  unfold fX9_house
  rw [x_hasN H]
  rfl
theorem r_2 (H : lS n κ φ o h t st) : fX9_house st 0 4 = some (-102) := by
  unfold fX9_house
  rw [x_has0 H]
  rfl
theorem r_3 (H : lS n κ φ o h t st) : fX9_as st (nI n) 0 = -101 := by
  unfold fX9_as
  rw [x_hasN H]
  rfl
theorem r_4 (H : lS n κ φ o h t st) : fX9_as st 0 4 = -102 := by
  unfold fX9_as
  rw [x_has0 H]
  rfl
theorem r_5 (H : lS n κ φ o h t st) : fX9_at st (nI n) = -101 := by
  unfold fX9_at
  rw [x_hasN H]
  rfl
theorem r_6 : fX9_at st (-1) = -101 := by
  unfold fX9_at
  rw [x_hasM]
  rfl
theorem r_7 (H : lS n κ φ o h t st) : fX9_feud st 0 (nI n) = -101 := by
  unfold fX9_feud
  rw [x_has0 H, x_hasN H]
  rfl
theorem r_8 (H : lS n κ φ o h t st) : fX9_walk st (nI n) = some (-101) := by
  unfold fX9_walk
  rw [x_hasN H]
  rfl
theorem r_9 (H : lS n κ φ o h t st) : fX9_night st (nI n) 0 = some (-101, st) := by
  unfold fX9_night
  rw [x_hasN H]
  rfl
theorem r_10 (H : lS n κ φ o h t st) : fX9_night st 0 2 = some (-102, st) := by
  unfold fX9_night
  rw [x_has0 H]
  rfl
theorem r_11 (H : lS n κ φ o h t st) : fX9_night st 0 (-2) = some (-102, st) := by
  unfold fX9_night
  rw [x_has0 H]
  rfl
theorem r_12 (H : lS n κ φ o h t st) : fX9_apart st 6 0 = some (-102, st) := by
  unfold fX9_apart
  rw [H.1.stands]
  rfl
theorem r_13 (H : lS n κ φ o h t st) : fX9_apart st 0 2 = some (-102, st) := by
  unfold fX9_apart
  rw [H.1.stands]
  rfl
theorem r_14 (H : lS n κ φ o h t st) : fX9_choose st (nI n) 1 = some (-101, st) := by
  unfold fX9_choose
  rw [x_hasN H]
  rfl
theorem r_15 (H : lS n κ φ o h t st) : fX9_choose st 0 0 = some (-102, st) := by
  unfold fX9_choose
  rw [x_has0 H]
  rfl
theorem r_16 (H : lS n κ φ o h t st) : fX9_choose st 0 6 = some (-102, st) := by
  unfold fX9_choose
  rw [x_has0 H]
  rfl
theorem r_17 (H : lS n κ φ o h t st) : fX9_odds st (nI n) 0 0 0 = some (-101, st) := by
  unfold fX9_odds
  rw [x_hasN H]
  rfl
theorem r_18 (H : lS n κ φ o h t st) : fX9_odds st 0 (nI n) 0 0 = some (-101, st) := by
  unfold fX9_odds
  rw [x_has0 H, x_hasN H]
  rfl
theorem r_19 (H : lS n κ φ o h t st) : fX9_odds st 0 0 9 0 = some (-102, st) := by
  unfold fX9_odds
  rw [x_has0 H]
  rfl
theorem r_20 (H : lS n κ φ o h t st) : fX9_odds st 0 0 0 2 = some (-102, st) := by
  unfold fX9_odds
  rw [x_has0 H]
  rfl
theorem r_21 (H : lS n κ φ o h t st) : fX9_ways st 13 = some (-102, st) := by
  unfold fX9_ways
  rw [H.1.stands]
  rfl
theorem r_22 (H : lS n κ φ o h t st) : fX9_must st (-1) = some (-102, st) := by
  unfold fX9_must
  rw [H.1.stands]
  rfl
theorem r_23 (H : lS n κ φ o h t st) : fX9_fewest st = some (-103, st) := by
  unfold fX9_fewest
  rw [if_pos H.2.2.2.2.2.2.2.2.2.2.1]
theorem r_24 (H : lS n κ φ o h t st) : fX9_surely st = some (-103, st) := by
  unfold fX9_surely
  rw [if_pos H.2.2.2.2.2.2.2.2.2.2.1]
theorem l_tail2 (H : lS n κ φ o h t st) : kZ (fL_law_J1486 L xs st) (fun z => z.1 = 1) := by
  have H1 := H.id
  have H2 := H1.id
  have H3 := H2.id
  have H4 := H3.id
  have H5 := H4.id
  unfold fL_law_J1486
  refine kZ.bd (r_19 H) (kZ.ifp rfl ?_)
  unfold fL_law_J1500
  refine kZ.bd (r_20 H1) (kZ.ifp rfl ?_)
  unfold fL_law_J1513
  refine kZ.bd (r_21 H2) (kZ.ifp (lg_cmp_self rfl) ?_)
  unfold fL_law_J1526
  refine kZ.bd (r_22 H3) (kZ.ifp rfl ?_)
  unfold fL_law_J1536
  refine kZ.bd (r_23 H4) (kZ.ifp rfl ?_)
  unfold fL_law_J1545
  exact kZ.bd (r_24 H5) (kZ.ifp rfl (kZ.ret rfl))
theorem l_tail1 (H : lS n κ φ o h t st) : kZ (fL_law_J1365 L xs st (nI n)) (fun z => z.1 = 1) := by
  have H1 := H.id
  have H2 := H1.id
  have H3 := H2.id
  have H4 := H3.id
  have H5 := H4.id
  have H6 := H5.id
  have H7 := H6.id
  have H8 := H7.id
  have H9 := H8.id
  have H10 := H9.id
  unfold fL_law_J1365
  refine kZ.bd (r_9 H) (kZ.ifp rfl ?_)
  unfold fL_law_J1377
  refine kZ.bd (r_10 H1) (kZ.ifp rfl ?_)
  unfold fL_law_J1388
  refine kZ.bd (r_11 H2) (kZ.ifp rfl ?_)
  unfold fL_law_J1400
  refine kZ.bd (r_12 H3) (kZ.ifp rfl ?_)
  unfold fL_law_J1412
  refine kZ.bd (r_13 H4) (kZ.ifp rfl ?_)
  unfold fL_law_J1423
  refine kZ.bd (r_14 H5) (kZ.ifp rfl ?_)
  unfold fL_law_J1435
  refine kZ.bd (r_15 H6) (kZ.ifp rfl ?_)
  unfold fL_law_J1446
  refine kZ.bd (r_16 H7) (kZ.ifp rfl ?_)
  unfold fL_law_J1458
  refine kZ.bd (r_17 H8) (kZ.ifp rfl ?_)
  unfold fL_law_J1472
  exact kZ.bd (r_18 H9) (kZ.ifp rfl (l_tail2 H10))
theorem l_tail (H : lS n κ φ o h t st) : kZ (fL_law_J1275 L xs st (nI n)) (fun z => z.1 = 1) := by
  unfold fL_law_J1275
  refine kZ.bd (r_1 H) (kZ.ifp rfl ?_)
  unfold fL_law_J1287
  refine kZ.bd (r_2 H) (kZ.ifp rfl ?_)
  unfold fL_law_J1298
  refine kZ.ifp (r_3 H) ?_
  unfold fL_law_J1310
  refine kZ.ifp (r_4 H) ?_
  unfold fL_law_J1321
  refine kZ.ifp (r_5 H) ?_
  unfold fL_law_J1332
  refine kZ.ifp r_6 ?_
  unfold fL_law_J1342
  refine kZ.ifp (r_7 H) ?_
  unfold fL_law_J1354
  exact kZ.bd (r_8 H) (kZ.ifp rfl (l_tail1 H))
/-- THE LAW ANSWERS 1, on every script -/
theorem l_law (hL : L ≤ 260) : kZ (fL_law L xs kX0) (fun z => z.1 = 1) := by
  obtain ⟨z, ez, n, κ, φ, e1, H⟩ := l_ring (xs := xs) hL
  have hn := H.1.1
  unfold fL_law
  refine kZ.bd ez ?_
  rw [e1]
  refine kZ.ifp (nI_pos' hn.lt) ?_
  refine l_J37 H ?_
  unfold fL_law_J216
  refine l_L219 hL H (fun o h t st' w H' => ?_)
  exact l_tail H'
end LZ
