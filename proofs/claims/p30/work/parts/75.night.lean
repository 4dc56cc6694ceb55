/-! night -/
theorem x_remember {st : kS} : kZ (fX3_remember_3 st) (fun z => kSame [7] [] [14] [] st z ∧ (∀ j, j < 6 → gA z 14 j = gA st 13 j) ∧ gI z 7 = gI st 7 + 1) := by
  unfold fX3_remember_3
  refine kfor (σ := kS) (fun F i s => fX3_remember_3_L2 _ F i s) (fun i s => kSame [] [] [14] [] st s ∧ ∀ j, j < i → gA s 14 j = gA st 13 j) 6 ?_ ?_ kFU 0 st (Nat.zero_le _) (kFU_lt0 (by decide)) ⟨kSame.rf, fun j hj => absurd hj (Nat.not_lt_zero j)⟩
  · rintro F s ⟨hs, ht⟩
    show kZ (fX3_remember_3_L2_B _ _ s (nI 6)) _
    unfold fX3_remember_3_L2_B
    exact kZ.ifp (by decide) (kZ.ret ⟨(hs.sub (by decide) (by decide) (by decide) (by decide)).sI (by decide) _, ht, by rw [gI_e, hs.1 7 (by decide)]⟩)
  · rintro F i s hi ⟨hs, ht⟩ next
    show kZ (fX3_remember_3_L2_B _ _ s (nI i)) _
    unfold fX3_remember_3_L2_B
    rw [l6]
    refine kZ.ifn (nI_ge hi (by decide)) ?_
    rw [kg_n _ hi (by decide), kp_n _ _ hi (by decide), show nI i + 1 = nI (i + 1) from nI_1 i]
    refine next _ ⟨hs.sA (by decide) _, fun j hj => ?_⟩
    rw [gA_e, hs.2.2.1 13 (by decide)]
    by_cases e : j = i
    · rw [e, upd_e]
    · rw [upd_n e]
      exact ht j (by omega)
section NI
variable {n o : Nat} {κ : Nat → Nat} {φ : Nat → Nat → Bool} {st : kS}
theorem x_midnight (h : xR n κ φ st) (ho : uO n o (gA st 13)) {p : Nat} (hp : p < n) : kZ (fX9_midnight st (nI p)) (fun z => z.1 = b01 (!(uBar n κ p)) ∧ kSame [7] [] [13, 14] [] st z.2 ∧ uO n (xStep n κ o p) (gA z.2 13) ∧ uO n o (gA z.2 14) ∧ gI z.2 7 = gI st 7 + 1) := by
  have hn := h.1
  have hn6 := hn.2
  unfold fX9_midnight
  refine (x_remember (st := st)).bind (fun z hz => ?_)
  obtain ⟨hs, h14, h7⟩ := hz
  have hx := h.same hs (by decide)
  have o13 : uO n o (gA z 13) := by rw [hs.2.2.1 13 (by decide)]; exact ho
  have o14 : uO n o (gA z 14) := ho.cp hn h14
  have hq := uN_lt hn hp
  rw [hx.barred hp]
  cases hb : uBar n κ p with
  | true =>
    refine kZ.ifn (by decide) (kZ.ret ⟨rfl, hs.sub (by decide) (by decide) (by decide) (by decide), ?_, o14, h7⟩)
    unfold xStep
    rw [hb, if_pos rfl]
    exact o13
  | false =>
    refine kZ.ifp rfl ?_
    rw [hx.next hp]
    unfold fX3_change_3
    rw [hx.houseIn o13 hp, hx.houseIn o13 hq, kp_n _ _ (show p < 6 by omega) (by decide), kp_n _ _ (show uN n p < 6 by omega) (by decide)]
    refine kZ.ret ⟨rfl, ((hs.sub (by decide) (by decide) (by decide) (by decide)).sA (by decide) _).sA (by decide) _, ?_, ?_, ?_⟩
    · unfold xStep
      rw [hb, if_neg (by decide)]
      refine ⟨uC_lt hn ho.1 hp, fun j hj => ?_⟩
      show gA (sA (sA z 13 _) 13 _) 13 j = _
      rw [gA_e, uD_uC hn ho.1 hp hj]
      by_cases e1 : j = uN n p
      · rw [e1, upd_e, if_neg (uN_ne hn hp), if_pos rfl]
      · rw [upd_n e1]
        by_cases e2 : j = p
        · rw [e2, upd_e, if_pos rfl]
        · rw [upd_n e2, if_neg e2, if_neg e1]
          exact o13.2 j hj
    · show uO n o (gA (sA (sA z 13 _) 13 _) 14)
      rw [gA_n (by decide), gA_n (by decide)]
      exact o14
    · exact h7
theorem uC_ne' (hn : uHn n) (ho : o < uF n) {p : Nat} (hp : p < n) : uC n o p ≠ o := fun e => by
  have h1 := uD_uC hn ho hp hp
  rw [e, if_pos rfl] at h1
  have := uD_inj hn ho hp (uN_lt hn hp) h1
  exact uN_ne hn hp this.symm
end NI
