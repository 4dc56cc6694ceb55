/-! night -/
theorem x_remember {st : kS} : kZ (fX3_remember_3 st) (fun z => kSame [7] [] [14] [] st z ∧ (∀ j, j < 6 → gA z 14 j = gA st 13 j) ∧ gI z 7 = gI st 7 + 1) := by
  unfold fX3_remember_3
  refine kfor (σ := kS) (fun F i s => fX3_remember_3_L2 _ F i s) (fun i s => kSame [] [] [14] [] st s ∧ ∀ j, j < i → gA s 14 j = gA st 13 j) 6 ?_ ?_ kFU 0 st (Nat.zero_le _) (kFU_lt0 (by decide)) ⟨kSame.rf, fun j hj => absurd hj (Nat.not_lt_zero j)⟩
  · rintro F s ⟨hs, ht⟩
    show kZ (fX3_remember_3_L2_B _ _ s (nI 6)) _
    unfold fX3_remember_3_L2_B
    exact kZ.ifp (by decide) (kZ.ret ⟨(hs.sub (by decide) (by decide) (by decide) (by decide)).sI (by decide) _, ht, by rw [gI_e, hs.1 7 (by decide)]⟩)
  · rintro F i s hi ⟨hs, ht⟩ next
    show kZ (fX3_remember_3_L2_B _ _ s (nI i)) _
    unfold fX3_remember_3_L2_B
    rw [l6]
    refine kZ.ifn (nI_ge hi (by decide)) ?_
    rw [kg_n _ hi (by decide), kp_n _ _ hi (by decide), show nI i + 1 = nI (i + 1) from nI_1 i]
    refine next _ ⟨hs.sA (by decide) _, fun j hj => ?_⟩
    rw [gA_e, hs.2.2.1 13 (by decide)]
    by_cases e : j = i
    · rw [e, upd_e]
    · rw [upd_n e]
      exact ht j (by omega)
section NI
variable {n o : Nat} {κ : Nat → Nat} {φ : Nat → Nat → Bool} {st : kS}
theorem x_midnight (h : xR n κ φ st) (ho : uO n o (gA st 13)) {p : Nat} (hp : p < n) : kZ (fX9_midnight st (nI p)) (fun z => z.1 = b01 (!(uBar n κ p)) ∧ kSame [7] [] [13, 14] [] st z.2 ∧ uO n (xStep n κ o p) (gA z.2 13) ∧ uO n o (gA z.2 14) ∧ gI z.2 7 = gI st 7 + 1) := by
  have hn := h.1
  have hn6 := hn.2
  unfold fX9_midnight
  refine (x_remember (st := st)).bind (fun z hz => ?_)
  obtain ⟨hs, h14, h7⟩ := hz
  have hx := h.same hs (by decide)
  have o13 : uO n o (gA z 13) := by rw [hs.2.2.1 13 (by decide)]; exact ho
  have o14 : uO n o (gA z 14) := ho.cp hn h14
  have hq := uN_lt hn hp
  rw [hx.barred hp]
  cases hb : uBar n κ p with
  | true =>
    refine kZ.ifn (by decide) (kZ.ret ⟨rfl, hs.sub (by decide) (by decide) (by decide) (by decide), ?_, o14, h7⟩)
    unfold xStep
    rw [hb, if_pos rfl]
    exact o13
  | false =>
    refine kZ.ifp rfl ?_
    rw [hx.next hp]
    unfold fX3_change_3
    rw [hx.houseIn o13 hp, hx.houseIn o13 hq, kp_n _ _ (show p < 6 by omega) (by decide), kp_n _ _ (show uN n p < 6 by omega) (by decide)]
    refine kZ.ret ⟨rfl, ((hs.sub (by decide) (by decide) (by decide) (by decide)).sA (by decide) _).sA (by decide) _, ?_, ?_, ?_⟩
    · unfold xStep
      rw [hb, if_neg (by decide)]
      refine ⟨uC_lt hn ho.1 hp, fun j hj => ?_⟩
      show gA (sA (sA z 13 _) 13 _) 13 j = _
      rw [gA_e, uD_uC hn ho.1 hp hj]
      by_cases e1 : j = uN n p
      · rw [e1, upd_e, if_neg (uN_ne hn hp), if_pos rfl]
      · rw [upd_n e1]
        by_cases e2 : j = p
        · rw [e2, upd_e, if_pos rfl]
        · rw [upd_n e2, if_neg e2, if_neg e1]
          exact o13.2 j hj
    · show uO n o (gA (sA (sA z 13 _) 13 _) 14)
      rw [gA_n (by decide), gA_n (by decide)]
      exact o14
    · exact h7
theorem m_nightA {Q : Int32 × kS → Prop} {K : Int32 → kS → Option (Int32 × kS)} {v3 v4 : Int32} (h0 : gI st 0 = nI n) (hn : uHn n) (hK : ∀ v s, kSame [] [] [4] [] st s → (∀ j, j < n → gA s 4 j = gA st 3 j) → kZ (K v s) Q) : kZ (fX10_goNight_L21 K v3 v4 kFU 0 st) Q := by
  have hn6 := hn.2
  refine kfor (σ := kS) (fun F i s => fX10_goNight_L21 K v3 v4 F i s) (fun i s => kSame [] [] [4] [] st s ∧ ∀ j, j < i → gA s 4 j = gA st 3 j) n ?_ ?_ kFU 0 st (Nat.zero_le _) (kFU_lt0 (by omega)) ⟨kSame.rf, fun j hj => absurd hj (Nat.not_lt_zero j)⟩
  · rintro F s ⟨hs, ht⟩
    show kZ (fX10_goNight_L21_B _ _ s v3 v4 (nI n)) _
    unfold fX10_goNight_L21_B
    rw [hs.1 0 (by decide), h0]
    exact kZ.ifp (nI_le (Nat.le_refl n) hn.lt) (hK _ s hs ht)
  · rintro F i s hi ⟨hs, ht⟩ next
    show kZ (fX10_goNight_L21_B _ _ s v3 v4 (nI i)) _
    unfold fX10_goNight_L21_B
    rw [hs.1 0 (by decide), h0]
    refine kZ.ifn (nI_ge hi hn.lt) (kZ.ka (show i < 6 by omega) (by decide) (kZ.gd (show i < 6 by omega) (by decide) ?_))
    rw [nI_clamp (n_lt31 (by omega)), show nI i + 1 = nI (i + 1) from nI_1 i, hs.2.2.1 3 (by decide)]
    refine next _ ⟨hs.sA (by decide) _, fun j hj => ?_⟩
    rw [gA_e]
    by_cases e : j = i
    · rw [e, upd_e]
    · rw [upd_n e]; exact ht j (by omega)
theorem m_nightB {Q : Int32 × kS → Prop} {K : Int32 → kS → Option (Int32 × kS)} {v3 v4 : Int32} (h0 : gI st 0 = nI n) (hn : uHn n) (hK : ∀ v s, kSame [] [] [3] [] st s → (∀ j, j < n → gA s 3 j = gA st 15 j) → kZ (K v s) Q) : kZ (fX10_goNight_L65 K v3 v4 kFU 0 st) Q := by
  have hn6 := hn.2
  refine kfor (σ := kS) (fun F i s => fX10_goNight_L65 K v3 v4 F i s) (fun i s => kSame [] [] [3] [] st s ∧ ∀ j, j < i → gA s 3 j = gA st 15 j) n ?_ ?_ kFU 0 st (Nat.zero_le _) (kFU_lt0 (by omega)) ⟨kSame.rf, fun j hj => absurd hj (Nat.not_lt_zero j)⟩
  · rintro F s ⟨hs, ht⟩
    show kZ (fX10_goNight_L65_B _ _ s v3 v4 (nI n)) _
    unfold fX10_goNight_L65_B
    rw [hs.1 0 (by decide), h0]
    exact kZ.ifp (nI_le (Nat.le_refl n) hn.lt) (hK _ s hs ht)
  · rintro F i s hi ⟨hs, ht⟩ next
    show kZ (fX10_goNight_L65_B _ _ s v3 v4 (nI i)) _
    unfold fX10_goNight_L65_B
    rw [hs.1 0 (by decide), h0]
    refine kZ.ifn (nI_ge hi hn.lt) (kZ.ka (show i < 6 by omega) (by decide) (kZ.gd (show i < 6 by omega) (by decide) ?_))
    rw [nI_clamp (n_lt31 (by omega)), show nI i + 1 = nI (i + 1) from nI_1 i, hs.2.2.1 15 (by decide)]
    refine next _ ⟨hs.sA (by decide) _, fun j hj => ?_⟩
    rw [gA_e]
    by_cases e : j = i
    · rw [e, upd_e]
    · rw [upd_n e]; exact ht j (by omega)
theorem uC_ne' (hn : uHn n) (ho : o < uF n) {p : Nat} (hp : p < n) : uC n o p ≠ o := fun e => by
  have h1 := uD_uC hn ho hp hp
  rw [e, if_pos rfl] at h1
  have := uD_inj hn ho hp (uN_lt hn hp) h1
  exact uN_ne hn hp this.symm
theorem m_goNight (h : mR n κ φ st) (ho : uO n o (gA st 3)) (hc : uCompat n κ o) {d c : Nat} (hd : d < n) (hc3 : c < 3) : kZ (fX10_goNight st (nI d) (nI c - 1)) (fun z => z.1 = b01 (!(uBar n κ (aP n d c))) ∧ kSame [2] [] [3, 4, 15] [] st z.2 ∧ uO n (xStep n κ o (aP n d c)) (gA z.2 3) ∧ uO n o (gA z.2 4) ∧ gI z.2 2 = gI st 2 + 1) := by
  have hn := h.1
  have hn6 := hn.2
  have hp := aP_lt (d := d) (c := c) hn
  have hko := ho.1
  have hF := uF_le hn
  have hx := xStep_lt (κ := κ) hn hko hp
  unfold fX10_goNight
  rw [h.index ho, h.placeBy hd hc3]
  simp only [Option.bind_some]
  rw [h.behind hko hp, mStep_eq hn hko hc hp]
  simp only [Option.bind_some]
  refine m_nightA h.2.1 hn (fun v s hs h4 => ?_)
  have hms := h.same hs (by decide)
  refine kZ.ka (show xStep n κ o (aP n d c) < 720 by omega) (by decide) ?_
  rw [hms.2.2.2.2.2.1 _ hx]
  refine (m_thinkO hn hms.2.1 hx).bind (fun z hz => ?_)
  refine m_nightB ((hz.1.1 0 (by decide)).trans hms.2.1) hn (fun v s2 hs2 h3 => ?_)
  have k2 : kSame [] [] [3, 4, 15] [] st s2 := ((hs.sub (by decide) (by decide) (by decide) (by decide)).trans (hz.1.sub (by decide) (by decide) (by decide) (by decide))).trans (hs2.sub (by decide) (by decide) (by decide) (by decide))
  have o3 : uO n (xStep n κ o (aP n d c)) (gA s2 3) := ⟨hx, fun j hj => by rw [h3 j hj]; exact hz.2.2 j hj⟩
  have o4 : uO n o (gA s2 4) := ⟨hko, fun j hj => by rw [hs2.2.2.1 4 (by decide), hz.1.2.2.1 4 (by decide), h4 j hj]; exact ho.2 j hj⟩
  have e2 : gI s2 2 = gI st 2 := k2.1 2 (by decide)
  have k3 : kSame [2] [] [3, 4, 15] [] st (sI s2 2 ((gI s2 2) + 1)) := (k2.sub (by decide) (by decide) (by decide) (by decide)).sI (by decide) _
  have e3 : gI (sI s2 2 ((gI s2 2) + 1)) 2 = gI st 2 + 1 := by rw [gI_e, e2]
  have fin : ∀ b : Bool, b = !(uBar n κ (aP n d c)) → kZ (some ((b01 b), (sI s2 2 ((gI s2 2) + 1)))) (fun z => z.1 = b01 (!(uBar n κ (aP n d c))) ∧ kSame [2] [] [3, 4, 15] [] st z.2 ∧ uO n (xStep n κ o (aP n d c)) (gA z.2 3) ∧ uO n o (gA z.2 4) ∧ gI z.2 2 = gI st 2 + 1) := fun b hb => kZ.ret ⟨by rw [hb], k3, o3, o4, e3⟩
  cases hb : uBar n κ (aP n d c) with
  | true =>
    rw [hb] at fin
    refine kZ.ifp ?_ (fin false rfl)
    unfold xStep
    rw [hb, if_pos rfl]
  | false =>
    rw [hb] at fin
    refine kZ.ifn (fun q => ?_) (fin true rfl)
    have := nI_inj (uF.lk hn hx) (uF.lk hn hko) q
    unfold xStep at this
    rw [hb, if_neg (by decide)] at this
    exact uC_ne' hn hko hp this
end NI
