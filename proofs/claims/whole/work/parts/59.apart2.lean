/-! APART in the reference -/
theorem uT_le {n : Nat} {κ : Nat → Nat} {φ : Nat → Nat → Bool} (k : Nat) : uT n κ φ k ≤ n := by
  have : ∀ l : List (Nat × Nat), (l.map (uG κ φ)).sum ≤ l.length := by
    intro l
    induction l with
    | nil => exact Nat.le_refl _
    | cons x t ih =>
      rw [List.map_cons, List.sum_cons, List.length_cons]
      have : uG κ φ x ≤ 1 := by unfold uG; split <;> omega
      omega
  have h2 := this (uEdges n k)
  have h3 : (uEdges n k).length = n := by unfold uEdges; rw [List.length_map, List.length_range]
  unfold uT
  omega
theorem uT_0 {n k : Nat} {κ : Nat → Nat} {φ : Nat → Nat → Bool} (hn : uHn n) : nI (uT n κ φ k) = 0 ↔ uT n κ φ k = 0 := by
  have := uT_le (n := n) (κ := κ) (φ := φ) k
  have := hn.2
  exact nI_eq (n_lt31 (by omega)) (by decide)
theorem m_bestFor {n k d : Nat} {κ : Nat → Nat} {φ : Nat → Nat → Bool} {st : kS} {A : Nat → Nat} (h : mR n κ φ st) (hA : ∀ j, j < uF n → gA st 16 j = nI (A j)) (hB : ∀ j, A j ≤ 7776) (hk : k < uF n) (hd : d < n) : fX10_bestFor st (nI k) (nI d) = some (nI (aM (A (mStep n κ k (aP n d 0))) (A (mStep n κ k (aP n d 1))) (A (mStep n κ k (aP n d 2))))) := by
  have hn := h.1
  have hF := uF_le hn
  have turn : ∀ F b c, b ≤ 7776 → c < 3 → fX10_bestFor_L5 (fun v3_7 _ => some v3_7) st (nI k) (nI d) (F + 1) (nI b) (nI c - 1) = fX10_bestFor_L5 (fun v3_7 _ => some v3_7) st (nI k) (nI d) F (nI (max b (A (mStep n κ k (aP n d c))))) (nI (c + 1) - 1) := by
    intro F b c hb hc
    show fX10_bestFor_L5_B _ _ st (nI k) (nI d) (nI b) (nI c - 1) = _
    unfold fX10_bestFor_L5_B
    have hm := mStep_lt (κ := κ) hn hk (aP_lt (d := d) (c := c) hn)
    rw [if_neg (by have : ∀ c, c < 3 → ¬ (2 : Int32) ≤ nI c - 1 := by decide +kernel
                   exact this c hc), h.placeBy hd hc]
    show (fX10_behind st (nI k) (nI (aP n d c))).bind _ = _
    rw [h.behind hk (aP_lt hn)]
    show (ka 720 (gA st 16) (nI (mStep n κ k (aP n d c)))).bind _ = _
    rw [ka_n _ (by omega) (by decide), hA _ hm]
    show (if nI (A (mStep n κ k (aP n d c))) ≤ nI b then _ else _) = _
    have h1 := hB (mStep n κ k (aP n d c))
    have e : nI c - 1 + 1 = nI (c + 1) - 1 := by
      have : ∀ c, c < 3 → nI c - 1 + 1 = nI (c + 1) - 1 := by decide +kernel
      exact this c hc
    rw [e]
    by_cases q : A (mStep n κ k (aP n d c)) ≤ b
    · rw [if_pos (nI_le q (n_lt31 (by omega))), Nat.max_eq_left q]
    · rw [if_neg (nI_ge (by omega) (n_lt31 (by omega))), Nat.max_eq_right (by omega)]
  unfold fX10_bestFor
  obtain ⟨F, hF⟩ : ∃ F, kFU = F + 4 := ⟨59996, rfl⟩
  have b0 := hB (mStep n κ k (aP n d 0))
  have b1 := hB (mStep n κ k (aP n d 1))
  rw [hF]
  refine (turn (F + 3) 0 0 (by decide) (by decide)).trans ?_
  refine (turn (F + 2) _ 1 (by omega) (by decide)).trans ?_
  refine (turn (F + 1) _ 2 (by omega) (by decide)).trans ?_
  show fX10_bestFor_L5_B _ _ st (nI k) (nI d) _ (nI 3 - 1) = _
  unfold fX10_bestFor_L5_B
  rw [if_pos (by decide)]
  unfold aM
  rw [Nat.zero_max, Nat.max_assoc]
theorem m_layApart_0 {n : Nat} {κ : Nat → Nat} {φ : Nat → Nat → Bool} {st : kS} {Q : kS → Prop} {K : Int32 → kS → Option kS} {v1 : Int32} (h : mR n κ φ st) (hK : ∀ v s, kSame [] [] [15, 16] [] st s → (∀ j, j < uF n → gA s 16 j = nI (aS n (uT n κ φ) (mStep n κ) 0 j)) → kZ (K v s) Q) : kZ (fX10_layApart_L2 K v1 kFU 0 st) Q := by
  have hn := h.1
  have hF := uF_le hn
  refine kfor (σ := kS) (fun F i s => fX10_layApart_L2 K v1 F i s) (fun i s => kSame [] [] [15, 16] [] st s ∧ ∀ j, j < i → gA s 16 j = nI (aS n (uT n κ φ) (mStep n κ) 0 j)) (uF n) ?_ ?_ kFU 0 st (Nat.zero_le _) (kFU_lt0 (by omega)) ⟨kSame.rf, fun j hj => absurd hj (Nat.not_lt_zero j)⟩
  · rintro F s ⟨hs, hj⟩
    show kZ (fX10_layApart_L2_B _ _ s v1 (nI (uF n))) _
    unfold fX10_layApart_L2_B
    have hx := h.same hs (by decide)
    rw [hx.2.2.2.2.1]
    exact kZ.ifp (nI_le (Nat.le_refl _) (uF.lt hn)) (hK _ _ hs hj)
  · rintro F i s hi ⟨hs, hj⟩ next
    show kZ (fX10_layApart_L2_B _ _ s v1 (nI i)) _
    unfold fX10_layApart_L2_B
    have hx := h.same hs (by decide)
    rw [hx.2.2.2.2.1]
    refine kZ.ifn (nI_ge hi (uF.lt hn)) (kZ.ka (by omega) (by decide) ?_)
    rw [hx.2.2.2.2.2.1 i hi]
    refine (m_thinkO hn hx.2.1 hi).bind (fun z hz => ?_)
    obtain ⟨hs2, ho⟩ := hz
    have hx2 := hx.same hs2 (by decide)
    rw [m_touchIn hx2 ho]
    show kZ (if nI (uT n κ φ i) = 0 then _ else _) _
    rw [show nI i + 1 = nI (i + 1) from nI_1 i]
    have fin : ∀ v, v = nI (aS n (uT n κ φ) (mStep n κ) 0 i) → kZ (fX10_layApart_L2 K v1 F (nI (i + 1)) (sA z.2 16 (upd (gA z.2 16) (nI i).toNatClampNeg v))) Q := by
      intro v hv
      rw [nI_clamp (n_lt31 (by omega))]
      refine next _ ⟨(hs.trans (hs2.sub (by decide) (by decide) (by decide) (by decide))).sA (by decide) _, fun j hj' => ?_⟩
      rw [gA_e]
      by_cases e : j = i
      · rw [e, upd_e, hv]
      · rw [upd_n e, hs2.2.2.1 16 (by decide)]
        exact hj j (by omega)
    refine kZ.ite (fun e => kZ.gd (by omega) (by decide) (fin _ ?_)) (fun e => kZ.gd (by omega) (by decide) (fin _ ?_))
    · show (1 : Int32) = nI (if uT n κ φ i = 0 then 1 else 0)
      rw [if_pos ((uT_0 hn).mp e)]
      rfl
    · show (0 : Int32) = nI (if uT n κ φ i = 0 then 1 else 0)
      rw [if_neg (fun q => e ((uT_0 hn).mpr q))]
      rfl
theorem m_layApart_die {n t i : Nat} {κ : Nat → Nat} {φ : Nat → Nat → Bool} {st : kS} {Q : kS → Prop} {K : Int32 → kS → Option kS} {v1 v2 : Int32} (h : mR n κ φ st) (ht : t ≤ 4) (hi : i < uF n) (hA : ∀ j, j < uF n → gA st 16 j = nI (aS n (uT n κ φ) (mStep n κ) t j)) (h0 : gA st 17 i = 0) (hT : uT n κ φ i = 0) (hK : ∀ v s, kSame [] [] [17] [] st s → (∀ j, j ≠ i → gA s 17 j = gA st 17 j) → gA s 17 i = nI (aS n (uT n κ φ) (mStep n κ) (t + 1) i) → kZ (K v s) Q) : kZ (fX10_layApart_L105 K v1 v2 (nI i) 1 kFU 0 st) Q := by
  have hn := h.1
  have hn6 := hn.2
  have hF := uF_le hn
  have e1 : aS n (uT n κ φ) (mStep n κ) (t + 1) i = uRow (fun d => aM (aS n (uT n κ φ) (mStep n κ) t (mStep n κ i (aP n d 0))) (aS n (uT n κ φ) (mStep n κ) t (mStep n κ i (aP n d 1))) (aS n (uT n κ φ) (mStep n κ) t (mStep n κ i (aP n d 2)))) n 0 := if_pos hT
  rw [e1] at hK
  generalize hg : (fun d => aM (aS n (uT n κ φ) (mStep n κ) t (mStep n κ i (aP n d 0))) (aS n (uT n κ φ) (mStep n κ) t (mStep n κ i (aP n d 1))) (aS n (uT n κ φ) (mStep n κ) t (mStep n κ i (aP n d 2)))) = g at hK
  refine kfor (σ := kS) (fun F d s => fX10_layApart_L105 K v1 v2 (nI i) 1 F d s) (fun d s => kSame [] [] [17] [] st s ∧ (∀ j, j ≠ i → gA s 17 j = gA st 17 j) ∧ ∃ v, gA s 17 i = nI v ∧ v + uRow g n d = uRow g n 0) n ?_ ?_ kFU 0 st (Nat.zero_le _) (kFU_lt0 (by omega)) ⟨kSame.rf, fun _ _ => rfl, 0, h0, Nat.zero_add _⟩
  · rintro F s ⟨hs, hj, v, hv, hv2⟩
    show kZ (fX10_layApart_L105_B _ _ s v1 v2 (nI i) 1 (nI n)) _
    unfold fX10_layApart_L105_B
    have hx := h.same hs (by decide)
    rw [hx.2.1]
    rw [uRow_e (Nat.le_refl n)] at hv2
    exact kZ.ifp (nI_le (Nat.le_refl _) hn.lt) (hK _ _ hs hj (by rw [hv, ← hv2]; rfl))
  · rintro F d s hd ⟨hs, hj, v, hv, hv2⟩ next
    show kZ (fX10_layApart_L105_B _ _ s v1 v2 (nI i) 1 (nI d)) _
    unfold fX10_layApart_L105_B
    have hx := h.same hs (by decide)
    rw [hx.2.1]
    refine kZ.ifn (nI_ge hd hn.lt) (kZ.ifn (by decide) (kZ.ka (by omega) (by decide) ?_))
    rw [m_bestFor hx (A := aS n (uT n κ φ) (mStep n κ) t) (fun j hj => by rw [hs.2.2.1 16 (by decide)]; exact hA j hj) (fun j => aS_small hn (by omega)) hi hd]
    refine kZ.gd (by omega) (by decide) ?_
    rw [show nI d + 1 = nI (d + 1) from nI_1 d, nI_clamp (n_lt31 (by omega)), hv, nI_add]
    refine next _ ⟨hs.sA (by decide) _, fun j e => ?_, ?_⟩
    · rw [gA_e, upd_n e]
      exact hj j e
    · refine ⟨_, by rw [gA_e, upd_e], ?_⟩
      rw [uRow_s hd] at hv2
      rw [← hg] at hv2 ⊢
      dsimp only at hv2
      omega
theorem m_layApart_t {n t : Nat} {κ : Nat → Nat} {φ : Nat → Nat → Bool} {st : kS} {Q : kS → Prop} {K : Int32 → kS → Option kS} {v1 v2 : Int32} (h : mR n κ φ st) (ht : t ≤ 4) (hA : ∀ j, j < uF n → gA st 16 j = nI (aS n (uT n κ φ) (mStep n κ) t j)) (hK : ∀ v s, kSame [] [] [15, 17] [] st s → (∀ j, j < uF n → gA s 17 j = nI (aS n (uT n κ φ) (mStep n κ) (t + 1) j)) → kZ (K v s) Q) : kZ (fX10_layApart_L58 K v1 v2 kFU 0 st) Q := by
  have hn := h.1
  have hF := uF_le hn
  refine kfor (σ := kS) (fun F i s => fX10_layApart_L58 K v1 v2 F i s) (fun i s => kSame [] [] [15, 17] [] st s ∧ ∀ j, j < i → gA s 17 j = nI (aS n (uT n κ φ) (mStep n κ) (t + 1) j)) (uF n) ?_ ?_ kFU 0 st (Nat.zero_le _) (kFU_lt0 (by omega)) ⟨kSame.rf, fun j hj => absurd hj (Nat.not_lt_zero j)⟩
  · rintro F s ⟨hs, hj⟩
    show kZ (fX10_layApart_L58_B _ _ s v1 v2 (nI (uF n))) _
    unfold fX10_layApart_L58_B
    have hx := h.same hs (by decide)
    rw [hx.2.2.2.2.1]
    exact kZ.ifp (nI_le (Nat.le_refl _) (uF.lt hn)) (hK _ _ hs hj)
  · rintro F i s hi ⟨hs, hj⟩ next
    show kZ (fX10_layApart_L58_B _ _ s v1 v2 (nI i)) _
    unfold fX10_layApart_L58_B
    have hx := h.same hs (by decide)
    rw [hx.2.2.2.2.1]
    refine kZ.ifn (nI_ge hi (uF.lt hn)) (kZ.gd (by omega) (by decide) (kZ.ka (by omega) (by decide) ?_))
    rw [hx.2.2.2.2.2.1 i hi, nI_clamp (n_lt31 (by omega))]
    have hs1 : kSame [] [] [15, 17] [] st (sA s 17 (upd (gA s 17) i 0)) := hs.sA (by decide) _
    have hx1 := h.same hs1 (by decide)
    refine (m_thinkO hn hx1.2.1 hi).bind (fun z hz => ?_)
    obtain ⟨hs2, ho⟩ := hz
    have hx2 := hx1.same hs2 (by decide)
    have hs3 : kSame [] [] [15, 17] [] st z.2 := hs1.trans (hs2.sub (by decide) (by decide) (by decide) (by decide))
    have z17 : gA z.2 17 = upd (gA s 17) i 0 := (hs2.2.2.1 17 (by decide)).trans (gA_e _ _ _)
    rw [m_touchIn hx2 ho]
    show kZ (if nI (uT n κ φ i) = 0 then _ else _) _
    refine kZ.ite (fun e => ?_) (fun e => ?_)
    · refine m_layApart_die hx2 ht hi (fun j hj' => by rw [hs3.2.2.1 16 (by decide)]; exact hA j hj') (by rw [z17, upd_e]) ((uT_0 hn).mp e) ?_
      intro v s4 hs4 ho4 hi4
      rw [show nI i + 1 = nI (i + 1) from nI_1 i]
      refine next _ ⟨hs3.trans (hs4.sub (by decide) (by decide) (by decide) (by decide)), fun j hj' => ?_⟩
      by_cases q : j = i
      · rw [q]; exact hi4
      · rw [ho4 j q, z17, upd_n q]
        exact hj j (by omega)
    · obtain ⟨F0, hF0⟩ : ∃ F0, kFU = F0 + 1 := ⟨59999, rfl⟩
      rw [hF0]
      show kZ (fX10_layApart_L105_B _ _ z.2 v1 v2 (nI i) 0 0) _
      unfold fX10_layApart_L105_B
      have e0 : aS n (uT n κ φ) (mStep n κ) (t + 1) i = 0 := if_neg (fun q => e ((uT_0 hn).mpr q))
      have fin : kZ (fX10_layApart_L58 K v1 v2 F (nI i + 1) z.2) Q := by
        rw [show nI i + 1 = nI (i + 1) from nI_1 i]
        refine next _ ⟨hs3, fun j hj' => ?_⟩
        rw [z17]
        by_cases q : j = i
        · rw [q, upd_e, e0]; rfl
        · rw [upd_n q]
          exact hj j (by omega)
      exact kZ.ite (fun _ => fin) (fun _ => kZ.ifp rfl fin)
theorem m_copy16 {n : Nat} {κ : Nat → Nat} {φ : Nat → Nat → Bool} {st : kS} {Q : kS → Prop} {K : Int32 → kS → Option kS} {v1 v2 : Int32} (h : mR n κ φ st) (hK : ∀ v s, kSame [] [] [16] [] st s → (∀ j, j < uF n → gA s 16 j = gA st 17 j) → kZ (K v s) Q) : kZ (fX10_layApart_L149 K v1 v2 kFU 0 st) Q := by
  have hn := h.1
  have hF := uF_le hn
  refine kfor (σ := kS) (fun F i s => fX10_layApart_L149 K v1 v2 F i s) (fun i s => kSame [] [] [16] [] st s ∧ ∀ j, j < i → gA s 16 j = gA st 17 j) (uF n) ?_ ?_ kFU 0 st (Nat.zero_le _) (kFU_lt0 (by omega)) ⟨kSame.rf, fun j hj => absurd hj (Nat.not_lt_zero j)⟩
  · rintro F s ⟨hs, hj⟩
    show kZ (fX10_layApart_L149_B _ _ s v1 v2 (nI (uF n))) _
    unfold fX10_layApart_L149_B
    have hx := h.same hs (by decide)
    rw [hx.2.2.2.2.1]
    exact kZ.ifp (nI_le (Nat.le_refl _) (uF.lt hn)) (hK _ _ hs hj)
  · rintro F i s hi ⟨hs, hj⟩ next
    show kZ (fX10_layApart_L149_B _ _ s v1 v2 (nI i)) _
    unfold fX10_layApart_L149_B
    have hx := h.same hs (by decide)
    rw [hx.2.2.2.2.1]
    refine kZ.ifn (nI_ge hi (uF.lt hn)) (kZ.ka (by omega) (by decide) (kZ.gd (by omega) (by decide) ?_))
    rw [show nI i + 1 = nI (i + 1) from nI_1 i, nI_clamp (n_lt31 (by omega))]
    refine next _ ⟨hs.sA (by decide) _, fun j hj' => ?_⟩
    rw [gA_e]
    by_cases q : j = i
    · rw [q, upd_e, hs.2.2.1 17 (by decide)]
    · rw [upd_n q]
      exact hj j (by omega)
theorem m_layApart {n t : Nat} {κ : Nat → Nat} {φ : Nat → Nat → Bool} {st : kS} (h : mR n κ φ st) (ht : t ≤ 5) : kZ (fX10_layApart st (nI t)) (fun z => kSame [] [] [15, 16, 17] [] st z ∧ ∀ j, j < uF n → gA z 16 j = nI (aS n (uT n κ φ) (mStep n κ) t j)) := by
  have hn := h.1
  unfold fX10_layApart
  refine m_layApart_0 h (fun v s0 hs0 hA0 => ?_)
  refine kfor (σ := kS) (fun F i s => fX10_layApart_L51 (fun _ st_38 => some st_38) (nI t) F i s) (fun i s => kSame [] [] [15, 16, 17] [] st s ∧ ∀ j, j < uF n → gA s 16 j = nI (aS n (uT n κ φ) (mStep n κ) i j)) t ?_ ?_ kFU 0 s0 (Nat.zero_le _) (kFU_lt0 (by omega)) ⟨hs0.sub (by decide) (by decide) (by decide) (by decide), hA0⟩
  · rintro F s ⟨hs, hA⟩
    show kZ (fX10_layApart_L51_B _ _ s (nI t) (nI t)) _
    unfold fX10_layApart_L51_B
    exact kZ.ifp (nI_le (Nat.le_refl _) (n_lt31 (by omega))) (kZ.ret ⟨hs, hA⟩)
  · rintro F i s hi ⟨hs, hA⟩ next
    show kZ (fX10_layApart_L51_B _ _ s (nI t) (nI i)) _
    unfold fX10_layApart_L51_B
    refine kZ.ifn (nI_ge hi (n_lt31 (by omega))) ?_
    have hx := h.same hs (by decide)
    refine m_layApart_t hx (by omega) hA (fun v2 s2 hs2 hA2 => ?_)
    have hx2 := hx.same hs2 (by decide)
    refine m_copy16 hx2 (fun v3 s3 hs3 hA3 => ?_)
    rw [show nI i + 1 = nI (i + 1) from nI_1 i]
    exact next _ ⟨(hs.trans (hs2.sub (by decide) (by decide) (by decide) (by decide))).trans (hs3.sub (by decide) (by decide) (by decide) (by decide)), fun j hj => by rw [hA3 j hj]; exact hA2 j hj⟩
theorem m_chooseOf {n k t d : Nat} {κ : Nat → Nat} {φ : Nat → Nat → Bool} {st : kS} (h : mR n κ φ st) (ho : uO n k (gA st 3)) (ht : t < 5) (hd : d < n) : kZ (fX10_chooseOf st (nI d) (nI (t + 1))) (fun z => z.1 = nI (uCh (fun c => aS n (uT n κ φ) (mStep n κ) t (mStep n κ k (aP n d c)))) - 1 ∧ kSame [] [] [15, 16, 17] [] st z.2) := by
  have hn := h.1
  have hF := uF_le hn
  unfold fX10_chooseOf
  rw [nI_pred]
  refine (m_layApart h (show t ≤ 5 by omega)).bind (fun z hz => ?_)
  obtain ⟨hs, hA⟩ := hz
  have hx := h.same hs (by decide)
  have ho' : uO n k (gA z 3) := by rw [hs.2.2.1 3 (by decide)]; exact ho
  obtain ⟨l, hle⟩ : ∃ l : Nat → Nat, l = fun c => aS n (uT n κ φ) (mStep n κ) t (mStep n κ k (aP n d c)) := ⟨_, rfl⟩
  have hL : ∀ c, c < 3 → (fX10_placeBy z (nI d) (nI c - 1)).bind (fun z_4 => (fX10_behind z (nI k) z_4).bind (fun z_5 => ka 720 (gA z 16) z_5)) = some (nI (l c)) := fun c hc => by
    rw [hx.placeBy hd hc]
    show (fX10_behind z (nI k) (nI (aP n d c))).bind _ = _
    rw [hx.behind ho.1 (aP_lt hn)]
    show ka 720 (gA z 16) (nI (mStep n κ k (aP n d c))) = _
    have hm := mStep_lt (κ := κ) hn ho.1 (aP_lt (d := d) (c := c) hn)
    rw [ka_n _ (by omega) (by decide), hA _ hm, hle]
  have hsm : ∀ c, l c < 2 ^ 31 := fun c => by
    rw [hle]
    dsimp only
    exact n_lt31 (by have := aS_small (k := mStep n κ k (aP n d c)) (T := uT n κ φ) (S := mStep n κ) hn (show t ≤ 5 by omega); omega)
  rw [← hle]
  have bb : ∀ {c : Nat} {g : Int32 → Option (Int32 × kS)}, c < 3 → ((fX10_placeBy z (nI d) (nI c - 1)).bind (fun z_4 => (fX10_behind z (nI k) z_4).bind (fun z_5 => (ka 720 (gA z 16) z_5).bind g))) = g (nI (l c)) := fun {c g} hc => by
    have := congrArg (fun o => Option.bind o g) (hL c hc)
    simpa only [Option.bind_assoc, Option.bind_some] using this
  have turn : ∀ F b c, b < 3 → c + 1 < 3 → fX10_chooseOf_L12 (fun v3_14 _ => some (v3_14, z)) z (nI d) (F + 1) (nI b - 1) (nI (c + 1) - 1) = fX10_chooseOf_L12 (fun v3_14 _ => some (v3_14, z)) z (nI d) F (nI (if l b < l (c + 1) then c + 1 else b) - 1) (nI (c + 2) - 1) := by
    intro F b c hb hc
    show fX10_chooseOf_L12_B _ _ z (nI d) (nI b - 1) (nI (c + 1) - 1) = _
    unfold fX10_chooseOf_L12_B
    rw [if_neg (by have : ∀ c, c < 2 → ¬ (2 : Int32) ≤ nI (c + 1) - 1 := by decide +kernel
                   exact this c (by omega)), hx.index ho']
    simp only [Option.bind_some]
    rw [bb hc, bb hb]
    have e : nI (c + 1) - 1 + 1 = nI (c + 2) - 1 := by
      have : ∀ c, c < 2 → nI (c + 1) - 1 + 1 = nI (c + 2) - 1 := by decide +kernel
      exact this c (by omega)
    rw [e]
    by_cases q : l b < l (c + 1)
    · rw [if_neg (nI_ge q (hsm _)), if_pos q]
    · rw [if_pos (nI_le (by omega) (hsm _)), if_neg q]
  obtain ⟨F, hF⟩ : ∃ F, kFU = F + 3 := ⟨59997, rfl⟩
  have e : fX10_chooseOf_L12 (fun v3_14 _ => some (v3_14, z)) z (nI d) kFU (-1) 0 = some (nI (uCh l) - 1, z) := by
    rw [hF]
    refine (turn (F + 2) 0 0 (by decide) (by decide)).trans ?_
    refine (turn (F + 1) _ 1 (by split <;> decide) (by decide)).trans ?_
    show fX10_chooseOf_L12_B _ _ z (nI d) _ (nI 3 - 1) = _
    unfold fX10_chooseOf_L12_B
    rw [if_pos (by decide)]
    unfold uCh
    rfl
  rw [show (fX10_chooseOf_L12 (fun v3_14 v4_15 => some (v3_14, z)) z (nI d) kFU (-1) 0) = _ from e]
  exact kZ.ret ⟨rfl, hs⟩
