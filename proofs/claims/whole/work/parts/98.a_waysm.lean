/-! ways and must: the reference -/
def mY (n : Nat) (κ : Nat → Nat) (w t : Nat) (s : kS) : Prop := ∀ k, k < uF n → gL s 22 k = lN (yW n κ w t k)
def mZ (n : Nat) (κ : Nat → Nat) (w t i j : Nat) (s : kS) : Prop := ∀ k, k < uF n → gL s 23 k = lN (yP n κ w (yW n κ w t) i j k)
theorem mY.same {n w t : Nat} {κ : Nat → Nat} {s u : kS} {I J A L : List Nat} (h : mY n κ w t s) (hs : kSame I J A L s u) (dL : 22 ∉ L) : mY n κ w t u := fun k hk => by
  rw [hs.2.2.2 22 dL]
  exact h k hk
section WM
variable {n w : Nat} {κ : Nat → Nat} {φ : Nat → Nat → Bool} {st : kS} {Q : Int64 × kS → Prop}
theorem m_ways2 {K : Int32 → kS → Option (Int64 × kS)} {v1 v2 : Int32} (h : mR n κ φ st) (hK : ∀ v s, kSame [] [] [] [22] st s → mY n κ w 0 s → kZ (K v s) Q) : kZ (fX10_waysOf_L2 K v1 v2 kFU 0 st) Q := by
  have hn := h.1
  have hF := uF_le hn
  refine kfor (σ := kS) (fun F i s => fX10_waysOf_L2 K v1 v2 F i s) (fun i s => kSame [] [] [] [22] st s ∧ ∀ k, k < i → gL s 22 k = lN (if k = 0 then 1 else 0)) (uF n) ?_ ?_ kFU 0 st (Nat.zero_le _) (kFU_lt0 (by omega)) ⟨kSame.rf, fun k q => absurd q (Nat.not_lt_zero k)⟩
  · rintro F s ⟨hs, hz⟩
    show kZ (fX10_waysOf_L2_B _ _ s v1 v2 (nI (uF n))) _
    unfold fX10_waysOf_L2_B
    rw [(h.same hs (by decide)).2.2.2.2.1]
    exact kZ.ifp (nI_le (Nat.le_refl _) (uF.lt hn)) (hK _ s hs hz)
  · rintro F i s hi ⟨hs, hz⟩ next
    show kZ (fX10_waysOf_L2_B _ _ s v1 v2 (nI i)) _
    unfold fX10_waysOf_L2_B
    rw [(h.same hs (by decide)).2.2.2.2.1]
    refine kZ.ifn (nI_ge hi (uF.lt hn)) ?_
    have nx : ∀ v, v = lN (if i = 0 then 1 else 0) → kSame [] [] [] [22] st (sL s 22 (vp_updL (gL s 22) i v)) ∧ ∀ k, k < i + 1 → gL (sL s 22 (vp_updL (gL s 22) i v)) 22 k = lN (if k = 0 then 1 else 0) := fun v hv => by
      refine ⟨hs.sL (by decide) _, fun k hk => ?_⟩
      rw [gL_e]
      by_cases e : k = i
      · rw [e, updL_e]; exact hv
      · rw [updL_n e]; exact hz k (by omega)
    refine kZ.ite (fun e => kZ.gd (show i < 720 by omega) (by decide) ?_) (fun e => kZ.gd (show i < 720 by omega) (by decide) ?_)
    · have e2 : i = 0 := nI_inj (n_lt31 (by omega)) (by decide) e
      rw [nI_clamp (n_lt31 (by omega)), show nI i + 1 = nI (i + 1) from nI_1 i]
      exact next _ (nx _ (by rw [if_pos e2]; rfl))
    · have e2 : ¬ i = 0 := fun q => e (by rw [q]; rfl)
      rw [nI_clamp (n_lt31 (by omega)), show nI i + 1 = nI (i + 1) from nI_1 i]
      exact next _ (nx _ (by rw [if_neg e2]; rfl))
theorem m_ways41 {K : Int32 → kS → Option (Int64 × kS)} {v1 v2 v3 : Int32} (h : mR n κ φ st) (hK : ∀ v s, kSame [] [] [] [23] st s → (∀ k, k < uF n → gL s 23 k = lN 0) → kZ (K v s) Q) : kZ (fX10_waysOf_L41 K v1 v2 v3 kFU 0 st) Q := by
  have hn := h.1
  have hF := uF_le hn
  refine kfor (σ := kS) (fun F i s => fX10_waysOf_L41 K v1 v2 v3 F i s) (fun i s => kSame [] [] [] [23] st s ∧ ∀ k, k < i → gL s 23 k = lN 0) (uF n) ?_ ?_ kFU 0 st (Nat.zero_le _) (kFU_lt0 (by omega)) ⟨kSame.rf, fun k q => absurd q (Nat.not_lt_zero k)⟩
  · rintro F s ⟨hs, hz⟩
    show kZ (fX10_waysOf_L41_B _ _ s v1 v2 v3 (nI (uF n))) _
    unfold fX10_waysOf_L41_B
    rw [(h.same hs (by decide)).2.2.2.2.1]
    exact kZ.ifp (nI_le (Nat.le_refl _) (uF.lt hn)) (hK _ s hs hz)
  · rintro F i s hi ⟨hs, hz⟩ next
    show kZ (fX10_waysOf_L41_B _ _ s v1 v2 v3 (nI i)) _
    unfold fX10_waysOf_L41_B
    rw [(h.same hs (by decide)).2.2.2.2.1]
    refine kZ.ifn (nI_ge hi (uF.lt hn)) (kZ.gd (show i < 720 by omega) (by decide) ?_)
    rw [nI_clamp (n_lt31 (by omega)), show nI i + 1 = nI (i + 1) from nI_1 i]
    refine next _ ⟨hs.sL (by decide) _, fun k hk => ?_⟩
    rw [gL_e]
    by_cases e : k = i
    · rw [e, updL_e]; rfl
    · rw [updL_n e]; exact hz k (by omega)
theorem m_push {t i p : Nat} {s : kS} (hn : uHn n) (hi : i < uF n) (hp : p < n) (hA : yA n κ w p = true) (hZ : mZ n κ w t i p s) : mZ n κ w t i (p + 1) (sL s 23 (vp_updL (gL s 23) (uC n i p) (lN (yP n κ w (yW n κ w t) i p (uC n i p)) + lN (yW n κ w t i)))) := by
  intro k hk
  show vp_updL (gL s 23) (uC n i p) (lN (yP n κ w (yW n κ w t) i p (uC n i p)) + lN (yW n κ w t i)) k = _
  by_cases e : k = uC n i p
  · rw [e, updL_e, yP_yes hp hA (uC_inv hn hi hp), lN_add]
  · have hne : uC n k p ≠ i := fun q => e (by rw [← q, uC_inv hn hk hp])
    rw [updL_n e, yP_no (Or.inr hne)]
    exact hZ k hk
theorem m_stay {t i p : Nat} {s : kS} (hA : yA n κ w p = false) (hZ : mZ n κ w t i p s) : mZ n κ w t i (p + 1) (sL s 23 (vp_updL (gL s 23) i (gL s 23 i + 0))) := by
  intro k hk
  show vp_updL (gL s 23) i (gL s 23 i + 0) k = _
  rw [yP_no (Or.inl hA), ← hZ k hk]
  by_cases e : k = i
  · rw [e, updL_e, Int64.add_zero]
  · rw [updL_n e]
theorem m_ways79 {K : Int32 → kS → Option (Int64 × kS)} {v1 x2 v3 : Int32} {t i : Nat} (h : mR n κ φ st) (hw : ∀ p, p < n → (nI p = x2 ↔ p = w)) (hY : mY n κ w t st) (hi : i < uF n) (ht : t ≤ 12) (hZ : mZ n κ w t i 0 st) (hK : ∀ v s, kSame [] [] [] [23] st s → mZ n κ w t (i + 1) 0 s → kZ (K v s) Q) : kZ (fX10_waysOf_L79 K v1 x2 v3 (nI i) kFU 0 st) Q := by
  have hn := h.1
  have hn6 := hn.2
  have hF := uF_le hn
  have hl := (lN_0 (yW_63 (κ := κ) (w := w) (k := i) hn ht)).2
  rcases Nat.eq_zero_or_pos (yW n κ w t i) with h0 | h0
  · obtain ⟨F, hFU⟩ : ∃ F, kFU = F + 1 := ⟨59999, rfl⟩
    rw [hFU]
    show kZ (fX10_waysOf_L79_B _ _ st v1 x2 v3 (nI i) (nI 0)) _
    unfold fX10_waysOf_L79_B
    rw [h.2.1]
    refine kZ.ifn (nI_ge (show 0 < n by have := hn.1; omega) hn.lt) (kZ.kal (show i < 720 by omega) (by decide) ?_)
    rw [hY i hi]
    refine kZ.ifp (hl.mpr h0) (hK _ st kSame.rf (fun k hk => ?_))
    rw [← yP_skip h0]
    exact hZ k hk
  have hc := yW_compat hn t i hi h0
  refine kfor (σ := kS) (fun F p s => fX10_waysOf_L79 K v1 x2 v3 (nI i) F p s) (fun p s => kSame [] [] [] [23] st s ∧ mZ n κ w t i p s) n ?_ ?_ kFU 0 st (Nat.zero_le _) (kFU_lt0 (by omega)) ⟨kSame.rf, hZ⟩
  · rintro F s ⟨hs, hz⟩
    show kZ (fX10_waysOf_L79_B _ _ s v1 x2 v3 (nI i) (nI n)) _
    unfold fX10_waysOf_L79_B
    rw [(h.same hs (by decide)).2.1]
    refine kZ.ifp (nI_le (Nat.le_refl n) hn.lt) (hK _ s hs (fun k hk => ?_))
    rw [← yP_row]
    exact hz k hk
  · rintro F p s hp ⟨hs, hz⟩ next
    show kZ (fX10_waysOf_L79_B _ _ s v1 x2 v3 (nI i) (nI p)) _
    unfold fX10_waysOf_L79_B fX10_waysOf_J119
    have hx := h.same hs (by decide)
    have hy := hY.same hs (by decide)
    have hk1 := uC_lt hn hi hp
    rw [hx.2.1]
    refine kZ.ifn (nI_ge hp hn.lt) (kZ.kal (show i < 720 by omega) (by decide) ?_)
    rw [hy i hi]
    refine kZ.ifn (fun q => by have := hl.mp q; omega) ?_
    rw [show nI p + 1 = nI (p + 1) from nI_1 p, hx.behind hi hp, mStep_eq hn hi hc hp]
    simp only [Option.bind_some]
    refine kZ.ite (fun e => ?_) (fun e => ?_)
    · refine kZ.kal (show i < 720 by omega) (by decide) (kZ.ifp trivial (kZ.gd (show i < 720 by omega) (by decide) ?_))
      rw [nI_clamp (n_lt31 (by omega))]
      refine next _ ⟨hs.sL (by decide) _, m_stay ?_ hz⟩
      unfold yA
      rw [(hw p hp).mp e]
      simp
    · have hpw : p ≠ w := fun q => e ((hw p hp).mpr q)
      cases hb : uBar n κ p with
      | true =>
        have ex : xStep n κ i p = i := by unfold xStep; rw [hb, if_pos rfl]
        rw [ex]
        refine kZ.kal (show i < 720 by omega) (by decide) (kZ.ifp rfl (kZ.gd (show i < 720 by omega) (by decide) ?_))
        rw [nI_clamp (n_lt31 (by omega))]
        refine next _ ⟨hs.sL (by decide) _, m_stay ?_ hz⟩
        unfold yA
        rw [hb]; rfl
      | false =>
        have ex : xStep n κ i p = uC n i p := by unfold xStep; rw [hb, if_neg (by decide)]
        rw [ex]
        refine kZ.kal (show uC n i p < 720 by omega) (by decide) (kZ.ifn (fun q => uC_ne hn hi hp (nI_inj (n_lt31 (by omega)) (n_lt31 (by omega)) q)) (kZ.kal (show i < 720 by omega) (by decide) (kZ.gd (show uC n i p < 720 by omega) (by decide) ?_)))
        rw [nI_clamp (n_lt31 (by omega)), hz _ hk1, hy i hi]
        refine next _ ⟨hs.sL (by decide) _, m_push hn hi hp ?_ hz⟩
        unfold yA
        rw [hb]
        simp
        exact hpw
theorem m_ways67 {K : Int32 → kS → Option (Int64 × kS)} {v1 x2 v3 : Int32} {t : Nat} (h : mR n κ φ st) (hw : ∀ p, p < n → (nI p = x2 ↔ p = w)) (hY : mY n κ w t st) (ht : t ≤ 12) (hZ : mZ n κ w t 0 0 st) (hK : ∀ v s, kSame [] [] [] [23] st s → mZ n κ w t (uF n) 0 s → kZ (K v s) Q) : kZ (fX10_waysOf_L67 K v1 x2 v3 kFU 0 st) Q := by
  have hn := h.1
  have hF := uF_le hn
  refine kfor (σ := kS) (fun F i s => fX10_waysOf_L67 K v1 x2 v3 F i s) (fun i s => kSame [] [] [] [23] st s ∧ mZ n κ w t i 0 s) (uF n) ?_ ?_ kFU 0 st (Nat.zero_le _) (kFU_lt0 (by omega)) ⟨kSame.rf, hZ⟩
  · rintro F s ⟨hs, hz⟩
    show kZ (fX10_waysOf_L67_B _ _ s v1 x2 v3 (nI (uF n))) _
    unfold fX10_waysOf_L67_B
    rw [(h.same hs (by decide)).2.2.2.2.1]
    exact kZ.ifp (nI_le (Nat.le_refl _) (uF.lt hn)) (hK _ s hs hz)
  · rintro F i s hi ⟨hs, hz⟩ next
    show kZ (fX10_waysOf_L67_B _ _ s v1 x2 v3 (nI i)) _
    unfold fX10_waysOf_L67_B
    have hx := h.same hs (by decide)
    rw [hx.2.2.2.2.1]
    refine kZ.ifn (nI_ge hi (uF.lt hn)) ?_
    refine m_ways79 hx hw (hY.same hs (by decide)) hi ht hz (fun v s2 hs2 hz2 => ?_)
    rw [show nI i + 1 = nI (i + 1) from nI_1 i]
    exact next s2 ⟨hs.trans hs2, hz2⟩
theorem m_ways164 {K : Int32 → kS → Option (Int64 × kS)} {v1 v2 v3 : Int32} (h : mR n κ φ st) (hK : ∀ v s, kSame [] [] [] [22] st s → (∀ k, k < uF n → gL s 22 k = gL st 23 k) → kZ (K v s) Q) : kZ (fX10_waysOf_L164 K v1 v2 v3 kFU 0 st) Q := by
  have hn := h.1
  have hF := uF_le hn
  refine kfor (σ := kS) (fun F i s => fX10_waysOf_L164 K v1 v2 v3 F i s) (fun i s => kSame [] [] [] [22] st s ∧ ∀ k, k < i → gL s 22 k = gL st 23 k) (uF n) ?_ ?_ kFU 0 st (Nat.zero_le _) (kFU_lt0 (by omega)) ⟨kSame.rf, fun k q => absurd q (Nat.not_lt_zero k)⟩
  · rintro F s ⟨hs, hz⟩
    show kZ (fX10_waysOf_L164_B _ _ s v1 v2 v3 (nI (uF n))) _
    unfold fX10_waysOf_L164_B
    rw [(h.same hs (by decide)).2.2.2.2.1]
    exact kZ.ifp (nI_le (Nat.le_refl _) (uF.lt hn)) (hK _ s hs hz)
  · rintro F i s hi ⟨hs, hz⟩ next
    show kZ (fX10_waysOf_L164_B _ _ s v1 v2 v3 (nI i)) _
    unfold fX10_waysOf_L164_B
    rw [(h.same hs (by decide)).2.2.2.2.1]
    refine kZ.ifn (nI_ge hi (uF.lt hn)) (kZ.kal (show i < 720 by omega) (by decide) (kZ.gd (show i < 720 by omega) (by decide) ?_))
    rw [nI_clamp (n_lt31 (by omega)), show nI i + 1 = nI (i + 1) from nI_1 i, hs.2.2.2 23 (by decide)]
    refine next _ ⟨hs.sL (by decide) _, fun k hk => ?_⟩
    rw [gL_e]
    by_cases e : k = i
    · rw [e, updL_e]
    · rw [updL_n e]; exact hz k (by omega)
theorem m_waysOf {o N : Nat} {x2 : Int32} (h : mR n κ φ st) (ho : uO n o (gA st 3)) (hN : N ≤ 12) (hw : ∀ p, p < n → (nI p = x2 ↔ p = w)) : kZ (fX10_waysOf st (nI N) x2) (fun z => z.1 = lN (yW n κ w N o) ∧ kSame [] [] [] [22, 23] st z.2) := by
  have hn := h.1
  have hF := uF_le hn
  have hko := ho.1
  unfold fX10_waysOf
  refine m_ways2 (w := w) h (fun v s0 hs0 hy0 => ?_)
  refine kfor (σ := kS) (fun F t s => fX10_waysOf_L33 (fun _ st_37 => (fX10_indexNow st_37).bind (fun z_38 => (kal 720 (gL st_37 22) z_38).bind (fun x_39 => some (x_39, st_37)))) (nI N) x2 F t s) (fun t s => kSame [] [] [] [22, 23] st s ∧ mY n κ w t s) N ?_ ?_ kFU 0 s0 (Nat.zero_le _) (kFU_lt0 (by omega)) ⟨hs0.sub (by decide) (by decide) (by decide) (by decide), hy0⟩
  · rintro F s ⟨hs, hz⟩
    show kZ (fX10_waysOf_L33_B _ _ s (nI N) x2 (nI N)) _
    unfold fX10_waysOf_L33_B
    refine kZ.ifp (nI_le (Nat.le_refl _) (n_lt31 (by omega))) ?_
    show kZ ((fX10_indexNow s).bind _) _
    rw [(h.same hs (by decide)).index (k := o) (by rw [hs.2.2.1 3 (by decide)]; exact ho)]
    simp only [Option.bind_some]
    exact kZ.kal (show o < 720 by omega) (by decide) (kZ.ret ⟨hz o hko, hs⟩)
  · rintro F t s ht ⟨hs, hz⟩ next
    show kZ (fX10_waysOf_L33_B _ _ s (nI N) x2 (nI t)) _
    unfold fX10_waysOf_L33_B
    refine kZ.ifn (nI_ge ht (n_lt31 (by omega))) ?_
    refine m_ways41 (h.same hs (by decide)) (fun v s1 hs1 hz1 => ?_)
    have hs1' := hs.trans (hs1.sub (by decide) (by decide) (by decide) (by decide))
    refine m_ways67 (h.same hs1' (by decide)) hw (hz.same hs1 (by decide)) (show t ≤ 12 by omega) (fun k hk => by rw [yP_start]; exact hz1 k hk) (fun v s2 hs2 hz2 => ?_)
    have hs2' := hs1'.trans (hs2.sub (by decide) (by decide) (by decide) (by decide))
    refine m_ways164 (h.same hs2' (by decide)) (fun v s3 hs3 hz3 => ?_)
    rw [show nI t + 1 = nI (t + 1) from nI_1 t]
    refine next s3 ⟨hs2'.trans (hs3.sub (by decide) (by decide) (by decide) (by decide)), fun k hk => ?_⟩
    rw [hz3 k hk, ← yP_end hn hk]
    exact hz2 k hk
end WM
