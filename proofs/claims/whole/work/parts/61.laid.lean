/-! layOrders: the reference's tables -/
theorem m_lo1 {n : Nat} {st : kS} {Q : kS → Prop} {K : Int32 → Int32 → Option kS} (hn : uHn n) (hp : gI st 0 = nI n) (hK : kZ (K (nI (6 ^ n)) (nI n)) Q) : kZ (fX10_layOrders_L9 K st kFU (nI 1) (nI 0)) Q := by
  have hn6 := hn.2
  refine kfor (σ := Int32) (fun F i s => fX10_layOrders_L9 K st F s i) (fun i s => s = nI (6 ^ i)) n ?_ ?_ kFU 0 (nI 1) (Nat.zero_le _) (kFU_lt0 (by omega)) rfl
  · rintro F s rfl
    show kZ (fX10_layOrders_L9_B _ _ st (nI (6 ^ n)) (nI n)) _
    unfold fX10_layOrders_L9_B
    rw [hp]
    exact kZ.ifp (nI_le (Nat.le_refl n) hn.lt) hK
  · rintro F i s hi rfl next
    show kZ (fX10_layOrders_L9_B _ _ st (nI (6 ^ i)) (nI i)) _
    unfold fX10_layOrders_L9_B
    rw [hp]
    refine kZ.ifn (nI_ge hi hn.lt) ?_
    rw [show nI i + 1 = nI (i + 1) from nI_1 i, l6, pk_mul]
    exact next _ (by rw [Nat.pow_succ])
theorem m_lo2 {n : Nat} {st : kS} {Q : kS → Prop} {K : Int32 → kS → Option kS} (hn : uHn n) (hp : gI st 0 = nI n) (h16 : gI st 16 = nI 0)
    (hK : ∀ s, kSame [16] [] [12, 13, 15] [] st s → gI s 16 = nI (uF n) → mIx n s → kZ (K (nI (6 ^ n)) s) Q) : kZ (fX10_layOrders_L30 K (nI (6 ^ n)) kFU (nI 0) st) Q := by
  have hn6 := hn.2
  have h6 := u6_le hn
  have hF := uF_le hn
  refine kfor (σ := kS) (fun F c s => fX10_layOrders_L30 K (nI (6 ^ n)) F c s) (fun c s => kSame [16] [] [12, 13, 15] [] st s ∧ ∃ m, m ≤ uF n ∧ gI s 16 = nI m ∧ (∀ k, k < uF n → (k < m ↔ uCd n k < c)) ∧ (∀ k, k < m → gA s 12 k = nI (uCd n k)) ∧ ∀ k, k < m → gA s 13 (uCd n k) = nI k) (6 ^ n) ?_ ?_ kFU 0 st (Nat.zero_le _) (kFU_lt0 (by omega)) ⟨kSame.rf, 0, by omega, h16, by omega, fun k h => absurd h (Nat.not_lt_zero k), fun k h => absurd h (Nat.not_lt_zero k)⟩
  · rintro F s ⟨hs, m, hm, e16, hc, ht, hi⟩
    show kZ (fX10_layOrders_L30_B _ _ s (nI (6 ^ n)) (nI (6 ^ n))) _
    unfold fX10_layOrders_L30_B
    refine kZ.ifp (nI_le (Nat.le_refl _) (n_lt31 (by omega))) ?_
    have hm' : m = uF n := by
      rcases Nat.lt_or_ge m (uF n) with q | q
      · have := (hc m q).mpr (uCd_lt hn q)
        omega
      · omega
    rw [hm'] at e16 ht hi
    exact hK s hs e16 ⟨ht, hi⟩
  · rintro F c s hc6 ⟨hs, m, hm, e16, hc, ht, hi⟩ next
    show kZ (fX10_layOrders_L30_B _ _ s (nI (6 ^ n)) (nI c)) _
    unfold fX10_layOrders_L30_B
    refine kZ.ifn (nI_ge hc6 (n_lt31 (by omega))) ?_
    refine (m_think hn ((hs.1 0 (by decide)).trans hp) hc6).bind (fun z hz => ?_)
    rw [hz.2.1]
    have hs1 := hs.trans (hz.1.sub (I := [16]) (J := []) (A := [12, 13, 15]) (L := []) (by decide) (by decide) (by decide) (by decide))
    have e1 : gI z.2 16 = nI m := (hz.1.1 16 (by decide)).trans e16
    have e12 : gA z.2 12 = gA s 12 := hz.1.2.2.1 12 (by decide)
    have e13 : gA z.2 13 = gA s 13 := hz.1.2.2.1 13 (by decide)
    rw [show nI c + 1 = nI (c + 1) from nI_1 c]
    cases hb : uFull n c with
    | false =>
      refine kZ.ifp rfl (next _ ⟨hs1, m, hm, e1, fun k hk => ?_, by rw [e12]; exact ht, by rw [e13]; exact hi⟩)
      rw [hc k hk]
      have : uCd n k ≠ c := fun e => by
        have := uFull_cd hn hk
        rw [e, hb] at this
        cases this
      omega
    | true =>
      obtain ⟨j, hj, ej⟩ := uFull_ex hn hc6 hb
      have hjm : j = m := by
        have h1 := hc j hj
        rw [ej, uCd_lt_iff hn hj hj] at h1
        rcases Nat.lt_trichotomy j m with q | q | q
        · omega
        · exact q
        · have h2 := hc m (by omega)
          rw [ej, uCd_lt_iff hn (by omega) hj] at h2
          omega
      refine kZ.ifn (by decide) ?_
      rw [e1]
      refine kZ.gd (by omega) (by decide) ?_
      refine kZ.gd (by omega) (by decide) ?_
      rw [nI_clamp (n_lt31 (by omega)), nI_clamp (n_lt31 (by omega)), show nI m + 1 = nI (m + 1) from nI_1 m]
      refine next _ ⟨((hs1.sA (by decide) _).sA (by decide) _).sI (by decide) _, m + 1, by omega, gI_e _ _ _, fun k hk => ?_, fun k hk => ?_, fun k hk => ?_⟩
      · rw [ej]
        have h1 := hc k hk
        rw [ej] at h1
        rcases Nat.lt_trichotomy (uCd n k) (uCd n j) with q | q | q
        · omega
        · have := uCd_inj hn hk hj q
          omega
        · have : k ≠ j := fun e => by rw [e] at q; omega
          omega
      · show gA (sA (sA z.2 12 _) 13 _) 12 k = _
        rw [gA_n (by decide), gA_e, e12]
        by_cases e : k = m
        · rw [e, upd_e, ej, hjm]
        · rw [upd_n e]
          exact ht k (by omega)
      · show gA (sA (sA z.2 12 _) 13 _) 13 (uCd n k) = _
        rw [gA_e, e13]
        by_cases e : k = m
        · rw [e, ej, hjm, upd_e]
        · rw [upd_n (fun q => e ((uCd_inj hn (by omega) hj (q.trans ej)).trans hjm))]
          exact hi k (by omega)
theorem m_lo3 {n : Nat} {κ : Nat → Nat} {st : kS} (h : mK n κ st) (h16 : gI st 16 = nI (uF n)) (hI : mIx n st) : kZ (fX10_layOrders_L81 (fun _ s => some s) kFU (nI 0) st) (fun z => kSame [] [] [14, 15] [] st z ∧ ∀ k p, k < uF n → p < n → gA z 14 (6 * k + p) = nI (mStep n κ k p)) := by
  have hn := h.1
  have hn6 := hn.2
  have hF := uF_le hn
  refine kfor (σ := kS) (fun F c s => fX10_layOrders_L81 (fun _ s => some s) F c s) (fun c s => kSame [] [] [14, 15] [] st s ∧ ∀ k p, k < c → p < n → gA s 14 (6 * k + p) = nI (mStep n κ k p)) (uF n) ?_ ?_ kFU 0 st (Nat.zero_le _) (kFU_lt0 (by omega)) ⟨kSame.rf, fun k p h => absurd h (Nat.not_lt_zero k)⟩
  · rintro F s ⟨hs, ht⟩
    show kZ (fX10_layOrders_L81_B _ _ s (nI (uF n))) _
    unfold fX10_layOrders_L81_B
    rw [hs.1 16 (by decide), h16]
    exact kZ.ifp (nI_le (Nat.le_refl _) (n_lt31 (by omega))) (kZ.ret ⟨hs, ht⟩)
  · rintro F k s hk ⟨hs, ht⟩ next
    show kZ (fX10_layOrders_L81_B _ _ s (nI k)) _
    unfold fX10_layOrders_L81_B
    rw [hs.1 16 (by decide), h16]
    refine kZ.ifn (nI_ge hk (n_lt31 (by omega))) ?_
    have hI' : mIx n s := ⟨by rw [hs.2.2.1 12 (by decide)]; exact hI.1, by rw [hs.2.2.1 13 (by decide)]; exact hI.2⟩
    refine (m_layNext (h.same hs (by decide)) hI' hk).bind (fun z hz => ?_)
    rw [show nI k + 1 = nI (k + 1) from nI_1 k]
    refine next _ ⟨hs.trans hz.1, fun j p hj hp => ?_⟩
    by_cases e : j = k
    · rw [e]; exact hz.2.2 p hp
    · rw [hz.2.1 _ (fun q hq => by omega)]
      exact ht j p (by omega) hp
theorem m_layOrders {n : Nat} {κ : Nat → Nat} {φ : Nat → Nat → Bool} {st : kS} (h : mK n κ st) (hφ : ∀ i j, i < n → j < n → gA st 2 (6 * i + j) = b01 (φ i j)) : kZ (fX10_layOrders st) (fun z => kSame [16] [] [12, 13, 14, 15] [] st z ∧ mR n κ φ z) := by
  have hn := h.1
  unfold fX10_layOrders
  refine m_lo1 hn (st := sI st 16 0) ((gI_n (by decide)).trans h.2.1) ?_
  refine m_lo2 hn ((gI_n (by decide)).trans h.2.1) (gI_e _ _ _) (fun s hs e16 hI => ?_)
  have hs0 : kSame [16] [] [12, 13, 15] [] st s := (kSame.rf.sI (by decide) _).trans (hs.sub (by decide) (by decide) (by decide) (by decide))
  refine (m_lo3 (h.same hs0 (by decide)) e16 hI).mono (fun z hz => ⟨(hs0.sub (by decide) (by decide) (by decide) (by decide)).trans (hz.1.sub (by decide) (by decide) (by decide) (by decide)), ?_⟩)
  have hz' := (h.same hs0 (by decide)).same hz.1 (by decide)
  refine ⟨hn, hz'.2.1, hz'.2.2, fun i j hi hj => ?_, (hz.1.1 16 (by decide)).trans e16, by rw [hz.1.2.2.1 12 (by decide)]; exact hI.1, by rw [hz.1.2.2.1 13 (by decide)]; exact hI.2, hz.2⟩
  rw [hz.1.2.2.1 2 (by decide), hs0.2.2.1 2 (by decide)]
  exact hφ i j hi hj
