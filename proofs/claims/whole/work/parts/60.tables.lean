/-! THE TABLES OF ORDERS: prepare (the class), layOrders (the reference) -/
def xTab (n : Nat) (st : kS) : Prop := gI st 11 = nI (uF n) ∧ ∀ k p, k < uF n → p < n → gA st 17 (6 * k + p) = nI (uC n k p)
theorem x_change {st : kS} {p q : Nat} (hp : p < 6) (hq : q < 6) : kSame [] [] [18] [] st (fX4_change st (nI p) (nI q)) ∧ ∀ j, gA (fX4_change st (nI p) (nI q)) 18 j = if j = q then gA st 18 p else if j = p then gA st 18 q else gA st 18 j := by
  unfold fX4_change
  rw [kg_n _ hp (by decide), kg_n _ hq (by decide), kp_n _ _ hp (by decide), kp_n _ _ hq (by decide)]
  refine ⟨(kSame.rf.sA (by decide) _).sA (by decide) _, fun j => ?_⟩
  rw [gA_e]
  rfl
theorem uN_ne {n p : Nat} (hn : uHn n) (hp : p < n) : uN n p ≠ p := by
  have := hn.1
  unfold uN
  split <;> omega
theorem x_prepare_p {n k : Nat} {st : kS} {Q : kS → Prop} {K : Int32 → kS → Option kS} (hn : uHn n) (hk : k < uF n) (h10 : gI st 10 = nI n) (hrow : ∀ j, j < n → gA st 18 j = nI (uD n k j)) (hT : ∀ k' p', k' < k → p' < n → gA st 17 (6 * k' + p') = nI (uC n k' p'))
    (hK : ∀ v s, kSame [] [] [17, 18] [] st s → (∀ k' p', k' < k + 1 → p' < n → gA s 17 (6 * k' + p') = nI (uC n k' p')) → kZ (K v s) Q) : kZ (fX4_prepare_L63 K (nI k) kFU 0 st) Q := by
  have hn6 := hn.2
  have hF := uF_le hn
  refine kfor (σ := kS) (fun F p s => fX4_prepare_L63 K (nI k) F p s) (fun p s => kSame [] [] [17, 18] [] st s ∧ (∀ j, j < n → gA s 18 j = nI (uD n k j)) ∧ ∀ k' p', (k' < k ∨ (k' = k ∧ p' < p)) → p' < n → gA s 17 (6 * k' + p') = nI (uC n k' p')) n ?_ ?_ kFU 0 st (Nat.zero_le _) (kFU_lt0 (by omega)) ⟨kSame.rf, hrow, fun k' p' h1 h2 => hT k' p' (by omega) h2⟩
  · rintro F s ⟨hs, hr, ht⟩
    show kZ (fX4_prepare_L63_B _ _ s (nI k) (nI n)) _
    unfold fX4_prepare_L63_B
    rw [hs.1 10 (by decide), h10]
    exact kZ.ifp (nI_le (Nat.le_refl n) hn.lt) (hK _ _ hs (fun k' p' h1 h2 => ht k' p' (by omega) h2))
  · rintro F p s hp ⟨hs, hr, ht⟩ next
    show kZ (fX4_prepare_L63_B _ _ s (nI k) (nI p)) _
    unfold fX4_prepare_L63_B
    rw [hs.1 10 (by decide), h10]
    refine kZ.ifn (nI_ge hp hn.lt) ?_
    have hq := uN_lt hn hp
    have hne := uN_ne hn hp
    have fin : kZ (fX4_prepare_J88 K (fX4_prepare_L63 K (nI k) F) s (nI k) (nI p) (nI (uN n p))) Q := by
      unfold fX4_prepare_J88
      obtain ⟨hc1, hc2⟩ := x_change (st := s) (p := p) (q := uN n p) (by omega) (by omega)
      have ho : uO n (uC n k p) (gA (fX4_change s (nI p) (nI (uN n p))) 18) := by
        refine ⟨uC_lt hn hk hp, fun j hj => ?_⟩
        rw [hc2 j, uD_uC hn hk hp hj]
        by_cases e1 : j = uN n p
        · rw [if_pos e1, if_neg (by omega), if_pos e1]
          exact hr p hp
        · rw [if_neg e1]
          by_cases e2 : j = p
          · rw [if_pos e2, if_pos e2]
            exact hr _ hq
          · rw [if_neg e2, if_neg e2, if_neg e1]
            exact hr j hj
      have h10' : gI (fX4_change s (nI p) (nI (uN n p))) 10 = nI n := (hc1.1 10 (by decide)).trans ((hs.1 10 (by decide)).trans h10)
      rw [x_numberOf hn h10' ho]
      simp only [Option.bind_some]
      rw [show nI p + 1 = nI (p + 1) from nI_1 p, i6, kp_n _ _ (by omega) (by decide)]
      generalize hs1 : sA (fX4_change s (nI p) (nI (uN n p))) 17 (upd (gA (fX4_change s (nI p) (nI (uN n p))) 17) (6 * k + p) (nI (uC n k p))) = s1
      have hss : kSame [] [] [17, 18] [] s s1 := by
        rw [← hs1]
        exact (hc1.sub (by decide) (by decide) (by decide) (by decide)).sA (by decide) _
      obtain ⟨hd1, hd2⟩ := x_change (st := s1) (p := p) (q := uN n p) (by omega) (by omega)
      have e18 : gA s1 18 = gA (fX4_change s (nI p) (nI (uN n p))) 18 := by rw [← hs1]; exact gA_n (by decide)
      have e17 : gA s1 17 = upd (gA s 17) (6 * k + p) (nI (uC n k p)) := by rw [← hs1, gA_e, hc1.2.2.1 17 (by decide)]
      refine next _ ⟨(hs.trans hss).trans (hd1.sub (by decide) (by decide) (by decide) (by decide)), fun j hj => ?_, fun k' p' h1 h2 => ?_⟩
      · rw [hd2 j, e18, hc2, hc2, hc2]
        by_cases e1 : j = uN n p
        · rw [if_pos e1, if_neg (by omega), if_pos rfl, e1]
          exact hr _ hq
        · rw [if_neg e1]
          by_cases e2 : j = p
          · rw [if_pos e2, if_pos rfl, e2]
            exact hr p hp
          · rw [if_neg e2, if_neg e1, if_neg e2]
            exact hr j hj
      · rw [hd1.2.2.1 17 (by decide), e17]
        by_cases e : 6 * k' + p' = 6 * k + p
        · obtain rfl : k' = k := by omega
          obtain rfl : p' = p := by omega
          rw [upd_e]
        · rw [upd_n e]
          exact ht k' p' (by omega) h2
    rw [show nI p + 1 = nI (p + 1) from nI_1 p]
    unfold uN at fin
    by_cases q : p + 1 < n
    · rw [if_pos q] at fin
      exact kZ.ifn (nI_ge q hn.lt) fin
    · rw [if_neg q] at fin
      exact kZ.ifp (nI_le (by omega) (n_lt31 (by omega))) fin
theorem x_prepare {n : Nat} {st : kS} (hn : uHn n) (hT : gI st 10 = nI n → xTab n st) : kZ (fX4_prepare st (nI n)) (fun z => kSame [10, 11] [] [17, 18] [] st z ∧ gI z 10 = nI n ∧ xTab n z) := by
  have hn6 := hn.2
  have hF := uF_le hn
  unfold fX4_prepare
  refine kZ.ite (fun e => kZ.ret ⟨kSame.rf, e, hT e⟩) (fun _ => ?_)
  have hs0 : kSame [10, 11] [] [17, 18] [] st (sI (sI st 10 (nI n)) 11 1) := (kSame.rf.sI (by decide) _).sI (by decide) _
  refine kfor (σ := kS) (fun F i s => fX4_prepare_L21 _ F i s) (fun i s => 2 ≤ i ∧ kSame [10, 11] [] [17, 18] [] st s ∧ gI s 10 = nI n ∧ gI s 11 = nI (uF (i - 1))) (n + 1) ?_ ?_ kFU 2 _ (by have := hn.1; omega) (by have := kFU_lt (N := 20) (by decide); omega) ⟨Nat.le_refl 2, hs0, (gI_n (by decide)).trans (gI_e _ _ _), gI_e _ _ _⟩
  · rintro F s ⟨-, hs, h10, h11⟩
    show kZ (fX4_prepare_L21_B _ _ s (nI (n + 1))) _
    unfold fX4_prepare_L21_B
    rw [h10]
    refine kZ.ifp (nI_lt (by omega) (n_lt31 (by omega))) ?_
    rw [show n + 1 - 1 = n by omega] at h11
    refine kfor (σ := kS) (fun F i s' => fX4_prepare_L47 (fun _ st_13 => some st_13) F i s') (fun i s' => kSame [10, 11] [] [17, 18] [] st s' ∧ gI s' 10 = nI n ∧ gI s' 11 = nI (uF n) ∧ ∀ k p, k < i → p < n → gA s' 17 (6 * k + p) = nI (uC n k p)) (uF n) ?_ ?_ kFU 0 s (Nat.zero_le _) (kFU_lt0 (by omega)) ⟨hs, h10, h11, fun k p hk => absurd hk (Nat.not_lt_zero k)⟩
    · rintro F s' ⟨hs', h10', h11', ht⟩
      show kZ (fX4_prepare_L47_B _ _ s' (nI (uF n))) _
      unfold fX4_prepare_L47_B
      rw [h11']
      exact kZ.ifp (nI_le (Nat.le_refl _) (uF.lt hn)) (kZ.ret ⟨hs', h10', h11', ht⟩)
    · rintro F k s' hk ⟨hs', h10', h11', ht⟩ next
      show kZ (fX4_prepare_L47_B _ _ s' (nI k)) _
      unfold fX4_prepare_L47_B
      rw [h11']
      refine kZ.ifn (nI_ge hk (uF.lt hn)) ?_
      refine (x_unfold hn h10' hk).bind (fun z hz => ?_)
      have hz17 : gA z 17 = gA s' 17 := hz.1.2.2.1 17 (by decide)
      refine x_prepare_p hn hk ((hz.1.1 10 (by decide)).trans h10') hz.2 (fun k' p' h1 h2 => by rw [hz17]; exact ht k' p' h1 h2) (fun v s2 hs2 ht2 => ?_)
      rw [show nI k + 1 = nI (k + 1) from nI_1 k]
      exact next _ ⟨(hs'.trans (hz.1.sub (by decide) (by decide) (by decide) (by decide))).trans (hs2.sub (by decide) (by decide) (by decide) (by decide)), (hs2.1 10 (by decide)).trans ((hz.1.1 10 (by decide)).trans h10'), (hs2.1 11 (by decide)).trans ((hz.1.1 11 (by decide)).trans h11'), ht2⟩
  · rintro F i s hi ⟨hi2, hs, h10, h11⟩ next
    show kZ (fX4_prepare_L21_B _ _ s (nI i)) _
    unfold fX4_prepare_L21_B
    rw [h10]
    refine kZ.ifn (nI_nlt (by omega) (n_lt31 (by omega))) ?_
    rw [show nI i + 1 = nI (i + 1) from nI_1 i, h11, pk_mul]
    refine next _ ⟨by omega, hs.sI (by decide) _, (gI_n (by decide)).trans h10, (gI_e _ _ _).trans ?_⟩
    rw [show i + 1 - 1 = (i - 1) + 1 by omega]
    show _ = nI ((i - 1 + 1) * uF (i - 1))
    rw [Nat.mul_comm, show i - 1 + 1 = i by omega]
/-- THE REFERENCE -/
def mK (n : Nat) (κ : Nat → Nat) (st : kS) : Prop := uHn n ∧ gI st 0 = nI n ∧ ∀ i, i < n → κ i < 4 ∧ gA st 1 i = nI (κ i)
theorem mK.same {n : Nat} {κ : Nat → Nat} {I J A L : List Nat} {s t : kS} (h : mK n κ s) (hs : kSame I J A L s t) (d : 0 ∉ I ∧ 1 ∉ A) : mK n κ t :=
  ⟨h.1, (hs.1 0 d.1).trans h.2.1, fun i hi => ⟨(h.2.2 i hi).1, by rw [hs.2.2.1 1 d.2]; exact (h.2.2 i hi).2⟩⟩
theorem mK.isStill {n : Nat} {κ : Nat → Nat} {st : kS} (h : mK n κ st) {i : Nat} (hi : i < n) : fX10_isStill st (nI i) = some (b01 (uSt κ i)) := by
  have := h.1.2
  unfold fX10_isStill
  rw [ka_n _ (by omega) (by decide), (h.2.2 i hi).2]
  exact uSt_dec _ (h.2.2 i hi).1
theorem uN_mod {n p : Nat} (hn : uHn n) (hp : p < n) : (p + 1) % n = uN n p := by
  unfold uN
  split
  · exact Nat.mod_eq_of_lt (by assumption)
  · rw [show p + 1 = n by omega, Nat.mod_self]
theorem kr_next {n p : Nat} (hn : uHn n) (hp : p < n) : kr (nI p + 1) (nI n) = nI (uN n p) := by
  have := hn.2
  rw [show nI p + 1 = nI (p + 1) from nI_1 p, kr_n (n_lt31 (by omega)) (by have := hn.1; omega) hn.lt, uN_mod hn hp]
theorem m_changes {n k p : Nat} {κ : Nat → Nat} {st : kS} (h : mK n κ st) (ho : uO n k (gA st 15)) (hp : p < n) : fX10_changes st (nI p) = some (b01 (!(uSt κ (uD n k p) || uSt κ (uD n k (uN n p))))) := by
  have hn := h.1
  have hq := uN_lt hn hp
  unfold fX10_changes
  rw [ho.ka hn hp]
  simp only [Option.bind_some]
  rw [h.isStill (uD_lt hn ho.1 hp)]
  simp only [Option.bind_some]
  rw [h.2.1, kr_next hn hp, ho.ka hn hq]
  simp only [Option.bind_some]
  rw [h.isStill (uD_lt hn ho.1 hq), if_neg (nI_ne0 (by have := hn.1; omega) hn.lt)]
  simp only [Option.bind_some]
  cases uSt κ (uD n k p) <;> cases uSt κ (uD n k (uN n p)) <;> rfl
theorem m_change {n p : Nat} {st : kS} (hn : uHn n) (h0 : gI st 0 = nI n) (hp : p < n) : kZ (fX10_change st (nI p)) (fun z => kSame [] [] [15] [] st z ∧ ∀ j, gA z 15 j = if j = uN n p then gA st 15 p else if j = p then gA st 15 (uN n p) else gA st 15 j) := by
  have := hn.2
  have hq := uN_lt hn hp
  unfold fX10_change
  rw [h0]
  refine kZ.ifn (nI_ne0 (by have := hn.1; omega) hn.lt) (kZ.ka (by omega) (by decide) ?_)
  rw [kr_next hn hp]
  refine kZ.ka (by omega) (by decide) (kZ.gd (by omega) (by decide) (kZ.gd (by omega) (by decide) (kZ.ret ⟨(kSame.rf.sA (by decide) _).sA (by decide) _, fun j => ?_⟩)))
  rw [gA_e, nI_clamp (n_lt31 (by omega)), nI_clamp (n_lt31 (by omega))]
  rfl
theorem m_swapO {n k p : Nat} {f g : Nat → Int32} (hn : uHn n) (ho : uO n k f) (hp : p < n) (hg : ∀ j, g j = if j = uN n p then f p else if j = p then f (uN n p) else f j) : uO n (uC n k p) g := by
  have hq := uN_lt hn hp
  have hne := uN_ne hn hp
  refine ⟨uC_lt hn ho.1 hp, fun j hj => ?_⟩
  rw [hg j, uD_uC hn ho.1 hp hj]
  by_cases e1 : j = uN n p
  · rw [if_pos e1, if_neg (by omega), if_pos e1]
    exact ho.2 p hp
  · rw [if_neg e1]
    by_cases e2 : j = p
    · rw [if_pos e2, if_pos e2]
      exact ho.2 _ hq
    · rw [if_neg e2, if_neg e2, if_neg e1]
      exact ho.2 j hj
theorem m_swapBack {n k p : Nat} {f g g2 : Nat → Int32} (hn : uHn n) (ho : uO n k f) (hp : p < n) (hg : ∀ j, g j = if j = uN n p then f p else if j = p then f (uN n p) else f j) (hg2 : ∀ j, g2 j = if j = uN n p then g p else if j = p then g (uN n p) else g j) : uO n k g2 := by
  have hne := uN_ne hn hp
  refine ⟨ho.1, fun j hj => ?_⟩
  have e : g2 j = f j := by
    rw [hg2 j]
    by_cases e1 : j = uN n p
    · rw [if_pos e1, hg p, if_neg (by omega), if_pos rfl, e1]
    · rw [if_neg e1]
      by_cases e2 : j = p
      · rw [if_pos e2, hg, if_pos rfl, e2]
      · rw [if_neg e2, hg, if_neg e1, if_neg e2]
  rw [e]
  exact ho.2 j hj
def mIx (n : Nat) (st : kS) : Prop := (∀ k, k < uF n → gA st 12 k = nI (uCd n k)) ∧ ∀ k, k < uF n → gA st 13 (uCd n k) = nI k
theorem m_layNext {n k : Nat} {κ : Nat → Nat} {st : kS} (h : mK n κ st) (hI : mIx n st) (hk : k < uF n) : kZ (fX10_layNext st (nI k)) (fun z => kSame [] [] [14, 15] [] st z ∧ (∀ i, (∀ p, p < n → i ≠ 6 * k + p) → gA z 14 i = gA st 14 i) ∧ ∀ p, p < n → gA z 14 (6 * k + p) = nI (mStep n κ k p)) := by
  have hn := h.1
  have hn6 := hn.2
  have hF := uF_le hn
  unfold fX10_layNext
  refine kZ.ka (by omega) (by decide) ?_
  rw [hI.1 k hk]
  refine (m_thinkO hn h.2.1 hk).bind (fun z hz => ?_)
  have hs0 : kSame [] [] [14, 15] [] st z.2 := hz.1.sub (by decide) (by decide) (by decide) (by decide)
  refine kfor (σ := kS) (fun F p s => fX10_layNext_L13 (fun _ st_15 => some st_15) (nI k) F p s) (fun p s => kSame [] [] [14, 15] [] st s ∧ uO n k (gA s 15) ∧ (∀ i, (∀ p, p < n → i ≠ 6 * k + p) → gA s 14 i = gA st 14 i) ∧ ∀ q, q < p → gA s 14 (6 * k + q) = nI (mStep n κ k q)) n ?_ ?_ kFU 0 z.2 (Nat.zero_le _) (kFU_lt0 (by omega)) ⟨hs0, hz.2, fun i _ => by rw [hz.1.2.2.1 14 (by decide)], fun q hq => absurd hq (Nat.not_lt_zero q)⟩
  · rintro F s ⟨hs, ho, hi, hq⟩
    show kZ (fX10_layNext_L13_B _ _ s (nI k) (nI n)) _
    unfold fX10_layNext_L13_B
    rw [hs.1 0 (by decide), h.2.1]
    exact kZ.ifp (nI_le (Nat.le_refl n) hn.lt) (kZ.ret ⟨hs, hi, hq⟩)
  · rintro F p s hp ⟨hs, ho, hi, hq⟩ next
    show kZ (fX10_layNext_L13_B _ _ s (nI k) (nI p)) _
    unfold fX10_layNext_L13_B
    have hx := h.same hs (by decide)
    rw [hx.2.1]
    refine kZ.ifn (nI_ge hp hn.lt) ?_
    rw [m_changes hx ho hp]
    simp only [Option.bind_some]
    have c13 : gA s 13 = gA st 13 := hs.2.2.1 13 (by decide)
    -- what is written
    have fin : ∀ (m : Nat) (s1 : kS) (v : Int32) (R : kS → Prop), m < uF n → m = mStep n κ k p → kSame [] [] [15] [] s s1 → uO n m (gA s1 15) → (∀ s2, kSame [] [] [14] [] s1 s2 → (∀ i, (∀ p, p < n → i ≠ 6 * k + p) → gA s2 14 i = gA st 14 i) → (∀ q, q < p + 1 → gA s2 14 (6 * k + q) = nI (mStep n κ k q)) → kZ (if v = 0 then fX10_layNext_L13 (fun _ st_15 => some st_15) (nI k) F (nI (p + 1)) s2 else (fX10_change s2 (nI p)).bind (fun z_12 => fX10_layNext_L13 (fun _ st_15 => some st_15) (nI k) F (nI (p + 1)) z_12)) R) → kZ (fX10_layNext_J36 (fun _ st_15 => some st_15) (fX10_layNext_L13 (fun _ st_15 => some st_15) (nI k) F) s1 (nI k) (nI p) v) R := by
      intro m s1 v R hm em hs1 ho1 hR
      unfold fX10_layNext_J36
      have hx1 := hx.same hs1 (by decide)
      rw [m_code hn hx1.2.1 ho1]
      simp only [Option.bind_some]
      have h1 := uCd_lt hn hm
      have h2 := u6_le hn
      rw [ka_n _ (by omega) (by decide), hs1.2.2.1 13 (by decide), c13, hI.2 m hm]
      simp only [Option.bind_some]
      rw [i6', show nI p + 1 = nI (p + 1) from nI_1 p]
      refine kZ.gd (by omega) (by decide) ?_
      rw [nI_clamp (n_lt31 (by omega))]
      refine hR _ (kSame.rf.sA (by decide) _) (fun i hi' => ?_) (fun q hq' => ?_)
      · rw [gA_e, upd_n (hi' p hp), hs1.2.2.1 14 (by decide)]
        exact hi i hi'
      · rw [gA_e]
        by_cases e : q = p
        · rw [e, upd_e, em]
        · rw [upd_n (by omega), hs1.2.2.1 14 (by decide)]
          exact hq q (by omega)
    cases hb : uSt κ (uD n k p) || uSt κ (uD n k (uN n p)) with
    | true =>
      refine kZ.ifp rfl ?_
      refine fin k s _ _ hk (by unfold mStep; rw [hb]; rfl) kSame.rf ho (fun s2 hs2 hi2 hq2 => ?_)
      refine kZ.ifp rfl (next _ ⟨hs.trans (hs2.sub (by decide) (by decide) (by decide) (by decide)), by rw [hs2.2.2.1 15 (by decide)]; exact ho, hi2, hq2⟩)
    | false =>
      refine kZ.ifn (by decide) ?_
      refine (m_change hn hx.2.1 hp).bind (fun z1 hz1 => ?_)
      refine fin (uC n k p) z1 _ _ (uC_lt hn hk hp) (by unfold mStep; rw [hb]; rfl) hz1.1 (m_swapO hn ho hp hz1.2) (fun s2 hs2 hi2 hq2 => ?_)
      refine kZ.ifn (by decide) ?_
      have hx2 := (hx.same hz1.1 (by decide)).same hs2 (by decide)
      refine (m_change hn hx2.2.1 hp).bind (fun z3 hz3 => ?_)
      refine next _ ⟨((hs.trans (hz1.1.sub (by decide) (by decide) (by decide) (by decide))).trans (hs2.sub (by decide) (by decide) (by decide) (by decide))).trans (hz3.1.sub (by decide) (by decide) (by decide) (by decide)), ?_, ?_, ?_⟩
      · refine m_swapBack hn ho hp hz1.2 (fun j => ?_)
        rw [hz3.2 j, hs2.2.2.1 15 (by decide)]
      · rw [hz3.1.2.2.1 14 (by decide)]
        exact hi2
      · rw [hz3.1.2.2.1 14 (by decide)]
        exact hq2
