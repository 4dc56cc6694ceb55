/-! THE TABLES OF ORDERS: prepare (the class), layOrders (the reference) -/
def xTab (n : Nat) (st : kS) : Prop := gI st 11 = nI (uF n) ∧ ∀ k p, k < uF n → p < n → gA st 17 (6 * k + p) = nI (uC n k p)
theorem x_change {st : kS} {p q : Nat} (hp : p < 6) (hq : q < 6) : kSame [] [] [18] [] st (fX4_change st (nI p) (nI q)) ∧ ∀ j, gA (fX4_change st (nI p) (nI q)) 18 j = if j = q then gA st 18 p else if j = p then gA st 18 q else gA st 18 j := by
  unfold fX4_change
  rw [kg_n _ hp (by decide), kg_n _ hq (by decide), kp_n _ _ hp (by decide), kp_n _ _ hq (by decide)]
  refine ⟨(kSame.rf.sA (by decide) _).sA (by decide) _, fun j => ?_⟩
  rw [gA_e]
  rfl
theorem uN_ne {n p : Nat} (hn : uHn n) (hp : p < n) : uN n p ≠ p := by
  have := hn.1
  unfold uN
  split <;> omega
theorem x_prepare_p {n k : Nat} {st : kS} {Q : kS → Prop} {K : Int32 → kS → Option kS} (hn : uHn n) (hk : k < uF n) (h10 : gI st 10 = nI n) (hrow : ∀ j, j < n → gA st 18 j = nI (uD n k j)) (hT : ∀ k' p', k' < k → p' < n → gA st 17 (6 * k' + p') = nI (uC n k' p'))
    (hK : ∀ v s, kSame [] [] [17, 18] [] st s → (∀ k' p', k' < k + 1 → p' < n → gA s 17 (6 * k' + p') = nI (uC n k' p')) → kZ (K v s) Q) : kZ (fX4_prepare_L63 K (nI k) kFU 0 st) Q := by
  have hn6 := hn.2
  have hF := uF_le hn
  refine kfor (σ := kS) (fun F p s => fX4_prepare_L63 K (nI k) F p s) (fun p s => kSame [] [] [17, 18] [] st s ∧ (∀ j, j < n → gA s 18 j = nI (uD n k j)) ∧ ∀ k' p', (k' < k ∨ (k' = k ∧ p' < p)) → p' < n → gA s 17 (6 * k' + p') = nI (uC n k' p')) n ?_ ?_ kFU 0 st (Nat.zero_le _) (kFU_lt0 (by omega)) ⟨kSame.rf, hrow, fun k' p' h1 h2 => hT k' p' (by omega) h2⟩
  · rintro F s ⟨hs, hr, ht⟩
    show kZ (fX4_prepare_L63_B _ _ s (nI k) (nI n)) _
    unfold fX4_prepare_L63_B
    rw [hs.1 10 (by decide), h10]
    exact kZ.ifp (nI_le (Nat.le_refl n) hn.lt) (hK _ _ hs (fun k' p' h1 h2 => ht k' p' (by omega) h2))
  · rintro F p s hp ⟨hs, hr, ht⟩ next
    show kZ (fX4_prepare_L63_B _ _ s (nI k) (nI p)) _
    unfold fX4_prepare_L63_B
    rw [hs.1 10 (by decide), h10]
    refine kZ.ifn (nI_ge hp hn.lt) ?_
    have hq := uN_lt hn hp
    have hne := uN_ne hn hp
    have fin : kZ (fX4_prepare_J88 K (fX4_prepare_L63 K (nI k) F) s (nI k) (nI p) (nI (uN n p))) Q := by
      unfold fX4_prepare_J88
      obtain ⟨hc1, hc2⟩ := x_change (st := s) (p := p) (q := uN n p) (by omega) (by omega)
      have ho : uO n (uC n k p) (gA (fX4_change s (nI p) (nI (uN n p))) 18) := by
        refine ⟨uC_lt hn hk hp, fun j hj => ?_⟩
        rw [hc2 j, uD_uC hn hk hp hj]
        by_cases e1 : j = uN n p
        · rw [if_pos e1, if_neg (by omega), if_pos e1]
          exact hr p hp
        · rw [if_neg e1]
          by_cases e2 : j = p
          · rw [if_pos e2, if_pos e2]
            exact hr _ hq
          · rw [if_neg e2, if_neg e2, if_neg e1]
            exact hr j hj
      have h10' : gI (fX4_change s (nI p) (nI (uN n p))) 10 = nI n := (hc1.1 10 (by decide)).trans ((hs.1 10 (by decide)).trans h10)
      rw [x_numberOf hn h10' ho]
      simp only [Option.bind_some]
      rw [show nI p + 1 = nI (p + 1) from nI_1 p, i6, kp_n _ _ (by omega) (by decide)]
      generalize hs1 : sA (fX4_change s (nI p) (nI (uN n p))) 17 (upd (gA (fX4_change s (nI p) (nI (uN n p))) 17) (6 * k + p) (nI (uC n k p))) = s1
      have hss : kSame [] [] [17, 18] [] s s1 := by
        rw [← hs1]
        exact (hc1.sub (by decide) (by decide) (by decide) (by decide)).sA (by decide) _
      obtain ⟨hd1, hd2⟩ := x_change (st := s1) (p := p) (q := uN n p) (by omega) (by omega)
      have e18 : gA s1 18 = gA (fX4_change s (nI p) (nI (uN n p))) 18 := by rw [← hs1]; exact gA_n (by decide)
      have e17 : gA s1 17 = upd (gA s 17) (6 * k + p) (nI (uC n k p)) := by rw [← hs1, gA_e, hc1.2.2.1 17 (by decide)]
      refine next _ ⟨(hs.trans hss).trans (hd1.sub (by decide) (by decide) (by decide) (by decide)), fun j hj => ?_, fun k' p' h1 h2 => ?_⟩
      · rw [hd2 j, e18, hc2, hc2, hc2]
        by_cases e1 : j = uN n p
        · rw [if_pos e1, if_neg (by omega), if_pos rfl, e1]
          exact hr _ hq
        · rw [if_neg e1]
          by_cases e2 : j = p
          · rw [if_pos e2, if_pos rfl, e2]
            exact hr p hp
          · rw [if_neg e2, if_neg e1, if_neg e2]
            exact hr j hj
      · rw [hd1.2.2.1 17 (by decide), e17]
        by_cases e : 6 * k' + p' = 6 * k + p
        · obtain rfl : k' = k := by omega
          obtain rfl : p' = p := by omega
          rw [upd_e]
        · rw [upd_n e]
          exact ht k' p' (by omega) h2
    rw [show nI p + 1 = nI (p + 1) from nI_1 p]
    unfold uN at fin
    by_cases q : p + 1 < n
    · rw [if_pos q] at fin
      exact kZ.ifn (nI_ge q hn.lt) fin
    · rw [if_neg q] at fin
      exact kZ.ifp (nI_le (by omega) (n_lt31 (by omega))) fin
theorem x_prepare {n : Nat} {st : kS} (hn : uHn n) (hT : gI st 10 = nI n → xTab n st) : kZ (fX4_prepare st (nI n)) (fun z => kSame [10, 11] [] [17, 18] [] st z ∧ gI z 10 = nI n ∧ xTab n z) := by
  have hn6 := hn.2
  have hF := uF_le hn
  unfold fX4_prepare
  refine kZ.ite (fun e => kZ.ret ⟨kSame.rf, e, hT e⟩) (fun _ => ?_)
  have hs0 : kSame [10, 11] [] [17, 18] [] st (sI (sI st 10 (nI n)) 11 1) := (kSame.rf.sI (by decide) _).sI (by decide) _
  refine kfor (σ := kS) (fun F i s => fX4_prepare_L21 _ F i s) (fun i s => 2 ≤ i ∧ kSame [10, 11] [] [17, 18] [] st s ∧ gI s 10 = nI n ∧ gI s 11 = nI (uF (i - 1))) (n + 1) ?_ ?_ kFU 2 _ (by have := hn.1; omega) (by have := kFU_lt (N := 20) (by decide); omega) ⟨Nat.le_refl 2, hs0, (gI_n (by decide)).trans (gI_e _ _ _), gI_e _ _ _⟩
  · rintro F s ⟨-, hs, h10, h11⟩
    show kZ (fX4_prepare_L21_B _ _ s (nI (n + 1))) _
    unfold fX4_prepare_L21_B
    rw [h10]
    refine kZ.ifp (nI_lt (by omega) (n_lt31 (by omega))) ?_
    rw [show n + 1 - 1 = n by omega] at h11
    refine kfor (σ := kS) (fun F i s' => fX4_prepare_L47 (fun _ st_13 => some st_13) F i s') (fun i s' => kSame [10, 11] [] [17, 18] [] st s' ∧ gI s' 10 = nI n ∧ gI s' 11 = nI (uF n) ∧ ∀ k p, k < i → p < n → gA s' 17 (6 * k + p) = nI (uC n k p)) (uF n) ?_ ?_ kFU 0 s (Nat.zero_le _) (kFU_lt0 (by omega)) ⟨hs, h10, h11, fun k p hk => absurd hk (Nat.not_lt_zero k)⟩
    · rintro F s' ⟨hs', h10', h11', ht⟩
      show kZ (fX4_prepare_L47_B _ _ s' (nI (uF n))) _
      unfold fX4_prepare_L47_B
      rw [h11']
      exact kZ.ifp (nI_le (Nat.le_refl _) (uF.lt hn)) (kZ.ret ⟨hs', h10', h11', ht⟩)
    · rintro F k s' hk ⟨hs', h10', h11', ht⟩ next
      show kZ (fX4_prepare_L47_B _ _ s' (nI k)) _
      unfold fX4_prepare_L47_B
      rw [h11']
      refine kZ.ifn (nI_ge hk (uF.lt hn)) ?_
      refine (x_unfold hn h10' hk).bind (fun z hz => ?_)
      have hz17 : gA z 17 = gA s' 17 := hz.1.2.2.1 17 (by decide)
      refine x_prepare_p hn hk ((hz.1.1 10 (by decide)).trans h10') hz.2 (fun k' p' h1 h2 => by rw [hz17]; exact ht k' p' h1 h2) (fun v s2 hs2 ht2 => ?_)
      rw [show nI k + 1 = nI (k + 1) from nI_1 k]
      exact next _ ⟨(hs'.trans (hz.1.sub (by decide) (by decide) (by decide) (by decide))).trans (hs2.sub (by decide) (by decide) (by decide) (by decide)), (hs2.1 10 (by decide)).trans ((hz.1.1 10 (by decide)).trans h10'), (hs2.1 11 (by decide)).trans ((hz.1.1 11 (by decide)).trans h11'), ht2⟩
  · rintro F i s hi ⟨hi2, hs, h10, h11⟩ next
    show kZ (fX4_prepare_L21_B _ _ s (nI i)) _
    unfold fX4_prepare_L21_B
    rw [h10]
    refine kZ.ifn (nI_nlt (by omega) (n_lt31 (by omega))) ?_
    rw [show nI i + 1 = nI (i + 1) from nI_1 i, h11, pk_mul]
    refine next _ ⟨by omega, hs.sI (by decide) _, (gI_n (by decide)).trans h10, (gI_e _ _ _).trans ?_⟩
    rw [show i + 1 - 1 = (i - 1) + 1 by omega]
    show _ = nI ((i - 1 + 1) * uF (i - 1))
    rw [Nat.mul_comm, show i - 1 + 1 = i by omega]
/-- THE REFERENCE -/
def mK (n : Nat) (κ : Nat → Nat) (st : kS) : Prop := uHn n ∧ gI st 0 = nI n ∧ ∀ i, i < n → κ i < 4 ∧ gA st 1 i = nI (κ i)
theorem uN_mod {n p : Nat} (hn : uHn n) (hp : p < n) : (p + 1) % n = uN n p := by
  unfold uN
  split
  · exact Nat.mod_eq_of_lt (by assumption)
  · rw [show p + 1 = n by omega, Nat.mod_self]
theorem kr_next {n p : Nat} (hn : uHn n) (hp : p < n) : kr (nI p + 1) (nI n) = nI (uN n p) := by
  have := hn.2
  rw [show nI p + 1 = nI (p + 1) from nI_1 p, kr_n (n_lt31 (by omega)) (by have := hn.1; omega) hn.lt, uN_mod hn hp]
theorem m_swapO {n k p : Nat} {f g : Nat → Int32} (hn : uHn n) (ho : uO n k f) (hp : p < n) (hg : ∀ j, g j = if j = uN n p then f p else if j = p then f (uN n p) else f j) : uO n (uC n k p) g := by
  have hq := uN_lt hn hp
  have hne := uN_ne hn hp
  refine ⟨uC_lt hn ho.1 hp, fun j hj => ?_⟩
  rw [hg j, uD_uC hn ho.1 hp hj]
  by_cases e1 : j = uN n p
  · rw [if_pos e1, if_neg (by omega), if_pos e1]
    exact ho.2 p hp
  · rw [if_neg e1]
    by_cases e2 : j = p
    · rw [if_pos e2, if_pos e2]
      exact ho.2 _ hq
    · rw [if_neg e2, if_neg e2, if_neg e1]
      exact ho.2 j hj
theorem m_swapBack {n k p : Nat} {f g g2 : Nat → Int32} (hn : uHn n) (ho : uO n k f) (hp : p < n) (hg : ∀ j, g j = if j = uN n p then f p else if j = p then f (uN n p) else f j) (hg2 : ∀ j, g2 j = if j = uN n p then g p else if j = p then g (uN n p) else g j) : uO n k g2 := by
  have hne := uN_ne hn hp
  refine ⟨ho.1, fun j hj => ?_⟩
  have e : g2 j = f j := by
    rw [hg2 j]
    by_cases e1 : j = uN n p
    · rw [if_pos e1, hg p, if_neg (by omega), if_pos rfl, e1]
    · rw [if_neg e1]
      by_cases e2 : j = p
      · rw [if_pos e2, hg, if_pos rfl, e2]
      · rw [if_neg e2, hg, if_neg e1, if_neg e2]
  rw [e]
  exact ho.2 j hj
def mIx (n : Nat) (st : kS) : Prop := (∀ k, k < uF n → gA st 12 k = nI (uCd n k)) ∧ ∀ k, k < uF n → gA st 13 (uCd n k) = nI k
