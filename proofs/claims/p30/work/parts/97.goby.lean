/-! ways and must: the class -/
def xY (n : Nat) (κ : Nat → Nat) (t : Nat) (s : kS) : Prop := ∀ k, k < uF n → gL s 25 k = lN (yW n κ 9 t k) ∧ (0 < yW n κ 9 t k → uMk n (fun q => decide (yW n κ q t k = 0)) (gA s 27 k))
def xZ (n : Nat) (κ : Nat → Nat) (t i j : Nat) (s : kS) : Prop := ∀ k, k < uF n → gL s 26 k = lN (yP n κ 9 (yW n κ 9 t) i j k) ∧ (0 < yP n κ 9 (yW n κ 9 t) i j k → uMk n (fun q => decide (yP n κ q (yW n κ q t) i j k = 0)) (gA s 28 k))
theorem xY.same {n t : Nat} {κ : Nat → Nat} {s u : kS} {I J A L : List Nat} (h : xY n κ t s) (hs : kSame I J A L s u) (dA : 27 ∉ A) (dL : 25 ∉ L) : xY n κ t u := fun k hk => by
  rw [hs.2.2.2 25 dL, hs.2.2.1 27 dA]
  exact h k hk
section GB
variable {n : Nat} {κ : Nat → Nat} {φ : Nat → Nat → Bool} {st : kS} {Q : kS → Prop}
theorem yP_mask {q p i c t : Nat} (hp : p < n) (hA : yA n κ 9 p = true) (hc : uC n c p = i) : decide (yP n κ q (yW n κ q t) i (p + 1) c = 0) = ((decide (yW n κ q t i = 0) || decide (p = q)) && decide (yP n κ q (yW n κ q t) i p c = 0)) := by
  by_cases e : p = q
  · rw [yP_no (Or.inl (show yA n κ q p = false by unfold yA; rw [e]; simp)), decide_eq_true e, Bool.or_true, Bool.true_and]
  · rw [yP_yes hp (yA_q hA e) hc, decide_eq_false e, Bool.or_false, ← Bool.decide_and]
    exact decide_eq_decide.mpr (by omega)
theorem yA_bar {p : Nat} (hn : uHn n) (hp : p < n) (hb : uBar n κ p = false) : yA n κ 9 p = true := by
  have := hn.2
  unfold yA
  rw [hb]
  simp
  omega
theorem x_push {t i p : Nat} {s : kS} {m : Int32} (hn : uHn n) (hi : i < uF n) (hp : p < n) (hb : uBar n κ p = false) (hZ : xZ n κ t i p s) (hm : 0 < yW n κ 9 t i → uMk n (fun q => decide (yP n κ q (yW n κ q t) i (p + 1) (uC n i p) = 0)) m) (h0 : 0 < yW n κ 9 t i) : xZ n κ t i (p + 1) (sL (sA s 28 (upd (gA s 28) (uC n i p) m)) 26 (vp_updL (gL s 26) (uC n i p) (lN (yP n κ 9 (yW n κ 9 t) i p (uC n i p)) + lN (yW n κ 9 t i)))) := by
  intro k hk
  have hA := yA_bar hn hp hb
  show vp_updL (gL s 26) (uC n i p) (lN (yP n κ 9 (yW n κ 9 t) i p (uC n i p)) + lN (yW n κ 9 t i)) k = _ ∧ (_ → uMk n _ (upd (gA s 28) (uC n i p) m k))
  by_cases e : k = uC n i p
  · rw [e, updL_e, upd_e, yP_yes hp hA (uC_inv hn hi hp), lN_add]
    exact ⟨rfl, fun _ => hm h0⟩
  · have hne : uC n k p ≠ i := fun q => e (by rw [← q, uC_inv hn hk hp])
    rw [updL_n e, upd_n e, yP_no (Or.inr hne)]
    refine ⟨(hZ k hk).1, fun h => ((hZ k hk).2 h).cg (fun q _ => ?_)⟩
    rw [yP_no (Or.inr hne)]
theorem x_spread {t i : Nat} (h : xR n κ φ st) (hY : xY n κ t st) (hi : i < uF n) (ht : t < 12) (h0 : 0 < yW n κ 9 t i) (hZ : xZ n κ t i 0 st) : kZ (fX6_spread st (nI i)) (fun z => kSame [] [] [28] [26] st z ∧ xZ n κ t i n z) := by
  have hn := h.1
  have hn6 := hn.2
  have hF := uF_le hn
  unfold fX6_spread
  refine kfor (σ := kS) (fun F p s => fX6_spread_L2 (fun _ s => some s) (nI i) F p s) (fun p s => kSame [] [] [28] [26] st s ∧ xZ n κ t i p s) n ?_ ?_ kFU 0 st (Nat.zero_le _) (kFU_lt0 (by omega)) ⟨kSame.rf, hZ⟩
  · rintro F s ⟨hs, hz⟩
    show kZ (fX6_spread_L2_B _ _ s (nI i) (nI n)) _
    unfold fX6_spread_L2_B
    rw [(h.same hs (by decide)).2.1]
    exact kZ.ifp (nI_le (Nat.le_refl n) hn.lt) (kZ.ret ⟨hs, hz⟩)
  · rintro F p s hp ⟨hs, hz⟩ next
    show kZ (fX6_spread_L2_B _ _ s (nI i) (nI p)) _
    unfold fX6_spread_L2_B fX6_spread_J66 fX6_spread_J94
    have hx := h.same hs (by decide)
    have hy := hY.same hs (by decide) (by decide)
    have hk1 := uC_lt hn hi hp
    rw [hx.2.1]
    refine kZ.ifn (nI_ge hp hn.lt) ?_
    rw [hx.barred hp, show nI p + 1 = nI (p + 1) from nI_1 p]
    cases hb : uBar n κ p with
    | true =>
      refine kZ.ifn (by decide) (next s ⟨hs, fun k hk => ?_⟩)
      have e : ∀ q, yA n κ q p = false := fun q => by unfold yA; rw [hb]; rfl
      rw [yP_no (Or.inl (e 9))]
      refine ⟨(hz k hk).1, fun h => ((hz k hk).2 h).cg (fun q _ => ?_)⟩
      rw [yP_no (Or.inl (e q))]
    | false =>
      refine kZ.ifp rfl ?_
      have hA := yA_bar hn hp hb
      have hc := uC_inv hn hi hp
      rw [hx.after hi hp, kgl_n _ (show uC n i p < 720 by omega) (by decide), kg_n _ (show i < 720 by omega) (by decide), kg_n _ (show uC n i p < 720 by omega) (by decide), kgl_n _ (show i < 720 by omega) (by decide), kpl_n _ _ (show uC n i p < 720 by omega) (by decide), (hz _ hk1).1, (hy i hi).1, kp_n _ _ (show uC n i p < 720 by omega) (by decide), kp_n _ _ (show uC n i p < 720 by omega) (by decide)]
      have hpl := ((hy i hi).2 h0).or hn hp
      have h63 : yP n κ 9 (yW n κ 9 t) i p (uC n i p) < 2 ^ 63 := yP_63 hn (by omega)
      have hl := (lN_0 h63).1
      have ks : ∀ m v, kSame [] [] [28] [26] st (sL (sA s 28 (upd (gA s 28) (uC n i p) m)) 26 v) := fun m v => (hs.sA (by decide) _).sL (by decide) _
      refine kZ.ite (fun e => ?_) (fun e => ?_)
      · refine kZ.ifn (by decide) (next _ ⟨ks _ _, x_push hn hi hp hb hz (fun _ => hpl.cg (fun q _ => ?_)) h0⟩)
        have e0 := hl.mp e
        have es : yP n κ q (yW n κ q t) i p (uC n i p) = 0 := by
          have := yP_sub (κ := κ) (q := q) (i := i) (j := p) (k := uC n i p) hn t
          omega
        rw [yP_mask hp hA hc, decide_eq_true es, Bool.and_true]
      · refine kZ.ifp rfl (next _ ⟨ks _ _, x_push hn hi hp hb hz (fun _ => (hpl.and ((hz _ hk1).2 ?_)).cg (fun q _ => ?_)) h0⟩)
        · rcases Nat.eq_zero_or_pos (yP n κ 9 (yW n κ 9 t) i p (uC n i p)) with q | q
          · exact absurd (hl.mpr q) e
          · exact q
        · exact (yP_mask hp hA hc).symm
theorem x_by43 {K : Int32 → kS → Option kS} {v1 v2 : Int32} {t : Nat} (h : xR n κ φ st) (hY : xY n κ t st) (ht : t < 12) (hZ : xZ n κ t 0 0 st) (hK : ∀ v s, kSame [] [] [28] [26] st s → xZ n κ t (uF n) 0 s → kZ (K v s) Q) : kZ (fX6_goBy_L43 K v1 v2 kFU 0 st) Q := by
  have hn := h.1
  have hF := uF_le hn
  refine kfor (σ := kS) (fun F i s => fX6_goBy_L43 K v1 v2 F i s) (fun i s => kSame [] [] [28] [26] st s ∧ xZ n κ t i 0 s) (uF n) ?_ ?_ kFU 0 st (Nat.zero_le _) (kFU_lt0 (by omega)) ⟨kSame.rf, hZ⟩
  · rintro F s ⟨hs, hz⟩
    show kZ (fX6_goBy_L43_B _ _ s v1 v2 (nI (uF n))) _
    unfold fX6_goBy_L43_B
    rw [(h.same hs (by decide)).2.2.2.2.2.2.1]
    exact kZ.ifp (nI_le (Nat.le_refl _) (uF.lt hn)) (hK _ s hs hz)
  · rintro F i s hi ⟨hs, hz⟩ next
    show kZ (fX6_goBy_L43_B _ _ s v1 v2 (nI i)) _
    unfold fX6_goBy_L43_B
    have hx := h.same hs (by decide)
    have hy := hY.same hs (by decide) (by decide)
    rw [hx.2.2.2.2.2.2.1]
    refine kZ.ifn (nI_ge hi (uF.lt hn)) ?_
    rw [kgl_n _ (show i < 720 by omega) (by decide), (hy i hi).1, show nI i + 1 = nI (i + 1) from nI_1 i]
    have hl := (lN_0 (yW_63 (κ := κ) (w := 9) (k := i) hn (show t ≤ 12 by omega))).2
    refine kZ.ite (fun e => next s ⟨hs, fun k hk => ?_⟩) (fun e => ?_)
    · have e0 := hl.mp e
      rw [← yP_skip e0]
      refine ⟨(hz k hk).1, fun h => ((hz k hk).2 h).cg (fun q _ => ?_)⟩
      rw [← yP_skip (κ := κ) (w := q) (F := yW n κ q t) (i := i) (show yW n κ q t i = 0 by have := yW_sub (κ := κ) (q := q) hn t i; omega)]
    · have e0 : 0 < yW n κ 9 t i := by
        rcases Nat.eq_zero_or_pos (yW n κ 9 t i) with q | q
        · exact absurd (hl.mpr q) e
        · exact q
      refine (x_spread hx hy hi ht e0 hz).bind (fun z hz2 => next z ⟨hs.trans hz2.1, fun k hk => ?_⟩)
      rw [← yP_row]
      refine ⟨(hz2.2 k hk).1, fun h => ((hz2.2 k hk).2 h).cg (fun q _ => ?_)⟩
      rw [← yP_row]
theorem x_by80 {K : Int32 → kS → Option kS} {v1 v2 : Int32} (h : xR n κ φ st) (hK : ∀ v s, kSame [] [] [27] [25] st s → (∀ k, k < uF n → gL s 25 k = gL st 26 k ∧ gA s 27 k = gA st 28 k) → kZ (K v s) Q) : kZ (fX6_goBy_L80 K v1 v2 kFU 0 st) Q := by
  have hn := h.1
  have hF := uF_le hn
  refine kfor (σ := kS) (fun F i s => fX6_goBy_L80 K v1 v2 F i s) (fun i s => kSame [] [] [27] [25] st s ∧ ∀ k, k < i → gL s 25 k = gL st 26 k ∧ gA s 27 k = gA st 28 k) (uF n) ?_ ?_ kFU 0 st (Nat.zero_le _) (kFU_lt0 (by omega)) ⟨kSame.rf, fun k q => absurd q (Nat.not_lt_zero k)⟩
  · rintro F s ⟨hs, hz⟩
    show kZ (fX6_goBy_L80_B _ _ s v1 v2 (nI (uF n))) _
    unfold fX6_goBy_L80_B
    rw [(h.same hs (by decide)).2.2.2.2.2.2.1]
    exact kZ.ifp (nI_le (Nat.le_refl _) (uF.lt hn)) (hK _ s hs hz)
  · rintro F i s hi ⟨hs, hz⟩ next
    show kZ (fX6_goBy_L80_B _ _ s v1 v2 (nI i)) _
    unfold fX6_goBy_L80_B
    have hx := h.same hs (by decide)
    rw [hx.2.2.2.2.2.2.1]
    refine kZ.ifn (nI_ge hi (uF.lt hn)) ?_
    rw [kgl_n _ (show i < 720 by omega) (by decide), kg_n _ (show i < 720 by omega) (by decide), kpl_n _ _ (show i < 720 by omega) (by decide), kp_n _ _ (show i < 720 by omega) (by decide), show nI i + 1 = nI (i + 1) from nI_1 i, hs.2.2.2 26 (by decide), hs.2.2.1 28 (by decide)]
    refine next _ ⟨(hs.sL (by decide) _).sA (by decide) _, fun k hk => ?_⟩
    show vp_updL (gL s 25) i (gL st 26 i) k = gL st 26 k ∧ upd (gA s 27) i (gA st 28 i) k = gA st 28 k
    by_cases e : k = i
    · rw [e, updL_e, upd_e]; exact ⟨rfl, rfl⟩
    · rw [updL_n e, upd_n e]; exact hz k (by omega)
theorem x_goBy {N : Nat} (h : xR n κ φ st) (hN : N ≤ 12) : kZ (fX6_goBy st (nI N)) (fun z => kSame [] [] [27, 28] [25, 26] st z ∧ xY n κ N z) := by
  have hn := h.1
  have hF := uF_le hn
  have hp := uF_pos hn
  unfold fX6_goBy
  rw [show kpl 720 (kfillL 720 (gL st 25) 0) 0 1 = vp_updL (kfillL 720 (gL st 25) 0) 0 1 from kpl_n (j := 0) _ _ (by decide) (by decide), show kp 720 (gA st 27) 0 0 = upd (gA st 27) 0 0 from kp_n (j := 0) _ _ (by decide) (by decide)]
  have k0 : kSame [] [] [27, 28] [25, 26] st (sA (sL (sL st 25 (kfillL 720 (gL st 25) 0)) 25 (vp_updL (kfillL 720 (gL st 25) 0) 0 1)) 27 (upd (gA st 27) 0 0)) := ((kSame.rf.sL (by decide) _).sL (by decide) _).sA (by decide) _
  refine kfor (σ := kS) (fun F t s => fX6_goBy_L28 (fun _ s => some s) (nI N) F t s) (fun t s => kSame [] [] [27, 28] [25, 26] st s ∧ xY n κ t s) N ?_ ?_ kFU 0 _ (Nat.zero_le _) (kFU_lt0 (by omega)) ⟨k0, fun k hk => ?_⟩
  · rintro F s ⟨hs, hz⟩
    show kZ (fX6_goBy_L28_B _ _ s (nI N) (nI N)) _
    unfold fX6_goBy_L28_B
    exact kZ.ifp (nI_le (Nat.le_refl _) (n_lt31 (by omega))) (kZ.ret ⟨hs, hz⟩)
  · rintro F t s ht ⟨hs, hz⟩ next
    show kZ (fX6_goBy_L28_B _ _ s (nI N) (nI t)) _
    unfold fX6_goBy_L28_B
    refine kZ.ifn (nI_ge ht (n_lt31 (by omega))) ?_
    have k1 : kSame [] [] [] [26] s (sL s 26 (kfillL 720 (gL s 26) 0)) := kSame.rf.sL (by decide) _
    have hs1 := hs.trans (k1.sub (by decide) (by decide) (by decide) (by decide))
    refine x_by43 (h.same hs1 (by decide)) (hz.same k1 (by decide) (by decide)) (show t < 12 by omega) (fun k hk => ?_) (fun v s2 hs2 hz2 => ?_)
    · rw [yP_start]
      refine ⟨?_, fun q => absurd q (Nat.lt_irrefl 0)⟩
      show kfillL 720 (gL s 26) 0 k = lN 0
      unfold kfillL
      rw [if_pos (by omega)]; rfl
    · have hs3 := hs1.trans (hs2.sub (by decide) (by decide) (by decide) (by decide))
      refine x_by80 (h.same hs3 (by decide)) (fun v s4 hs4 hz4 => ?_)
      rw [show nI t + 1 = nI (t + 1) from nI_1 t]
      refine next s4 ⟨hs3.trans (hs4.sub (by decide) (by decide) (by decide) (by decide)), fun k hk => ?_⟩
      rw [(hz4 k hk).1, (hz4 k hk).2, ← yP_end hn hk]
      refine ⟨(hz2 k hk).1, fun q => ((hz2 k hk).2 q).cg (fun r _ => ?_)⟩
      rw [← yP_end hn hk]
  · show vp_updL (kfillL 720 (gL st 25) 0) 0 1 k = lN (if k = 0 then 1 else 0) ∧ (0 < (if k = 0 then 1 else 0) → uMk n (fun q => decide ((if k = 0 then 1 else 0) = 0)) (upd (gA st 27) 0 0 k))
    by_cases e : k = 0
    · rw [e, updL_e, upd_e]
      exact ⟨rfl, fun _ => ⟨0, rfl, by decide, fun j => by simp⟩⟩
    · rw [updL_n e, upd_n e, if_neg e]
      refine ⟨?_, fun q => absurd q (Nat.lt_irrefl 0)⟩
      unfold kfillL
      rw [if_pos (by omega)]; rfl
end GB
