/-! letters: eight told at once -/
def uBy (x : Int64) (i : Nat) : Nat := x.toBitVec.toNat / 2 ^ (8 * i) % 256
theorem uBy_lt (x : Int64) (i : Nat) : uBy x i < 256 := Nat.mod_lt _ (by decide)
theorem s64_63 : ∀ i, i < 8 → ((nI (8 * i)).toInt64.toUInt64 &&& Int64.toUInt64 63).toNat = 8 * i := by decide +kernel
theorem s64_63b : ∀ i, i < 8 → ((((nI (8 * i)).toInt64 &&& 63).toBitVec).smod 64).toNat = 8 * i := by decide +kernel
theorem toI32_nat (y : Int64) : y.toInt32.toBitVec.toNat = y.toBitVec.toNat % 2 ^ 32 := by
  rw [Int64.toBitVec_toInt32, BitVec.signExtend_eq_setWidth_of_le _ (by decide), BitVec.toNat_setWidth]
theorem by_x (x : Int64) {i : Nat} (hi : i < 8) : ((klushr x (nI (8 * i))).toInt32) &&& 255 = nI (uBy x i) := by
  rw [pk_and _ 8 (by decide), toI32_nat]
  have e : (klushr x (nI (8 * i))).toBitVec.toNat = x.toBitVec.toNat / 2 ^ (8 * i) := by
    unfold klushr
    show (x.toUInt64 >>> ((nI (8 * i)).toInt64.toUInt64 &&& Int64.toUInt64 63)).toNat = _
    rw [UInt64.toNat_shiftRight, s64_63 i hi, Nat.mod_eq_of_lt (show 8 * i < 64 by omega), Nat.shiftRight_eq_div_pow]
    rfl
  rw [e]
  unfold uBy
  rw [Nat.mod_mod_of_dvd _ (by decide)]
theorem bv_sh (x : BitVec 64) {s : Nat} (hs : s ≤ 56) : (x.sshiftRight s).toNat % 256 = x.toNat / 2 ^ s % 256 := by
  have e : (x.sshiftRight s).setWidth 8 = (x >>> s).setWidth 8 := by
    apply BitVec.eq_of_getLsbD_eq
    intro j hj
    rw [BitVec.getLsbD_setWidth, BitVec.getLsbD_setWidth, BitVec.getLsbD_sshiftRight, BitVec.getLsbD_ushiftRight]
    rw [if_pos (show s + j < 64 by omega), decide_eq_false (show ¬ 64 ≤ j by omega), Bool.not_false, Bool.true_and]
  have e2 := congrArg BitVec.toNat e
  rw [BitVec.toNat_setWidth, BitVec.toNat_setWidth, BitVec.toNat_ushiftRight, Nat.shiftRight_eq_div_pow] at e2
  exact e2
theorem klshr_bv (x : Int64) {i : Nat} (hi : i < 8) : (klshr x (nI (8 * i))).toBitVec.toNat % 256 = uBy x i := by
  unfold klshr
  rw [Int64.toBitVec_shiftRight]
  unfold BitVec.sshiftRight'
  rw [s64_63b i hi]
  exact bv_sh _ (by omega)
theorem by_m (x : Int64) {i : Nat} (hi : i < 8) : ((klshr x (nI (8 * i))) &&& 255).toInt32 = nI (uBy x i) := by
  rw [← Int32.toBitVec_inj]
  apply BitVec.eq_of_toNat_eq
  rw [toI32_nat, Int64.toBitVec_and, BitVec.toNat_and, show (255 : Int64).toBitVec.toNat = 2 ^ 8 - 1 from by decide, Nat.and_two_pow_sub_one_eq_mod, show 2 ^ 8 = 256 from rfl, klshr_bv x hi, pk_tn (by have := uBy_lt x i; omega)]
  exact Nat.mod_eq_of_lt (by have := uBy_lt x i; omega)
theorem i8_dec : ∀ b, b < 128 → vp_nar .byte ((Int8.ofNat b).toInt32) = nI b := by decide +kernel
theorem by_n (x : Int64) {i : Nat} (hi : i < 8) (hb : uBy x i < 128) : vp_nar .byte (((klshr x (nI (8 * i))).toInt32).toInt8.toInt32) = nI (uBy x i) := by
  have e : ((klshr x (nI (8 * i))).toInt32).toInt8 = Int8.ofNat (uBy x i) := by
    rw [← Int8.toBitVec_inj]
    apply BitVec.eq_of_toNat_eq
    rw [Int32.toBitVec_toInt8, BitVec.signExtend_eq_setWidth_of_le _ (by decide), BitVec.toNat_setWidth, toI32_nat]
    have h2 : (Int8.ofNat (uBy x i)).toBitVec.toNat = uBy x i % 2 ^ 8 := rfl
    rw [h2, Nat.mod_mod_of_dvd _ (by decide), show 2 ^ 8 = 256 from rfl, klshr_bv x hi, Nat.mod_eq_of_lt (uBy_lt x i)]
  rw [e]
  exact i8_dec _ hb
def tV (b : Nat → Nat) (c : Nat) : Prop := c ≤ 8 ∧ (∀ j, j < c → 0 < b j ∧ b j < 127) ∧ ∀ j, j < 8 → c ≤ j → b j = 0
theorem tV.uniq {b : Nat → Nat} {c c' : Nat} (h : tV b c) (h' : tV b c') : c = c' := by
  obtain ⟨a1, a2, a3⟩ := h
  obtain ⟨b1, b2, b3⟩ := h'
  rcases Nat.lt_trichotomy c c' with q | q | q
  · have := b2 c q
    have := a3 c (by omega) (Nat.le_refl c)
    omega
  · exact q
  · have := a2 c' q
    have := b3 c' (by omega) (Nat.le_refl c')
    omega
/-- what is known when i of the eight are read: c letters, e: the end was seen -/
def tI (b : Nat → Nat) (i c e : Nat) : Prop := c ≤ i ∧ e < 2 ∧ (∀ j, j < c → 0 < b j ∧ b j < 127) ∧ (∀ j, j < i → c ≤ j → b j = 0) ∧ (e = 0 → c = i) ∧ (e = 1 → c < i)
theorem tI.bad1 {b : Nat → Nat} {i c e : Nat} (h : tI b i c e) (hi : i < 8) (hb : 126 < b i) : ∀ C, ¬ tV b C := by
  rintro C ⟨a1, a2, a3⟩
  rcases Nat.lt_or_ge i C with q | q
  · have := a2 i q; omega
  · have := a3 i hi q; omega
theorem tI.bad2 {b : Nat → Nat} {i c : Nat} (h : tI b i c 1) (hi : i < 8) (hb : b i ≠ 0) : ∀ C, ¬ tV b C := by
  rintro C ⟨a1, a2, a3⟩
  have h1 := h.2.2.2.2.2 rfl
  have h2 := h.2.2.2.1 c h1 (Nat.le_refl c)
  rcases Nat.lt_or_ge c C with q | q
  · have := a2 c q; omega
  · exact hb (a3 i hi (by omega))
theorem tI.stop {b : Nat → Nat} {i c e : Nat} (h : tI b i c e) (hb : b i = 0) : tI b (i + 1) c 1 := by
  obtain ⟨h1, h2, h3, h4, h5, h6⟩ := h
  refine ⟨by omega, by decide, h3, fun j hj hc => ?_, fun q => absurd q (by decide), fun _ => by omega⟩
  rcases Nat.lt_or_ge j i with q | q
  · exact h4 j q hc
  · rw [show j = i by omega, hb]
theorem tI.more {b : Nat → Nat} {i c : Nat} (h : tI b i c 0) (hb : b i ≠ 0) (h7 : ¬ 126 < b i) : tI b (i + 1) (c + 1) 0 := by
  obtain ⟨h1, h2, h3, h4, h5, h6⟩ := h
  have hc := h5 rfl
  refine ⟨by omega, by decide, fun j hj => ?_, fun j hj hc => by omega, fun _ => by omega, fun q => absurd q (by decide)⟩
  rcases Nat.lt_or_ge j c with q | q
  · exact h3 j q
  · rw [show j = i by omega]; omega
theorem tI.fin {b : Nat → Nat} {c e : Nat} (h : tI b 8 c e) : tV b c := ⟨h.1, h.2.2.1, h.2.2.2.1⟩
theorem x_told (x : Int64) : kZ (fX5_told x) (fun z => (z = -1 ∧ ∀ C, ¬ tV (uBy x) C) ∨ ∃ c, tV (uBy x) c ∧ z = nI c) := by
  unfold fX5_told
  refine kfor (σ := Nat × Nat) (fun F i s => fX5_told_L7 _ x F (nI s.1) (nI s.2) i) (fun i s => tI (uBy x) i s.1 s.2) 8 ?_ ?_ kFU 0 (0, 0) (Nat.zero_le _) (kFU_lt0 (by decide)) ⟨Nat.le_refl 0, by decide, fun j hj => absurd hj (Nat.not_lt_zero j), fun j hj => absurd hj (Nat.not_lt_zero j), fun _ => rfl, fun q => absurd q (by decide)⟩
  · rintro F ⟨c, e⟩ hs
    show kZ (fX5_told_L7_B _ _ x (nI c) (nI e) (nI 8)) _
    unfold fX5_told_L7_B
    exact kZ.ifp (by decide) (kZ.ret (Or.inr ⟨c, hs.fin, rfl⟩))
  · rintro F i ⟨c, e⟩ hi hs next
    have hB := uBy_lt x i
    show kZ (fX5_told_L7_B _ _ x (nI c) (nI e) (nI i)) _
    unfold fX5_told_L7_B
    refine kZ.ifn (show ¬ nI 8 ≤ nI i from nI_ge hi (by decide)) ?_
    have ec : fX5_codeIn x (nI i) = nI (uBy x i) := by
      unfold fX5_codeIn
      rw [show (8 : Int32) = nI 8 from rfl, pk_mul]
      exact by_x x hi
    rw [ec, show (126 : Int32) = nI 126 from rfl]
    by_cases h7 : 126 < uBy x i
    · exact kZ.ifp (nI_lt h7 (n_lt31 (by omega))) (kZ.ret (Or.inl ⟨rfl, hs.bad1 hi h7⟩))
    refine kZ.ifn (nI_nlt (by omega) (by decide)) ?_
    have hJ : ∀ e, tI (uBy x) i c e → (e = 1 → uBy x i = 0) → kZ (fX5_told_J40 (fun v2_6 _ _ => some v2_6) (fX5_told_L7 (fun v2_6 _ _ => some v2_6) x F) x (nI c) (nI e) (nI i) (nI (uBy x i))) (fun z => (z = -1 ∧ ∀ C, ¬ tV (uBy x) C) ∨ ∃ c, tV (uBy x) c ∧ z = nI c) := by
      intro e hs he
      unfold fX5_told_J40
      rw [show nI i + 1 = nI (i + 1) from nI_1 i, show nI c + 1 = nI (c + 1) from nI_1 c]
      by_cases h0 : uBy x i = 0
      · exact kZ.ifp (by rw [h0]; rfl) (next (c, 1) (hs.stop h0))
      · refine kZ.ifn (fun q => h0 (nI_inj (n_lt31 (by omega)) (by decide) (q.trans l0))) ?_
        have e0 : e = 0 := by
          have := hs.2.1
          rcases Nat.lt_or_ge e 1 with w | w
          · omega
          · exact absurd (he (by omega)) h0
        rw [e0] at hs ⊢
        exact next (c + 1, 0) (hs.more h0 h7)
    rcases Nat.lt_or_ge e 1 with q | q
    · rw [show e = 0 by omega] at hs ⊢
      exact kZ.ifp rfl (hJ 0 hs (fun q => absurd q (by decide)))
    · have e1 : e = 1 := by have := hs.2.1; omega
      rw [e1] at hs ⊢
      refine kZ.ifn (by decide) ?_
      by_cases h0 : uBy x i = 0
      · exact kZ.ifp (by rw [h0]; rfl) (hJ 1 hs (fun _ => h0))
      · exact kZ.ifn (fun q => h0 (nI_inj (n_lt31 (by omega)) (by decide) (q.trans l0))) (kZ.ret (Or.inl ⟨rfl, hs.bad2 hi h0⟩))
def apC (m : Nat) (c b : Nat → Nat) (j : Nat) : Nat := if j < m then c j else b (j - m)
theorem x_append {m t : Nat} {c : Nat → Nat} {st : kS} (x : Int64) (h : pgX m c st) (ht : tV (uBy x) t) (hmt : m + t ≤ 26) : kZ (fX5_append st x (nI t)) (fun z => kSame [2] [] [10] [] st z ∧ pgX (m + t) (apC m c (uBy x)) z) := by
  have ht8 := ht.1
  unfold fX5_append
  refine kfor (σ := kS) (fun F i s => fX5_append_L3 _ x (nI t) F i s) (fun i s => kSame [] [] [10] [] st s ∧ ∀ j, j < m + i → gA s 10 j = nI (apC m c (uBy x) j)) t ?_ ?_ kFU 0 st (Nat.zero_le _) (kFU_lt0 (by omega)) ⟨kSame.rf, fun j hj => by unfold apC; rw [if_pos (by omega)]; exact (h.2.2 j (by omega)).2⟩
  · rintro F s ⟨hs, hp⟩
    show kZ (fX5_append_L3_B _ _ s x (nI t) (nI t)) _
    unfold fX5_append_L3_B
    refine kZ.ifp (nI_le (Nat.le_refl t) (n_lt31 (by omega))) (kZ.ret ⟨(hs.sub (by decide) (by decide) (by decide) (by decide)).sI (by decide) _, hmt, ?_, fun j hj => ⟨?_, hp j hj⟩⟩)
    · rw [gI_e, hs.1 2 (by decide), h.2.1, nI_add]
    · unfold apC
      split
      · exact (h.2.2 j (by assumption)).1
      · exact (ht.2.1 (j - m) (by omega)).2
  · rintro F i s hi ⟨hs, hp⟩ next
    show kZ (fX5_append_L3_B _ _ s x (nI t) (nI i)) _
    unfold fX5_append_L3_B
    refine kZ.ifn (nI_ge hi (n_lt31 (by omega))) ?_
    have ec : fX5_codeIn x (nI i) = nI (uBy x i) := by
      unfold fX5_codeIn
      rw [show (8 : Int32) = nI 8 from rfl, pk_mul]
      exact by_x x (by omega)
    rw [ec, hs.1 2 (by decide), h.2.1, nI_add, kp_n _ _ (by omega) (by decide), show nI i + 1 = nI (i + 1) from nI_1 i]
    refine next _ ⟨hs.sA (by decide) _, fun j hj => ?_⟩
    rw [gA_e]
    by_cases e : j = m + i
    · rw [e, upd_e]
      unfold apC
      rw [if_neg (by omega), show m + i - m = i by omega]
    · rw [upd_n e]
      exact hp j (by omega)
