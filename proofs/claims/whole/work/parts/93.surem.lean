/-! surely: the reference -/
def mX (d : Nat) : Int32 := if d = 5000 then 268435456 else nI d
theorem mX_far {d : Nat} (h : d = 5000 ∨ d < 1000) : mX d = 268435456 ↔ d = 5000 := by
  unfold mX
  rcases h with h | h
  · rw [if_pos h]; exact ⟨fun _ => h, fun _ => rfl⟩
  · rw [if_neg (by omega)]
    exact ⟨fun e => absurd e (nI_inf h), fun e => by omega⟩
theorem mX_le {t d : Nat} (ht : t < 1000) (h : d = 5000 ∨ d < 1000) : nI t ≤ mX d ↔ ¬ d < t := by
  unfold mX
  rcases h with h | h
  · rw [if_pos h]
    exact ⟨fun _ => by omega, fun _ => nI_le (b := 268435456) (by omega) (by decide)⟩
  · rw [if_neg (by omega), nI_leI (n_lt31 (by omega)) (n_lt31 (by omega))]
    omega
section SM
variable {n a : Nat} {κ : Nat → Nat} {φ : Nat → Nat → Bool} {st : kS}
def mSv (n : Nat) (D : Nat → Nat) (s : kS) : Prop := ∀ k, k < uF n → gA s 18 k = mX (D k)
theorem c2_dec : ∀ c, c < 3 → ¬ (2 : Int32) ≤ nI c - 1 ∧ nI c - 1 + 1 = nI (c + 1) - 1 := by decide +kernel
theorem m_sure24 {K : Int32 → Int32 → Option Int32} {Q : Int32 → Prop} {D : Nat → Nat} {t i d : Nat} (h : mR n κ φ st) (hD : ∀ k, k < uF n → D k = 5000 ∨ D k < 1000) (hX : mSv n D st) (ht : t < 1000) (hi : i < uF n) (hd : d < n) (hK : ∀ b w, (b = true ↔ ∃ c, c < 3 ∧ D (mStep n κ i (aP n d c)) < t) → kZ (K (b01 b) w) Q) : ∀ e F c b, c + e = 3 → e < F → (b = true ↔ ∃ c', c' < c ∧ D (mStep n κ i (aP n d c')) < t) → kZ (fX10_isSure_L24 K st (nI i) (nI t) (nI d) F (b01 b) (nI c - 1)) Q := by
  have hn := h.1
  have hF := uF_le hn
  intro e
  induction e with
  | zero =>
    intro F c b hc he hb
    obtain ⟨F, rfl⟩ : ∃ F', F = F' + 1 := ⟨F - 1, by omega⟩
    rw [show c = 3 by omega] at hb ⊢
    show kZ (fX10_isSure_L24_B _ _ st (nI i) (nI t) (nI d) (b01 b) (nI 3 - 1)) _
    unfold fX10_isSure_L24_B
    exact kZ.ifp (by decide) (hK b _ hb)
  | succ e ih =>
    intro F c b hc he hb
    obtain ⟨F, rfl⟩ : ∃ F', F = F' + 1 := ⟨F - 1, by omega⟩
    have hc3 : c < 3 := by omega
    show kZ (fX10_isSure_L24_B _ _ st (nI i) (nI t) (nI d) (b01 b) (nI c - 1)) _
    unfold fX10_isSure_L24_B
    refine kZ.ifn (c2_dec c hc3).1 ?_
    have hm := mStep_lt (κ := κ) hn hi (aP_lt (d := d) (c := c) hn)
    cases b with
    | true =>
      refine kZ.ifn (by decide) (hK true _ ⟨fun _ => ?_, fun _ => rfl⟩)
      obtain ⟨c', h1, h2⟩ := hb.mp rfl
      exact ⟨c', by omega, h2⟩
    | false =>
      refine kZ.ifp rfl ?_
      rw [h.placeBy hd hc3]
      simp only [Option.bind_some]
      rw [h.behind hi (aP_lt hn)]
      simp only [Option.bind_some]
      refine kZ.ka (by omega) (by decide) ?_
      rw [hX _ hm, (c2_dec c hc3).2]
      have hle := mX_le ht (hD _ hm)
      refine kZ.ite (fun q => ih F (c + 1) false (by omega) (by omega) ⟨fun r => absurd r (by decide), ?_⟩) (fun q => ih F (c + 1) true (by omega) (by omega) ⟨fun _ => ⟨c, by omega, ?_⟩, fun _ => rfl⟩)
      · rintro ⟨c', h1, h2⟩
        rcases Nat.lt_or_ge c' c with r | r
        · exact absurd (hb.mpr ⟨c', r, h2⟩) (by decide)
        · rw [show c' = c by omega] at h2
          exact absurd h2 (hle.mp q)
      · rcases Nat.lt_or_ge (D (mStep n κ i (aP n d c))) t with r | r
        · exact r
        · exact absurd (hle.mpr (by omega)) q
theorem m_isSure {D : Nat → Nat} {t i : Nat} (h : mR n κ φ st) (hD : ∀ k, k < uF n → D k = 5000 ∨ D k < 1000) (hX : mSv n D st) (ht : t < 1000) (hi : i < uF n) : kZ (fX10_isSure st (nI i) (nI t)) (fun z => ∃ b, z = b01 b ∧ (b = true ↔ ∀ d, d < n → ∃ c, c < 3 ∧ D (mStep n κ i (aP n d c)) < t)) := by
  have hn := h.1
  have hn6 := hn.2
  unfold fX10_isSure
  refine kfor (σ := Bool) (fun F d b => fX10_isSure_L5 (fun v3_12 _ => if ¬ (v3_12 = 0 ∨ v3_12 = 1) then none else some v3_12) st (nI i) (nI t) F (b01 b) d) (fun d b => b = true ↔ ∀ d', d' < d → ∃ c, c < 3 ∧ D (mStep n κ i (aP n d' c)) < t) n ?_ ?_ kFU 0 true (Nat.zero_le _) (kFU_lt0 (by omega)) ⟨fun _ d' q => absurd q (Nat.not_lt_zero d'), fun _ => rfl⟩
  · rintro F b hb
    show kZ (fX10_isSure_L5_B _ _ st (nI i) (nI t) (b01 b) (nI n)) _
    unfold fX10_isSure_L5_B
    rw [h.2.1]
    exact kZ.ifp (nI_le (Nat.le_refl n) hn.lt) (kZ.ifn (fun q => q (b01_c b)) (kZ.ret ⟨b, rfl, hb⟩))
  · rintro F d b hd hb next
    show kZ (fX10_isSure_L5_B _ _ st (nI i) (nI t) (b01 b) (nI d)) _
    unfold fX10_isSure_L5_B
    rw [h.2.1]
    refine kZ.ifn (nI_ge hd hn.lt) ?_
    cases b with
    | false =>
      refine kZ.ifp rfl (kZ.ifn (fun q => q (Or.inl rfl)) (kZ.ret ⟨false, rfl, fun q => absurd q (by decide), fun q => hb.mpr (fun d' hd' => q d' (by omega))⟩))
    | true =>
      refine kZ.ifn (by decide) ?_
      rw [show nI d + 1 = nI (d + 1) from nI_1 d]
      refine m_sure24 h hD hX ht hi hd (fun b w hb2 => next b ?_) 3 kFU 0 false rfl (by show 3 < 60000; decide) ⟨fun q => absurd q (by decide), fun q => by obtain ⟨c, hc, _⟩ := q; omega⟩
      constructor
      · intro q d' hd'
        rcases Nat.lt_or_ge d' d with r | r
        · exact hb.mp rfl d' r
        · rw [show d' = d by omega]; exact hb2.mp q
      · intro q
        exact hb2.mpr (q d (by omega))
theorem m_sure2 {Q : Int32 × kS → Prop} {K : Int32 → kS → Option (Int32 × kS)} (h : mR n κ φ st) (ha : uO n a (gA st 5)) (hK : ∀ v s, kSame [] [] [18] [] st s → mSv n (fun k => if k = a then 0 else 5000) s → kZ (K v s) Q) : kZ (fX10_surelyNow_L2 K kFU 0 st) Q := by
  have hn := h.1
  have hF := uF_le hn
  refine kfor (σ := kS) (fun F i s => fX10_surelyNow_L2 K F i s) (fun i s => kSame [] [] [18] [] st s ∧ ∀ j, j < i → gA s 18 j = mX (if j = a then 0 else 5000)) (uF n) ?_ ?_ kFU 0 st (Nat.zero_le _) (kFU_lt0 (by omega)) ⟨kSame.rf, fun j hj => absurd hj (Nat.not_lt_zero j)⟩
  · rintro F s ⟨hs, ht⟩
    show kZ (fX10_surelyNow_L2_B _ _ s (nI (uF n))) _
    unfold fX10_surelyNow_L2_B
    rw [hs.1 16 (by decide), h.2.2.2.2.1]
    exact kZ.ifp (nI_le (Nat.le_refl _) (n_lt31 (by omega))) (hK _ s hs ht)
  · rintro F i s hi ⟨hs, ht⟩ next
    show kZ (fX10_surelyNow_L2_B _ _ s (nI i)) _
    unfold fX10_surelyNow_L2_B
    have hx := h.same hs (by decide)
    have c1 := uCd_lt hn hi
    have c2 := uCd_lt hn ha.1
    have c3 := u6_le hn
    rw [hx.2.2.2.2.1]
    refine kZ.ifn (nI_ge hi (n_lt31 (by omega))) (kZ.ka (by omega) (by decide) ?_)
    rw [hx.2.2.2.2.2.1 i hi, m_code hn hx.2.1 (k := a) (by rw [hs.2.2.1 5 (by decide)]; exact ha)]
    simp only [Option.bind_some]
    have st1 : ∀ v, (v = mX (if i = a then 0 else 5000)) → kSame [] [] [18] [] st (sA s 18 (upd (gA s 18) i v)) ∧ ∀ j, j < i + 1 → gA (sA s 18 (upd (gA s 18) i v)) 18 j = mX (if j = a then 0 else 5000) := fun v hv => by
      refine ⟨hs.sA (by decide) _, fun j hj => ?_⟩
      rw [gA_e]
      by_cases e : j = i
      · rw [e, upd_e]; exact hv
      · rw [upd_n e]; exact ht j (by omega)
    refine kZ.ite (fun e => kZ.gd (by omega) (by decide) ?_) (fun e => kZ.gd (by omega) (by decide) ?_)
    · have e2 := uCd_inj hn hi ha.1 (nI_inj (n_lt31 (by omega)) (n_lt31 (by omega)) e)
      rw [nI_clamp (n_lt31 (by omega)), show nI i + 1 = nI (i + 1) from nI_1 i]
      exact next _ (st1 _ (by rw [if_pos e2]; rfl))
    · have e2 : ¬ i = a := fun q => e (by rw [q])
      rw [nI_clamp (n_lt31 (by omega)), show nI i + 1 = nI (i + 1) from nI_1 i]
      exact next _ (st1 _ (by rw [if_neg e2]; rfl))
end SM
