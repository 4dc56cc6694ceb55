/-! aim -/
def mk (c : Nat → Nat) : Nat → Nat
  | 0 => 0
  | m + 1 => if tB (c m) then mk c m ||| 2 ^ (c m - 48) else mk c m
def cdE (e : Nat → Nat) : Nat → Nat
  | 0 => 0
  | m + 1 => 6 * cdE e m + e m
theorem mk_lt (c : Nat → Nat) : ∀ m, mk c m < 64
  | 0 => by show (0 : Nat) < 64; decide
  | m + 1 => by
    have ih := mk_lt c m
    unfold mk
    cases hb : tB (c m) with
    | false => exact ih
    | true =>
      have h := tB_48 hb
      exact Nat.or_lt_two_pow (n := 6) ih (Nat.pow_lt_pow_right (by decide) (by omega))
theorem mk_bit (c : Nat → Nat) (i : Nat) : ∀ m, (mk c m).testBit i = true ↔ ∃ j, j < m ∧ tB (c j) = true ∧ c j = 48 + i
  | 0 => by
    constructor
    · intro h; rw [show mk c 0 = 0 from rfl, Nat.zero_testBit] at h; cases h
    · rintro ⟨j, hj, _⟩; exact absurd hj (Nat.not_lt_zero j)
  | m + 1 => by
    have ih := mk_bit c i m
    have e : mk c (m + 1) = if tB (c m) then mk c m ||| 2 ^ (c m - 48) else mk c m := rfl
    rw [e]
    cases hb : tB (c m) with
    | false =>
      rw [if_neg (by decide), ih]
      constructor
      · rintro ⟨j, hj, h1, h2⟩; exact ⟨j, by omega, h1, h2⟩
      · rintro ⟨j, hj, h1, h2⟩
        rcases Nat.lt_or_ge j m with r | r
        · exact ⟨j, r, h1, h2⟩
        · rw [show j = m by omega, hb] at h1; cases h1
    | true =>
      have h48 := tB_48 hb
      rw [if_pos rfl, Nat.testBit_or, Bool.or_eq_true, ih, Nat.testBit_two_pow, decide_eq_true_iff]
      constructor
      · rintro (⟨j, hj, h1, h2⟩ | h)
        · exact ⟨j, by omega, h1, h2⟩
        · exact ⟨m, by omega, hb, by omega⟩
      · rintro ⟨j, hj, h1, h2⟩
        rcases Nat.lt_or_ge j m with r | r
        · exact Or.inl ⟨j, r, h1, h2⟩
        · rw [show j = m by omega] at h2
          exact Or.inr (by omega)
theorem uBits_bit (i : Nat) : ∀ b c a, (uBits b c a).testBit i = true ↔ a.testBit i = true ∨ ∃ j, j < b ∧ c / 6 ^ j % 6 = i
  | 0, c, a => by
    constructor
    · intro h; exact Or.inl h
    · rintro (h | ⟨j, hj, _⟩)
      · exact h
      · exact absurd hj (Nat.not_lt_zero j)
  | b + 1, c, a => by
    have ih := uBits_bit i b (c / 6) (a ||| 2 ^ (c % 6))
    have e : uBits (b + 1) c a = uBits b (c / 6) (a ||| 2 ^ (c % 6)) := rfl
    rw [e, ih, Nat.testBit_or, Bool.or_eq_true, Nat.testBit_two_pow, decide_eq_true_iff]
    constructor
    · rintro ((h | h) | ⟨j, hj, h⟩)
      · exact Or.inl h
      · exact Or.inr ⟨0, by omega, by rw [Nat.pow_zero, Nat.div_one]; exact h⟩
      · refine Or.inr ⟨j + 1, by omega, ?_⟩
        rw [Nat.pow_succ, Nat.mul_comm, ← Nat.div_div_eq_div_mul]
        exact h
    · rintro (h | ⟨j, hj, h⟩)
      · exact Or.inl (Or.inl h)
      · rcases Nat.eq_zero_or_pos j with r | r
        · rw [r, Nat.pow_zero, Nat.div_one] at h
          exact Or.inl (Or.inr h)
        · refine Or.inr ⟨j - 1, by omega, ?_⟩
          rw [Nat.div_div_eq_div_mul, Nat.mul_comm, ← Nat.pow_succ, show (j - 1).succ = j by omega]
          exact h
theorem cdE_div {e : Nat → Nat} (he : ∀ j, e j < 6) (n : Nat) : ∀ d, d ≤ n → cdE e n / 6 ^ d = cdE e (n - d)
  | 0, _ => by rw [Nat.pow_zero, Nat.div_one]; rfl
  | d + 1, h => by
    rw [Nat.pow_succ, ← Nat.div_div_eq_div_mul, cdE_div he n d (by omega)]
    have : n - d = (n - (d + 1)) + 1 := by omega
    rw [this]
    show (6 * cdE e (n - (d + 1)) + e (n - (d + 1))) / 6 = _
    have := he (n - (d + 1))
    omega
theorem cdE_dig {e : Nat → Nat} (he : ∀ j, e j < 6) {n j : Nat} (hj : j < n) : cdE e n / 6 ^ (n - 1 - j) % 6 = e j := by
  rw [cdE_div he n _ (by omega), show n - (n - 1 - j) = j + 1 by omega]
  show (6 * cdE e j + e j) % 6 = e j
  have := he j
  omega
theorem cdE_lt {e : Nat → Nat} (he : ∀ j, e j < 6) : ∀ n, cdE e n < 6 ^ n
  | 0 => by show (0 : Nat) < 6 ^ 0; decide
  | n + 1 => by
    have ih := cdE_lt he n
    have := he n
    show 6 * cdE e n + e n < 6 ^ (n + 1)
    rw [Nat.pow_succ]
    omega
theorem full_bit {n i : Nat} : (2 ^ n - 1).testBit i = true ↔ i < n := by
  rw [Nat.testBit_two_pow_sub_one, decide_eq_true_iff]
/-- n letters that name all n houses are an order -/
theorem order_told {n : Nat} {c : Nat → Nat} (hn : uHn n) (h : mk c n = 2 ^ n - 1) : ∃ a, a < uF n ∧ ∀ j, j < n → c j = 48 + uD n a j := by
  have hn6 := hn.2
  have hn3 := hn.1
  have he : ∀ j, (if tB (c j) then c j - 48 else 0) < 6 := fun j => by
    cases hb : tB (c j) with
    | false => rw [if_neg (by decide)]; decide
    | true => have := tB_48 hb; rw [if_pos rfl]; omega
  have hbit : ∀ i, i < n → ∃ j, j < n ∧ tB (c j) = true ∧ c j = 48 + i := fun i hi => by
    rw [← mk_bit c i n, h]
    exact full_bit.mpr hi
  have hlt : ∀ j, j < n → tB (c j) = true → c j < 48 + n := fun j hj hb => by
    have h48 := tB_48 hb
    have := (mk_bit c (c j - 48) n).mpr ⟨j, hj, hb, by omega⟩
    rw [h, full_bit] at this
    omega
  have hf : uFull n (cdE (fun j => if tB (c j) then c j - 48 else 0) n) = true := by
    unfold uFull
    rw [beq_iff_eq]
    apply Nat.eq_of_testBit_eq
    intro i
    rw [Bool.eq_iff_iff, uBits_bit, full_bit]
    constructor
    · rintro (q | ⟨j, hj, q⟩)
      · rw [Nat.zero_testBit] at q; cases q
      · have e := cdE_dig he (n := n) (j := n - 1 - j) (by omega)
        rw [show n - 1 - (n - 1 - j) = j by omega, q] at e
        cases hb : tB (c (n - 1 - j)) with
        | false => rw [hb, if_neg (by decide)] at e; omega
        | true =>
          rw [hb, if_pos rfl] at e
          have := hlt _ (by omega) hb
          have := tB_48 hb
          omega
    · intro hi
      obtain ⟨j, hj, hb, e⟩ := hbit i hi
      refine Or.inr ⟨n - 1 - j, by omega, ?_⟩
      rw [cdE_dig he hj, hb, if_pos rfl, e]
      omega
  obtain ⟨a, ha, ea⟩ := uFull_ex hn (cdE_lt he n) hf
  have hd : ∀ j, j < n → (if tB (c j) then c j - 48 else 0) = uD n a j := fun j hj => by
    rw [← u_6 hn ha hj, ← ea, cdE_dig he hj]
  refine ⟨a, ha, fun j hj => ?_⟩
  have := hd j hj
  cases hb : tB (c j) with
  | true =>
    rw [hb, if_pos rfl] at this
    have := tB_48 hb
    omega
  | false =>
    exfalso
    rw [hb, if_neg (by decide)] at this
    obtain ⟨i, hi, hb2, e⟩ := hbit 0 (by omega)
    have h2 := hd i hi
    rw [hb2, if_pos rfl, e] at h2
    have := uD_inj hn ha hi hj (by omega)
    rw [this, hb] at hb2
    cases hb2
theorem tDg_B {n x : Nat} (hn : n ≤ 6) (h : tDg n x = true) : tB x = true := by
  have := tDg_48 h
  unfold tB
  rw [Bool.and_eq_true]
  exact ⟨Nat.ble_eq.mpr (by omega), Nat.ble_eq.mpr (by omega)⟩
theorem x_isOrder {n m : Nat} {c : Nat → Nat} {st : kS} (h : pgX m c st) (hn : uHn n) : kZ (fX5_isOrder st (nI n)) (fun z => z = b01 (decide (m = n ∧ mk c n = 2 ^ n - 1))) := by
  have hm := h.1
  have hn6 := hn.2
  unfold fX5_isOrder
  rw [h.2.1]
  refine kfor (σ := Nat) (fun F i s => fX5_isOrder_L4 _ st (nI n) F (nI s) i) (fun i s => s = mk c i ∧ ∀ j, j < i → tDg n (c j) = true) m ?_ ?_ kFU 0 0 (Nat.zero_le _) (kFU_lt0 (by omega)) ⟨rfl, fun j hj => absurd hj (Nat.not_lt_zero j)⟩
  · rintro F s ⟨rfl, _⟩
    show kZ (fX5_isOrder_L4_B _ _ st (nI n) (nI (mk c m)) (nI m)) _
    unfold fX5_isOrder_L4_B
    rw [h.2.1]
    refine kZ.ifp (nI_le (Nat.le_refl m) (n_lt31 (by omega))) ?_
    by_cases e : m = n
    · refine kZ.ifp (by rw [e]) ?_
      have h2 : 2 ^ n ≤ 64 := Nat.pow_le_pow_right (by decide) (by omega : n ≤ 6)
      have h2p : 0 < 2 ^ n := Nat.pow_pos (by decide)
      have hmk := mk_lt c m
      rw [kshl_1 _ (by omega), l1, pk_sub (by omega)]
      by_cases e2 : mk c n = 2 ^ n - 1
      · exact kZ.ifp (by rw [e, e2]) (kZ.ret (b01_d ⟨e, e2⟩).symm)
      · exact kZ.ifn (fun q => e2 (by rw [← nI_inj (n_lt31 (by omega)) (n_lt31 (by omega)) q, e])) (kZ.ret (b01_nd (fun q => e2 q.2)).symm)
    · exact kZ.ifn (fun q => e (nI_inj (n_lt31 (by omega)) (n_lt31 (by omega)) q)) (kZ.ret (b01_nd (fun q => e q.1)).symm)
  · rintro F i s hi ⟨rfl, hs⟩ next
    show kZ (fX5_isOrder_L4_B _ _ st (nI n) (nI (mk c i)) (nI i)) _
    unfold fX5_isOrder_L4_B
    rw [h.2.1]
    refine kZ.ifn (nI_ge hi (n_lt31 (by omega))) ?_
    rw [h.isD hi (by omega)]
    have hc := (h.2.2 i hi).1
    cases hb : tDg n (c i) with
    | false =>
      refine kZ.ifp rfl (kZ.ret (b01_nd (fun q => ?_)).symm)
      obtain ⟨a, ha, hd⟩ := order_told hn q.2
      have := hd i (by omega)
      have h2 := uD_lt hn ha (j := i) (by omega)
      have : tDg n (c i) = true := by
        unfold tDg
        rw [Bool.and_eq_true]
        exact ⟨Nat.ble_eq.mpr (by omega), Nat.blt_eq.mpr (by omega)⟩
      rw [hb] at this
      cases this
    | true =>
      have h48 := tDg_48 hb
      refine kZ.ifn (by decide) ?_
      unfold fX5_digit
      rw [kg_n _ (by omega) (by decide), (h.2.2 i hi).2, n_48 _ hc h48.1, kshl_1 (c i - 48) (by omega), fa_or, show nI i + 1 = nI (i + 1) from nI_1 i]
      refine next _ ⟨?_, fun j hj => ?_⟩
      · show _ = if tB (c i) then mk c i ||| 2 ^ (c i - 48) else mk c i
        rw [tDg_B hn6 hb, if_pos rfl]
      · rcases Nat.lt_or_ge j i with r | r
        · exact hs j r
        · rw [show j = i by omega, hb]
theorem m_aimMask {m : Nat} {c : Nat → Nat} {st : kS} {Q : Int32 × kS → Prop} {K : Int32 → Int32 → Option (Int32 × kS)} (h : pgM m c st) (hK : kZ (K (nI (mk c m)) (nI m)) Q) : kZ (fX10_aim_L4 K st kFU 0 0) Q := by
  have hm := h.1
  refine kfor (σ := Nat) (fun F i s => fX10_aim_L4 K st F (nI s) i) (fun i s => s = mk c i) m ?_ ?_ kFU 0 0 (Nat.zero_le _) (kFU_lt0 (by omega)) rfl
  · rintro F s rfl
    show kZ (fX10_aim_L4_B _ _ st (nI (mk c m)) (nI m)) _
    unfold fX10_aim_L4_B
    rw [h.2.1]
    exact kZ.ifp (nI_le (Nat.le_refl m) (n_lt31 (by omega))) hK
  · rintro F i s hi rfl next
    show kZ (fX10_aim_L4_B _ _ st (nI (mk c i)) (nI i)) _
    unfold fX10_aim_L4_B
    rw [h.2.1]
    refine kZ.ifn (nI_ge hi (n_lt31 (by omega))) ?_
    refine kZ.ka (by omega) (by decide) ?_
    have hc := (h.2.2 i hi).1
    rw [(h.2.2 i hi).2, m_B _ hc, show nI i + 1 = nI (i + 1) from nI_1 i]
    have e : mk c (i + 1) = if tB (c i) then mk c i ||| 2 ^ (c i - 48) else mk c i := rfl
    cases hb : tB (c i) with
    | false =>
      rw [hb, if_neg (by decide)] at e
      refine kZ.ifp rfl ?_
      rw [l0, fa_or, Nat.or_zero]
      exact next _ e.symm
    | true =>
      have h48 := tB_48 hb
      rw [hb, if_pos rfl] at e
      refine kZ.ifn (by decide) ?_
      refine kZ.ka (by omega) (by decide) ?_
      rw [(h.2.2 i hi).2, n_48 _ hc h48.1, kshl_1 _ (by omega), fa_or]
      exact next _ e.symm
theorem x_goalRead {n m a : Nat} {c : Nat → Nat} {st : kS} (h : pgX m c st) (hn : uHn n) (h3 : gI st 3 = nI n) (hm : m = n) (ha : a < uF n) (hd : ∀ j, j < n → c j = 48 + uD n a j) : kZ (fX1_read st) (fun z => kSame [13, 14, 15] [] [21] [] st z ∧ uO n a (gA z 21) ∧ gI z 13 = 1 ∧ gI z 14 = 0 ∧ gI z 15 = 0) := by
  have hn6 := hn.2
  unfold fX1_read
  refine kfor (σ := kS) (fun F i s => fX1_read_L2 _ F i s) (fun i s => kSame [] [] [21] [] st s ∧ ∀ j, j < i → gA s 21 j = nI (uD n a j)) n ?_ ?_ kFU 0 st (Nat.zero_le _) (kFU_lt0 (by omega)) ⟨kSame.rf, fun j hj => absurd hj (Nat.not_lt_zero j)⟩
  · rintro F s ⟨hs, ht⟩
    show kZ (fX1_read_L2_B _ _ s (nI n)) _
    unfold fX1_read_L2_B
    rw [hs.1 3 (by decide), h3]
    refine kZ.ifp (nI_le (Nat.le_refl n) hn.lt) (kZ.ret ⟨(((hs.sub (by decide) (by decide) (by decide) (by decide)).sI (by decide) _).sI (by decide) _).sI (by decide) _, ⟨ha, ht⟩, ?_, ?_, gI_e _ _ _⟩)
    · rw [gI_n (by decide), gI_n (by decide)]; exact gI_e _ _ _
    · rw [gI_n (by decide)]; exact gI_e _ _ _
  · rintro F i s hi ⟨hs, ht⟩ next
    show kZ (fX1_read_L2_B _ _ s (nI i)) _
    unfold fX1_read_L2_B
    rw [hs.1 3 (by decide), h3]
    refine kZ.ifn (nI_ge hi hn.lt) ?_
    unfold fX5_digit
    have hc := (h.2.2 i (by omega)).1
    rw [kg_n _ (by omega) (by decide), hs.2.2.1 10 (by decide), (h.2.2 i (by omega)).2, kp_n _ _ (by omega) (by decide), n_48 _ hc (by have := hd i hi; omega), show nI i + 1 = nI (i + 1) from nI_1 i]
    refine next _ ⟨hs.sA (by decide) _, fun j hj => ?_⟩
    rw [gA_e]
    by_cases e : j = i
    · rw [e, upd_e, hd i hi, show 48 + uD n a i - 48 = uD n a i by omega]
    · rw [upd_n e]
      exact ht j (by omega)
theorem m_aimRead {n m a : Nat} {c : Nat → Nat} {st : kS} {Q : Int32 × kS → Prop} {K : Int32 → kS → Option (Int32 × kS)} (h : pgM m c st) (hn : uHn n) (h0 : gI st 0 = nI n) (hm : m = n) (ha : a < uF n) (hd : ∀ j, j < n → c j = 48 + uD n a j) (hK : ∀ s, kSame [] [] [5] [] st s → uO n a (gA s 5) → kZ (K (nI n) s) Q) : kZ (fX10_aim_L87 K kFU 0 st) Q := by
  have hn6 := hn.2
  refine kfor (σ := kS) (fun F i s => fX10_aim_L87 K F i s) (fun i s => kSame [] [] [5] [] st s ∧ ∀ j, j < i → gA s 5 j = nI (uD n a j)) n ?_ ?_ kFU 0 st (Nat.zero_le _) (kFU_lt0 (by omega)) ⟨kSame.rf, fun j hj => absurd hj (Nat.not_lt_zero j)⟩
  · rintro F s ⟨hs, ht⟩
    show kZ (fX10_aim_L87_B _ _ s (nI n)) _
    unfold fX10_aim_L87_B
    rw [hs.1 0 (by decide), h0]
    exact kZ.ifp (nI_le (Nat.le_refl n) hn.lt) (hK s hs ⟨ha, ht⟩)
  · rintro F i s hi ⟨hs, ht⟩ next
    show kZ (fX10_aim_L87_B _ _ s (nI i)) _
    unfold fX10_aim_L87_B
    rw [hs.1 0 (by decide), h0]
    refine kZ.ifn (nI_ge hi hn.lt) ?_
    refine kZ.ka (by omega) (by decide) ?_
    refine kZ.gd (by omega) (by decide) ?_
    have hc := (h.2.2 i (by omega)).1
    rw [hs.2.2.1 6 (by decide), (h.2.2 i (by omega)).2, n_48 _ hc (by have := hd i hi; omega), nI_clamp (n_lt31 (by omega)), show nI i + 1 = nI (i + 1) from nI_1 i]
    refine next _ ⟨hs.sA (by decide) _, fun j hj => ?_⟩
    rw [gA_e]
    by_cases e : j = i
    · rw [e, upd_e, hd i hi, show 48 + uD n a i - 48 = uD n a i by omega]
    · rw [upd_n e]
      exact ht j (by omega)
theorem sim_aim : kH_aim R := by
  intro k sx sm _ H
  obtain ⟨m, c, p1, p2⟩ := H.1
  have hm26 := p1.1
  unfold fX9_aim fX10_aim
  rcases R_stands H with ⟨e1, e2, _⟩ | ⟨r, n, κ, φ, o, h, A, e1, e2⟩
  · obtain ⟨zm, hz, hq⟩ := m_aimMask (Q := fun z => z = (-103, sm)) (K := fun v1_7 _ => if (gI sm 0) = 0 then (some ((-103), sm)) else (if (gI sm 4) = (gI sm 0) then (if v1_7 = ((kshl 1 (gI sm 0)) - 1) then (fX10_aim_L87 (fun _ st_17 => some ((gI st_17 0), (sI (sI st_17 3 1) 4 0))) kFU 0 sm) else (some ((-103), sm))) else (some ((-103), sm)))) p2 (kZ.ifp e2 (kZ.ret rfl))
    rw [if_pos e1]
    refine ⟨_, zm, rfl, hz, ?_, ?_⟩
    · rw [hq]
    · rw [hq]; exact R_mono H (Nat.le_succ k)
  · have hA := A
    obtain ⟨a1, a2, a3, a4, a5, a6, hx, hm, hφ, a7, h5, h6, h7, h8, h9, h10, h11, h12⟩ := A
    have hn := hx.1
    have hn6 := hn.2
    have h2 : 2 ^ n ≤ 64 := Nat.pow_le_pow_right (by decide) (by omega : n ≤ 6)
    have h2p : 0 < 2 ^ n := Nat.pow_pos (by decide)
    have hmk := mk_lt c m
    obtain ⟨z, hz, rfl⟩ := x_isOrder p1 hn
    rw [if_neg (by rw [e1]; decide), hx.2.1, hz]
    simp only [Option.bind_some]
    by_cases q : m = n ∧ mk c n = 2 ^ n - 1
    · obtain ⟨a, ha, hd⟩ := order_told hn q.2
      obtain ⟨zx, hzx, sx1, gx, g13, g14, g15⟩ := x_goalRead p1 hn hx.2.1 q.1 ha hd
      obtain ⟨zm, hzm, hq⟩ := m_aimMask (Q := fun z => z.1 = nI n ∧ kSame [3, 4] [] [5] [] sm z.2 ∧ uO n a (gA z.2 5) ∧ gI z.2 3 = 1 ∧ gI z.2 4 = 0) (K := fun v1_7 _ => if (gI sm 0) = 0 then (some ((-103), sm)) else (if (gI sm 4) = (gI sm 0) then (if v1_7 = ((kshl 1 (gI sm 0)) - 1) then (fX10_aim_L87 (fun _ st_17 => some ((gI st_17 0), (sI (sI st_17 3 1) 4 0))) kFU 0 sm) else (some ((-103), sm))) else (some ((-103), sm)))) p2 (by
        refine kZ.ifn e2 ?_
        rw [p2.2.1, hm.2.1]
        refine kZ.ifp (by rw [q.1]) ?_
        rw [kshl_1 _ (by omega), l1, pk_sub (by omega)]
        refine kZ.ifp (by rw [q.1, q.2]) ?_
        refine m_aimRead p2 hn hm.2.1 q.1 ha hd (fun s hs ho => kZ.ret ⟨(hs.1 0 (by decide)).trans hm.2.1, ((hs.sub (by decide) (by decide) (by decide) (by decide)).sI (by decide) _).sI (by decide) _, ho, ?_, gI_e _ _ _⟩)
        rw [gI_n (by decide)]
        exact gI_e _ _ _)
      rw [b01_d q, if_neg (by decide), hzx]
      refine ⟨_, zm, rfl, hzm, ?_, ?_⟩
      · rw [hq.1]
        show gI (sI zx 2 0) 3 = nI n
        rw [gI_n (by decide), sx1.1 3 (by decide), hx.2.1]
      · have kx : kSame [2, 13, 14, 15] [] [21] [] sx (sI zx 2 0) := (sx1.sub (by decide) (by decide) (by decide) (by decide)).sI (by decide) _
        have km := hq.2.1
        show R (k + 1) (sI zx 2 0) zm.2
        refine ⟨⟨0, c, ⟨Nat.zero_le _, gI_e _ _ _, fun j hj => absurd hj (Nat.not_lt_zero j)⟩, ⟨Nat.zero_le _, hq.2.2.2.2, fun j hj => absurd hj (Nat.not_lt_zero j)⟩⟩, ?_, a3.fr kx km (by decide) (by decide), r, by omega, (kx.1 1 (by decide)).trans a5, (km.1 1 (by decide)).trans a6, Or.inr ⟨n, κ, φ, o, h, hx.same kx (by decide), hm.same km (by decide), hφ, (kx.1 4 (by decide)).trans a7, h5.same kx (by decide), by rw [kx.2.2.1 13 (by decide)]; exact h6, by rw [km.2.2.1 3 (by decide)]; exact h7, by rw [kx.2.2.1 14 (by decide)]; exact h8, by rw [km.2.2.1 4 (by decide)]; exact h9, h10, Or.inr ⟨?_, hq.2.2.2.1, a, gx, hq.2.2.1, Or.inl ?_, Or.inl ?_⟩, h12.fr kx km (by decide) (by decide)⟩⟩
        · show gI (sI zx 2 0) 7 = _
          rw [kx.1 7 (by decide), km.1 2 (by decide)]; exact a2
        · show gI (sI zx 2 0) 13 = 1
          rw [gI_n (by decide)]; exact g13
        · show gI (sI zx 2 0) 14 = 0
          rw [gI_n (by decide)]; exact g14
        · show gI (sI zx 2 0) 15 = 0
          rw [gI_n (by decide)]; exact g15
    · obtain ⟨zm, hzm, hq⟩ := m_aimMask (Q := fun z => z = (-103, sm)) (K := fun v1_7 _ => if (gI sm 0) = 0 then (some ((-103), sm)) else (if (gI sm 4) = (gI sm 0) then (if v1_7 = ((kshl 1 (gI sm 0)) - 1) then (fX10_aim_L87 (fun _ st_17 => some ((gI st_17 0), (sI (sI st_17 3 1) 4 0))) kFU 0 sm) else (some ((-103), sm))) else (some ((-103), sm)))) p2 (by
        refine kZ.ifn e2 ?_
        rw [p2.2.1, hm.2.1]
        by_cases e : m = n
        · refine kZ.ifp (by rw [e]) ?_
          rw [kshl_1 _ (by omega), l1, pk_sub (by omega)]
          exact kZ.ifn (fun w => q ⟨e, by rw [← nI_inj (n_lt31 (by omega)) (n_lt31 (by omega)) w, e]⟩) (kZ.ret rfl)
        · exact kZ.ifn (fun w => e (nI_inj (n_lt31 (by omega)) (n_lt31 (by omega)) w)) (kZ.ret rfl))
      rw [b01_nd q, if_pos rfl]
      refine ⟨_, zm, rfl, hzm, ?_, ?_⟩
      · rw [hq]
      · rw [hq]; exact R_mono H (Nat.le_succ k)
