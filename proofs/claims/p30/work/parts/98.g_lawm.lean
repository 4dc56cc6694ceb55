/-! THE LAW'S OWN METHODS: orders as figures of sixteen -/
theorem lg_cmp_self {x y : Int64} (h : x = y) : lg_cmp x y = 0 := by
  subst h
  unfold lg_cmp
  rw [if_neg (by simp), if_pos rfl]
theorem kZ.eq {Z : Type} {o : Option Z} {v : Z} (h : kZ o (fun z => z = v)) : o = some v := by
  obtain ⟨z, hz, rfl⟩ := h
  exact hz
theorem kZ.of {Z : Type} {o : Option Z} {v : Z} {Q : Z → Prop} (h : o = some v) (q : Q v) : kZ o Q := ⟨v, h, q⟩
theorem kZ.bd {Y Z : Type} {o : Option Y} {v : Y} {g : Y → Option Z} {Q : Z → Prop} (h : o = some v) (k : kZ (g v) Q) : kZ (o.bind g) Q := by
  rw [h]
  exact k
def oL : List Nat → Nat
  | [] => 0
  | x :: t => x + 16 * oL t
def oP (n k : Nat) : Nat := oL (uL n k)
def oOk (n : Nat) : Bool := (List.range (uF n)).all (fun k => Nat.blt (oP n k) 16777216 && (List.range n).all (fun i => oP n k / 16 ^ i % 16 == uD n k i && (Nat.ble (uD n k i * 16 ^ i) (oP n k) && (Nat.ble (uD n k (uN n i) * 16 ^ (uN n i)) (oP n k - uD n k i * 16 ^ i) && (oP n k - uD n k i * 16 ^ i - uD n k (uN n i) * 16 ^ (uN n i) + uD n k (uN n i) * 16 ^ i + uD n k i * 16 ^ (uN n i) == oP n (uC n k i))))))
set_option maxRecDepth 100000 in
theorem oOk_3 : oOk 3 = true := by decide +kernel
set_option maxRecDepth 100000 in
theorem oOk_4 : oOk 4 = true := by decide +kernel
set_option maxRecDepth 100000 in
theorem oOk_5 : oOk 5 = true := by decide +kernel
set_option maxRecDepth 100000 in
theorem oOk_6 : oOk 6 = true := by decide +kernel
theorem oOk_n {n : Nat} (h : uHn n) : oOk n = true := uHn.all (P := fun n => oOk n = true) oOk_3 oOk_4 oOk_5 oOk_6 h
theorem oP_lt {n k : Nat} (hn : uHn n) (hk : k < uF n) : oP n k < 16777216 := by
  have h := u_all (oOk_n hn) hk
  rw [Bool.and_eq_true] at h
  exact Nat.blt_eq.mp h.1
theorem oP_all {n k i : Nat} (hn : uHn n) (hk : k < uF n) (hi : i < n) : oP n k / 16 ^ i % 16 = uD n k i ∧ uD n k i * 16 ^ i ≤ oP n k ∧ uD n k (uN n i) * 16 ^ (uN n i) ≤ oP n k - uD n k i * 16 ^ i ∧ oP n k - uD n k i * 16 ^ i - uD n k (uN n i) * 16 ^ (uN n i) + uD n k (uN n i) * 16 ^ i + uD n k i * 16 ^ (uN n i) = oP n (uC n k i) := by
  have h := u_all (oOk_n hn) hk
  rw [Bool.and_eq_true] at h
  have h2 := u_all h.2 hi
  simp only [Bool.and_eq_true, beq_iff_eq, Nat.ble_eq] at h2
  exact h2
theorem oP31 {n k : Nat} (hn : uHn n) (hk : k < uF n) : oP n k < 2 ^ 31 := Nat.lt_trans (oP_lt hn hk) (by decide)
theorem oP_inj {n k j : Nat} (hn : uHn n) (hk : k < uF n) (hj : j < uF n) (e : oP n k = oP n j) : k = j := by
  have hl : uL n k = uL n j := by
    apply List.ext_getElem?
    intro i
    by_cases hi : i < n
    · rw [uD_get hn hk hi, uD_get hn hj hi, ← (oP_all hn hk hi).1, ← (oP_all hn hj hi).1, e]
    · rw [List.getElem?_eq_none (by rw [uL_len hn hk]; omega), List.getElem?_eq_none (by rw [uL_len hn hj]; omega)]
  rw [← uRk_uL hn hk, ← uRk_uL hn hj, hl]
theorem s4_dec : ∀ i, i < 8 → (((nI (4 * i)) &&& 31).toBitVec.smod 32).toNat = 4 * i := by decide +kernel
theorem l_at {n k i : Nat} (hn : uHn n) (hk : k < uF n) (hi : i < n) : fL_at (nI (oP n k)) (nI i) = nI (uD n k i) := by
  have := hn.2
  unfold fL_at kshr
  rw [show (4 : Int32) = nI 4 from rfl, pk_mul, pk_shrN (oP31 hn hk) _ (4 * i) (s4_dec i (by omega)), pk_andN (Nat.lt_of_le_of_lt (Nat.div_le_self _ _) (Nat.lt_trans (oP31 hn hk) (by decide))) 4 (by decide), Nat.pow_mul]
  exact congrArg nI (oP_all hn hk hi).1
theorem l_place {n k h : Nat} (hn : uHn n) (hk : k < uF n) (hh : h < n) : fL_place (nI n) (nI (oP n k)) (nI h) = some (nI (uI n k h)) := by
  have hI := uI_lt hn hk hh
  refine kZ.eq ?_
  show kZ (fL_place_L5 (fun v3_3 v4_4 => some v3_3) (nI n) (nI (oP n k)) (nI h) kFU (nI 0) (nI 0)) _
  refine kfor (σ := Int32) (fun F i s => fL_place_L5 (fun v3_3 v4_4 => some v3_3) (nI n) (nI (oP n k)) (nI h) F s i) (fun i s => s = nI (if uI n k h < i then uI n k h else 0)) n ?_ ?_ kFU 0 (nI 0) (Nat.zero_le _) (kFU_lt0 (by have := hn.2; omega)) rfl
  · rintro F s rfl
    show kZ (fL_place_L5_B _ _ _ _ _ _ (nI n)) _
    unfold fL_place_L5_B
    refine kZ.ifp (nI_le (Nat.le_refl n) hn.lt) (kZ.ret ?_)
    rw [if_pos hI]
  · rintro F i s hi rfl next
    show kZ (fL_place_L5_B _ _ _ _ _ _ (nI i)) _
    unfold fL_place_L5_B
    refine kZ.ifn (nI_ge hi hn.lt) ?_
    rw [l_at hn hk hi, l1, nI_add]
    refine kZ.ite (fun e => next _ ?_) (fun e => next _ ?_)
    · have := nI_inj (uD_lt31 hn hk hi) (hn.lp hh) e
      have e2 : uI n k h = i := by rw [← this, uI_uD hn hk hi]
      rw [e2, if_pos (Nat.lt_succ_self i)]
    · have hne : uI n k h ≠ i := fun q => e (by rw [← q, uD_uI hn hk hh])
      by_cases q : uI n k h < i
      · rw [if_pos q, if_pos (by omega)]
      · rw [if_neg q, if_neg (by omega)]
theorem l_beside {n k a b : Nat} (hn : uHn n) (hk : k < uF n) (ha : a < n) (hb : b < n) : fL_beside (nI n) (nI (oP n k)) (nI a) (nI b) = some (b01 (uAdj n k a b)) := by
  have h1 := uI_lt hn hk ha
  have h2 := uI_lt hn hk hb
  have g1 := uN_lt hn h1
  have g2 := uN_lt hn h2
  unfold fL_beside
  rw [l_place hn hk ha, l_place hn hk hb]
  simp only [Option.bind_some]
  rw [if_neg (nI_ne0 (by have := hn.1; omega) hn.lt), kr_next hn h1, kr_next hn h2]
  unfold uAdj uBs
  by_cases c1 : uN n (uI n k a) = uI n k b
  · rw [if_pos (congrArg nI c1), beq_iff_eq.mpr c1]
    rfl
  · rw [if_neg (fun q => c1 (nI_inj (hn.lp g1) (hn.lp h2) q))]
    by_cases c2 : uN n (uI n k b) = uI n k a
    · rw [if_pos (congrArg nI c2), beq_iff_eq.mpr c2, Bool.or_true]
      rfl
    · rw [if_neg (fun q => c2 (nI_inj (hn.lp g2) (hn.lp h1) q)), beq_eq_false_iff_ne.mpr c1, beq_eq_false_iff_ne.mpr c2]
      rfl
theorem l_round : ∀ n, n < 7 → ∀ p, p < 7 → ∀ q, q < 7 → fL_round (nI n) (nI p) (nI q) = uWy n p q := by decide +kernel
theorem shl_dec : ∀ a, a < 7 → ∀ p, p < 6 → kshl (nI a) (4 * nI p) = nI (a * 16 ^ p) := by decide +kernel
def oF : Nat → Nat
  | 0 => 0
  | i + 1 => oF i + i * 16 ^ i
theorem oF_dec (n : Nat) (hn : uHn n) : oF n = oP n 0 := uHn.all (P := fun n => oF n = oP n 0) (by decide +kernel) (by decide +kernel) (by decide +kernel) (by decide +kernel) hn
theorem l_first {n : Nat} (hn : uHn n) : fL_first (nI n) = some (nI (oP n 0)) := by
  refine kZ.eq ?_
  show kZ (fL_first_L4 (fun v1_2 v2_3 => some v1_2) (nI n) kFU (nI 0) (nI 0)) _
  refine kfor (σ := Int32) (fun F i s => fL_first_L4 (fun v1_2 v2_3 => some v1_2) (nI n) F s i) (fun i s => s = nI (oF i)) n ?_ ?_ kFU 0 (nI 0) (Nat.zero_le _) (kFU_lt0 (by have := hn.2; omega)) rfl
  · rintro F s rfl
    show kZ (fL_first_L4_B _ _ _ _ (nI n)) _
    unfold fL_first_L4_B
    refine kZ.ifp (nI_le (Nat.le_refl n) hn.lt) (kZ.ret ?_)
    rw [oF_dec n hn]
  · rintro F i s hi rfl next
    show kZ (fL_first_L4_B _ _ _ _ (nI i)) _
    unfold fL_first_L4_B
    have := hn.2
    refine kZ.ifn (nI_ge hi hn.lt) ?_
    rw [shl_dec i (by omega) i (by omega), l1, nI_add, nI_add]
    exact next _ rfl
/-- what the law's rows say of kinds and feuds -/
def lK (n : Nat) (κ : Nat → Nat) (st : kS) : Prop := ∀ i, i < n → κ i < 4 ∧ gA st 31 i = nI (κ i)
def lF (n : Nat) (φ : Nat → Nat → Bool) (st : kS) : Prop := ∀ i j, i < n → j < n → (kshr (gA st 32 i) (nI j)) &&& 1 = b01 (φ i j)
theorem lK.ka {n i : Nat} {κ : Nat → Nat} {st : kS} (hn : uHn n) (h : lK n κ st) (hi : i < n) : ka 6 (gA st 31) (nI i) = some (nI (κ i)) := by
  have := hn.2
  rw [ka_n _ (by omega) (by decide), (h i hi).2]
theorem ch_dec (X Y : Option Int32) : ∀ a, a < 4 → ∀ b, b < 4 → (if nI a = 1 then X else if nI a = 3 then X else if nI b = 1 then X else if nI b = 3 then X else Y) = if ((a == 1 || a == 3) || (b == 1 || b == 3)) = true then X else Y := by
  intro a ha b hb
  have a4 : a = 0 ∨ a = 1 ∨ a = 2 ∨ a = 3 := by omega
  have b4 : b = 0 ∨ b = 1 ∨ b = 2 ∨ b = 3 := by omega
  rcases a4 with rfl | rfl | rfl | rfl <;> rcases b4 with rfl | rfl | rfl | rfl <;> rfl
theorem l_change {n k p : Nat} {κ : Nat → Nat} {st : kS} {x : Int32} (hn : uHn n) (h : lK n κ st) (hk : k < uF n) (hp : p < n) (hx : kr (x + nI n) (nI n) = nI p) : fL_change st (nI n) (nI (oP n k)) x = some (nI (oP n (mStep n κ k p))) := by
  have hq := uN_lt hn hp
  have hn6 := hn.2
  have d1 := uD_lt hn hk hp
  have d2 := uD_lt hn hk hq
  unfold fL_change fL_change_J63
  rw [if_neg (nI_ne0 (by have := hn.1; omega) hn.lt), hx, kr_next hn hp, l_at hn hk hp, l_at hn hk hq, h.ka hn d1, h.ka hn d2]
  simp only [Option.bind_some]
  rw [ch_dec _ _ _ (h _ d1).1 _ (h _ d2).1]
  unfold mStep uSt
  by_cases c : ((κ (uD n k p) == 1 || κ (uD n k p) == 3) || (κ (uD n k (uN n p)) == 1 || κ (uD n k (uN n p)) == 3)) = true
  · rw [if_pos c, if_pos c]
    rfl
  · rw [if_neg c, if_neg c]
    unfold fL_change_J68
    rw [if_pos rfl, shl_dec _ (by omega) _ (by omega), shl_dec _ (by omega) _ (by omega), shl_dec _ (by omega) _ (by omega), shl_dec _ (by omega) _ (by omega)]
    obtain ⟨-, t1, t2, t3⟩ := oP_all hn hk hp
    rw [pk_sub t1, pk_sub t2, nI_add, nI_add, t3]
/-- sums below -/
def sB (g : Nat → Nat) : Nat → Nat
  | 0 => 0
  | i + 1 => sB g i + g i
theorem sB_cg {g h : Nat → Nat} : ∀ n, (∀ i, i < n → g i = h i) → sB g n = sB h n
  | 0, _ => rfl
  | n + 1, e => by
    show sB g n + g n = sB h n + h n
    rw [sB_cg n (fun i hi => e i (by omega)), e n (by omega)]
theorem sB_row {g : Nat → Nat} {n : Nat} : sB g n = uRow g n 0 := by
  have h : ∀ d j, j + d = n → sB g n = sB g j + uRow g n j := by
    intro d
    induction d with
    | zero =>
      intro j hj
      rw [uRow_e (by omega), show j = n by omega]
      rfl
    | succ d ih =>
      intro j hj
      rw [ih (j + 1) (by omega), uRow_s (show j < n by omega)]
      show sB g j + g j + _ = _
      omega
  have := h n 0 (by omega)
  rw [this]
  show 0 + _ = _
  omega
theorem sB_tri {g : Nat → Nat → Nat} (hg : ∀ a b, g a b = g b a) {n : Nat} (hn : uHn n) : sB (fun a => sB (fun b => g a b) a) n = uRow (fun a => uRow (fun b => g a b) n (a + 1)) n 0 := by
  have e10 := hg 1 0
  have e20 := hg 2 0
  have e21 := hg 2 1
  have e30 := hg 3 0
  have e31 := hg 3 1
  have e32 := hg 3 2
  have e40 := hg 4 0
  have e41 := hg 4 1
  have e42 := hg 4 2
  have e43 := hg 4 3
  have e50 := hg 5 0
  have e51 := hg 5 1
  have e52 := hg 5 2
  have e53 := hg 5 3
  have e54 := hg 5 4
  rcases hn.c with rfl | rfl | rfl | rfl <;> simp [sB, uRow, List.range'] <;> omega
def lT (n : Nat) (κ : Nat → Nat) (φ : Nat → Nat → Bool) (k a b : Nat) : Nat := if uAdj n k a b then uG κ φ (a, b) else 0
theorem l_touch15 {n k a s0 : Nat} {κ : Nat → Nat} {φ : Nat → Nat → Bool} {st : kS} {K : Int32 → Int32 → Option Int32} {Q : Int32 → Prop} (hn : uHn n) (hk : k < uF n) (h1 : lK n κ st) (h2 : lF n φ st) (ha : a < n) (hK : ∀ w, kZ (K (nI (s0 + sB (lT n κ φ k a) a)) w) Q) : kZ (fL_touch_L15 K st (nI n) (nI (oP n k)) (nI a) kFU (nI s0) 0) Q := by
  have hn6 := hn.2
  refine kfor (σ := Int32) (fun F i s => fL_touch_L15 K st (nI n) (nI (oP n k)) (nI a) F s i) (fun i s => s = nI (s0 + sB (lT n κ φ k a) i)) a ?_ ?_ kFU 0 (nI s0) (Nat.zero_le _) (kFU_lt0 (by omega)) rfl
  · rintro F s rfl
    show kZ (fL_touch_L15_B _ _ _ _ _ _ _ (nI a)) _
    unfold fL_touch_L15_B
    exact kZ.ifp (nI_le (Nat.le_refl a) (hn.lp ha)) (hK _)
  · rintro F i s hi rfl next
    show kZ (fL_touch_L15_B _ _ _ _ _ _ _ (nI i)) _
    unfold fL_touch_L15_B
    refine kZ.ifn (nI_ge hi (hn.lp ha)) ?_
    rw [ka_n _ (show a < 6 by omega) (by decide), h1.ka hn ha, h1.ka hn (show i < n by omega), l_beside hn hk ha (show i < n by omega)]
    simp only [Option.bind_some]
    rw [h2 a i ha (by omega), l1, l0, nI_add, nI_add, nI_add]
    have hv : sB (lT n κ φ k a) (i + 1) = sB (lT n κ φ k a) i + (if uAdj n k a i then (if φ a i && (!(κ a == 2) && !(κ i == 2)) then 1 else 0) else 0) := rfl
    have n0 : ∀ v, s0 + sB (lT n κ φ k a) (i + 1) = s0 + sB (lT n κ φ k a) i + v → nI (s0 + sB (lT n κ φ k a) i + v) = nI (s0 + sB (lT n κ φ k a) (i + 1)) := fun v e => by rw [e]
    cases hq : φ a i with
    | false =>
      rw [hq] at hv
      exact kZ.ifn (by decide) (next _ (n0 0 (by rw [hv]; simp)))
    | true =>
      rw [hq] at hv
      refine kZ.ifp rfl ?_
      by_cases c1 : κ a = 2
      · rw [c1] at hv ⊢
        exact kZ.ifp rfl (next _ (n0 0 (by rw [hv]; simp)))
      · refine kZ.ifn (fun q => c1 (nI_inj (n_lt31 (by have := (h1 a ha).1; omega)) (by decide) q)) ?_
        by_cases c2 : κ i = 2
        · rw [c2] at hv ⊢
          exact kZ.ifp rfl (next _ (n0 0 (by rw [hv]; simp)))
        · refine kZ.ifn (fun q => c2 (nI_inj (n_lt31 (by have := (h1 i (by omega)).1; omega)) (by decide) q)) ?_
          rw [beq_eq_false_iff_ne.mpr c1, beq_eq_false_iff_ne.mpr c2] at hv
          cases hj : uAdj n k a i with
          | false =>
            rw [hj] at hv
            exact kZ.ifp rfl (next _ (n0 0 (by rw [hv]; simp)))
          | true =>
            rw [hj] at hv
            exact kZ.ifn (by decide) (next _ (n0 1 (by rw [hv]; simp; omega)))
theorem l_touch {n k : Nat} {κ : Nat → Nat} {φ : Nat → Nat → Bool} {st : kS} (hn : uHn n) (hk : k < uF n) (h1 : lK n κ st) (h2 : lF n φ st) (hφ : ∀ a b, φ a b = φ b a) : fL_touch st (nI n) (nI (oP n k)) = some (nI (uT n κ φ k)) := by
  have hn6 := hn.2
  refine kZ.eq ?_
  show kZ (fL_touch_L6 (fun v4_16 v5_17 => some v4_16) st (nI n) (nI (oP n k)) kFU (nI 0) (nI 0)) _
  refine kfor (σ := Int32) (fun F i s => fL_touch_L6 (fun v4_16 v5_17 => some v4_16) st (nI n) (nI (oP n k)) F s i) (fun i s => s = nI (sB (fun a => sB (lT n κ φ k a) a) i)) n ?_ ?_ kFU 0 (nI 0) (Nat.zero_le _) (kFU_lt0 (by omega)) rfl
  · rintro F s rfl
    show kZ (fL_touch_L6_B _ _ _ _ _ _ (nI n)) _
    unfold fL_touch_L6_B
    refine kZ.ifp (nI_le (Nat.le_refl n) hn.lt) (kZ.ret ?_)
    rw [uT_pairs hn hk]
    refine congrArg nI (sB_tri (g := fun a b => lT n κ φ k a b) (fun a b => ?_) hn)
    show (if uAdj n k a b then uG κ φ (a, b) else 0) = if uAdj n k b a then uG κ φ (b, a) else 0
    rw [uAdj_comm n k a b, uG_comm hφ a b]
  · rintro F i s hi rfl next
    show kZ (fL_touch_L6_B _ _ _ _ _ _ (nI i)) _
    unfold fL_touch_L6_B
    refine kZ.ifn (nI_ge hi hn.lt) ?_
    refine l_touch15 hn hk h1 h2 hi (fun w => ?_)
    rw [l1, nI_add]
    exact next _ rfl
/-! fractions -/
theorem l_terms_L {Q : Int32 → Prop} {K : Int64 → Int64 → Option Int32} {v0 v1 v2 v3 : Int64} {g : Nat} (hK : ∀ v, kZ (K v (lN g)) Q) :
    ∀ F d (s : Nat × Nat), d < F → uEu g d s.1 s.2 → kZ (fL_terms_L8 K v0 v1 v2 v3 F (lN s.2) (lN s.1)) Q := by
  refine kwhile (fun F (s : Nat × Nat) => fL_terms_L8 K v0 v1 v2 v3 F (lN s.2) (lN s.1)) (fun d s => uEu g d s.1 s.2) ?_
  rintro F d ⟨a, b⟩ hm next
  dsimp only at hm
  show kZ (fL_terms_L8_B _ _ v0 v1 v2 v3 (lN b) (lN a)) Q
  unfold fL_terms_L8_B
  have hb : b < 2 ^ 63 := Nat.lt_trans hm.2.2.1 (by decide)
  have ha : a < 2 ^ 63 := Nat.lt_trans hm.2.1 (by decide)
  refine kZ.ite (fun e => ?_) (fun e => ?_)
  · have h0 : b = 0 := (lN_0 hb).2.mp e
    have hg := hm.1
    rw [h0, Nat.gcd_zero_right] at hg
    rw [hg]
    exact hK _
  · have h0 : 0 < b := Nat.pos_of_ne_zero (fun q => e ((lN_0 hb).2.mpr q))
    obtain ⟨d', hd, hm'⟩ := hm.step h0
    refine kZ.ifn (fun q => ?_) ?_
    · have := (pk_lEQ (a := b) (b := 0) hb (by decide)).mp q
      omega
    · show kZ (fL_terms_L8 K v0 v1 v2 v3 F (lN a - lN a / lN b * lN b) (lN b)) Q
      rw [pk_lRem ha h0 hb]
      exact next d' (b, a % b) (by omega) hm'
theorem l_terms {a b : Nat} (ha : a < 2 ^ 21) (hb : b < 2 ^ 21) (h0 : 0 < b) : fL_terms (nI (uLw a b 0)).toInt64 (nI (uLw a b 1)).toInt64 (lN a) (lN b) = some 1 := by
  have hg : Nat.gcd b a = Nat.gcd a b := Nat.gcd_comm b a
  have hg0 : 0 < Nat.gcd a b := Nat.gcd_pos_of_pos_right a h0
  have e0 : uLw a b 0 = a / Nat.gcd a b := if_pos rfl
  have e1 : uLw a b 1 = b / Nat.gcd a b := if_neg (by decide)
  have l0 : a / Nat.gcd a b < 2 ^ 31 := Nat.lt_of_le_of_lt (Nat.div_le_self _ _) (by omega)
  have l1 : b / Nat.gcd a b < 2 ^ 31 := Nat.lt_of_le_of_lt (Nat.div_le_self _ _) (by omega)
  have p1 : 0 < b / Nat.gcd a b := Nat.div_pos (Nat.le_of_dvd h0 (Nat.gcd_dvd_right a b)) hg0
  have gl : Nat.gcd a b < 2 ^ 63 := Nat.lt_of_le_of_lt (Nat.le_of_dvd h0 (Nat.gcd_dvd_right a b)) (by omega)
  rw [e0, e1, nI_l l0, nI_l l1]
  refine kZ.eq ?_
  unfold fL_terms
  refine l_terms_L (g := Nat.gcd a b) (fun v => ?_) kFU 43 (b, a) (by decide) (hg ▸ uEu.start hb ha)
  refine kZ.ifn (fun q => ?_) ?_
  · have := (lN_0 (a := b / Nat.gcd a b) (by omega)).2.mp q
    omega
  · refine kZ.ifn (fun q => ?_) ?_
    · have := (pk_lEQ (a := Nat.gcd a b) (b := 0) gl (by decide)).mp q
      omega
    · rw [pk_lDiv (by omega) hg0 gl, pk_lDiv (by omega) hg0 gl]
      exact kZ.ifp (lg_cmp_self rfl) (kZ.ifp (lg_cmp_self rfl) (kZ.ret rfl))
