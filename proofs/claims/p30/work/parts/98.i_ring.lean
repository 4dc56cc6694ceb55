/-! THE LAW'S RING: written letter by letter, and read -/
theorem by_ch : ∀ ch, ch < 127 → uBy (nI ch).toInt64 0 = ch ∧ ∀ j, j < 8 → 1 ≤ j → uBy (nI ch).toInt64 j = 0 := by decide +kernel
theorem tv_ch {ch : Nat} (h0 : 0 < ch) (h1 : ch < 127) : tV (uBy (nI ch).toInt64) 1 := by
  obtain ⟨a, b⟩ := by_ch ch h1
  refine ⟨by decide, fun j hj => ?_, fun j hj h => b j hj h⟩
  obtain rfl : j = 0 := by omega
  rw [a]
  exact ⟨h0, h1⟩
theorem c_letters {m ch : Nat} {c : Nat → Nat} {st : kS} (h : pgX m c st) (hm : m + 1 ≤ 26) (h0 : 0 < ch) (h1 : ch < 127) (hc : c m = ch) : kZ (fX9_letters st (nI ch).toInt64) (fun z => z.1 = nI (m + 1) ∧ kSame [2] [] [10] [] st z.2 ∧ pgX (m + 1) c z.2) := by
  have hv := tv_ch h0 h1
  obtain ⟨v, ev, hw⟩ := x_told (nI ch).toInt64
  rcases hw with ⟨-, hno⟩ | ⟨k, hk, rfl⟩
  · exact absurd hv (hno 1)
  · obtain rfl : k = 1 := hk.uniq hv
    obtain ⟨z, hz, kz, pz⟩ := x_append (nI ch).toInt64 h hv hm
    unfold fX9_letters
    rw [ev]
    simp only [Option.bind_some]
    rw [if_pos (show (0 : Int32) ≤ nI 1 by decide), h.2.1, nI_add, if_pos (show nI (m + 1) ≤ 26 from nI_le (b := 26) hm (by decide)), hz]
    refine ⟨_, rfl, ?_, kz, ?_⟩
    · exact pz.2.1
    · refine ⟨hm, pz.2.1, fun j hj => ?_⟩
      have q := pz.2.2 j hj
      have e : apC m c (uBy (nI ch).toInt64) j = c j := by
        unfold apC
        by_cases d : j < m
        · rw [if_pos d]
        · rw [if_neg d]
          obtain rfl : j = m := by omega
          rw [Nat.sub_self, (by_ch ch h1).1, hc]
      rw [e] at q
      exact q
theorem l_put {m ch : Nat} {c : Nat → Nat} {st : kS} (h : pgX m c st) (hm : m + 1 ≤ 26) (h0 : 0 < ch) (h1 : ch < 127) (hc : c m = ch) : kZ (fL_put st (nI ch)) (fun z => z.1 = 1 ∧ kSame [2] [] [10] [] st z.2 ∧ pgX (m + 1) c z.2) := by
  obtain ⟨z, hz, e, k, p⟩ := c_letters h hm h0 h1 hc
  unfold fL_put
  rw [hz]
  simp only [Option.bind_some]
  rw [e, if_neg (nI_nle (by omega) (n_lt31 (by omega)))]
  exact ⟨_, rfl, rfl, kJ_same k, p.same (kJ_z st z.2) (by decide)⟩
/-- the script's cells -/
def lX (L : Nat) (xs : Nat → Int32) (k : Nat) : Nat := (if L ≤ k then 7919 * nI k + 13 else xs k).toBitVec.toNat % 2 ^ 31
theorem lX_lt {L k : Nat} {xs : Nat → Int32} : lX L xs k < 2 ^ 31 := Nat.mod_lt _ (by decide)
theorem l_cell {L k : Nat} {xs : Nat → Int32} (hL : L ≤ 260) (hk : k < 1000) : fL_cell L xs (nI k) = some (nI (lX L xs k)) := by
  unfold fL_cell lX
  by_cases c : L ≤ k
  · rw [if_pos (nI_le c (n_lt31 (by omega))), if_pos c, pk_and _ 31 (by decide)]
  · rw [if_neg (nI_ge (by omega) (n_lt31 (by omega))), if_neg c, ka_n _ (by omega) (n_lt31 (by omega))]
    simp only [Option.bind_some]
    rw [pk_and _ 31 (by decide)]
def lKd (calm v : Int32) : Nat := if 5 ≤ v then (if v = 5 then 2 else (if calm = 0 then (if v = 6 then 1 else 3) else 0)) else 0
theorem lKd_lt (calm v : Int32) : lKd calm v < 4 := by
  unfold lKd
  repeat' split
  all_goals decide
def lCh (k : Nat) : Nat := if k = 0 then 104 else if k = 1 then 102 else if k = 2 then 101 else 119
theorem lCh_t : ∀ k, k < 4 → tK (lCh k) = k ∧ 0 < lCh k ∧ lCh k < 127 := by decide
section RG
variable {n L : Nat} {xs : Nat → Int32} {c kd : Nat → Nat} {st : kS} {Q : Int32 × kS → Prop}
theorem l_J64 {K Gc : Int32 → Int32 → kS → Option (Int32 × kS)} {v2 v6 v7 v8 v9 v : Int32} : fL_ring_J64 K Gc L xs st v2 v6 v7 v8 v9 v = fL_ring_J109 K Gc L xs st v2 v6 v7 v8 v9 (nI (lKd v8 v)) v9 := by
  unfold fL_ring_J64 lKd
  by_cases c1 : 5 ≤ v
  · rw [if_pos c1, if_pos c1]
    by_cases c2 : v = 5
    · rw [if_pos c2, if_pos c2]
      rfl
    · rw [if_neg c2, if_neg c2]
      by_cases c3 : v8 = 0
      · rw [if_pos c3, if_pos c3]
        by_cases c4 : v = 6
        · rw [if_pos c4, if_pos c4]
          rfl
        · rw [if_neg c4, if_neg c4]
          rfl
      · rw [if_neg c3, if_neg c3]
        rfl
  · rw [if_neg c1, if_neg c1]
    rfl
theorem l_J109 {K Gc : Int32 → Int32 → kS → Option (Int32 × kS)} {v2 v6 v8 : Int32} {i k : Nat} (hi : i < 6) (hk : k < 4) (hQ : kZ (fL_ring_J165 K Gc L xs (sA (sA st 31 (upd (gA st 31) i (nI k))) 32 (upd (gA st 32) i 0)) v2 v6 v8 (nI i) (nI (lCh k))) Q) : kZ (fL_ring_J109 K Gc L xs st v2 v6 1 v8 (nI i) (nI k) (nI i)) Q := by
  unfold fL_ring_J109
  rw [nI_clamp (n_lt31 (show i < 100000 by omega))] at *
  have hg : ¬ (nI i < 0 ∨ 6 ≤ i) := by
    have := k_in (j := i) (N := 6) hi (by decide)
    rwa [nI_clamp (n_lt31 (show i < 100000 by omega))] at this
  rw [if_neg hg, if_neg hg, if_neg (show ¬ (1 : Int32) = 0 by decide), ka_n _ hi (by decide), upd_e]
  simp only [Option.bind_some]
  rcases (show k = 0 ∨ k = 1 ∨ k = 2 ∨ k = 3 by omega) with rfl | rfl | rfl | rfl
  · rw [if_pos (show nI 0 = 0 from rfl)]
    exact hQ
  · rw [if_neg (show ¬ nI 1 = 0 by decide), if_pos (show nI 1 = 1 from rfl)]
    exact hQ
  · rw [if_neg (show ¬ nI 2 = 0 by decide), if_neg (show ¬ nI 2 = 1 by decide), if_pos (show nI 2 = 2 from rfl)]
    exact hQ
  · rw [if_neg (show ¬ nI 3 = 0 by decide), if_neg (show ¬ nI 3 = 1 by decide), if_neg (show ¬ nI 3 = 2 by decide)]
    exact hQ
theorem l_kinds {K : Int32 → Int32 → kS → Option (Int32 × kS)} {v8 z0 : Int32} (hn : uHn n) (hz : fL_cell L xs 0 = some z0) (hkd : ∀ j, j < n → kd j = lKd v8 ((kshr z0 (8 + (3 * nI j))) &&& 7)) (hc : ∀ j, j < n → c j = lCh (kd j)) (h : pgX 0 c st)
    (hK : ∀ w s, kSame [2] [] [10, 31, 32] [] st s → pgX n c s → (∀ j, j < n → gA s 31 j = nI (kd j) ∧ gA s 32 j = 0) → kZ (K 1 w s) Q) : kZ (fL_ring_L39 K L xs 0 (nI n) v8 kFU 1 0 st) Q := by
  have hn6 := hn.2
  refine kfor (σ := kS) (fun F i s => fL_ring_L39 K L xs 0 (nI n) v8 F 1 i s) (fun i s => kSame [2] [] [10, 31, 32] [] st s ∧ pgX i c s ∧ (∀ j, j < i → gA s 31 j = nI (kd j) ∧ gA s 32 j = 0)) n ?_ ?_ kFU 0 st (Nat.zero_le _) (kFU_lt0 (by omega)) ⟨kSame.rf, h, fun j hj => absurd hj (Nat.not_lt_zero j)⟩
  · rintro F s ⟨h1, h2, h3⟩
    show kZ (fL_ring_L39_B _ _ _ _ s _ _ _ _ (nI n)) _
    unfold fL_ring_L39_B
    exact kZ.ifp (nI_le (Nat.le_refl n) hn.lt) (hK _ _ h1 h2 h3)
  · rintro F i s hi ⟨h1, h2, h3⟩ next
    show kZ (fL_ring_L39_B _ _ _ _ s _ _ _ _ (nI i)) _
    unfold fL_ring_L39_B
    refine kZ.ifn (nI_ge hi hn.lt) ?_
    rw [hz]
    simp only [Option.bind_some]
    rw [l_J64, ← hkd i hi]
    have k4 : kd i < 4 := by rw [hkd i hi]; exact lKd_lt _ _
    obtain ⟨-, t2, t3⟩ := lCh_t _ k4
    refine l_J109 (by omega) k4 ?_
    have p1 : pgX i c (sA (sA s 31 (upd (gA s 31) i (nI (kd i)))) 32 (upd (gA s 32) i 0)) := h2.same (I := []) (J := []) (A := [31, 32]) (L := []) ((kSame.rf.sA (by decide) _).sA (by decide) _) (by decide)
    obtain ⟨z, ez, e1, k1, p2⟩ := l_put p1 (show i + 1 ≤ 26 by omega) t2 t3 (hc i hi)
    unfold fL_ring_J165
    rw [ez]
    simp only [Option.bind_some]
    rw [e1, if_neg (show ¬ (1 : Int32) = 0 by decide), nI_1]
    refine next z.2 ⟨?_, p2, fun j hj => ?_⟩
    · exact (((h1.sA (by decide) _).sA (by decide) _).trans (k1.sub (by decide) (by decide) (by decide) (by decide)))
    · rw [k1.2.2.1 31 (by decide), k1.2.2.1 32 (by decide), gA_n (show 31 ≠ 32 by decide), gA_e, gA_e]
      by_cases e : j = i
      · rw [e, upd_e, upd_e]
        exact ⟨rfl, rfl⟩
      · rw [upd_n e, upd_n e]
        exact h3 j (by omega)
/-! the feuds -/
def lXt (X t : Nat) : Nat := X / 8 + 7919 * t * (1 + X % 61)
theorem lXt_eq {X t : Nat} (hX : X < 2 ^ 31) : ((nI X / 8) + ((7919 * nI t) * (1 + (kr (nI X) 61)))) = nI (lXt X t) := by
  rw [show (8 : Int32) = nI 8 from rfl, show (61 : Int32) = nI 61 from rfl, show (7919 : Int32) = nI 7919 from rfl, show (1 : Int32) = nI 1 from rfl, pk_div hX (by decide) (by decide), kr_n hX (by decide) (by decide), pk_mul, nI_add, pk_mul, nI_add]
  rfl
theorem lXt_lt {X t : Nat} (hX : X < 2 ^ 31) (ht : t ≤ 6) : lXt X t < 2 ^ 31 := by
  have h1 : 7919 * t * (1 + X % 61) ≤ 7919 * 6 * 61 := Nat.mul_le_mul (Nat.mul_le_mul_left _ ht) (by omega)
  unfold lXt
  omega
def lA (n X t : Nat) : Nat := lXt X t % n
def lB (n X t : Nat) : Nat := (lA n X t + 1 + lXt X t / 8 % (n - 1)) % n
theorem lA_lt {n X t : Nat} (hn : uHn n) : lA n X t < n := Nat.mod_lt _ (by have := hn.1; omega)
theorem lB_lt {n X t : Nat} (hn : uHn n) : lB n X t < n := Nat.mod_lt _ (by have := hn.1; omega)
theorem lAB {n X t : Nat} (hn : uHn n) : lA n X t ≠ lB n X t := by
  have h1 := hn.1
  have ha := lA_lt (X := X) (t := t) hn
  have hd : lXt X t / 8 % (n - 1) < n - 1 := Nat.mod_lt _ (by omega)
  unfold lB
  generalize lA n X t = a at *
  generalize lXt X t / 8 % (n - 1) = d at *
  rcases Nat.lt_or_ge (a + 1 + d) n with q | q
  · rw [Nat.mod_eq_of_lt q]
    omega
  · rw [Nat.mod_eq_sub_mod q, Nat.mod_eq_of_lt (by omega)]
    omega
def lC (n X : Nat) (kd : Nat → Nat) (j : Nat) : Nat := if j < n then lCh (kd j) else if j = n then 59 else if (j - n - 1) % 3 = 0 then 48 + lA n X ((j - n - 1) / 3) else if (j - n - 1) % 3 = 1 then 48 + lB n X ((j - n - 1) / 3) else 44
theorem lC_k {X j : Nat} (hj : j < n) : lC n X kd j = lCh (kd j) := if_pos hj
theorem lC_a {X t : Nat} : lC n X kd (n + 1 + 3 * t) = 48 + lA n X t := by
  unfold lC
  rw [if_neg (by omega), if_neg (by omega), if_pos (by omega), show (n + 1 + 3 * t - n - 1) / 3 = t by omega]
theorem lC_b {X t : Nat} : lC n X kd (n + 2 + 3 * t) = 48 + lB n X t := by
  unfold lC
  rw [if_neg (by omega), if_neg (by omega), if_neg (by omega), if_pos (by omega), show (n + 2 + 3 * t - n - 1) / 3 = t by omega]
theorem lC_0 {X : Nat} : lC n X kd n = 59 := by
  unfold lC
  rw [if_neg (by omega), if_pos rfl]
theorem lC_s {X t : Nat} (ht : 0 < t) : lC n X kd (n + 3 * t) = 44 := by
  unfold lC
  rw [if_neg (by omega), if_neg (by omega), if_neg (by omega), if_neg (by omega)]
theorem l_J238 {K Gc : Int32 → Int32 → kS → Option (Int32 × kS)} {v2 v7 v9 v10 : Int32} {X t : Nat} (hn : uHn n) (hX : X < 2 ^ 31) (ht : t ≤ 6) : fL_ring_J238 K Gc L xs st v2 (nI n) v7 v9 v10 (nI (lXt X t)) = fL_ring_J265 K Gc L xs st v2 (nI n) v7 v9 v10 (nI (lA n X t)) (nI (lB n X t)) := by
  have hx := lXt_lt hX ht
  have h3 := hn.1
  have h6 := hn.2
  have e1 : nI n - 1 = nI (n - 1) := pk_sub (a := n) (b := 1) (by omega)
  have ha := lA_lt (X := X) (t := t) hn
  have hd : lXt X t / 8 % (n - 1) < n - 1 := Nat.mod_lt _ (by omega)
  unfold fL_ring_J238
  rw [if_neg (nI_ne0 (by omega) hn.lt), e1, if_neg (nI_ne0 (by omega) (n_lt31 (by omega))), kr_n hx (by omega) hn.lt, show (8 : Int32) = nI 8 from rfl, pk_div hx (by decide) (by decide), kr_n (Nat.lt_of_le_of_lt (Nat.div_le_self _ _) hx) (by omega) (n_lt31 (by omega)), nI_1, nI_add, show lXt X t % n = lA n X t from rfl, kr_n (n_lt31 (by omega)) (by omega) hn.lt]
  rfl
theorem l_feuds {K : Int32 → Int32 → kS → Option (Int32 × kS)} {X f : Nat} (hn : uHn n) (hX : X < 2 ^ 31) (hz : fL_cell L xs (0 + 1) = some (nI X)) (hf : f ≤ 6) (h : pgX n (lC n X kd) st) (h0 : ∀ j, j < n → gA st 32 j = 0)
    (hK : ∀ w s, kSame [2] [] [10, 32] [] st s → pgX (n + 3 * f) (lC n X kd) s → (∀ a, a < n → uMk n (fun b => uFe (lA n X) (lB n X) f a b) (gA s 32 a)) → kZ (K 1 w s) Q) : kZ (fL_ring_L199 K L xs 0 (nI n) (nI f) kFU 1 0 st) Q := by
  have hn6 := hn.2
  refine kfor (σ := kS) (fun F i s => fL_ring_L199 K L xs 0 (nI n) (nI f) F 1 i s) (fun i s => kSame [2] [] [10, 32] [] st s ∧ pgX (n + 3 * i) (lC n X kd) s ∧ (∀ a, a < n → uMk n (fun b => uFe (lA n X) (lB n X) i a b) (gA s 32 a))) f ?_ ?_ kFU 0 st (Nat.zero_le _) (kFU_lt0 (by omega)) ⟨kSame.rf, h, fun a ha => ?_⟩
  · rintro F s ⟨h1, h2, h3⟩
    show kZ (fL_ring_L199_B _ _ _ _ s _ _ _ _ (nI f)) _
    unfold fL_ring_L199_B
    exact kZ.ifp (nI_le (Nat.le_refl f) (n_lt31 (by omega))) (hK _ _ h1 h2 h3)
  · rintro F t s ht ⟨h1, h2, h3⟩ next
    show kZ (fL_ring_L199_B _ _ _ _ s _ _ _ _ (nI t)) _
    unfold fL_ring_L199_B
    refine kZ.ifn (nI_ge ht (n_lt31 (by omega))) ?_
    rw [hz]
    simp only [Option.bind_some]
    rw [lXt_eq hX, l_J238 hn hX (by omega)]
    have ha := lA_lt (X := X) (t := t) hn
    have hb := lB_lt (X := X) (t := t) hn
    have hab := lAB (X := X) (t := t) hn
    unfold fL_ring_J265
    refine kZ.ka (show lA n X t < 6 by omega) (by decide) (kZ.gd (show lA n X t < 6 by omega) (by decide) (kZ.ka (show lB n X t < 6 by omega) (by decide) (kZ.gd (show lB n X t < 6 by omega) (by decide) ?_)))
    rw [nI_clamp (n_lt31 (show lA n X t < 100000 by omega)), nI_clamp (n_lt31 (show lB n X t < 100000 by omega)), upd_n (Ne.symm hab)]
    generalize hs1 : sA (sA s 32 (upd (gA s 32) (lA n X t) (gA s 32 (lA n X t) ||| kshl 1 (nI (lB n X t))))) 32 (upd (upd (gA s 32) (lA n X t) (gA s 32 (lA n X t) ||| kshl 1 (nI (lB n X t)))) (lB n X t) (gA s 32 (lB n X t) ||| kshl 1 (nI (lA n X t)))) = s1
    have q1 : kSame [] [] [32] [] s s1 := by rw [← hs1]; exact (kSame.rf.sA (by decide) _).sA (by decide) _
    have q2 : ∀ a, a < n → uMk n (fun b => uFe (lA n X) (lB n X) (t + 1) a b) (gA s1 32 a) := by
      intro a han
      rw [← hs1, gA_e]
      by_cases e2 : a = lB n X t
      · rw [e2, upd_e]
        refine (uMk.or hn ha (h3 _ hb)).cg (fun q hq => ?_)
        show _ = (uFe (lA n X) (lB n X) t (lB n X t) q || (lB n X t == lA n X t && q == lB n X t) || (lB n X t == lB n X t && q == lA n X t))
        rw [beq_eq_false_iff_ne.mpr (Ne.symm hab), Bool.false_and, Bool.or_false, beq_self_eq_true, Bool.true_and]
        congr 1
        by_cases e3 : lA n X t = q
        · rw [e3, decide_eq_true rfl, beq_self_eq_true]
        · rw [decide_eq_false e3, beq_eq_false_iff_ne.mpr (Ne.symm e3)]
      · rw [upd_n e2]
        by_cases e3 : a = lA n X t
        · rw [e3, upd_e]
          refine (uMk.or hn hb (h3 _ ha)).cg (fun q hq => ?_)
          show _ = (uFe (lA n X) (lB n X) t (lA n X t) q || (lA n X t == lA n X t && q == lB n X t) || (lA n X t == lB n X t && q == lA n X t))
          rw [beq_eq_false_iff_ne.mpr hab, Bool.false_and, Bool.or_false, beq_self_eq_true, Bool.true_and]
          congr 1
          by_cases e4 : lB n X t = q
          · rw [e4, decide_eq_true rfl, beq_self_eq_true]
          · rw [decide_eq_false e4, beq_eq_false_iff_ne.mpr (Ne.symm e4)]
        · rw [upd_n e3]
          refine (h3 a han).cg (fun q hq => ?_)
          show _ = (uFe (lA n X) (lB n X) t a q || (a == lA n X t && q == lB n X t) || (a == lB n X t && q == lA n X t))
          rw [beq_eq_false_iff_ne.mpr e2, beq_eq_false_iff_ne.mpr e3, Bool.false_and, Bool.false_and, Bool.or_false, Bool.or_false]
    have p1 := h2.same q1 (by decide)
    have hsep : ∃ ch, 0 < ch ∧ ch < 127 ∧ lC n X kd (n + 3 * t) = ch ∧ (if nI t = 0 then (fL_ring_J307 K (fL_ring_L199 K L xs 0 (nI n) (nI f) F) L xs s1 0 (nI n) (nI f) (nI t) (nI (lA n X t)) (nI (lB n X t)) 59) else (fL_ring_J307 K (fL_ring_L199 K L xs 0 (nI n) (nI f) F) L xs s1 0 (nI n) (nI f) (nI t) (nI (lA n X t)) (nI (lB n X t)) 44)) = fL_ring_J307 K (fL_ring_L199 K L xs 0 (nI n) (nI f) F) L xs s1 0 (nI n) (nI f) (nI t) (nI (lA n X t)) (nI (lB n X t)) (nI ch) := by
      by_cases e : t = 0
      · subst e
        exact ⟨59, by decide, by decide, lC_0, if_pos rfl⟩
      · exact ⟨44, by decide, by decide, lC_s (by omega), if_neg (nI_ne0 (by omega) (n_lt31 (by omega)))⟩
    obtain ⟨ch, c0, c1, c2, c3⟩ := hsep
    unfold fL_ring_J289
    rw [if_neg (show ¬ (1 : Int32) = 0 by decide), c3]
    obtain ⟨y1, ey1, a1, k1, g1⟩ := l_put p1 (show n + 3 * t + 1 ≤ 26 by omega) c0 c1 c2
    obtain ⟨y2, ey2, a2, k2, g2⟩ := l_put (ch := 48 + lA n X t) g1 (show n + 3 * t + 1 + 1 ≤ 26 by omega) (by omega) (by omega) (by rw [show n + 3 * t + 1 = n + 1 + 3 * t by omega]; exact lC_a)
    obtain ⟨y3, ey3, a3, k3, g3⟩ := l_put (ch := 48 + lB n X t) g2 (show n + 3 * t + 1 + 1 + 1 ≤ 26 by omega) (by omega) (by omega) (by rw [show n + 3 * t + 1 + 1 = n + 2 + 3 * t by omega]; exact lC_b)
    unfold fL_ring_J307
    rw [ey1]
    simp only [Option.bind_some]
    rw [a1, if_neg (show ¬ (1 : Int32) = 0 by decide), show (48 : Int32) = nI 48 from rfl, nI_add, ey2]
    simp only [Option.bind_some]
    rw [a2, if_neg (show ¬ (1 : Int32) = 0 by decide), nI_add, ey3]
    simp only [Option.bind_some]
    rw [a3, if_neg (show ¬ (1 : Int32) = 0 by decide), nI_1]
    have kk : kSame [2] [] [10] [] s1 y3.2 := (k1.trans k2).trans k3
    refine next y3.2 ⟨h1.trans ((q1.sub (by decide) (by decide) (by decide) (by decide)).trans (kk.sub (by decide) (by decide) (by decide) (by decide))), ?_, fun a han => ?_⟩
    · rw [show n + 3 * (t + 1) = n + 3 * t + 1 + 1 + 1 by omega]
      exact g3
    · rw [kk.2.2.1 32 (by decide)]
      exact q2 a han
  · rw [h0 a ha]
    exact ⟨0, rfl, by decide, fun j => by rw [Nat.zero_testBit]; exact (Bool.and_false _).symm⟩
end RG
