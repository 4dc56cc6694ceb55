/-! THE RING, READ -/
theorem kshr_dec : ∀ M, M < 64 → ∀ p, p < 6 → (kshr (nI M) (nI p)) &&& 1 = b01 (M.testBit p) := by decide +kernel
theorem uMk.bit {n j : Nat} {g : Nat → Bool} {v : Int32} (hn : uHn n) (hj : j < n) (h : uMk n g v) : (kshr v (nI j)) &&& 1 = b01 (g j) := by
  obtain ⟨M, rfl, h2, h3⟩ := h
  have := hn.2
  rw [kshr_dec M h2 j (by omega), h3 j, decide_eq_true hj, Bool.true_and]
theorem uFe_cg {pa pb pa' pb' : Nat → Nat} : ∀ f, (∀ t, t < f → pa t = pa' t ∧ pb t = pb' t) → ∀ i j, uFe pa pb f i j = uFe pa' pb' f i j
  | 0, _, _, _ => rfl
  | f + 1, h, i, j => by
    show (uFe pa pb f i j || (i == pa f && j == pb f) || (i == pb f && j == pa f)) = (uFe pa' pb' f i j || (i == pa' f && j == pb' f) || (i == pb' f && j == pa' f))
    rw [uFe_cg f (fun t ht => h t (by omega)) i j, (h f (by omega)).1, (h f (by omega)).2]
section RR
variable {n L X f : Nat} {xs : Nat → Int32} {kd : Nat → Nat} {st : kS}
theorem lC_H (hn : uHn n) (hk : ∀ i, i < n → kd i < 4) : Fst (tH (lC n X kd)) (n + 3 * f) n := by
  have hn6 := hn.2
  refine ⟨by omega, fun i hi => ?_, fun _ => ?_⟩
  · unfold tH
    rw [lC_k hi, (lCh_t _ (hk i hi)).1, Nat.blt_eq.mpr (show i < 6 by omega), Nat.blt_eq.mpr (hk i hi)]
    rfl
  · unfold tH
    rw [lC_0, show Nat.blt (tK 59) 4 = false by decide, Bool.and_false]
theorem tDg_in {x : Nat} (hx : x < n) : tDg n (48 + x) = true := by
  unfold tDg
  rw [Nat.ble_eq.mpr (show 48 ≤ 48 + x by omega), Nat.blt_eq.mpr (show 48 + x < 48 + n by omega)]
  rfl
theorem lC_P (hn : uHn n) (hf : f ≤ 6) : Fst (tO (lC n X kd) n) (n + 3 * f) (n + 3 * f) := by
  have hn3 := hn.1
  refine ⟨Nat.le_refl _, fun i hi => ?_, fun h => absurd h (Nat.lt_irrefl _)⟩
  unfold tO
  by_cases c1 : i < n
  · rw [if_pos c1]
  · rw [if_neg c1]
    unfold tR
    by_cases c2 : i = n
    · rw [if_pos c2, lC_0, Nat.ble_eq.mpr hn3]
      rfl
    · rw [if_neg c2, Nat.blt_eq.mpr (show i - n - 1 < 17 by omega), Bool.true_and]
      rcases (show (i - n - 1) % 3 = 0 ∨ (i - n - 1) % 3 = 1 ∨ (i - n - 1) % 3 = 2 by omega) with c3 | c3 | c3
      · rw [if_pos c3, show i = n + 1 + 3 * ((i - n - 1) / 3) by omega, lC_a]
        exact tDg_in (lA_lt hn)
      · rw [if_neg (by omega), if_pos c3, show i = n + 2 + 3 * ((i - n - 1) / 3) by omega, lC_b, tDg_in (lB_lt hn), show n + 2 + 3 * ((i - n - 1) / 3) - 1 = n + 1 + 3 * ((i - n - 1) / 3) by omega, lC_a, beq_eq_false_iff_ne.mpr (fun q => lAB (X := X) (t := (i - n - 1) / 3) hn (by omega))]
        rfl
      · rw [if_neg (by omega), if_neg (by omega), show i = n + 3 * ((i - n - 1) / 3 + 1) by omega, lC_s (by omega)]
        rfl
theorem l_read (hn : uHn n) (hf : f ≤ 6) (hk : ∀ i, i < n → kd i < 4) (p : pgX (n + 3 * f) (lC n X kd) st) (hT : gI st 10 = 0) (h31 : ∀ j, j < n → gA st 31 j = nI (kd j)) (h32 : ∀ a, a < n → uMk n (fun b => uFe (lA n X) (lB n X) f a b) (gA st 32 a)) : kZ (fL_ring_J350 L xs st (nI n) 1) (fun z => z.1 = nI n ∧ ∃ κ φ, lS n κ φ 0 0 0 z.2) := by
  have hH : Fst (tH (lC n X kd)) (n + 3 * f) n := lC_H hn hk
  have hP : Fst (tO (lC n X kd) n) (n + 3 * f) (n + 3 * f) := lC_P hn hf
  obtain ⟨v, ev, H, P, hH', hP', rfl⟩ := x_firstNoRing p
  obtain rfl := hH'.uniq hH
  obtain rfl := hP'.uniq hP
  have hW : tW (H + 3 * f) H (H + 3 * f) = true := decide_eq_true ⟨hn.1, rfl, by omega⟩
  obtain ⟨⟨z1, z⟩, ez, e1, kz, x1, x2, x3, x4, x5, x6, x7, x8, x9⟩ := x_ring p hH hP hW (fun q => absurd (q.symm.trans hT) (nI_ne0 (by have := hn.1; omega) hn.lt))
  dsimp only at e1 kz x1 x2 x3 x4 x5 x6 x7 x8 x9
  rw [show (H + 3 * f - H) / 3 = f by omega] at x1 x8
  unfold fL_ring_J350 fX9_fault
  rw [if_neg (show ¬ (1 : Int32) = 0 by decide), if_pos (show (0 : Int32) = 0 from rfl), ev]
  simp only [Option.bind_some]
  rw [show fX9_count st 4 = nI (H + 3 * f) from p.2.1, if_pos rfl, ez]
  simp only [Option.bind_some]
  rw [e1, if_pos rfl]
  have t31 : gA (kJ st z) 31 = gA st 31 := by
    unfold kJ
    rw [gA_n (show 31 ≠ 32 by decide), gA_e]
  have t32 : gA (kJ st z) 32 = gA st 32 := by
    unfold kJ
    rw [gA_e]
  have kk := kJ_z st z
  have cg : ∀ i j, uFe (pA (lC H X kd) H) (pB (lC H X kd) H) f i j = uFe (lA H X) (lB H X) f i j := uFe_cg f (fun t ht => ⟨by unfold pA; rw [lC_a]; omega, by unfold pB; rw [lC_b]; omega⟩)
  have kt : ∀ i, i < H → tK (lC H X kd i) = kd i := fun i hi => by rw [lC_k hi, (lCh_t _ (hk i hi)).1]
  refine ⟨_, rfl, rfl, _, _, x1.same kk (by decide), fun i j => ?_, fun i hi => ?_, fun i j hi hj => ?_, ⟨0, by decide, x7, fun u k hu => absurd hu (Nat.not_lt_zero u)⟩, ?_, ?_, uCompat_0 hn, uCompat_0 hn, x4, x6, x8⟩
  · exact uFe_comm _ _ _ _ _
  · show tK (lC H X kd i) < 4 ∧ gA (kJ st z) 31 i = nI (tK (lC H X kd i))
    rw [t31, h31 i hi, kt i hi]
    exact ⟨hk i hi, rfl⟩
  · rw [t32, (h32 i hi).bit hn hj, cg]
  · exact uO_0 hn (fun j hj => by rw [kk.2.2.1 13 (by decide)]; exact (x9 j hj).1)
  · exact uO_0 hn (fun j hj => by rw [kk.2.2.1 14 (by decide)]; exact (x9 j hj).2)
theorem l_J34 {v8 : Int32} (hL : L ≤ 260) (hn : uHn n) : kZ (fL_ring_J34 L xs kX0 0 (nI n) 1 v8) (fun z => z.1 = nI n ∧ ∃ κ φ, lS n κ φ 0 0 0 z.2) := by
  have c0 : fL_cell L xs 0 = some (nI (lX L xs 0)) := l_cell (k := 0) hL (by decide)
  have c1 : fL_cell L xs (0 + 1) = some (nI (lX L xs 1)) := l_cell (k := 1) hL (by decide)
  unfold fL_ring_J34
  refine l_kinds (c := lC n (lX L xs 1) (fun j => lKd v8 ((kshr (nI (lX L xs 0)) (8 + (3 * nI j))) &&& 7))) (kd := fun j => lKd v8 ((kshr (nI (lX L xs 0)) (8 + (3 * nI j))) &&& 7)) hn c0 (fun j hj => rfl) (fun j hj => lC_k hj) ⟨by decide, rfl, fun j hj => absurd hj (Nat.not_lt_zero j)⟩ (fun w s k p q => ?_)
  show kZ (fL_ring_J184 L xs s 0 (nI n) 1) _
  unfold fL_ring_J184
  rw [c1]
  simp only [Option.bind_some]
  rw [show (7 : Int32) = nI 7 from rfl, kr_n lX_lt (by decide) (by decide)]
  have hf : lX L xs 1 % 7 ≤ 6 := by omega
  refine l_feuds hn lX_lt c1 hf p (fun j hj => (q j hj).2) (fun w2 s2 k2 p2 q2 => ?_)
  show kZ (fL_ring_J350 L xs s2 (nI n) 1) _
  refine l_read hn hf (fun i hi => lKd_lt _ _) p2 ?_ (fun j hj => ?_) q2
  · rw [k2.1 10 (by decide), k.1 10 (by decide)]
    rfl
  · rw [k2.2.2.1 31 (by decide)]
    exact (q j hj).1
theorem l_ring (hL : L ≤ 260) : kZ (fL_ring L xs kX0 0 6) (fun z => ∃ n κ φ, z.1 = nI n ∧ lS n κ φ 0 0 0 z.2) := by
  have c0 : fL_cell L xs 0 = some (nI (lX L xs 0)) := l_cell (k := 0) hL (by decide)
  have hn : uHn (3 + lX L xs 0 % 4) := ⟨by omega, by omega⟩
  have e : 3 + kr (nI (lX L xs 0)) (6 - 2) = nI (3 + lX L xs 0 % 4) := by
    rw [show (6 - 2 : Int32) = nI 4 by decide, kr_n lX_lt (by decide) (by decide), show (3 : Int32) = nI 3 from rfl, nI_add]
  unfold fL_ring
  rw [c0]
  simp only [Option.bind_some]
  rw [if_neg (show ¬ (6 - 2 : Int32) = 0 by decide), e]
  refine kZ.ite (fun _ => ?_) (fun _ => ?_)
  · exact kZ.mono (l_J34 hL hn) (fun z q => ⟨_, q.2.choose, q.2.choose_spec.choose, q.1, q.2.choose_spec.choose_spec⟩)
  · exact kZ.mono (l_J34 hL hn) (fun z q => ⟨_, q.2.choose, q.2.choose_spec.choose, q.1, q.2.choose_spec.choose_spec⟩)
end RR
