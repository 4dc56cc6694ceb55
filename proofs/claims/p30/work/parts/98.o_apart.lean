/-! THE LAW'S LOOPS: how feuds stay apart -/
def mX (f : Nat → Nat) : Nat → Nat
  | 0 => 0
  | c + 1 => max (mX f c) (f c)
theorem mX_3 (f : Nat → Nat) : mX f 3 = aM (f 0) (f 1) (f 2) := by
  show max (max (max 0 (f 0)) (f 1)) (f 2) = max (f 0) (max (f 1) (f 2))
  omega
theorem mX_le {f : Nat → Nat} {B : Nat} (h : ∀ c, f c ≤ B) : ∀ c, mX f c ≤ B
  | 0 => Nat.zero_le _
  | c + 1 => by
    have := mX_le h c
    have := h c
    show max (mX f c) (f c) ≤ B
    omega
theorem ci_1 : ∀ c, c < 3 → nI c - 1 + 1 = nI (c + 1) - 1 := by decide
theorem ci_2 : ∀ c, c < 3 → ¬ (2 : Int32) ≤ nI c - 1 := by decide
theorem ci_3 : (2 : Int32) ≤ nI 3 - 1 := by decide
section LP
variable {n o h t : Nat} {κ : Nat → Nat} {φ : Nat → Nat → Bool} {st : kS} {L : Nat} {xs : Nat → Int32} {Q : Int32 × kS → Prop} {v5 v6 v7 v8 v9 v10 v11 v18 v19 v22 v23 v24 v25 v26 v27 v28 v29 v30 v31 v32 : Int32}
theorem aS0_01 {T : Nat → Nat} {S : Nat → Nat → Nat} (k : Nat) : aS n T S 0 k = 0 ∨ aS n T S 0 k = 1 := by
  show (if T k = 0 then 1 else 0) = 0 ∨ (if T k = 0 then 1 else 0) = 1
  split
  · exact Or.inr rfl
  · exact Or.inl rfl
theorem l_go {m d c : Nat} (H : lS n κ φ o h t st) (hm : m < uF n) (hc : uCompat n κ m) (hd : d < n) (hc3 : c < 3) : fL_change st (nI n) (nI (oP n m)) (nI d + (nI c - 1)) = some (nI (oP n (xStep n κ m (aP n d c)))) := by
  have hn := H.1.1
  have hp := aP_lt (d := d) (c := c) hn
  rw [← mStep_eq hn hm hc hp]
  exact l_change hn H.2.2.1 hm hp (around_dec n hn d hd c hc3).2
theorem l_calm {m : Nat} (H : lS n κ φ o h t st) (hm : m < uF n) : fL_touch st (nI n) (nI (oP n m)) = some (nI (uT n κ φ m)) := l_touch H.1.1 hm H.2.2.1 H.2.2.2.1 H.2.1
theorem uT_31 {m : Nat} (hn : uHn n) : uT n κ φ m < 2 ^ 31 := by
  have h1 : ∀ a, uRow (fun b => if uAdj n m a b then uG κ φ (a, b) else 0) n (a + 1) ≤ 6 := by
    intro a
    have h2 : ∀ b, (if uAdj n m a b then uG κ φ (a, b) else 0) ≤ 1 := fun b => by
      unfold uG
      split
      · split <;> omega
      · omega
    rcases Nat.lt_or_ge a n with q | q
    · have := uRow_le (n := n) h2 (n - (a + 1)) (a + 1) (by omega)
      have := hn.2
      omega
    · rw [uRow_e (by omega)]
      omega
  have hle : (uEdges n m).length ≤ 6 := by
    unfold uEdges
    rw [List.length_map, List.length_range]
    exact hn.2
  have hs : ∀ l : List (Nat × Nat), (l.map (uG κ φ)).sum ≤ l.length := by
    intro l
    induction l with
    | nil => exact Nat.le_refl 0
    | cons x t ih =>
      rw [List.map_cons, List.sum_cons, List.length_cons]
      have : uG κ φ x ≤ 1 := by
        unfold uG
        split <;> omega
      omega
  have := hs (uEdges n m)
  have e : uT n κ φ m = ((uEdges n m).map (uG κ φ)).sum := rfl
  omega
theorem l_L1070 {K : Int32 → Int32 → Option (Int32 × kS)} {m e : Nat} (H : lS n κ φ o h t st) (hm : m < uF n) (hc : uCompat n κ m) (he : e < n) (hK : ∀ w, kZ (K (nI (mX (fun c => aS n (uT n κ φ) (xStep n κ) 0 (xStep n κ m (aP n e c))) 3)) w) Q) : kZ (fL_law_L1070 K L xs st (nI n) v5 v6 v7 v8 v10 v23 v24 v25 v26 v27 v28 v29 (nI (oP n m)) v31 v32 (nI e) kFU 0 (-1)) Q := by
  have hn := H.1.1
  refine kfor (σ := Int32) (fun F i s => fL_law_L1070 K L xs st (nI n) v5 v6 v7 v8 v10 v23 v24 v25 v26 v27 v28 v29 (nI (oP n m)) v31 v32 (nI e) F s (i - 1)) (fun i s => s = nI (mX (fun c => aS n (uT n κ φ) (xStep n κ) 0 (xStep n κ m (aP n e c))) i)) 3 ?_ ?_ kFU 0 0 (Nat.zero_le _) (kFU_lt0 (by omega)) rfl
  · rintro F s rfl
    show kZ (fL_law_L1070_B _ _ _ _ _ _ _ _ _ _ _ _ _ _ _ _ _ _ _ _ _ _ _ (nI 3 - 1)) _
    unfold fL_law_L1070_B
    exact kZ.ifp ci_3 (hK _)
  · rintro F i s hi rfl next
    show kZ (fL_law_L1070_B _ _ _ _ _ _ _ _ _ _ _ _ _ _ _ _ _ _ _ _ _ _ _ (nI i - 1)) _
    unfold fL_law_L1070_B
    refine kZ.ifn (ci_2 i hi) ?_
    have hp := aP_lt (d := e) (c := i) hn
    have hk2 := xStep_lt (κ := κ) hn hm hp
    rw [l_go H hm hc he hi]
    simp only [Option.bind_some]
    rw [l_calm H hk2, ci_1 i hi]
    simp only [Option.bind_some]
    generalize hA : (fun c => aS n (uT n κ φ) (xStep n κ) 0 (xStep n κ m (aP n e c))) = A at next ⊢
    have h01 : ∀ c, A c ≤ 1 := fun c => by
      rw [← hA]
      rcases aS0_01 (n := n) (T := uT n κ φ) (S := xStep n κ) (xStep n κ m (aP n e c)) with q | q
      · show aS n (uT n κ φ) (xStep n κ) 0 _ ≤ 1
        omega
      · show aS n (uT n κ φ) (xStep n κ) 0 _ ≤ 1
        omega
    have hmx := mX_le h01 i
    have hs : mX A (i + 1) = max (mX A i) (A i) := rfl
    refine kZ.ite (fun c => ?_) (fun c => ?_)
    · have h0 : mX A i = 0 := nI_inj (n_lt31 (by omega)) (by decide) c
      refine kZ.ite (fun c2 => ?_) (fun c2 => ?_)
      · have t0 : uT n κ φ (xStep n κ m (aP n e i)) = 0 := nI_inj (uT_31 hn) (by decide) c2
        have : A i = 1 := by
          rw [← hA]
          exact if_pos t0
        refine next 1 ?_
        rw [hs, h0, this]
        rfl
      · have t0 : ¬ uT n κ φ (xStep n κ m (aP n e i)) = 0 := fun q => c2 (by rw [q]; rfl)
        have : A i = 0 := by
          rw [← hA]
          exact if_neg t0
        refine next 0 ?_
        rw [hs, h0, this]
        rfl
    · have h1 : mX A i = 1 := by
        have : mX A i ≠ 0 := fun q => c (by rw [q]; rfl)
        omega
      refine next 1 ?_
      rw [hs, h1, show max 1 (A i) = 1 by have := h01 i; omega]
      rfl
theorem aS_s {T : Nat → Nat} {S : Nat → Nat → Nat} {k u : Nat} (h0 : T k = 0) : aS n T S (u + 1) k = sB (fun d => mX (fun c => aS n T S u (S k (aP n d c))) 3) n := by
  show (if T k = 0 then _ else 0) = _
  rw [if_pos h0, sB_row]
  congr 1
  funext d
  exact (mX_3 (fun c => aS n T S u (S k (aP n d c)))).symm
theorem aS_n {T : Nat → Nat} {S : Nat → Nat → Nat} {k u : Nat} (h0 : ¬ T k = 0) : aS n T S u k = 0 := by
  cases u with
  | zero => exact if_neg h0
  | succ u => exact if_neg h0
theorem l_L1052 {K : Int32 → Int32 → Option (Int32 × kS)} {m : Nat} (H : lS n κ φ o h t st) (hm : m < uF n) (hc : uCompat n κ m) (hK : ∀ w, kZ (K (nI (aS n (uT n κ φ) (xStep n κ) 1 m)) w) Q) : kZ (fL_law_L1052 K L xs st (nI n) v5 v6 v7 v8 v10 v23 v24 v25 v26 v27 v28 v29 (nI (oP n m)) (nI (aS n (uT n κ φ) (xStep n κ) 0 m)) kFU 0 0) Q := by
  have hn := H.1.1
  have hn6 := hn.2
  by_cases c0 : uT n κ φ m = 0
  · have e1 : aS n (uT n κ φ) (xStep n κ) 0 m = 1 := if_pos c0
    rw [e1]
    refine kfor (σ := Int32) (fun F i s => fL_law_L1052 K L xs st (nI n) v5 v6 v7 v8 v10 v23 v24 v25 v26 v27 v28 v29 (nI (oP n m)) (nI 1) F s i) (fun i s => s = nI (sB (fun d => mX (fun c => aS n (uT n κ φ) (xStep n κ) 0 (xStep n κ m (aP n d c))) 3) i)) n ?_ ?_ kFU 0 0 (Nat.zero_le _) (kFU_lt0 (by omega)) rfl
    · rintro F s rfl
      show kZ (fL_law_L1052_B _ _ _ _ _ _ _ _ _ _ _ _ _ _ _ _ _ _ _ _ _ (nI n)) _
      unfold fL_law_L1052_B
      refine kZ.ifp (nI_le (Nat.le_refl n) hn.lt) ?_
      rw [← aS_s c0]
      exact hK _
    · rintro F i s hi rfl next
      show kZ (fL_law_L1052_B _ _ _ _ _ _ _ _ _ _ _ _ _ _ _ _ _ _ _ _ _ (nI i)) _
      unfold fL_law_L1052_B
      refine kZ.ifn (nI_ge hi hn.lt) (kZ.ifn (by decide) ?_)
      refine l_L1070 H hm hc hi (fun w => ?_)
      rw [nI_1, nI_1, show (0 : Int32) = nI 0 from rfl, nI_add]
      have h01 : mX (fun c => aS n (uT n κ φ) (xStep n κ) 0 (xStep n κ m (aP n i c))) 3 ≤ 1 := mX_le (fun c => by
        rcases aS0_01 (n := n) (T := uT n κ φ) (S := xStep n κ) (xStep n κ m (aP n i c)) with q | q <;> omega) 3
      refine kZ.ite (fun c => next _ ?_) (fun c => next _ ?_)
      · have e0 := nI_inj (n_lt31 (by omega)) (by decide) c
        show _ = nI (sB _ i + mX (fun c => aS n (uT n κ φ) (xStep n κ) 0 (xStep n κ m (aP n i c))) 3)
        rw [e0]
      · have e0 : mX (fun c => aS n (uT n κ φ) (xStep n κ) 0 (xStep n κ m (aP n i c))) 3 = 1 := by
          have : mX (fun c => aS n (uT n κ φ) (xStep n κ) 0 (xStep n κ m (aP n i c))) 3 ≠ 0 := fun q => c (congrArg nI q)
          omega
        show _ = nI (sB _ i + mX (fun c => aS n (uT n κ φ) (xStep n κ) 0 (xStep n κ m (aP n i c))) 3)
        rw [e0]
  · have e1 : aS n (uT n κ φ) (xStep n κ) 0 m = 0 := aS_n c0
    have e2 : aS n (uT n κ φ) (xStep n κ) 1 m = 0 := aS_n c0
    rw [e1]
    rw [e2] at hK
    show kZ (fL_law_L1052_B _ _ _ _ _ _ _ _ _ _ _ _ _ _ _ _ _ _ _ _ _ _) _
    unfold fL_law_L1052_B
    exact kZ.ite (fun _ => hK _) (fun _ => kZ.ifp rfl (hK _))
theorem l_L993 {K : Int32 → Int32 → Int32 → Option (Int32 × kS)} {d : Nat} (H : lS n κ φ o h t st) (hd : d < n) (hK : ∀ w, kZ (K (nI (mX (fun c => aS n (uT n κ φ) (xStep n κ) 0 (xStep n κ o (aP n d c))) 3)) (nI (mX (fun c => aS n (uT n κ φ) (xStep n κ) 1 (xStep n κ o (aP n d c))) 3)) w) Q) : kZ (fL_law_L993 K L xs st (nI n) v5 (nI (oP n o)) v7 v8 v10 v23 v24 v25 (nI d) kFU 0 0 (-1)) Q := by
  have hn := H.1.1
  have ho := H.2.2.2.2.2.1.1
  have hco := H.2.2.2.2.2.2.2.1
  refine kfor (σ := Int32 × Int32) (fun F i s => fL_law_L993 K L xs st (nI n) v5 (nI (oP n o)) v7 v8 v10 v23 v24 v25 (nI d) F s.1 s.2 (i - 1)) (fun i s => s = (nI (mX (fun c => aS n (uT n κ φ) (xStep n κ) 0 (xStep n κ o (aP n d c))) i), nI (mX (fun c => aS n (uT n κ φ) (xStep n κ) 1 (xStep n κ o (aP n d c))) i))) 3 ?_ ?_ kFU 0 (0, 0) (Nat.zero_le _) (kFU_lt0 (by omega)) rfl
  · rintro F s rfl
    show kZ (fL_law_L993_B _ _ _ _ _ _ _ _ _ _ _ _ _ _ _ _ _ (nI 3 - 1)) _
    unfold fL_law_L993_B
    exact kZ.ifp ci_3 (hK _)
  · rintro F i s hi rfl next
    show kZ (fL_law_L993_B _ _ _ _ _ _ _ _ _ _ _ _ _ _ _ _ _ (nI i - 1)) _
    unfold fL_law_L993_B fL_law_J1031 fL_law_J1044
    refine kZ.ifn (ci_2 i hi) ?_
    have hp := aP_lt (d := d) (c := i) hn
    have hk2 := xStep_lt (κ := κ) hn ho hp
    have hc2 := xStep_compat hn ho hco hp
    rw [l_go H ho hco hd hi]
    simp only [Option.bind_some]
    rw [l_calm H hk2]
    simp only [Option.bind_some]
    generalize hA : (fun c => aS n (uT n κ φ) (xStep n κ) 0 (xStep n κ o (aP n d c))) = A at next ⊢
    generalize hB : (fun c => aS n (uT n κ φ) (xStep n κ) 1 (xStep n κ o (aP n d c))) = B at next ⊢
    have hAi : aS n (uT n κ φ) (xStep n κ) 0 (xStep n κ o (aP n d i)) = A i := by rw [← hA]
    have hBi : aS n (uT n κ φ) (xStep n κ) 1 (xStep n κ o (aP n d i)) = B i := by rw [← hB]
    have hA1 : ∀ c, A c ≤ 7776 := fun c => by
      rw [← hA]
      exact aS_small hn (by decide)
    have hB1 : ∀ c, B c ≤ 7776 := fun c => by
      rw [← hB]
      exact aS_small hn (by decide)
    have hmB := mX_le hB1 i
    have hsA : mX A (i + 1) = max (mX A i) (A i) := rfl
    have hsB : mX B (i + 1) = max (mX B i) (B i) := rfl
    have hm01 : mX A i ≤ 1 := mX_le (fun c => by
      rw [← hA]
      rcases aS0_01 (n := n) (T := uT n κ φ) (S := xStep n κ) (xStep n κ o (aP n d c)) with q | q
      · show aS n (uT n κ φ) (xStep n κ) 0 _ ≤ 1
        omega
      · show aS n (uT n κ φ) (xStep n κ) 0 _ ≤ 1
        omega) i
    have far : ∀ b : Nat, b = mX A (i + 1) → kZ (fL_law_J1138 K (fL_law_L993 K L xs st (nI n) v5 (nI (oP n o)) v7 v8 v10 v23 v24 v25 (nI d) F) L xs st (nI n) v5 (nI (oP n o)) v7 v8 v10 v23 v24 v25 (nI d) (nI b) (nI (mX B i)) (nI i - 1) (nI (B i))) Q := by
      intro b hb
      unfold fL_law_J1138
      rw [ci_1 i hi]
      have hBb := hB1 i
      refine kZ.ite (fun c => next (nI b, nI (mX B i)) ?_) (fun c => next (nI b, nI (B i)) ?_)
      · have q := (nI_leI (n_lt31 (by omega)) (n_lt31 (by omega))).mp c
        rw [hsB, show max (mX B i) (B i) = mX B i by omega, hb]
      · have q : ¬ B i ≤ mX B i := fun q => c ((nI_leI (n_lt31 (by omega)) (n_lt31 (by omega))).mpr q)
        rw [hsB, show max (mX B i) (B i) = B i by omega, hb]
    refine kZ.ite (fun c => ?_) (fun c => ?_)
    · have t0 : uT n κ φ (xStep n κ o (aP n d i)) = 0 := nI_inj (uT_31 hn) (by decide) c
      have a1 : A i = 1 := by
        rw [← hAi]
        exact if_pos t0
      refine kZ.ifn (by decide) ?_
      have := l_L1052 (L := L) (xs := xs) (Q := Q) (v5 := v5) (v6 := nI (oP n o)) (v7 := v7) (v8 := v8) (v10 := v10) (v23 := v23) (v24 := v24) (v25 := v25) (v26 := nI d) (v27 := 1) (v28 := nI (mX B i)) (v29 := nI i - 1) (K := fun v32_127 v33_128 => fL_law_J1138 K (fL_law_L993 K L xs st (nI n) v5 (nI (oP n o)) v7 v8 v10 v23 v24 v25 (nI d) F) L xs st (nI n) v5 (nI (oP n o)) v7 v8 v10 v23 v24 v25 (nI d) 1 (nI (mX B i)) (nI i - 1) v32_127) H hk2 hc2 (fun w => by
        rw [hBi]
        exact far 1 (by rw [hsA, a1]; omega))
      rw [hAi, a1] at this
      exact this
    · have t0 : ¬ uT n κ φ (xStep n κ o (aP n d i)) = 0 := fun q => c (by rw [q]; rfl)
      have a1 : A i = 0 := by
        rw [← hAi]
        exact if_neg t0
      refine kZ.ifp (by first | rfl | trivial) ?_
      have := l_L1052 (L := L) (xs := xs) (Q := Q) (v5 := v5) (v6 := nI (oP n o)) (v7 := v7) (v8 := v8) (v10 := v10) (v23 := v23) (v24 := v24) (v25 := v25) (v26 := nI d) (v27 := nI (mX A i)) (v28 := nI (mX B i)) (v29 := nI i - 1) (K := fun v32_127 v33_128 => fL_law_J1138 K (fL_law_L993 K L xs st (nI n) v5 (nI (oP n o)) v7 v8 v10 v23 v24 v25 (nI d) F) L xs st (nI n) v5 (nI (oP n o)) v7 v8 v10 v23 v24 v25 (nI d) (nI (mX A i)) (nI (mX B i)) (nI i - 1) v32_127) H hk2 hc2 (fun w => by
        rw [hBi]
        exact far (mX A i) (by rw [hsA, a1]; omega))
      rw [hAi, a1] at this
      exact this
theorem l_L972 {K : Int32 → Int32 → Int32 → Option (Int32 × kS)} (H : lS n κ φ o h t st) (hK : ∀ w, kZ (K (nI (aS n (uT n κ φ) (xStep n κ) 1 o)) (nI (aS n (uT n κ φ) (xStep n κ) 2 o)) w) Q) : kZ (fL_law_L972 K L xs st (nI n) v5 (nI (oP n o)) v7 v8 v10 (nI (aS n (uT n κ φ) (xStep n κ) 0 o)) kFU 0 0 0) Q := by
  have hn := H.1.1
  have hn6 := hn.2
  by_cases c0 : uT n κ φ o = 0
  · have e1 : aS n (uT n κ φ) (xStep n κ) 0 o = 1 := if_pos c0
    rw [e1]
    refine kfor (σ := Int32 × Int32) (fun F i s => fL_law_L972 K L xs st (nI n) v5 (nI (oP n o)) v7 v8 v10 (nI 1) F s.1 s.2 i) (fun i s => s = (nI (sB (fun d => mX (fun c => aS n (uT n κ φ) (xStep n κ) 0 (xStep n κ o (aP n d c))) 3) i), nI (sB (fun d => mX (fun c => aS n (uT n κ φ) (xStep n κ) 1 (xStep n κ o (aP n d c))) 3) i))) n ?_ ?_ kFU 0 (0, 0) (Nat.zero_le _) (kFU_lt0 (by omega)) rfl
    · rintro F s rfl
      show kZ (fL_law_L972_B _ _ _ _ _ _ _ _ _ _ _ _ _ _ (nI n)) _
      unfold fL_law_L972_B
      refine kZ.ifp (nI_le (Nat.le_refl n) hn.lt) ?_
      have := hK (nI n)
      rw [aS_s c0, aS_s c0] at this
      exact this
    · rintro F i s hi rfl next
      show kZ (fL_law_L972_B _ _ _ _ _ _ _ _ _ _ _ _ _ _ (nI i)) _
      unfold fL_law_L972_B
      refine kZ.ifn (nI_ge hi hn.lt) (kZ.ifn (by decide) ?_)
      refine l_L993 H hi (fun w => ?_)
      rw [nI_1]
      refine next (_, _) ?_
      rw [nI_add, nI_add]
      rfl
  · have e1 : aS n (uT n κ φ) (xStep n κ) 0 o = 0 := aS_n c0
    have e2 : aS n (uT n κ φ) (xStep n κ) 1 o = 0 := aS_n c0
    have e3 : aS n (uT n κ φ) (xStep n κ) 2 o = 0 := aS_n c0
    rw [e1]
    rw [e2, e3] at hK
    show kZ (fL_law_L972_B _ _ _ _ _ _ _ _ _ _ _ _ _ _ _) _
    unfold fL_law_L972_B
    exact kZ.ite (fun _ => hK _) (fun _ => kZ.ifp rfl (hK _))
theorem l_J1180 {K Gc : Int32 → Int32 → Int32 → Int32 → kS → Option (Int32 × kS)} (H : lS n κ φ o h t st) (hK : ∀ st', lS n κ φ o h t st' → kZ (Gc v6 v7 v8 (v10 + 1) st') Q) : kZ (fL_law_J1180 K Gc L xs st (nI n) v5 v6 v7 v8 v10 (nI (aS n (uT n κ φ) (xStep n κ) 1 o)) (nI (aS n (uT n κ φ) (xStep n κ) 2 o)) (nI (aS n (uT n κ φ) (xStep n κ) 0 o))) Q := by
  have hn := H.1.1
  have hn3 := hn.1
  have hn6 := hn.2
  obtain ⟨z1, ez1, e1, H1⟩ := c_apart (T := 0) (y := 0) H (by decide) (by decide)
  obtain ⟨z2, ez2, e2, H2⟩ := c_apart (T := 0) (y := 1) H1 (by decide) (by decide)
  obtain ⟨z3, ez3, e3, H3⟩ := c_apart (T := 1) (y := 0) H2 (by decide) (by decide)
  obtain ⟨z4, ez4, e4, H4⟩ := c_apart (T := 1) (y := 1) H3 (by decide) (by decide)
  obtain ⟨z5, ez5, e5, H5⟩ := c_apart (T := 2) (y := 0) H4 (by decide) (by decide)
  obtain ⟨z6, ez6, e6, H6⟩ := c_apart (T := 2) (y := 1) H5 (by decide) (by decide)
  have s0 := aS_small (T := uT n κ φ) (S := xStep n κ) (k := o) hn (show 0 ≤ 5 by decide)
  have s1 := aS_small (T := uT n κ φ) (S := xStep n κ) (k := o) hn (show 1 ≤ 5 by decide)
  have s2 := aS_small (T := uT n κ φ) (S := xStep n κ) (k := o) hn (show 2 ≤ 5 by decide)
  have hnn : n * n ≤ 36 := Nat.mul_le_mul hn6 hn6
  have hn0 : 0 < n * n := Nat.mul_pos (by omega) (by omega)
  have k0 : fL_terms z1.1.toInt64 z2.1.toInt64 (lN (aS n (uT n κ φ) (xStep n κ) 0 o)) 1 = some 1 := by
    rw [e1, e2]
    exact l_terms (a := aS n (uT n κ φ) (xStep n κ) 0 o) (b := 1) (by omega) (by decide) (by decide)
  have k1 : fL_terms z3.1.toInt64 z4.1.toInt64 (nI (aS n (uT n κ φ) (xStep n κ) 1 o)).toInt64 (nI n).toInt64 = some 1 := by
    rw [e3, e4, nI_l (show aS n (uT n κ φ) (xStep n κ) 1 o < 2 ^ 31 by omega), nI_l hn.lt, Nat.pow_one]
    exact l_terms (a := aS n (uT n κ φ) (xStep n κ) 1 o) (b := n) (by omega) (by omega) (by omega)
  have k2 : fL_terms z5.1.toInt64 z6.1.toInt64 (nI (aS n (uT n κ φ) (xStep n κ) 2 o)).toInt64 ((nI n).toInt64 * (nI n).toInt64) = some 1 := by
    rw [e5, e6, nI_l (show aS n (uT n κ φ) (xStep n κ) 2 o < 2 ^ 31 by omega), nI_l hn.lt, lN_mul, show n ^ 2 = n * n from Nat.pow_two n]
    exact l_terms (a := aS n (uT n κ φ) (xStep n κ) 2 o) (b := n * n) (by omega) (by omega) hn0
  have tail : kZ (fL_law_J1204 K Gc L xs (kJ (kJ st z1.2) z2.2) (nI n) v5 v6 v7 v8 v10 (nI (aS n (uT n κ φ) (xStep n κ) 1 o)) (nI (aS n (uT n κ φ) (xStep n κ) 2 o)) (lN (aS n (uT n κ φ) (xStep n κ) 0 o)) z2.1.toInt64 z1.1.toInt64) Q := by
    unfold fL_law_J1204
    rw [k0]
    simp only [Option.bind_some]
    refine kZ.ifn (by decide) ?_
    rw [show fX9_apart (kJ (kJ st z1.2) z2.2) 1 0 = some z3 from ez3]
    simp only [Option.bind_some]
    rw [show fX9_apart (kJ (kJ (kJ st z1.2) z2.2) z3.2) 1 1 = some z4 from ez4]
    simp only [Option.bind_some]
    rw [k1]
    simp only [Option.bind_some]
    refine kZ.ifn (by decide) ?_
    rw [show fX9_apart (kJ (kJ (kJ (kJ st z1.2) z2.2) z3.2) z4.2) 2 0 = some z5 from ez5]
    simp only [Option.bind_some]
    rw [show fX9_apart (kJ (kJ (kJ (kJ (kJ st z1.2) z2.2) z3.2) z4.2) z5.2) 2 1 = some z6 from ez6]
    simp only [Option.bind_some]
    rw [k2]
    simp only [Option.bind_some]
    exact kZ.ifn (by decide) (hK _ H6)
  unfold fL_law_J1180
  rw [show fX9_apart st 0 0 = some z1 from ez1]
  simp only [Option.bind_some]
  rw [show fX9_apart (kJ st z1.2) 0 1 = some z2 from ez2]
  simp only [Option.bind_some]
  rcases aS0_01 (n := n) (T := uT n κ φ) (S := xStep n κ) o with q | q
  · rw [q] at tail ⊢
    exact kZ.ifp rfl tail
  · rw [q] at tail ⊢
    exact kZ.ifn (by decide) tail
theorem l_J944 {K Gc : Int32 → Int32 → Int32 → Int32 → kS → Option (Int32 × kS)} (H : lS n κ φ o h t st) (hK : ∀ st', lS n κ φ o h t st' → kZ (Gc (nI (oP n o)) v7 v8 (v10 + 1) st') Q) : kZ (fL_law_J944 K Gc L xs st (nI n) v5 (nI (oP n o)) v7 v8 v10) Q := by
  have hn := H.1.1
  have main : kZ (fL_law_J967 K Gc L xs st (nI n) v5 (nI (oP n o)) v7 v8 v10 0 0 (nI (aS n (uT n κ φ) (xStep n κ) 0 o))) Q := by
    unfold fL_law_J967
    exact l_L972 H (fun w => l_J1180 H hK)
  unfold fL_law_J944
  rw [l_calm H H.2.2.2.2.2.1.1]
  simp only [Option.bind_some]
  refine kZ.ite (fun c => ?_) (fun c => ?_)
  · have t0 : uT n κ φ o = 0 := nI_inj (uT_31 hn) (by decide) c
    rw [show aS n (uT n κ φ) (xStep n κ) 0 o = 1 from if_pos t0] at main
    exact main
  · have t0 : ¬ uT n κ φ o = 0 := fun q => c (by rw [q]; rfl)
    rw [show aS n (uT n κ φ) (xStep n κ) 0 o = 0 from if_neg t0] at main
    exact main
end LP
