/-! ORDERS READ: placeIn, numberOf, code, unfold, think -/
theorem uO.lt {n k : Nat} {f : Nat → Int32} (h : uO n k f) : k < uF n := h.1
theorem uO.kg {n k : Nat} {f : Nat → Int32} (hn : uHn n) (h : uO n k f) {j : Nat} (hj : j < n) : kg 6 f (nI j) = nI (uD n k j) := by
  have := hn.2
  rw [kg_n _ (by omega) (by decide), h.2 j hj]
theorem uO.ka {n k : Nat} {f : Nat → Int32} (hn : uHn n) (h : uO n k f) {j : Nat} (hj : j < n) : ka 6 f (nI j) = some (nI (uD n k j)) := by
  have := hn.2
  rw [ka_n _ (by omega) (by decide), h.2 j hj]
theorem uD_lt31 {n k j : Nat} (hn : uHn n) (hk : k < uF n) (hj : j < n) : uD n k j < 2 ^ 31 := n_lt31 (by have := uD_lt hn hk hj; have := hn.2; omega)
/-- the class: where a house stands -/
theorem x_placeIn {n k h : Nat} {f : Nat → Int32} (hn : uHn n) (ho : uO n k f) (hh : h < n) : fX3_placeIn 6 f (nI h) (nI n) = some (nI (uI n k h)) := by
  have hI := uI_lt hn ho.1 hh
  have key : kZ (fX3_placeIn_L2 (fun _ => some (-1)) 6 f (nI h) (nI n) kFU (nI 0)) (fun z => z = nI (uI n k h)) := by
    refine kfor (σ := Unit) (fun F i _ => fX3_placeIn_L2 (fun _ => some (-1)) 6 f (nI h) (nI n) F i) (fun i _ => i ≤ uI n k h) n ?_ ?_ kFU 0 () (Nat.zero_le _) (kFU_lt0 (by have := hn.2; omega)) (Nat.zero_le _)
    · intro F _ hi
      omega
    · intro F i _ hi hI2 next
      show kZ (fX3_placeIn_L2_B _ _ 6 f (nI h) (nI n) (nI i)) _
      unfold fX3_placeIn_L2_B
      refine kZ.ifn (nI_ge hi hn.lt) ?_
      rw [ho.kg hn hi]
      refine kZ.ite (fun e => kZ.ret ?_) (fun e => ?_)
      · have := nI_inj (uD_lt31 hn ho.1 hi) (hn.lp hh) e
        rw [← this, uI_uD hn ho.1 hi]
      · rw [l1, nI_add]
        refine next () ?_
        rcases Nat.lt_or_ge i (uI n k h) with q | q
        · exact q
        · obtain rfl : i = uI n k h := by omega
          rw [uD_uI hn ho.1 hh] at e
          exact absurd rfl e
  obtain ⟨z, hz, rfl⟩ := key
  exact hz
/-- an order's list from a place on -/
theorem uL_drop {n k j : Nat} (hn : uHn n) (hk : k < uF n) (hj : j < n) : (uL n k).drop j = uD n k j :: (uL n k).drop (j + 1) := by
  have h := uD_get hn hk hj
  obtain ⟨h1, h2⟩ := List.getElem?_eq_some_iff.mp h
  rw [List.drop_eq_getElem_cons h1, h2]
theorem uL_drop_end {n k : Nat} (hn : uHn n) (hk : k < uF n) : (uL n k).drop n = [] := by
  rw [List.drop_eq_nil_iff, uL_len hn hk]
  exact Nat.le_refl n
theorem uL_drop_len {n k j : Nat} (hn : uHn n) (hk : k < uF n) : ((uL n k).drop j).length = n - j := by
  rw [List.length_drop, uL_len hn hk]
/-- the class: an order's number -/
theorem x_numberOf {n k : Nat} {f : Nat → Int32} {st : kS} (hn : uHn n) (hp : gI st 10 = nI n) (ho : uO n k f) : fX4_numberOf 6 f st = some (nI k) := by
  have hk := ho.1
  have key : kZ (fX4_numberOf_L4 (fun v2 _ => some v2) 6 f st kFU (nI 0) (nI 0)) (fun z => z = nI k) := by
    refine kfor (σ := Int32) (fun F i s => fX4_numberOf_L4 (fun v2 _ => some v2) 6 f st F s i) (fun i s => ∃ v, s = nI v ∧ uRk ((uL n k).drop i) v = k) n ?_ ?_ kFU 0 (nI 0) (Nat.zero_le _) (kFU_lt0 (by have := hn.2; omega)) ⟨0, rfl, uRk_uL hn hk⟩
    · rintro F s ⟨v, rfl, hv⟩
      show kZ (fX4_numberOf_L4_B _ _ 6 f st (nI v) (nI n)) _
      unfold fX4_numberOf_L4_B
      rw [hp]
      refine kZ.ifp (nI_le (Nat.le_refl n) hn.lt) (kZ.ret ?_)
      rw [uL_drop_end hn hk] at hv
      rw [← hv]
      rfl
    · rintro F i s hi ⟨v, rfl, hv⟩ next
      show kZ (fX4_numberOf_L4_B _ _ 6 f st (nI v) (nI i)) _
      unfold fX4_numberOf_L4_B
      rw [hp]
      refine kZ.ifn (nI_ge hi hn.lt) ?_
      rw [uL_drop hn hk hi] at hv
      have hv2 : uRk ((uL n k).drop (i + 1)) (v * (n - i) + uS (uD n k i) ((uL n k).drop (i + 1))) = k := by
        refine Eq.trans ?_ hv
        show _ = uRk ((uL n k).drop (i + 1)) (v * (((uL n k).drop (i + 1)).length + 1) + uS (uD n k i) ((uL n k).drop (i + 1)))
        rw [uL_drop_len hn hk, show n - (i + 1) + 1 = n - i by omega]
      rw [l1, nI_add, pk_sub (Nat.le_of_lt hi), pk_mul]
      refine kfor (σ := Int32) (fun F j s => fX4_numberOf_L20 (fun v4 v5 => fX4_numberOf_L4 (fun v2 _ => some v2) 6 f st _ (nI (v * (n - i)) + v4) (nI (i + 1))) 6 f st (nI v) (nI i) F s j) (fun j s => ∃ w, s = nI w ∧ w + uS (uD n k i) ((uL n k).drop j) = uS (uD n k i) ((uL n k).drop (i + 1))) n ?_ ?_ kFU (i + 1) (nI 0) hi (by have := hn.2; have := (kFU_lt (N := 10) (by decide)); omega) ⟨0, rfl, Nat.zero_add _⟩
      · rintro F s ⟨w, rfl, hw⟩
        show kZ (fX4_numberOf_L20_B _ _ 6 f st (nI v) (nI i) (nI w) (nI n)) _
        unfold fX4_numberOf_L20_B
        rw [hp]
        refine kZ.ifp (nI_le (Nat.le_refl n) hn.lt) ?_
        rw [uL_drop_end hn hk] at hw
        dsimp only
        rw [nI_add]
        exact next _ ⟨_, rfl, by rw [show w = _ from hw]; exact hv2⟩
      · rintro F j s hj ⟨w, rfl, hw⟩ next2
        show kZ (fX4_numberOf_L20_B _ _ 6 f st (nI v) (nI i) (nI w) (nI j)) _
        unfold fX4_numberOf_L20_B
        rw [hp]
        refine kZ.ifn (nI_ge hj hn.lt) ?_
        rw [ho.kg hn hi, ho.kg hn hj, l1, nI_add, nI_add]
        rw [uL_drop hn hk hj] at hw
        have hw2 : w + ((if uD n k j < uD n k i then 1 else 0) + uS (uD n k i) ((uL n k).drop (j + 1))) = uS (uD n k i) ((uL n k).drop (i + 1)) := hw
        refine kZ.ite (fun e => ?_) (fun e => ?_)
        · rw [nI_leI (uD_lt31 hn hk hi) (uD_lt31 hn hk hj)] at e
          rw [if_neg (by omega)] at hw2
          exact next2 _ ⟨w, rfl, by omega⟩
        · rw [nI_leI (uD_lt31 hn hk hi) (uD_lt31 hn hk hj)] at e
          rw [if_pos (by omega)] at hw2
          exact next2 _ ⟨w + 1, rfl, by omega⟩
  obtain ⟨z, hz, rfl⟩ := key
  exact hz
