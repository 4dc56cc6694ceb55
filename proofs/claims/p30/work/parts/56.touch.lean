/-! WHO STANDS BESIDE WHOM: touching, joins -/
theorem map_range_drop {α : Type} (e : Nat → α) {i n : Nat} (h : i < n) : ((List.range n).map e).drop i = e i :: ((List.range n).map e).drop (i + 1) := by
  have hl : i < ((List.range n).map e).length := by rw [List.length_map, List.length_range]; exact h
  rw [List.drop_eq_getElem_cons hl]
  simp
theorem map_range_end {α : Type} (e : Nat → α) (n : Nat) : ((List.range n).map e).drop n = [] := by
  rw [List.drop_eq_nil_iff, List.length_map, List.length_range]
  exact Nat.le_refl n
/-- sums over rows and over pairs -/
def uRow (h : Nat → Nat) (n j : Nat) : Nat := ((List.range' j (n - j)).map h).sum
theorem uRow_s {h : Nat → Nat} {n j : Nat} (hj : j < n) : uRow h n j = h j + uRow h n (j + 1) := by
  unfold uRow
  rw [show n - j = (n - (j + 1)) + 1 by omega, List.range'_succ, List.map_cons, List.sum_cons]
theorem uRow_e {h : Nat → Nat} {n j : Nat} (hj : n ≤ j) : uRow h n j = 0 := by
  unfold uRow
  rw [show n - j = 0 by omega]
  rfl
theorem sum_flatMap {α β : Type} (f : α → List β) (h : β → Nat) : ∀ l : List α, ((l.flatMap f).map h).sum = (l.map (fun a => ((f a).map h).sum)).sum
  | [] => rfl
  | a :: t => by rw [List.flatMap_cons, List.map_append, List.sum_append, sum_flatMap f h t, List.map_cons, List.sum_cons]
theorem sum_filter {α : Type} (P : α → Bool) (g : α → Nat) : ∀ l : List α, ((l.filter P).map g).sum = (l.map (fun a => if P a then g a else 0)).sum
  | [] => rfl
  | a :: t => by
    rw [List.filter_cons]
    cases hP : P a with
    | true => simp only [if_true, List.map_cons, List.sum_cons, hP, sum_filter P g t]
    | false => simp only [List.map_cons, List.sum_cons, hP]; simp; exact sum_filter P g t
theorem uPairs_sum (n : Nat) (h : Nat × Nat → Nat) : ((uPairs n).map h).sum = uRow (fun a => uRow (fun b => h (a, b)) n (a + 1)) n 0 := by
  unfold uPairs
  rw [sum_flatMap]
  unfold uRow
  rw [List.range_eq_range']
  simp only [List.map_map, Nat.sub_zero]
  rfl
def uG (κ : Nat → Nat) (φ : Nat → Nat → Bool) (q : Nat × Nat) : Nat := if φ q.1 q.2 && (!(κ q.1 == 2) && !(κ q.2 == 2)) then 1 else 0
/-- how many feuds touch in an order -/
def uT (n : Nat) (κ : Nat → Nat) (φ : Nat → Nat → Bool) (k : Nat) : Nat := ((uEdges n k).map (uG κ φ)).sum
theorem uT_pairs {n k : Nat} {κ : Nat → Nat} {φ : Nat → Nat → Bool} (hn : uHn n) (hk : k < uF n) : uT n κ φ k = uRow (fun a => uRow (fun b => if uAdj n k a b then uG κ φ (a, b) else 0) n (a + 1)) n 0 := by
  unfold uT
  rw [u_5 hn hk, sum_filter, uPairs_sum]
theorem uBs_comm (n p q : Nat) : uBs n p q = uBs n q p := Bool.or_comm _ _
theorem uAdj_comm (n k a b : Nat) : uAdj n k a b = uAdj n k b a := uBs_comm _ _ _
/-- the class: touching -/
theorem uEdge_g {n k p : Nat} {g : Nat × Nat → Nat} (hg : ∀ a b, g (a, b) = g (b, a)) : g (if uD n k p < uD n k (uN n p) then (uD n k p, uD n k (uN n p)) else (uD n k (uN n p), uD n k p)) = g (uD n k p, uD n k (uN n p)) := by
  split
  · rfl
  · exact hg _ _
theorem uG_comm {κ : Nat → Nat} {φ : Nat → Nat → Bool} (hφ : ∀ a b, φ a b = φ b a) (a b : Nat) : uG κ φ (a, b) = uG κ φ (b, a) := by
  unfold uG
  rw [hφ a b, Bool.and_comm (!(κ a == 2))]
theorem x_touching {n k : Nat} {κ : Nat → Nat} {φ : Nat → Nat → Bool} {st : kS} {f : Nat → Int32} (h : xR n κ φ st) (hφ : ∀ a b, φ a b = φ b a) (ho : uO n k f) : fX8_touching 6 f st = some (nI (uT n κ φ k)) := by
  have hn := h.1
  have hk := ho.1
  have key : kZ (fX8_touching_L4 (fun v2 _ => some v2) 6 f st kFU (nI 0) (nI 0)) (fun z => z = nI (uT n κ φ k)) := by
    refine kfor (σ := Int32) (fun F i s => fX8_touching_L4 (fun v2 _ => some v2) 6 f st F s i) (fun i s => ∃ v, s = nI v ∧ v + (((uEdges n k).drop i).map (uG κ φ)).sum = uT n κ φ k) n ?_ ?_ kFU 0 (nI 0) (Nat.zero_le _) (kFU_lt0 (by have := hn.2; omega)) ⟨0, rfl, Nat.zero_add _⟩
    · rintro F s ⟨v, rfl, hv⟩
      show kZ (fX8_touching_L4_B _ _ 6 f st (nI v) (nI n)) _
      unfold fX8_touching_L4_B
      rw [h.2.1]
      refine kZ.ifp (nI_le (Nat.le_refl n) hn.lt) (kZ.ret ?_)
      unfold uEdges at hv
      rw [map_range_end] at hv
      rw [← hv]
      rfl
    · rintro F i s hi ⟨v, rfl, hv⟩ next
      show kZ (fX8_touching_L4_B _ _ 6 f st (nI v) (nI i)) _
      unfold fX8_touching_L4_B
      rw [h.2.1]
      refine kZ.ifn (nI_ge hi hn.lt) ?_
      have hi2 := uN_lt hn hi
      have hd1 := uD_lt hn hk hi
      have hd2 := uD_lt hn hk hi2
      rw [h.next hi, ho.kg hn hi, ho.kg hn hi2, h.hate hd1 hd2, h.is2 hd1, h.is2 hd2, l1, nI_add, nI_add]
      have hv2 : v + (uG κ φ (uD n k i, uD n k (uN n i)) + (((uEdges n k).drop (i + 1)).map (uG κ φ)).sum) = uT n κ φ k := by
        rw [← hv]
        unfold uEdges
        rw [map_range_drop _ hi, List.map_cons, List.sum_cons, uEdge_g (uG_comm hφ)]
      rw [show uG κ φ (uD n k i, uD n k (uN n i)) = if φ (uD n k i) (uD n k (uN n i)) && (!(κ (uD n k i) == 2) && !(κ (uD n k (uN n i)) == 2)) then 1 else 0 from rfl] at hv2
      cases hq : φ (uD n k i) (uD n k (uN n i)) with
      | false =>
        rw [hq] at hv2
        refine kZ.ifp rfl (next _ ⟨v, rfl, ?_⟩)
        simpa using hv2
      | true =>
        rw [hq] at hv2
        refine kZ.ifn (by decide) ?_
        cases ha : κ (uD n k i) == 2 with
        | true =>
          rw [ha] at hv2
          refine kZ.ifn (by decide) (next _ ⟨v, rfl, ?_⟩)
          simpa using hv2
        | false =>
          rw [ha] at hv2
          refine kZ.ifp rfl ?_
          cases hb : κ (uD n k (uN n i)) == 2 with
          | true =>
            rw [hb] at hv2
            refine kZ.ifn (by decide) (next _ ⟨v, rfl, ?_⟩)
            simpa using hv2
          | false =>
            rw [hb] at hv2
            refine kZ.ifp rfl (next _ ⟨v + 1, rfl, ?_⟩)
            have : v + (1 + (((uEdges n k).drop (i + 1)).map (uG κ φ)).sum) = uT n κ φ k := hv2
            omega
  obtain ⟨z, hz, rfl⟩ := key
  exact hz
theorem nI_two : ∀ {a : Nat}, a < 4 → (nI a = 2 ↔ (a == 2) = true) := by
  intro a ha
  have := (by decide +kernel : ∀ a, a < 4 → (nI a = 2 ↔ (a == 2) = true)) a ha
  exact this
/-- the reference: beside -/
theorem m_bs_dec (n : Nat) (hn : uHn n) : ∀ p, p < n → ∀ q, q < n → (if (nI p - nI q) = 1 then (some 1) else (if (nI p - nI q) = (-1) then (some 1) else (if (nI p - nI q) = (nI n - 1) then (some 1) else (if (nI p - nI q) = (1 - nI n) then (some 1) else (some (0 : Int32)))))) = some (b01 (uBs n p q)) :=
  uHn.all (P := fun n => ∀ p, p < n → ∀ q, q < n → (if (nI p - nI q) = 1 then (some 1) else (if (nI p - nI q) = (-1) then (some 1) else (if (nI p - nI q) = (nI n - 1) then (some 1) else (if (nI p - nI q) = (1 - nI n) then (some 1) else (some (0 : Int32)))))) = some (b01 (uBs n p q))) (by decide +kernel) (by decide +kernel) (by decide +kernel) (by decide +kernel) hn
/-- joins -/
def uJ (n h : Nat) (q : Nat × Nat) : Nat := if uAdj n h q.1 q.2 then 0 else 1
def uJs (n k h : Nat) : Nat := ((uEdges n k).map (uJ n h)).sum
theorem uJ_comm (n h a b : Nat) : uJ n h (a, b) = uJ n h (b, a) := by
  unfold uJ
  rw [uAdj_comm]
theorem uJs_pairs {n k h : Nat} (hn : uHn n) (hk : k < uF n) : uJs n k h = uRow (fun a => uRow (fun b => if uAdj n k a b then uJ n h (a, b) else 0) n (a + 1)) n 0 := by
  unfold uJs
  rw [u_5 hn hk, sum_filter, uPairs_sum]
theorem xR.beside {n : Nat} {κ : Nat → Nat} {φ : Nat → Nat → Bool} {st : kS} (h : xR n κ φ st) {p q : Nat} (hp : p < n) (hq : q < n) : fX8_beside st (nI p) (nI q) = b01 (uBs n p q) := by
  have hn := h.1
  unfold fX8_beside uBs
  rw [h.next hp, h.next hq]
  have e1 : (nI (uN n p) = nI q) ↔ (uN n p == q) = true := by
    rw [nI_eq (hn.lp (uN_lt hn hp)) (hn.lp hq)]
    simp
  have e2 : (nI (uN n q) = nI p) ↔ (uN n q == p) = true := by
    rw [nI_eq (hn.lp (uN_lt hn hq)) (hn.lp hp)]
    simp
  cases h1 : uN n p == q with
  | true => rw [if_pos (e1.mpr h1)]; rfl
  | false =>
    rw [if_neg (fun e => by rw [e1.mp e] at h1; cases h1)]
    cases h2 : uN n q == p with
    | true => rw [if_pos (e2.mpr h2)]; rfl
    | false => rw [if_neg (fun e => by rw [e2.mp e] at h2; cases h2)]; rfl
theorem xR.ahead {n : Nat} {κ : Nat → Nat} {φ : Nat → Nat → Bool} {st : kS} (h : xR n κ φ st) {m j : Nat} (ho : uO n m (gA st 14)) (hj : j < n) : fX3_placeAhead_3 st (nI j) (gI st 3) = some (nI (uI n m j)) := by
  unfold fX3_placeAhead_3
  rw [h.2.1, x_placeIn h.1 ho hj]
  rfl
theorem xR.place {n : Nat} {κ : Nat → Nat} {φ : Nat → Nat → Bool} {st : kS} (h : xR n κ φ st) {m j : Nat} (ho : uO n m (gA st 13)) (hj : j < n) : fX3_placeOf_3 st (nI j) (gI st 3) = some (nI (uI n m j)) := by
  unfold fX3_placeOf_3
  rw [h.2.1, x_placeIn h.1 ho hj]
  rfl
theorem xR.stands {n : Nat} {κ : Nat → Nat} {φ : Nat → Nat → Bool} {st : kS} (h : xR n κ φ st) : fX8_stands st = 1 := by
  unfold fX8_stands
  rw [h.2.1, if_neg (nI_nle (by have := h.1.1; omega) h.1.lt)]
theorem x_joins {n k m : Nat} {κ : Nat → Nat} {φ : Nat → Nat → Bool} {st : kS} (h : xR n κ φ st) (ho : uO n k (gA st 13)) (hm : uO n m (gA st 14)) : fX9_joins st = some (nI (uJs n k m)) := by
  have hn := h.1
  have hk := ho.1
  unfold fX9_joins
  rw [h.stands, if_neg (by decide)]
  have key : kZ (fX9_joins_L17 (fun v1_6 _ => some v1_6) st kFU (nI 0) (nI 0)) (fun z => z = nI (uJs n k m)) := by
    refine kfor (σ := Int32) (fun F i s => fX9_joins_L17 (fun v1_6 _ => some v1_6) st F s i) (fun i s => ∃ v, s = nI v ∧ v + (((uEdges n k).drop i).map (uJ n m)).sum = uJs n k m) n ?_ ?_ kFU 0 (nI 0) (Nat.zero_le _) (kFU_lt0 (by have := hn.2; omega)) ⟨0, rfl, Nat.zero_add _⟩
    · rintro F s ⟨v, rfl, hv⟩
      show kZ (fX9_joins_L17_B _ _ st (nI v) (nI n)) _
      unfold fX9_joins_L17_B
      rw [h.2.1]
      refine kZ.ifp (nI_le (Nat.le_refl n) hn.lt) (kZ.ret ?_)
      unfold uEdges at hv
      rw [map_range_end] at hv
      rw [← hv]
      rfl
    · rintro F i s hi ⟨v, rfl, hv⟩ next
      show kZ (fX9_joins_L17_B _ _ st (nI v) (nI i)) _
      unfold fX9_joins_L17_B
      have hi2 := uN_lt hn hi
      have hd1 := uD_lt hn hk hi
      have hd2 := uD_lt hn hk hi2
      unfold fX3_houseIn_3
      rw [h.next hi, ho.kg hn hi, ho.kg hn hi2, h.ahead hm hd1, h.ahead hm hd2, h.2.1]
      refine kZ.ifn (nI_ge hi hn.lt) ?_
      show kZ (if fX8_beside st (nI (uI n m (uD n k i))) (nI (uI n m (uD n k (uN n i)))) = 0 then _ else _) _
      rw [h.beside (uI_lt hn hm.1 hd1) (uI_lt hn hm.1 hd2), show nI i + 1 = nI (i + 1) from nI_1 i, show nI v + 1 = nI (v + 1) from nI_1 v]
      have hv2 : v + (uJ n m (uD n k i, uD n k (uN n i)) + (((uEdges n k).drop (i + 1)).map (uJ n m)).sum) = uJs n k m := by
        rw [← hv]
        unfold uEdges
        rw [map_range_drop _ hi, List.map_cons, List.sum_cons, uEdge_g (uJ_comm n m)]
      rw [show uJ n m (uD n k i, uD n k (uN n i)) = if uBs n (uI n m (uD n k i)) (uI n m (uD n k (uN n i))) then 0 else 1 from rfl] at hv2
      cases hq : uBs n (uI n m (uD n k i)) (uI n m (uD n k (uN n i))) with
      | true =>
        rw [hq] at hv2
        refine kZ.ifn (by decide) (next _ ⟨v, rfl, ?_⟩)
        simpa using hv2
      | false =>
        rw [hq] at hv2
        refine kZ.ifp rfl (next _ ⟨v + 1, rfl, ?_⟩)
        have hv3 : v + (1 + (((uEdges n k).drop (i + 1)).map (uJ n m)).sum) = uJs n k m := hv2
        omega
  obtain ⟨z, hz, rfl⟩ := key
  exact hz
