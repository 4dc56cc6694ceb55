/-! THE LAW'S LOOPS: feuds and kinds at first; then, night by night, who stands where and what is to be joined -/
theorem sB_rowj {g : Nat → Nat} {n : Nat} : ∀ d j, j + d = n → sB g n = sB g j + uRow g n j := by
  intro d
  induction d with
  | zero =>
    intro j hj
    rw [uRow_e (by omega), show j = n by omega]
    rfl
  | succ d ih =>
    intro j hj
    rw [ih (j + 1) (by omega), uRow_s (show j < n by omega)]
    show sB g j + g j + _ = _
    omega
section LA
variable {n o h t : Nat} {κ : Nat → Nat} {φ : Nat → Nat → Bool} {st : kS} {L : Nat} {xs : Nat → Int32} {Q : Int32 × kS → Prop} {v5 v6 v7 v8 v9 v10 v11 : Int32}
def fR (n : Nat) (φ : Nat → Nat → Bool) (a : Nat) : Nat := sB (fun b => if φ a b && decide (a < b) then 1 else 0) n
theorem fR_sum (n : Nat) (φ : Nat → Nat → Bool) : sB (fR n φ) n = uPn n φ := by
  unfold uPn
  rw [← sB_row]
  refine sB_cg n (fun a ha => ?_)
  unfold fR
  rw [sB_rowj (n - (a + 1)) (a + 1) (by omega), sB_cg (h := fun _ => 0) (a + 1) (fun i hi => by rw [decide_eq_false (show ¬ a < i by omega), Bool.and_false]; rfl), sB_zero, Nat.zero_add]
  refine uRow_cong2 (n - (a + 1)) (a + 1) (by omega) (fun i h1 h2 => ?_)
  rw [decide_eq_true (show a < i by omega), Bool.and_true]
theorem l_L71 {K : Int32 → Int32 → Option (Int32 × kS)} {a s0 : Nat} (H : lS n κ φ o h t st) (ha : a < n) (hK : ∀ w, kZ (K (nI (s0 + fR n φ a)) w) Q) : kZ (fL_law_L71 K L xs st (nI n) v5 v6 v7 v8 (nI a) kFU (nI s0) 0) Q := by
  have hn := H.1.1
  have hn6 := hn.2
  refine kfor (σ := Int32) (fun F i s => fL_law_L71 K L xs st (nI n) v5 v6 v7 v8 (nI a) F s i) (fun i s => s = nI (s0 + sB (fun b => if φ a b && decide (a < b) then 1 else 0) i)) n ?_ ?_ kFU 0 (nI s0) (Nat.zero_le _) (kFU_lt0 (by omega)) rfl
  · rintro F s rfl
    show kZ (fL_law_L71_B _ _ _ _ _ _ _ _ _ _ _ _ (nI n)) _
    unfold fL_law_L71_B
    exact kZ.ifp (nI_le (Nat.le_refl n) hn.lt) (hK _)
  · rintro F i s hi rfl next
    show kZ (fL_law_L71_B _ _ _ _ _ _ _ _ _ _ _ _ (nI i)) _
    unfold fL_law_L71_B fL_law_J104 fL_law_J105
    refine kZ.ifn (nI_ge hi hn.lt) ?_
    rw [ka_n _ (show a < 6 by omega) (by decide)]
    simp only [Option.bind_some]
    rw [H.2.2.2.1 a i ha hi, c_feud H ha hi, if_pos rfl, if_pos rfl, nI_1, nI_1, show (0 : Int32) = nI 0 from rfl, nI_add]
    cases hq : φ a i with
    | false =>
      refine kZ.ifn (show ¬ b01 false = 1 by decide) (next _ ?_)
      show _ = nI (s0 + (sB _ i + if φ a i && decide (a < i) then 1 else 0))
      rw [hq]
      rfl
    | true =>
      refine kZ.ifp (show b01 true = 1 from rfl) ?_
      refine kZ.ite (fun c => next _ ?_) (fun c => next _ ?_)
      · have q := (nI_leI (hn.lp hi) (hn.lp ha)).mp c
        show _ = nI (s0 + (sB _ i + if φ a i && decide (a < i) then 1 else 0))
        rw [hq, decide_eq_false (show ¬ a < i by omega)]
        rfl
      · have q : ¬ i ≤ a := fun q => c ((nI_leI (hn.lp hi) (hn.lp ha)).mpr q)
        show _ = nI (s0 + (sB _ i + if φ a i && decide (a < i) then 1 else 0))
        rw [hq, decide_eq_true (show a < i by omega)]
        show nI (s0 + sB _ i + 1) = nI (s0 + (sB _ i + 1))
        rw [Nat.add_assoc]
theorem as_dec (X Y : Option (Int32 × kS)) : ∀ x, x < 4 → ∀ k, k < 4 → (if nI k = 0 then X else if nI k = nI x then X else if nI k = 1 then (if nI x = 3 then X else Y) else Y) = if uIs x k = true then X else Y := by
  intro x hx k hk
  have x4 : x = 0 ∨ x = 1 ∨ x = 2 ∨ x = 3 := by omega
  have k4 : k = 0 ∨ k = 1 ∨ k = 2 ∨ k = 3 := by omega
  rcases x4 with rfl | rfl | rfl | rfl <;> rcases k4 with rfl | rfl | rfl | rfl <;> rfl
theorem l_L139 {K : Int32 → Option (Int32 × kS)} {a : Nat} (H : lS n κ φ o h t st) (ha : a < n) (hK : ∀ w, kZ (K w) Q) : kZ (fL_law_L139 K L xs st (nI n) v5 v6 v7 v8 v9 (nI a) kFU 0) Q := by
  have hn := H.1.1
  have hn6 := hn.2
  refine kfor (σ := Unit) (fun F i _ => fL_law_L139 K L xs st (nI n) v5 v6 v7 v8 v9 (nI a) F i) (fun _ _ => True) 4 ?_ ?_ kFU 0 () (Nat.zero_le _) (kFU_lt0 (by omega)) trivial
  · intro F _ _
    show kZ (fL_law_L139_B _ _ _ _ _ _ _ _ _ _ _ _ (nI 4)) _
    unfold fL_law_L139_B
    exact kZ.ifp (by decide) (hK _)
  · intro F i _ hi _ next
    show kZ (fL_law_L139_B _ _ _ _ _ _ _ _ _ _ _ _ (nI i)) _
    unfold fL_law_L139_B fL_law_J181 fL_law_J186 fL_law_J187
    refine kZ.ifn (show ¬ (4 : Int32) ≤ nI i from nI_ge (b := 4) hi (by decide)) ?_
    rw [H.2.2.1.ka hn ha]
    simp only [Option.bind_some]
    rw [as_dec _ _ _ (H.2.2.1 a ha).1 _ hi, c_as H ha hi, nI_1]
    cases uIs (κ a) i with
    | true => exact kZ.ifp rfl (kZ.ifp rfl (next () trivial))
    | false => exact kZ.ifn (by decide) (kZ.ifp rfl (next () trivial))
theorem l_L61 {K : Int32 → Int32 → Option (Int32 × kS)} (H : lS n κ φ o h t st) (hK : ∀ w, kZ (K (nI (uPn n φ)) w) Q) : kZ (fL_law_L61 K L xs st (nI n) v5 v6 v7 v8 kFU 0 0) Q := by
  have hn := H.1.1
  have hn6 := hn.2
  refine kfor (σ := Int32) (fun F i s => fL_law_L61 K L xs st (nI n) v5 v6 v7 v8 F s i) (fun i s => s = nI (sB (fR n φ) i)) n ?_ ?_ kFU 0 0 (Nat.zero_le _) (kFU_lt0 (by omega)) rfl
  · rintro F s rfl
    show kZ (fL_law_L61_B _ _ _ _ _ _ _ _ _ _ _ (nI n)) _
    unfold fL_law_L61_B
    refine kZ.ifp (nI_le (Nat.le_refl n) hn.lt) ?_
    rw [fR_sum]
    exact hK _
  · rintro F i s hi rfl next
    show kZ (fL_law_L61_B _ _ _ _ _ _ _ _ _ _ _ (nI i)) _
    unfold fL_law_L61_B
    refine kZ.ifn (nI_ge hi hn.lt) ?_
    refine l_L71 H hi (fun w => ?_)
    refine l_L139 H hi (fun w2 => ?_)
    rw [nI_1]
    exact next _ rfl
theorem l_J37 (H : lS n κ φ 0 0 0 st) (hK : kZ (fL_law_J216 L xs st (nI n) (nI (oP n 0)) (nI (oP n 0)) (nI (oP n 0)) 0) Q) : kZ (fL_law_J37 L xs st (nI n)) Q := by
  unfold fL_law_J37
  rw [l_first H.1.1]
  simp only [Option.bind_some]
  refine l_L61 H (fun w => ?_)
  show kZ (fL_law_J204 L xs st (nI n) (nI (oP n 0)) (nI (oP n 0)) (nI (oP n 0)) 0 (nI (uPn n φ))) Q
  unfold fL_law_J204
  exact kZ.ifp (c_count1 H) hK
/-! who stands where -/
def jR (n o h a : Nat) : Nat := sB (fun b => if uAdj n o a b then uJ n h (a, b) else 0) a
theorem jR_sum (hn : uHn n) (ho : o < uF n) : sB (jR n o h) n = uJs n o h := by
  rw [uJs_pairs hn ho]
  refine sB_tri (g := fun a b => if uAdj n o a b then uJ n h (a, b) else 0) (fun a b => ?_) hn
  show (if uAdj n o a b then uJ n h (a, b) else 0) = if uAdj n o b a then uJ n h (b, a) else 0
  rw [uAdj_comm n o a b, uJ_comm]
theorem l_L437 {K : Int32 → Int32 → Option (Int32 × kS)} {a s0 : Nat} (hn : uHn n) (ho : o < uF n) (hh : h < uF n) (ha : a < n) (hK : ∀ w, kZ (K (nI (s0 + jR n o h a)) w) Q) : kZ (fL_law_L437 K L xs st (nI n) v5 (nI (oP n o)) (nI (oP n h)) v8 v10 v11 (nI a) kFU (nI s0) 0) Q := by
  have hn6 := hn.2
  refine kfor (σ := Int32) (fun F i s => fL_law_L437 K L xs st (nI n) v5 (nI (oP n o)) (nI (oP n h)) v8 v10 v11 (nI a) F s i) (fun i s => s = nI (s0 + sB (fun b => if uAdj n o a b then uJ n h (a, b) else 0) i)) a ?_ ?_ kFU 0 (nI s0) (Nat.zero_le _) (kFU_lt0 (by omega)) rfl
  · rintro F s rfl
    show kZ (fL_law_L437_B _ _ _ _ _ _ _ _ _ _ _ _ _ _ (nI a)) _
    unfold fL_law_L437_B
    exact kZ.ifp (nI_le (Nat.le_refl a) (hn.lp ha)) (hK _)
  · rintro F i s hi rfl next
    show kZ (fL_law_L437_B _ _ _ _ _ _ _ _ _ _ _ _ _ _ (nI i)) _
    unfold fL_law_L437_B
    refine kZ.ifn (nI_ge hi (hn.lp ha)) ?_
    rw [l_beside hn ho ha (show i < n by omega), l_beside hn hh ha (show i < n by omega)]
    simp only [Option.bind_some]
    rw [nI_1, nI_1, show (0 : Int32) = nI 0 from rfl, nI_add]
    have hv : sB (fun b => if uAdj n o a b then uJ n h (a, b) else 0) (i + 1) = sB (fun b => if uAdj n o a b then uJ n h (a, b) else 0) i + (if uAdj n o a i then (if uAdj n h a i then 0 else 1) else 0) := rfl
    cases c1 : uAdj n o a i with
    | false =>
      rw [c1] at hv
      refine kZ.ifp (show b01 false = nI 0 from rfl) (next _ ?_)
      rw [hv]
      rfl
    | true =>
      rw [c1] at hv
      refine kZ.ifn (show ¬ b01 true = nI 0 by decide) ?_
      cases c2 : uAdj n h a i with
      | false =>
        rw [c2] at hv
        refine kZ.ifp (show b01 false = nI 0 from rfl) (next _ ?_)
        rw [hv]
        show nI (s0 + sB _ i + 1) = nI (s0 + (sB _ i + 1))
        rw [Nat.add_assoc]
      | true =>
        rw [c2] at hv
        refine kZ.ifn (show ¬ b01 true = nI 0 by decide) (next _ ?_)
        rw [hv]
        rfl
theorem l_L316 {K : Int32 → Int32 → Option (Int32 × kS)} (H : lS n κ φ o h t st) (hK : ∀ w, kZ (K (nI (uJs n o h)) w) Q) : kZ (fL_law_L316 K L xs st (nI n) v5 (nI (oP n o)) (nI (oP n h)) v8 v10 v11 kFU 0 0) Q := by
  have hn := H.1.1
  have hn6 := hn.2
  have ho := H.2.2.2.2.2.1.1
  have hh := H.2.2.2.2.2.2.1.1
  refine kfor (σ := Int32) (fun F i s => fL_law_L316 K L xs st (nI n) v5 (nI (oP n o)) (nI (oP n h)) v8 v10 v11 F s i) (fun i s => s = nI (sB (jR n o h) i)) n ?_ ?_ kFU 0 0 (Nat.zero_le _) (kFU_lt0 (by omega)) rfl
  · rintro F s rfl
    show kZ (fL_law_L316_B _ _ _ _ _ _ _ _ _ _ _ _ _ (nI n)) _
    unfold fL_law_L316_B
    refine kZ.ifp (nI_le (Nat.le_refl n) hn.lt) ?_
    rw [jR_sum hn ho]
    exact hK _
  · rintro F i s hi rfl next
    show kZ (fL_law_L316_B _ _ _ _ _ _ _ _ _ _ _ _ _ (nI i)) _
    unfold fL_law_L316_B
    refine kZ.ifn (nI_ge hi hn.lt) ?_
    have i1 := uI_lt hn ho hi
    have i2 := uI_lt hn hh hi
    rw [l_place hn ho hi, l_place hn hh hi, c_house0 H hi, H.2.2.1.ka hn hi, c_house1 H hi, c_house2 H hi, c_house3 H hi, c_walk H hi]
    simp only [Option.bind_some, if_true]
    rw [c_at H i1, uD_uI hn ho hi]
    have r1 : fL_round (nI n) 0 (nI (uI n h i)) = uWy n 0 (uI n h i) := l_round n (by omega) 0 (by decide) _ (by omega)
    have r2 : fL_round (nI n) (nI (uI n h i)) (nI (uI n o i)) = uWy n (uI n h i) (uI n o i) := l_round n (by omega) _ (by omega) _ (by omega)
    rw [if_pos rfl, r1, r2]
    refine kZ.ifp rfl ?_
    refine l_L437 hn ho hh hi (fun w => ?_)
    rw [nI_1]
    exact next _ rfl
theorem l_J310 {K Gc : Int32 → Int32 → Int32 → Int32 → kS → Option (Int32 × kS)} (H : lS n κ φ o h t st) (hK : kZ (fL_law_J531 K Gc L xs st (nI n) v5 (nI (oP n o)) (nI (oP n h)) (nI t) v10 v11) Q) : kZ (fL_law_J310 K Gc L xs st (nI n) v5 (nI (oP n o)) (nI (oP n h)) (nI t) v10 v11) Q := by
  unfold fL_law_J310
  refine l_L316 H (fun w => ?_)
  show kZ (fL_law_J494 K Gc L xs st (nI n) v5 (nI (oP n o)) (nI (oP n h)) (nI t) v10 v11 (nI (uJs n o h))) Q
  unfold fL_law_J494
  rw [c_touch H, l_touch H.1.1 H.2.2.2.2.2.1.1 H.2.2.1 H.2.2.2.1 H.2.1, c_joins H]
  simp only [Option.bind_some, if_true]
  exact kZ.ifp (c_count2 H) hK
end LA
