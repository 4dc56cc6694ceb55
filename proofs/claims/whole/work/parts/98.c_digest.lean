/-! digest: the rows of numbers on either side -/
def dG (G : Nat → Int64 → Int64) : Nat → Int64 → Int64
  | 0, v => v
  | i + 1, v => G i (dG G i v)
def dM (U : Nat → Int32) (i : Nat) (v : Int64) : Int64 := 31 * v + (U i).toInt64
def dH (n : Nat) (φ : Nat → Nat → Bool) (o h : Nat) (U : Nat → Nat → Int32) (a : Nat) (v : Int64) : Int64 := 31 * dG (dM (fun b => b01 (φ a b))) n (dG (dM (U a)) 4 v) + (uWlk n o h a).toInt64
section DX
variable {n o h a m : Nat} {κ c : Nat → Nat} {φ : Nat → Nat → Bool} {st : kS} {U : Nat → Nat → Int32}
theorem x_page {K : Int64 → Int32 → Option (Int64 × kS)} {Q : Int64 × kS → Prop} {v : Int64} (hp : pgX m c st) (hK : ∀ w, kZ (K (dG (dM (fun j => nI (c j))) m v) w) Q) : kZ (fX9_digest_L153 K st kFU v 0) Q := by
  have hm := hp.1
  refine kfor (σ := Int64) (fun F i s => fX9_digest_L153 K st F s i) (fun i s => s = dG (dM (fun j => nI (c j))) i v) m ?_ ?_ kFU 0 v (Nat.zero_le _) (kFU_lt0 (by omega)) rfl
  · rintro F s rfl
    show kZ (fX9_digest_L153_B _ _ st _ (nI m)) _
    unfold fX9_digest_L153_B
    rw [hp.2.1]
    exact kZ.ifp (nI_le (Nat.le_refl m) (n_lt31 (by omega))) (hK _)
  · rintro F i s hi rfl next
    show kZ (fX9_digest_L153_B _ _ st _ (nI i)) _
    unfold fX9_digest_L153_B
    rw [hp.2.1, hp.code hi, show nI i + 1 = nI (i + 1) from nI_1 i]
    exact kZ.ifn (nI_ge hi (n_lt31 (by omega))) (next _ rfl)
theorem x_cnt {K : Int64 → Int32 → Option (Int64 × kS)} {Q : Int64 × kS → Prop} {v : Int64} (hK : ∀ w, kZ (K (dG (dM (fun j => fX9_count st (nI j))) 6 v) w) Q) : kZ (fX9_digest_L188 K st kFU v 0) Q := by
  refine kfor (σ := Int64) (fun F i s => fX9_digest_L188 K st F s i) (fun i s => s = dG (dM (fun j => fX9_count st (nI j))) i v) 6 ?_ ?_ kFU 0 v (Nat.zero_le _) (kFU_lt0 (by decide)) rfl
  · rintro F s rfl
    show kZ (fX9_digest_L188_B _ _ st _ (nI 6)) _
    unfold fX9_digest_L188_B
    exact kZ.ifp (by decide) (hK _)
  · rintro F i s hi rfl next
    show kZ (fX9_digest_L188_B _ _ st _ (nI i)) _
    unfold fX9_digest_L188_B
    rw [show nI i + 1 = nI (i + 1) from nI_1 i]
    exact kZ.ifn (show ¬ nI 5 < nI i from nI_nlt (by omega) (by decide)) (next _ rfl)
theorem x_house6 {K : Int64 → Int32 → Option Int64} {Q : Int64 → Prop} {v : Int64} (hU : ∀ i, i < 4 → fX9_house st (nI a) (nI i) = some (U a i)) (hK : ∀ w, kZ (K (dG (dM (U a)) 4 v) w) Q) : kZ (fX9_houseInto_L6 K st (nI a) kFU v 0) Q := by
  refine kfor (σ := Int64) (fun F i s => fX9_houseInto_L6 K st (nI a) F s i) (fun i s => s = dG (dM (U a)) i v) 4 ?_ ?_ kFU 0 v (Nat.zero_le _) (kFU_lt0 (by decide)) rfl
  · rintro F s rfl
    show kZ (fX9_houseInto_L6_B _ _ st (nI a) _ (nI 4)) _
    unfold fX9_houseInto_L6_B
    exact kZ.ifp (by decide) (hK _)
  · rintro F i s hi rfl next
    show kZ (fX9_houseInto_L6_B _ _ st (nI a) _ (nI i)) _
    unfold fX9_houseInto_L6_B
    rw [show nI i + 1 = nI (i + 1) from nI_1 i, hU i hi]
    exact kZ.ifn (show ¬ nI 3 < nI i from nI_nlt (by omega) (by decide)) (next _ rfl)
theorem x_feud {b : Nat} (hx : xR n κ φ st) (ha : a < n) (hb : b < n) : fX9_feud st (nI a) (nI b) = b01 (φ a b) := by
  unfold fX9_feud
  rw [hx.has ha, hx.has hb, hx.hate ha hb]
  cases φ a b <;> decide
theorem x_house38 {K : Int64 → Int32 → Option Int64} {Q : Int64 → Prop} {v : Int64} (hx : xR n κ φ st) (ha : a < n) (hK : ∀ w, kZ (K (dG (dM (fun b => b01 (φ a b))) n v) w) Q) : kZ (fX9_houseInto_L38 K st (nI a) kFU v 0) Q := by
  have hn := hx.1
  have hn6 := hn.2
  refine kfor (σ := Int64) (fun F i s => fX9_houseInto_L38 K st (nI a) F s i) (fun i s => s = dG (dM (fun b => b01 (φ a b))) i v) n ?_ ?_ kFU 0 v (Nat.zero_le _) (kFU_lt0 (by omega)) rfl
  · rintro F s rfl
    show kZ (fX9_houseInto_L38_B _ _ st (nI a) _ (nI n)) _
    unfold fX9_houseInto_L38_B
    rw [hx.2.1]
    exact kZ.ifp (nI_le (Nat.le_refl n) hn.lt) (hK _)
  · rintro F i s hi rfl next
    show kZ (fX9_houseInto_L38_B _ _ st (nI a) _ (nI i)) _
    unfold fX9_houseInto_L38_B
    rw [hx.2.1, x_feud hx ha hi, show nI i + 1 = nI (i + 1) from nI_1 i]
    exact kZ.ifn (nI_ge hi hn.lt) (next _ rfl)
theorem x_houseInto {v : Int64} (hx : xR n κ φ st) (ho : uO n o (gA st 13)) (hh : uO n h (gA st 14)) (ha : a < n) (hU : ∀ i, i < 4 → fX9_house st (nI a) (nI i) = some (U a i)) : kZ (fX9_houseInto st v (nI a)) (fun z => z = dH n φ o h U a v) := by
  unfold fX9_houseInto
  refine x_house6 hU (fun _ => x_house38 hx ha (fun _ => ?_))
  rw [x_walk hx ho hh ha]
  exact kZ.ret rfl
theorem x_houses {K : Int64 → Int32 → Option (Int64 × kS)} {Q : Int64 × kS → Prop} {v : Int64} (hx : xR n κ φ st) (ho : uO n o (gA st 13)) (hh : uO n h (gA st 14)) (hU : ∀ a, a < n → ∀ i, i < 4 → fX9_house st (nI a) (nI i) = some (U a i)) (hK : ∀ w, kZ (K (dG (dH n φ o h U) n v) w) Q) : kZ (fX9_digest_L6 K st kFU v 0) Q := by
  have hn := hx.1
  have hn6 := hn.2
  refine kfor (σ := Int64) (fun F i s => fX9_digest_L6 K st F s i) (fun i s => s = dG (dH n φ o h U) i v) n ?_ ?_ kFU 0 v (Nat.zero_le _) (kFU_lt0 (by omega)) rfl
  · rintro F s rfl
    show kZ (fX9_digest_L6_B _ _ st _ (nI n)) _
    unfold fX9_digest_L6_B
    rw [hx.2.1]
    exact kZ.ifp (nI_le (Nat.le_refl n) hn.lt) (hK _)
  · rintro F i s hi rfl next
    show kZ (fX9_digest_L6_B _ _ st _ (nI i)) _
    unfold fX9_digest_L6_B
    rw [hx.2.1, show nI i + 1 = nI (i + 1) from nI_1 i]
    refine kZ.ifn (nI_ge hi hn.lt) ?_
    exact (x_houseInto hx ho hh hi (hU i hi)).bind (fun z hz => next z hz)
end DX
section DM
variable {n o h a m : Nat} {κ c : Nat → Nat} {φ : Nat → Nat → Bool} {st : kS} {U : Nat → Nat → Int32}
theorem mix_same {s : kS} {x : Int64} (hs : kSame [] [2] [] [] st s) : kSame [] [2] [] [] st (fX10_mix s x) ∧ gJ (fX10_mix s x) 2 = 31 * gJ s 2 + x := ⟨hs.sJ (by decide) _, gJ_e _ _ _⟩
theorem m_page {K : Int32 → kS → Option (Int64 × kS)} {Q : Int64 × kS → Prop} (hp : pgM m c st) (hK : ∀ w s, kSame [] [2] [] [] st s → gJ s 2 = dG (dM (fun j => nI (c j))) m (gJ st 2) → kZ (K w s) Q) : kZ (fX10_digest_L126 K kFU 0 st) Q := by
  have hm := hp.1
  refine kfor (σ := kS) (fun F i s => fX10_digest_L126 K F i s) (fun i s => kSame [] [2] [] [] st s ∧ gJ s 2 = dG (dM (fun j => nI (c j))) i (gJ st 2)) m ?_ ?_ kFU 0 st (Nat.zero_le _) (kFU_lt0 (by omega)) ⟨kSame.rf, rfl⟩
  · rintro F s ⟨hs, hj⟩
    show kZ (fX10_digest_L126_B _ _ s (nI m)) _
    unfold fX10_digest_L126_B
    rw [(hp.same hs (by decide)).2.1]
    exact kZ.ifp (nI_le (Nat.le_refl m) (n_lt31 (by omega))) (hK _ s hs hj)
  · rintro F i s hi ⟨hs, hj⟩ next
    show kZ (fX10_digest_L126_B _ _ s (nI i)) _
    unfold fX10_digest_L126_B
    have hq := hp.same hs (by decide)
    rw [hq.2.1, show nI i + 1 = nI (i + 1) from nI_1 i]
    refine kZ.ifn (nI_ge hi (n_lt31 (by omega))) (kZ.ka (show i < 26 by omega) (by decide) ?_)
    rw [(hq.2.2 i hi).2]
    refine next _ ⟨(mix_same hs).1, ?_⟩
    rw [(mix_same hs).2, hj]
    rfl
theorem m_cnt {K : Int32 → kS → Option (Int64 × kS)} {Q : Int64 × kS → Prop} {C : Nat → Int32} (hC : ∀ s, kSame [] [2] [] [] st s → ∀ j, j < 6 → fX10_howMany s (nI j) = some (C j)) (hK : ∀ w s, kSame [] [2] [] [] st s → gJ s 2 = dG (dM C) 6 (gJ st 2) → kZ (K w s) Q) : kZ (fX10_digest_L153 K kFU 0 st) Q := by
  refine kfor (σ := kS) (fun F i s => fX10_digest_L153 K F i s) (fun i s => kSame [] [2] [] [] st s ∧ gJ s 2 = dG (dM C) i (gJ st 2)) 6 ?_ ?_ kFU 0 st (Nat.zero_le _) (kFU_lt0 (by decide)) ⟨kSame.rf, rfl⟩
  · rintro F s ⟨hs, hj⟩
    show kZ (fX10_digest_L153_B _ _ s (nI 6)) _
    unfold fX10_digest_L153_B
    exact kZ.ifp (by decide) (hK _ s hs hj)
  · rintro F i s hi ⟨hs, hj⟩ next
    show kZ (fX10_digest_L153_B _ _ s (nI i)) _
    unfold fX10_digest_L153_B
    rw [show nI i + 1 = nI (i + 1) from nI_1 i, hC s hs i hi]
    refine kZ.ifn (show ¬ nI 6 ≤ nI i from nI_ge hi (by decide)) (next _ ⟨(mix_same hs).1, ?_⟩)
    rw [(mix_same hs).2, hj]
    rfl
theorem m_house2 {K : Int32 → kS → Option kS} {Q : kS → Prop} (hU : ∀ s, kSame [] [2] [] [] st s → ∀ i, i < 4 → fX10_houseNow s (nI a) (nI i) = some (U a i)) (hK : ∀ w s, kSame [] [2] [] [] st s → gJ s 2 = dG (dM (U a)) 4 (gJ st 2) → kZ (K w s) Q) : kZ (fX10_mixHouse_L2 K (nI a) kFU 0 st) Q := by
  refine kfor (σ := kS) (fun F i s => fX10_mixHouse_L2 K (nI a) F i s) (fun i s => kSame [] [2] [] [] st s ∧ gJ s 2 = dG (dM (U a)) i (gJ st 2)) 4 ?_ ?_ kFU 0 st (Nat.zero_le _) (kFU_lt0 (by decide)) ⟨kSame.rf, rfl⟩
  · rintro F s ⟨hs, hj⟩
    show kZ (fX10_mixHouse_L2_B _ _ s (nI a) (nI 4)) _
    unfold fX10_mixHouse_L2_B
    exact kZ.ifp (by decide) (hK _ s hs hj)
  · rintro F i s hi ⟨hs, hj⟩ next
    show kZ (fX10_mixHouse_L2_B _ _ s (nI a) (nI i)) _
    unfold fX10_mixHouse_L2_B
    rw [show nI i + 1 = nI (i + 1) from nI_1 i, hU s hs i hi]
    refine kZ.ifn (show ¬ nI 4 ≤ nI i from nI_ge hi (by decide)) (next _ ⟨(mix_same hs).1, ?_⟩)
    rw [(mix_same hs).2, hj]
    rfl
theorem m_house26 {K : Int32 → kS → Option kS} {Q : kS → Prop} (hm : mR n κ φ st) (ha : a < n) (hK : ∀ w s, kSame [] [2] [] [] st s → gJ s 2 = dG (dM (fun b => b01 (φ a b))) n (gJ st 2) → kZ (K w s) Q) : kZ (fX10_mixHouse_L26 K (nI a) kFU 0 st) Q := by
  have hn := hm.1
  have hn6 := hn.2
  refine kfor (σ := kS) (fun F i s => fX10_mixHouse_L26 K (nI a) F i s) (fun i s => kSame [] [2] [] [] st s ∧ gJ s 2 = dG (dM (fun b => b01 (φ a b))) i (gJ st 2)) n ?_ ?_ kFU 0 st (Nat.zero_le _) (kFU_lt0 (by omega)) ⟨kSame.rf, rfl⟩
  · rintro F s ⟨hs, hj⟩
    show kZ (fX10_mixHouse_L26_B _ _ s (nI a) (nI n)) _
    unfold fX10_mixHouse_L26_B
    rw [(hm.same hs (by decide)).2.1]
    exact kZ.ifp (nI_le (Nat.le_refl n) hn.lt) (hK _ s hs hj)
  · rintro F i s hi ⟨hs, hj⟩ next
    show kZ (fX10_mixHouse_L26_B _ _ s (nI a) (nI i)) _
    unfold fX10_mixHouse_L26_B fX10_mixHouse_J54
    have hq := hm.same hs (by decide)
    rw [hq.2.1, hq.feud ha hi, show nI i + 1 = nI (i + 1) from nI_1 i]
    refine kZ.ifn (nI_ge hi hn.lt) ?_
    have nx : ∀ x, x = (b01 (φ a i)).toInt64 → kSame [] [2] [] [] st (fX10_mix s x) ∧ gJ (fX10_mix s x) 2 = dG (dM (fun b => b01 (φ a b))) (i + 1) (gJ st 2) := fun x e => by
      refine ⟨(mix_same hs).1, ?_⟩
      rw [(mix_same hs).2, hj, e]
      rfl
    simp only [Option.bind_some]
    cases hb : φ a i with
    | true =>
      rw [hb] at nx
      exact kZ.ifn (by decide) (next _ (nx _ (by decide)))
    | false =>
      rw [hb] at nx
      exact kZ.ifp rfl (next _ (nx _ (by decide)))
theorem m_mixHouse (hm : mR n κ φ st) (ho : uO n o (gA st 3)) (hh : uO n h (gA st 4)) (ha : a < n) (hU : ∀ s, kSame [] [2] [] [] st s → ∀ i, i < 4 → fX10_houseNow s (nI a) (nI i) = some (U a i)) : kZ (fX10_mixHouse st (nI a)) (fun z => kSame [] [2] [] [] st z ∧ gJ z 2 = dH n φ o h U a (gJ st 2)) := by
  unfold fX10_mixHouse
  refine m_house2 hU (fun _ s hs hj => ?_)
  refine m_house26 (hm.same hs (by decide)) ha (fun _ s2 hs2 hj2 => ?_)
  have hs3 := hs.trans hs2
  rw [m_walkOf (hm.same hs3 (by decide)) (by rw [hs3.2.2.1 3 (by decide)]; exact ho) (by rw [hs3.2.2.1 4 (by decide)]; exact hh) ha]
  refine kZ.ret ⟨(mix_same hs3).1, ?_⟩
  rw [(mix_same hs3).2, hj2, hj]
  rfl
theorem m_houses {K : Int32 → kS → Option (Int64 × kS)} {Q : Int64 × kS → Prop} (hm : mR n κ φ st) (ho : uO n o (gA st 3)) (hh : uO n h (gA st 4)) (hU : ∀ s, kSame [] [2] [] [] st s → ∀ a, a < n → ∀ i, i < 4 → fX10_houseNow s (nI a) (nI i) = some (U a i)) (hK : ∀ w s, kSame [] [2] [] [] st s → gJ s 2 = dG (dH n φ o h U) n (gJ st 2) → kZ (K w s) Q) : kZ (fX10_digest_L9 K kFU 0 st) Q := by
  have hn := hm.1
  have hn6 := hn.2
  refine kfor (σ := kS) (fun F i s => fX10_digest_L9 K F i s) (fun i s => kSame [] [2] [] [] st s ∧ gJ s 2 = dG (dH n φ o h U) i (gJ st 2)) n ?_ ?_ kFU 0 st (Nat.zero_le _) (kFU_lt0 (by omega)) ⟨kSame.rf, rfl⟩
  · rintro F s ⟨hs, hj⟩
    show kZ (fX10_digest_L9_B _ _ s (nI n)) _
    unfold fX10_digest_L9_B
    rw [(hm.same hs (by decide)).2.1]
    exact kZ.ifp (nI_le (Nat.le_refl n) hn.lt) (hK _ s hs hj)
  · rintro F i s hi ⟨hs, hj⟩ next
    show kZ (fX10_digest_L9_B _ _ s (nI i)) _
    unfold fX10_digest_L9_B
    have hq := hm.same hs (by decide)
    rw [hq.2.1, show nI i + 1 = nI (i + 1) from nI_1 i]
    refine kZ.ifn (nI_ge hi hn.lt) ?_
    refine (m_mixHouse (o := o) (h := h) (U := U) hq (by rw [hs.2.2.1 3 (by decide)]; exact ho) (by rw [hs.2.2.1 4 (by decide)]; exact hh) hi (fun s2 hs2 => hU s2 (hs.trans hs2) i hi)).bind (fun z hz => next z ⟨hs.trans hz.1, ?_⟩)
    rw [hz.2, hj]
    rfl
end DM
