/-! THE CLASS'S CALLS, as the law makes them: the state between calls, and what each call answers -/
theorem kJ_same {I J A L : List Nat} {st z : kS} (h : kSame I J A L st z) : kSame I J A L st (kJ st z) := by
  refine ⟨fun k hk => h.1 k hk, fun k hk => h.2.1 k hk, fun k hk => ?_, fun k hk => h.2.2.2 k hk⟩
  unfold kJ
  by_cases e : k = 32
  · rw [e, gA_e]
  · rw [gA_n e]
    by_cases e2 : k = 31
    · rw [e2, gA_e]
    · rw [gA_n e2]
      exact h.2.2.1 k hk
theorem kJ_z (st z : kS) : kSame [] [] [31, 32] [] z (kJ st z) := (kSame.rf.sA (by decide) _).sA (by decide) _
def lS (n : Nat) (κ : Nat → Nat) (φ : Nat → Nat → Bool) (o h t : Nat) (st : kS) : Prop := xR n κ φ st ∧ (∀ a b, φ a b = φ b a) ∧ lK n κ st ∧ lF n φ st ∧ xA n κ φ st ∧ uO n o (gA st 13) ∧ uO n h (gA st 14) ∧ uCompat n κ o ∧ uCompat n κ h ∧ gI st 7 = nI t ∧ gI st 13 = 0 ∧ gI st 4 = nI (uPn n φ)
section CA
variable {n o h t : Nat} {κ : Nat → Nat} {φ : Nat → Nat → Bool} {st : kS}
theorem lS.fr {z : kS} (H : lS n κ φ o h t st) (hx : kSame [12] [] [18, 19, 20, 27, 28, 29, 30] [25, 26] st z) (hA : xA n κ φ z) : lS n κ φ o h t (kJ st z) := by
  obtain ⟨h1, h2, h3, h4, h5, h6, h7, h8, h9, h10, h11, h12⟩ := H
  have k := kJ_same hx
  refine ⟨h1.same k (by decide), h2, fun i hi => ?_, fun i j hi hj => ?_, hA.same (kJ_z st z) (by decide), ?_, ?_, h8, h9, (k.1 7 (by decide)).trans h10, (k.1 13 (by decide)).trans h11, (k.1 4 (by decide)).trans h12⟩
  · rw [k.2.2.1 31 (by decide)]; exact h3 i hi
  · rw [k.2.2.1 32 (by decide)]; exact h4 i j hi hj
  · rw [k.2.2.1 13 (by decide)]; exact h6
  · rw [k.2.2.1 14 (by decide)]; exact h7
theorem lS.frx {z : kS} (H : lS n κ φ o h t st) (hx : kSame [] [] [18, 20, 27, 28, 29, 30] [25, 26] st z) : lS n κ φ o h t (kJ st z) := H.fr (hx.sub (by decide) (by decide) (by decide) (by decide)) (H.2.2.2.2.1.same hx (by decide))
theorem lS.id (H : lS n κ φ o h t st) : lS n κ φ o h t (kJ st st) := H.frx kSame.rf
theorem c_number (H : lS n κ φ o h t st) : fX9_number st = some (nI o) := by
  unfold fX9_number
  rw [x_numberOf H.1.1 H.1.2.2.2.2.2.1 H.2.2.2.2.2.1]
  rfl
theorem c_apart {T y : Nat} (H : lS n κ φ o h t st) (ht : T ≤ 5) (hy : y ≤ 1) : kZ (fX9_apart st (nI T) (nI y)) (fun z => z.1 = nI (uLw (aS n (uT n κ φ) (xStep n κ) T o) (n ^ T) (nI y)) ∧ lS n κ φ o h t (kJ st z.2)) := by
  have H0 := H
  obtain ⟨hx, hφ, h3, h4, h5, h6, h7, h8, h9, h10, h11, h12⟩ := H
  have hn := hx.1
  have hF := uF_le hn
  have hko := h6.1
  obtain ⟨hp1, hp2⟩ := pow_ok (t := T) hn (by omega)
  obtain ⟨z6, hz6, s6, x6, t6⟩ := x_learn hx hφ h5 ht
  have hx6 := hx.same s6 (by decide)
  have o6 : uO n o (gA z6 13) := by rw [s6.2.2.1 13 (by decide)]; exact h6
  obtain ⟨⟨b, z8⟩, hz8, e8, s8⟩ := x_rollsFor hx6 hφ hko ht t6
  dsimp only at e8 s8
  have k8 : kSame [12] [] [18, 19, 20] [] st z8 := s6.trans (s8.sub (by decide) (by decide) (by decide) (by decide))
  have hx8 := hx.same k8 (by decide)
  have hS := aS_small (T := uT n κ φ) (S := xStep n κ) (k := o) hn ht
  refine ⟨(nI (uLw (aS n (uT n κ φ) (xStep n κ) T o) (n ^ T) (nI y)), z8), ?_, rfl, H0.fr (k8.sub (by decide) (by decide) (by decide) (by decide)) (x6.same s8 (by decide))⟩
  unfold fX9_apart
  rw [hx.stands, if_neg (show ¬ (1 : Int32) = 0 by decide), if_neg (nI_pos (n_lt31 (by omega))), if_neg (show ¬ 5 < nI T from nI_nlt (b := T) (a := 5) ht (by decide) |> fun q => q), if_neg (nI_pos (n_lt31 (by omega))), if_pos (show nI y ≤ 1 from nI_le (b := 1) hy (by decide)), hz6]
  simp only [Option.bind_some]
  unfold fX9_number
  rw [x_numberOf hn hx6.2.2.2.2.2.1 o6]
  simp only [Option.bind_some]
  rw [hz8]
  simp only [Option.bind_some]
  rw [x_rolls hx8.2.1 (by omega)]
  simp only [Option.bind_some]
  rw [e8, x_lowest (by omega) hp1 hp2]
  rfl
theorem c_odds {j w T y : Nat} (H : lS n κ φ o h t st) (hj : j < n) (hw : w < n) (ht : T ≤ 8) (hy : y ≤ 1) : kZ (fX9_odds st (nI j) (nI w) (nI T) (nI y)) (fun z => z.1 = nI (uLw (eP n κ (uI n o j) T w) (n ^ T) (nI y)) ∧ lS n κ φ o h t (kJ st z.2)) := by
  have H0 := H
  obtain ⟨hx, hφ, h3, h4, h5, h6, h7, h8, h9, h10, h11, h12⟩ := H
  have hn := hx.1
  have hp := uI_lt hn h6.1 hj
  obtain ⟨⟨b1, tx⟩, hz1, g1, kx⟩ := x_oddsRolls (t := T) hx hp hw ht
  dsimp only at g1 kx
  obtain ⟨hp1, hp2⟩ := pow_ok (t := T) hn ht
  have hle := eP_le (κ := κ) (p := uI n o j) hn T w
  refine ⟨(nI (uLw (eP n κ (uI n o j) T w) (n ^ T) (nI y)), tx), ?_, rfl, H0.frx (kx.sub (by decide) (by decide) (by decide) (by decide))⟩
  unfold fX9_odds
  rw [hx.has hj, hx.has hw, if_neg (show ¬ (1 : Int32) = 0 by decide), if_neg (show ¬ (1 : Int32) = 0 by decide), if_neg (nI_pos (n_lt31 (by omega))), if_neg (show ¬ 8 < nI T from nI_nlt (b := T) (a := 8) ht (by decide)), if_neg (nI_pos (n_lt31 (by omega))), if_pos (show nI y ≤ 1 from nI_le (b := 1) hy (by decide)), hx.place h6 hj]
  simp only [Option.bind_some]
  rw [hz1]
  simp only [Option.bind_some]
  rw [x_rolls (hx.same kx (by decide)).2.1 (by omega)]
  simp only [Option.bind_some]
  rw [g1, x_lowest (by omega) hp1 hp2]
  rfl
theorem c_goBy {N : Nat} (H : lS n κ φ o h t st) (hN : N ≤ 12) : ∃ tx, fX6_goBy st (nI N) = some tx ∧ xY n κ N tx ∧ lS n κ φ o h t (kJ st tx) ∧ fX9_number tx = some (nI o) := by
  have hx := H.1
  obtain ⟨tx, e1, s1, y1⟩ := x_goBy hx hN
  refine ⟨tx, e1, y1, H.frx (s1.sub (by decide) (by decide) (by decide) (by decide)), ?_⟩
  unfold fX9_number
  rw [x_numberOf hx.1 ((hx.same s1 (by decide)).2.2.2.2.2.1) (show uO n o (gA tx 13) by rw [s1.2.2.1 13 (by decide)]; exact H.2.2.2.2.2.1)]
  rfl
theorem c_ways {N : Nat} (H : lS n κ φ o h t st) (hN : N ≤ 12) : kZ (fX9_ways st (nI N)) (fun z => z.1 = lN (yW n κ 9 N o) ∧ lS n κ φ o h t (kJ st z.2)) := by
  obtain ⟨tx, e1, y1, B, e2⟩ := c_goBy H hN
  have hx := H.1
  have hn := hx.1
  have hF := uF_le hn
  have hko := H.2.2.2.2.2.1.1
  refine ⟨(lN (yW n κ 9 N o), tx), ?_, rfl, B⟩
  unfold fX9_ways
  rw [hx.stands, if_neg (show ¬ (1 : Int32) = 0 by decide), if_neg (nI_pos (n_lt31 (by omega))), if_pos (show nI N ≤ 12 from nI_le (b := 12) hN (by decide)), e1]
  simp only [Option.bind_some]
  rw [e2]
  simp only [Option.bind_some]
  unfold fX6_rowsTo
  rw [kgl_n _ (show o < 720 by omega) (by decide), (y1 o hko).1]
theorem c_must {N : Nat} (H : lS n κ φ o h t st) (hN : N ≤ 12) : kZ (fX9_must st (nI N)) (fun z => uMu n κ N o z.1 ∧ lS n κ φ o h t (kJ st z.2)) := by
  obtain ⟨tx, e1, y1, B, e2⟩ := c_goBy H hN
  have hx := H.1
  have hn := hx.1
  have hF := uF_le hn
  have hko := H.2.2.2.2.2.1.1
  refine ⟨(fX6_sharedTo tx (nI o), tx), ?_, ?_, B⟩
  · unfold fX9_must
    rw [hx.stands, if_neg (show ¬ (1 : Int32) = 0 by decide), if_neg (nI_pos (n_lt31 (by omega))), if_pos (show nI N ≤ 12 from nI_le (b := 12) hN (by decide)), e1]
    simp only [Option.bind_some]
    rw [e2]
    rfl
  · show uMu n κ N o (fX6_sharedTo tx (nI o))
    unfold fX6_sharedTo fX6_rowsTo
    rw [kgl_n _ (show o < 720 by omega) (by decide), (y1 o hko).1, kg_n _ (show o < 720 by omega) (by decide)]
    have hl := (lN_0 (yW_63 (κ := κ) (w := 9) (k := o) hn hN)).2
    by_cases e : yW n κ 9 N o = 0
    · rw [if_pos (hl.mpr e)]
      exact Or.inl ⟨e, rfl⟩
    · rw [if_neg (fun q => e (hl.mp q))]
      exact Or.inr ⟨by omega, (y1 o hko).2 (by omega)⟩
theorem c_night {d c : Nat} (H : lS n κ φ o h t st) (hd : d < n) (hc : c < 3) : kZ (fX9_night st (nI d) (nI c - 1)) (fun z => z.1 = b01 (!(uBar n κ (aP n d c))) ∧ lS n κ φ (xStep n κ o (aP n d c)) o (t + 1) (kJ st z.2)) := by
  obtain ⟨hx, hφ, h3, h4, h5, h6, h7, h8, h9, h10, h11, h12⟩ := H
  have hn := hx.1
  have hp := aP_lt (d := d) (c := c) hn
  obtain ⟨⟨b1, tx⟩, hz1, e1, kx, x1, x2, x3⟩ := x_midnight hx h6 hp
  dsimp only at e1 kx x1 x2 x3
  have k := kJ_same kx
  have j13 : gA (kJ st tx) 13 = gA tx 13 := (kJ_z st tx).2.2.1 13 (by decide)
  have j14 : gA (kJ st tx) 14 = gA tx 14 := (kJ_z st tx).2.2.1 14 (by decide)
  have fin : lS n κ φ (xStep n κ o (aP n d c)) o (t + 1) (kJ st tx) := by
    refine ⟨hx.same k (by decide), hφ, fun i hi => ?_, fun i j hi hj => ?_, h5.same k (by decide), by rw [j13]; exact x1, by rw [j14]; exact x2, xStep_compat hn h6.1 h8 hp, h8, ?_, (k.1 13 (by decide)).trans h11, (k.1 4 (by decide)).trans h12⟩
    · rw [k.2.2.1 31 (by decide)]; exact h3 i hi
    · rw [k.2.2.1 32 (by decide)]; exact h4 i j hi hj
    · show gI tx 7 = _
      rw [x3, h10, nI_1]
  have r1 : ¬ nI c - 1 < -1 := by
    rcases (show c = 0 ∨ c = 1 ∨ c = 2 by omega) with rfl | rfl | rfl <;> decide
  have r2 : nI c - 1 ≤ 1 := by
    rcases (show c = 0 ∨ c = 1 ∨ c = 2 by omega) with rfl | rfl | rfl <;> decide
  unfold fX9_night
  rw [hx.has hd, if_neg (show ¬ (1 : Int32) = 0 by decide), if_neg r1, if_pos r2, hx.around hd hc, hz1]
  simp only [Option.bind_some]
  rw [e1]
  cases uBar n κ (aP n d c) with
  | true => exact ⟨_, rfl, rfl, fin⟩
  | false => exact ⟨_, rfl, rfl, fin⟩
theorem c_touch (H : lS n κ φ o h t st) : fX9_touch st = some (nI (uT n κ φ o)) := by
  unfold fX9_touch
  rw [H.1.stands, if_neg (by decide), x_touching H.1 H.2.1 H.2.2.2.2.2.1]
  rfl
theorem c_joins (H : lS n κ φ o h t st) : fX9_joins st = some (nI (uJs n o h)) := x_joins H.1 H.2.2.2.2.2.1 H.2.2.2.2.2.2.1
theorem c_walk {j : Nat} (H : lS n κ φ o h t st) (hj : j < n) : fX9_walk st (nI j) = some (uWlk n o h j) := x_walk H.1 H.2.2.2.2.2.1 H.2.2.2.2.2.2.1 hj
theorem c_at {j : Nat} (H : lS n κ φ o h t st) (hj : j < n) : fX9_at st (nI j) = nI (uD n o j) := by
  unfold fX9_at
  rw [H.1.has hj, if_neg (by decide), H.1.houseIn H.2.2.2.2.2.1 hj]
theorem c_feud {i j : Nat} (H : lS n κ φ o h t st) (hi : i < n) (hj : j < n) : fX9_feud st (nI i) (nI j) = b01 (φ i j) := by
  unfold fX9_feud
  rw [H.1.has hi, H.1.has hj, if_neg (by decide), if_neg (by decide), H.1.hate hi hj]
  cases φ i j <;> rfl
theorem c_as {i k : Nat} (H : lS n κ φ o h t st) (hi : i < n) (hk : k < 4) : fX9_as st (nI i) (nI k) = if uIs (κ i) k then nI i else -1 := by
  unfold fX9_as
  rw [H.1.has hi, if_neg (by decide), if_neg (nI_pos (n_lt31 (by omega))), if_pos (show nI k ≤ 3 from nI_le (b := 3) (by omega) (by decide)), H.1.is hi hk]
  cases uIs (κ i) k <;> rfl
theorem c_house0 {j : Nat} (H : lS n κ φ o h t st) (hj : j < n) : fX9_house st (nI j) 0 = some (nI (κ j)) := by
  unfold fX9_house
  rw [H.1.has hj, if_neg (by decide), if_pos rfl]
  exact congrArg some (H.1.kindg hj)
theorem c_house1 {j : Nat} (H : lS n κ φ o h t st) (hj : j < n) : fX9_house st (nI j) 1 = some (nI (uI n o j)) := by
  unfold fX9_house
  rw [H.1.has hj, if_neg (by decide), if_neg (by decide), if_pos rfl, H.1.place H.2.2.2.2.2.1 hj]
  rfl
theorem c_house2 {j : Nat} (H : lS n κ φ o h t st) (hj : j < n) : fX9_house st (nI j) 2 = some (nI (uI n h j)) := by
  unfold fX9_house
  rw [H.1.has hj, if_neg (by decide), if_neg (by decide), if_neg (by decide), if_pos rfl, H.1.ahead H.2.2.2.2.2.2.1 hj]
  rfl
theorem c_house3 {j : Nat} (H : lS n κ φ o h t st) (hj : j < n) : fX9_house st (nI j) 3 = some (-1) := by
  unfold fX9_house fX1_placeOf
  rw [H.1.has hj, if_neg (by decide), if_neg (by decide), if_neg (by decide), if_neg (by decide), if_pos rfl, H.2.2.2.2.2.2.2.2.2.2.1]
  rfl
theorem c_count1 (H : lS n κ φ o h t st) : fX9_count st 1 = nI (uPn n φ) := H.2.2.2.2.2.2.2.2.2.2.2
theorem c_count2 (H : lS n κ φ o h t st) : fX9_count st 2 = nI t := H.2.2.2.2.2.2.2.2.2.1
/-! refused calls -/
theorem x_hasN (H : lS n κ φ o h t st) : fX8_has st (nI n) = 0 := by
  unfold fX8_has
  rw [H.1.2.1, if_neg (nI_pos H.1.1.lt), if_pos (nI_le (Nat.le_refl n) H.1.1.lt)]
theorem x_hasM (st : kS) : fX8_has st (-1) = 0 := by
  unfold fX8_has
  rw [if_pos (by decide)]
theorem x_has0 (H : lS n κ φ o h t st) : fX8_has st 0 = 1 := H.1.has (j := 0) (by have := H.1.1.1; omega)
end CA
