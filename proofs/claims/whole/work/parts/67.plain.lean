/-! the calls that only look -/
def rAll (k r n : Nat) (κ : Nat → Nat) (φ : Nat → Nat → Bool) (o h : Nat) (sx sm : kS) : Prop := rPage sx sm ∧ gI sx 7 = gI sm 2 ∧ rSeed sx sm ∧ r ≤ k ∧ gI sx 1 = nI r ∧ gI sm 1 = nI r ∧ rTown r n κ φ o h sx sm
theorem rAll.R {k k' r n o h : Nat} {κ : Nat → Nat} {φ : Nat → Nat → Bool} {sx sm : kS} (H : rAll k r n κ φ o h sx sm) (hk : k ≤ k') : R k' sx sm := by
  obtain ⟨h1, h2, h3, h4, h5, h6, h7⟩ := H
  exact ⟨h1, h2, h3, r, by omega, h5, h6, Or.inr ⟨n, κ, φ, o, h, h7⟩⟩
theorem R_has {k : Nat} {sx sm : kS} (H : R k sx sm) (x : Int32) : (fX8_has sx x = 0 ∧ fX10_isHouse sm x = some 0) ∨ ∃ r n κ φ o h j, rAll k r n κ φ o h sx sm ∧ j < n ∧ x = nI j ∧ fX8_has sx x = 1 ∧ fX10_isHouse sm x = some 1 := by
  obtain ⟨h1, h2, h3, r, hr, h4, h5, h6⟩ := H
  rcases h6 with h6 | ⟨n, κ, φ, o, h, h6⟩
  · rcases has_cases (n := 0) h6.1 h6.2.1 (by decide) x with ⟨j, hj, _⟩ | q
    · exact absurd hj (Nat.not_lt_zero j)
    · exact Or.inl q
  · rcases has_cases h6.1.2.1 h6.2.1.2.1 h6.1.1.2 x with ⟨j, hj, q⟩ | q
    · exact Or.inr ⟨r, n, κ, φ, o, h, j, ⟨h1, h2, h3, hr, h4, h5, h6⟩, hj, q⟩
    · exact Or.inl q
theorem R_stands {k : Nat} {sx sm : kS} (H : R k sx sm) : (fX8_stands sx = 0 ∧ gI sm 0 = 0 ∧ rBare sx sm) ∨ ∃ r n κ φ o h, rAll k r n κ φ o h sx sm ∧ fX8_stands sx = 1 ∧ ¬ gI sm 0 = 0 := by
  obtain ⟨h1, h2, h3, r, hr, h4, h5, h6⟩ := H
  rcases h6 with h6 | ⟨n, κ, φ, o, h, h6⟩
  · refine Or.inl ⟨?_, h6.2.1, h6⟩
    unfold fX8_stands
    rw [h6.1]
    rfl
  · refine Or.inr ⟨r, n, κ, φ, o, h, ⟨h1, h2, h3, hr, h4, h5, h6⟩, h6.1.stands, ?_⟩
    rw [h6.2.1.2.1]
    have := h6.1.1.1
    exact nI_ne0 (by omega) h6.1.1.lt
theorem rng (x : Int32) (N : Nat) (hN : N < 1000) : (∃ j, j ≤ N ∧ x = nI j ∧ ¬ x < 0 ∧ x ≤ nI N ∧ ¬ nI N < x ∧ fX10_within x 0 (nI N) = 1) ∨ (x < 0 ∧ fX10_within x 0 (nI N) = 0 ∧ ∀ j, j ≤ N → x ≠ nI j) ∨ (¬ x < 0 ∧ ¬ x ≤ nI N ∧ nI N < x ∧ fX10_within x 0 (nI N) = 0 ∧ ∀ j, j ≤ N → x ≠ nI j) := by
  have hN1 : (nI N).toInt = N := nI_toInt (n_lt31 (by omega))
  rcases pk_ix x (n := N + 1) (n_lt31 (by omega)) with h | h | ⟨j, hj, rfl⟩
  · refine Or.inr (Or.inl ⟨h, ?_, fun j hj e => ?_⟩)
    · rw [within_n, if_neg]
      intro q
      have q1 := q.1
      rw [Int32.le_iff_toInt_le] at q1
      rw [Int32.lt_iff_toInt_lt] at h
      omega
    · rw [e] at h
      exact nI_pos (n_lt31 (by omega)) h
  · have h2 := h
    rw [Int32.le_iff_toInt_le, nI_toInt (n_lt31 (by omega))] at h2
    refine Or.inr (Or.inr ⟨fun q => ?_, fun q => ?_, ?_, ?_, fun j hj e => ?_⟩)
    · rw [Int32.lt_iff_toInt_lt] at q
      have : (0 : Int32).toInt = 0 := rfl
      omega
    · rw [Int32.le_iff_toInt_le] at q
      omega
    · rw [Int32.lt_iff_toInt_lt]
      omega
    · rw [within_n, if_neg]
      intro q
      have q1 := q.2
      rw [Int32.le_iff_toInt_le] at q1
      omega
    · rw [e] at h2
      rw [nI_toInt (n_lt31 (by omega))] at h2
      omega
  · refine Or.inl ⟨j, by omega, rfl, nI_pos (n_lt31 (by omega)), nI_le (by omega) (n_lt31 (by omega)), nI_nlt (by omega) (n_lt31 (by omega)), ?_⟩
    rw [within_n, if_pos ⟨nI_pos' (n_lt31 (by omega)), nI_le (by omega) (n_lt31 (by omega))⟩]
theorem sim_blank : kH_blank R := by
  intro k sx sm _ H
  obtain ⟨m, c, p1, p2⟩ := H.1
  refine ⟨?_, ?_⟩
  · show gI sx 2 = gI sm 4
    rw [p1.2.1, p2.2.1]
  · exact R_page (tx := sI sx 2 0) (tm := sI sm 4 0) H (Nat.le_succ k) (kSame.rf.sI (by decide) _) (kSame.rf.sI (by decide) _) ⟨0, c, ⟨Nat.zero_le _, gI_e _ _ _, fun j hj => absurd hj (Nat.not_lt_zero j)⟩, ⟨Nat.zero_le _, gI_e _ _ _, fun j hj => absurd hj (Nat.not_lt_zero j)⟩⟩
theorem sim_fault : kH_fault R := by
  intro k sx sm x _ H
  obtain ⟨m, c, p1, p2⟩ := H.1
  unfold fX9_fault fX10_fault
  rcases rng x 1 (by decide) with ⟨j, hj, rfl, _, _, _, hw⟩ | ⟨_, hw, hne⟩ | ⟨_, _, _, hw, hne⟩
  · rw [show fX10_within (nI j) 0 1 = 1 from hw]
    rcases (show j = 0 ∨ j = 1 by omega) with rfl | rfl
    · obtain ⟨z, hz, Hh, P, hH, hP, rfl⟩ := x_firstNoRing p1
      obtain ⟨z2, hz2, P', hP', e8, _, hs, _⟩ := m_readRing p2 hH
      rw [if_pos (show nI 0 = 0 from rfl), if_neg (by decide), if_pos (show nI 0 = 0 from rfl), hz, hz2]
      refine ⟨_, _, rfl, rfl, ?_, R_fr H (Nat.le_succ k) kSame.rf (hs.sub (by decide) (by decide) (by decide) (by decide))⟩
      show nI P = gI z2 8
      rw [e8, hP.uniq hP']
    · obtain ⟨z, hz, P, hP, rfl⟩ := x_firstNoLetter p1
      obtain ⟨z2, hz2, P', hP', e8, _, hs, _⟩ := m_readLetter p2
      rw [if_neg (show ¬ nI 1 = 0 by decide), if_pos (show nI 1 = 1 from rfl), if_neg (by decide), if_neg (show ¬ nI 1 = 0 by decide), hz, hz2]
      refine ⟨_, _, rfl, rfl, ?_, R_fr H (Nat.le_succ k) kSame.rf (hs.sub (by decide) (by decide) (by decide) (by decide))⟩
      show nI P = gI z2 8
      rw [e8, hP.uniq hP']
  · rw [show fX10_within x 0 1 = 0 from hw, if_neg (show ¬ x = 0 from hne 0 (by decide)), if_neg (show ¬ x = 1 from hne 1 (by decide)), if_pos (show (0 : Int32) = 0 from rfl)]
    exact ⟨_, _, rfl, rfl, rfl, R_mono H (Nat.le_succ k)⟩
  · rw [show fX10_within x 0 1 = 0 from hw, if_neg (show ¬ x = 0 from hne 0 (by decide)), if_neg (show ¬ x = 1 from hne 1 (by decide)), if_pos (show (0 : Int32) = 0 from rfl)]
    exact ⟨_, _, rfl, rfl, rfl, R_mono H (Nat.le_succ k)⟩
theorem xR.houseIn {n k j : Nat} {κ : Nat → Nat} {φ : Nat → Nat → Bool} {st : kS} (h : xR n κ φ st) (ho : uO n k (gA st 13)) (hj : j < n) : fX3_houseIn_3 st (nI j) = nI (uD n k j) := by
  have := h.1.2
  unfold fX3_houseIn_3
  rw [kg_n _ (by omega) (by decide), ho.2 j hj]
theorem sim_as : kH_as R := by
  intro k sx sm x y _ H
  unfold fX9_as fX10_as
  rcases R_has H x with ⟨e1, e2⟩ | ⟨r, n, κ, φ, o, h, j, A, hj, rfl, e1, e2⟩
  · rw [e1, e2]
    exact ⟨_, rfl, rfl, R_mono H (Nat.le_succ k)⟩
  · rw [e1, e2]
    have hx := A.2.2.2.2.2.2.1
    have hm := A.2.2.2.2.2.2.2.1
    rcases rng y 3 (by decide) with ⟨i, hi, rfl, w1, w2, w3, hw⟩ | ⟨w1, hw, hne⟩ | ⟨w1, w2, w3, hw, hne⟩
    · simp only [Option.bind_some]
      rw [show fX10_within (nI i) 0 3 = 1 from hw, if_neg (by decide), if_neg (by decide), hm.kind hj, if_neg (by decide), if_neg w1, if_pos (show nI i ≤ 3 from w2), hx.is hj (by omega)]
      simp only [Option.bind_some]
      have dec : ∀ a, a < 4 → ∀ i, i < 4 → ∀ v : Int32, (if nI i = 0 then some v else if nI a = nI i then some v else if nI i = 1 then (if nI a = 3 then some v else some (-1)) else some (-1)) = some (if b01 (uIs a i) = 0 then -1 else v) := by
        intro a ha i hi v
        have a4 : a = 0 ∨ a = 1 ∨ a = 2 ∨ a = 3 := by omega
        have i4 : i = 0 ∨ i = 1 ∨ i = 2 ∨ i = 3 := by omega
        rcases a4 with rfl | rfl | rfl | rfl <;> rcases i4 with rfl | rfl | rfl | rfl <;> rfl
      exact ⟨_, dec _ (hx.2.2.1 j hj).1 i (by omega) _, rfl, R_mono H (Nat.le_succ k)⟩
    · simp only [Option.bind_some]
      rw [show fX10_within y 0 3 = 0 from hw, if_neg (by decide), if_pos rfl, if_neg (by decide), if_pos w1]
      exact ⟨_, rfl, rfl, R_mono H (Nat.le_succ k)⟩
    · simp only [Option.bind_some]
      rw [show fX10_within y 0 3 = 0 from hw, if_neg (by decide), if_pos rfl, if_neg (by decide), if_neg w1, if_neg (show ¬ y ≤ 3 from w2)]
      exact ⟨_, rfl, rfl, R_mono H (Nat.le_succ k)⟩
theorem sim_at : kH_at R := by
  intro k sx sm x _ H
  unfold fX9_at fX10_at
  rcases R_has H x with ⟨e1, e2⟩ | ⟨r, n, κ, φ, o, h, j, A, hj, rfl, e1, e2⟩
  · rw [e1, e2]
    exact ⟨_, rfl, rfl, R_mono H (Nat.le_succ k)⟩
  · rw [e1, e2]
    obtain ⟨hx, hm, _, _, _, h6, h7, _⟩ := A.2.2.2.2.2.2
    have := hx.1.2
    simp only [Option.bind_some]
    rw [if_neg (by decide), if_neg (by decide), ka_n _ (by omega) (by decide), h7.2 j hj, hx.houseIn h6 hj]
    exact ⟨_, rfl, rfl, R_mono H (Nat.le_succ k)⟩
theorem sim_feud : kH_feud R := by
  intro k sx sm x y _ H
  unfold fX9_feud fX10_feud
  rcases R_has H x with ⟨e1, e2⟩ | ⟨r, n, κ, φ, o, h, j, A, hj, rfl, e1, e2⟩
  · rw [e1, e2]
    exact ⟨_, rfl, rfl, R_mono H (Nat.le_succ k)⟩
  · rw [e1, e2]
    simp only [Option.bind_some]
    have hx := A.2.2.2.2.2.2.1
    have hm := A.2.2.2.2.2.2.2.1
    rcases has_cases hx.2.1 hm.2.1 hx.1.2 y with ⟨i, hi, rfl, f1, f2⟩ | ⟨f1, f2⟩
    · rw [f1, f2]
      simp only [Option.bind_some]
      rw [if_neg (by decide), if_neg (by decide), if_neg (by decide), if_neg (by decide), hm.feud hj hi, hx.hate hj hi]
      simp only [Option.bind_some]
      refine ⟨if b01 (φ j i) = 0 then 0 else 1, ?_, rfl, R_mono H (Nat.le_succ k)⟩
      cases φ j i <;> rfl
    · rw [f1, f2]
      exact ⟨_, rfl, rfl, R_mono H (Nat.le_succ k)⟩
theorem sim_touch : kH_touch R := by
  intro k sx sm _ H
  unfold fX9_touch fX10_touch
  rcases R_stands H with ⟨e1, e2, _⟩ | ⟨r, n, κ, φ, o, h, A, e1, e2⟩
  · rw [if_pos e1, if_pos e2]
    exact ⟨_, _, rfl, rfl, rfl, R_mono H (Nat.le_succ k)⟩
  · obtain ⟨hx, hm, hφ, _, _, h6, h7, _⟩ := A.2.2.2.2.2.2
    rw [if_neg (by rw [e1]; decide), if_neg e2, x_touching hx hφ h6, m_touchIn hm h7]
    exact ⟨_, _, rfl, rfl, rfl, R_mono H (Nat.le_succ k)⟩
theorem sim_joins : kH_joins R := by
  intro k sx sm _ H
  rcases R_stands H with ⟨e1, e2, _⟩ | ⟨r, n, κ, φ, o, h, A, e1, e2⟩
  · unfold fX9_joins fX10_joins
    rw [if_pos e1, if_pos e2]
    exact ⟨_, _, rfl, rfl, rfl, R_mono H (Nat.le_succ k)⟩
  · obtain ⟨hx, hm, hφ, _, _, h6, h7, h8, h9, _⟩ := A.2.2.2.2.2.2
    unfold fX10_joins
    rw [x_joins hx h6 h8, if_neg e2, m_joinsNow hm h7 h9]
    exact ⟨_, _, rfl, rfl, rfl, R_mono H (Nat.le_succ k)⟩
theorem way_dec : ∀ n, n < 7 → ∀ p, p < 7 → ∀ q, q < 7 → (kmin (kabs (nI p - nI q)) ((nI n) - (kabs (nI p - nI q)))) = if nI q ≤ nI p then (if (nI n - (nI p - nI q)) ≤ (nI p - nI q) then (nI n - (nI p - nI q)) else (nI p - nI q)) else (if (nI n - (nI q - nI p)) ≤ (nI q - nI p) then (nI n - (nI q - nI p)) else (nI q - nI p)) := by decide +kernel
theorem way_eq {n p q : Nat} {sx sm : kS} (hx : gI sx 3 = nI n) (hm : gI sm 0 = nI n) (hn : n < 7) (hp : p < 7) (hq : q < 7) : fX8_way sx (nI p) (nI q) = fX10_round sm (nI p) (nI q) := by
  unfold fX8_way fX10_round fX10_round_J14
  rw [hx, hm]
  exact way_dec n hn p hp q hq
def uWy (n p q : Nat) : Int32 := kmin (kabs (nI p - nI q)) ((nI n) - (kabs (nI p - nI q)))
def uWlk (n o h j : Nat) : Int32 := uWy n 0 (uI n h j) + uWy n (uI n h j) (uI n o j)
theorem x_walk {n o h j : Nat} {κ : Nat → Nat} {φ : Nat → Nat → Bool} {sx : kS} (hx : xR n κ φ sx) (h6 : uO n o (gA sx 13)) (h8 : uO n h (gA sx 14)) (hj : j < n) : fX9_walk sx (nI j) = some (uWlk n o h j) := by
  unfold fX9_walk
  rw [hx.has hj, if_neg (by decide), hx.ahead h8 hj, hx.place h6 hj]
  simp only [Option.bind_some]
  unfold fX8_way
  rw [hx.2.1]
  rfl
theorem m_walkOf {n o h j : Nat} {κ : Nat → Nat} {φ : Nat → Nat → Bool} {sm : kS} (hm : mR n κ φ sm) (h7 : uO n o (gA sm 3)) (h9 : uO n h (gA sm 4)) (hj : j < n) : fX10_walkOf sm (nI j) = some (uWlk n o h j) := by
  have hn := hm.1
  have hn6 := hn.2
  unfold fX10_walkOf
  rw [m_placeIn sm hn h9 hj, m_placeIn sm hn h7 hj]
  simp only [Option.bind_some]
  have a1 := uI_lt hn h9.1 hj
  have a2 := uI_lt hn h7.1 hj
  have e1 : uWy n 0 (uI n h j) = fX10_round sm 0 (nI (uI n h j)) := by
    unfold uWy fX10_round fX10_round_J14
    rw [hm.2.1]
    exact way_dec n (by omega) 0 (by decide) _ (by omega)
  have e2 : uWy n (uI n h j) (uI n o j) = fX10_round sm (nI (uI n h j)) (nI (uI n o j)) := by
    unfold uWy fX10_round fX10_round_J14
    rw [hm.2.1]
    exact way_dec n (by omega) _ (by omega) _ (by omega)
  unfold uWlk
  rw [e1, e2]
theorem sim_walk : kH_walk R := by
  intro k sx sm x _ H
  rcases R_has H x with ⟨e1, e2⟩ | ⟨r, n, κ, φ, o, h, j, A, hj, rfl, e1, e2⟩
  · unfold fX9_walk fX10_walk
    rw [e1, e2]
    exact ⟨_, _, rfl, rfl, rfl, R_mono H (Nat.le_succ k)⟩
  · obtain ⟨hx, hm, hφ, _, _, h6, h7, h8, h9, _⟩ := A.2.2.2.2.2.2
    unfold fX10_walk
    rw [x_walk hx h6 h8 hj, e2, m_walkOf hm h7 h9 hj]
    exact ⟨_, _, rfl, rfl, rfl, R_mono H (Nat.le_succ k)⟩
theorem sim_seed : kH_seed R := by
  intro k sx sm x _ H
  unfold fX9_seed fX10_seed
  obtain ⟨h1, h2, h3, r, hr, h4, h5, h6⟩ := H
  by_cases c : 0 ≤ x
  · rw [if_pos c, if_pos c]
    refine ⟨?_, ?_⟩
    · show gI sx 6 = (gJ sm 0).toInt32
      rw [h3.2, Int32.toInt32_toInt64]
    · have kx : kSame [6] [] [] [] sx (sI sx 6 x) := kSame.rf.sI (by decide) _
      have km : kSame [] [0] [] [] sm (sJ sm 0 x.toInt64) := kSame.rf.sJ (by decide) _
      refine ⟨h1.fr kx km (by decide) (by decide), ?_, ⟨?_, ?_⟩, r, by omega, (kx.1 1 (by decide)).trans h4, (km.1 1 (by decide)).trans h5, ?_⟩
      · rw [kx.1 7 (by decide), km.1 2 (by decide)]; exact h2
      · rw [gI_e]; exact c
      · rw [gI_e, gJ_e]
      · rcases h6 with h6 | ⟨n, κ, φ, o, h, h1, h2, h3, h4, h5, h6, h7, h8, h9, h10, h11, h12⟩
        · exact Or.inl (h6.fr kx km (by decide) (by decide))
        · exact Or.inr ⟨n, κ, φ, o, h, h1.same kx (by decide), h2.same km (by decide), h3, (kx.1 4 (by decide)).trans h4, h5.same kx (by decide), by rw [kx.2.2.1 13 (by decide)]; exact h6, by rw [km.2.2.1 3 (by decide)]; exact h7, by rw [kx.2.2.1 14 (by decide)]; exact h8, by rw [km.2.2.1 4 (by decide)]; exact h9, h10, h11.fr kx km (by decide) (by decide), h12.fr kx km (by decide) (by decide)⟩
  · rw [if_neg c, if_neg c]
    exact ⟨rfl, ⟨h1, h2, h3, r, by omega, h4, h5, h6⟩⟩
