/-! fewest: the class's answer -/
theorem x_fewest {k r n o h : Nat} {κ : Nat → Nat} {φ : Nat → Nat → Bool} {sx sm : kS} (A : rAll k r n κ φ o h sx sm) (h13 : gI sx 13 = 1) : ∃ v tx a, fX9_fewest sx = some (v, tx) ∧ uO n a (gA sm 5) ∧ gI sm 3 = 1 ∧ gI tx 13 = 1 ∧ lstIs (fun t => uWk n κ a t o) v ∧ rAll k r n κ φ o h tx sm := by
  have A0 := A
  obtain ⟨a1, a2, a3, a4, a5, a6, hx, hm, hφ, a7, h5, h6, h7, h8, h9, h10, h11, h12⟩ := A
  have hn := hx.1
  have hF := uF_le hn
  have hko := h6.1
  rcases h11 with ⟨g1, _⟩ | ⟨g1, g2, a, g3, g4, g5, g6⟩
  · rw [g1] at h13
    exact absurd h13 (by decide)
  have num := number_x A0
  rcases g5 with g5 | ⟨g5, g7⟩
  · obtain ⟨z, hz, s1, g22⟩ := x_countFew hx g3
    have kx : kSame [14] [] [22, 24] [] sx (sI z 14 1) := (s1.sub (by decide) (by decide) (by decide) (by decide)).sI (by decide) _
    have km : kSame [] [] [] [] sm sm := kSame.rf
    have e22 : gA (sI z 14 1) 22 = gA z 22 := rfl
    refine ⟨gA z 22 o, sI z 14 1, a, ?_, g4, g2, (kx.1 13 (by decide)).trans g1, g22 o hko, a1.fr kx km (by decide) (by decide), (kx.1 7 (by decide)).trans a2, a3.fr kx km (by decide) (by decide), a4, (kx.1 1 (by decide)).trans a5, a6, hx.same kx (by decide), hm, hφ, (kx.1 4 (by decide)).trans a7, h5.same kx (by decide), by rw [kx.2.2.1 13 (by decide)]; exact h6, h7, by rw [kx.2.2.1 14 (by decide)]; exact h8, h9, h10, Or.inr ⟨(kx.1 13 (by decide)).trans g1, g2, a, by rw [kx.2.2.1 21 (by decide)]; exact g3, g4, Or.inr ⟨gI_e _ _ _, fun i hi => g22 i hi⟩, ?_⟩, h12.fr kx km (by decide) (by decide)⟩
    · unfold fX9_fewest
      rw [if_neg (show ¬ gI sx 13 = 0 by rw [g1]; decide), num]
      simp only [Option.bind_some]
      unfold fX1_fewestFrom fX1_fewestFrom_J16
      rw [if_pos g5, hz]
      simp only [Option.bind_some]
      rw [kg_n _ (by omega) (by decide)]
      rfl
    · rw [kx.1 15 (by decide), kx.2.2.1 23 (by decide)]
      exact g6
  · refine ⟨gA sx 22 o, sx, a, ?_, g4, g2, g1, g7 o hko, A0⟩
    unfold fX9_fewest
    rw [if_neg (show ¬ gI sx 13 = 0 by rw [g1]; decide), num]
    simp only [Option.bind_some]
    unfold fX1_fewestFrom fX1_fewestFrom_J16
    rw [if_neg (show ¬ gI sx 14 = 0 by rw [g5]; decide), kg_n _ (by omega) (by decide)]
    rfl
