/-! surely: both -/
theorem sim_surely : kH_surely R := by
  intro k sx sm _ H
  rcases R_stands H with ⟨e1, e2, b⟩ | ⟨r, n, κ, φ, o, h, A, e1, e2⟩
  · unfold fX9_surely fX10_surely
    rw [if_pos b.2.2.2.2.2.2.1, if_pos b.2.2.2.2.2.2.2]
    exact ⟨_, _, rfl, rfl, rfl, R_mono H (Nat.le_succ k)⟩
  · have hT := A.2.2.2.2.2.2
    rcases hT.2.2.2.2.2.2.2.2.2.2.1 with ⟨g1, g2⟩ | ⟨g1, g2, _⟩
    · unfold fX9_surely fX10_surely
      rw [if_pos g1, if_pos g2]
      exact ⟨_, _, rfl, rfl, rfl, R_mono H (Nat.le_succ k)⟩
    · obtain ⟨v, tx, a, f1, f2, f3, f4, f5, B⟩ := x_surely A g1
      obtain ⟨⟨v2, tm⟩, m1, m2, m3⟩ := m_surelyNow hT.2.1 hT.2.2.2.2.2.2.1 hT.2.2.2.2.2.2.2.2.2.1 f2
      dsimp only at m2 m3
      unfold fX10_surely
      rw [f1, if_neg (show ¬ gI sm 3 = 0 by rw [g2]; decide), m1]
      refine ⟨_, _, rfl, rfl, f5.uniq m2, ?_⟩
      exact (B.mayor kSame.rf (m3.sub (by decide) (by decide) (by decide) (by decide)) B.2.2.2.2.2.2.2.2.2.2.1).R (Nat.le_succ k)
