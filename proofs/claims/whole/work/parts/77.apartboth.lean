/-! apart and choose, both -/
theorem pow_ok {n t : Nat} (hn : uHn n) (ht : t ≤ 8) : n ^ t < 2 ^ 21 ∧ 0 < n ^ t := by
  have h1 : n ^ t ≤ 6 ^ t := Nat.pow_le_pow_left hn.2 t
  have h2 : 6 ^ t ≤ 6 ^ 8 := Nat.pow_le_pow_right (by decide) ht
  have h3 : (6 : Nat) ^ 8 < 2 ^ 21 := by decide
  exact ⟨by omega, Nat.pow_pos (by have := hn.1; omega)⟩
theorem apart_both {k r n o h t y : Nat} {κ : Nat → Nat} {φ : Nat → Nat → Bool} {sx sm : kS} (A : rAll k r n κ φ o h sx sm) (ht : t ≤ 5) (hy : y ≤ 1) : ∃ v tx tm, fX9_apart sx (nI t) (nI y) = some (v, tx) ∧ fX10_apartOf sm (nI t) (nI y) = some (v, tm) ∧ rAll k r n κ φ o h tx tm := by
  have A0 := A
  obtain ⟨a1, a2, a3, a4, a5, a6, hx, hm, hφ, a7, h5, h6, h7, h8, h9, h10, h11, h12⟩ := A
  have hn := hx.1
  have hF := uF_le hn
  have hko := h6.1
  obtain ⟨hp1, hp2⟩ := pow_ok (t := t) hn (by omega)
  obtain ⟨z6, hz6, s6, x6, t6⟩ := x_learn hx hφ h5 ht
  have hx6 := hx.same s6 (by decide)
  have o6 : uO n o (gA z6 13) := by rw [s6.2.2.1 13 (by decide)]; exact h6
  obtain ⟨⟨b, z8⟩, hz8, e8, s8⟩ := x_rollsFor hx6 hφ hko ht t6
  dsimp only at e8 s8
  have k8 : kSame [12] [] [18, 19, 20] [] sx z8 := s6.trans (s8.sub (by decide) (by decide) (by decide) (by decide))
  have hx8 := hx.same k8 (by decide)
  have hS := aS_small (T := uT n κ φ) (S := xStep n κ) (k := o) hn ht
  obtain ⟨z1, hz1, s1, g16⟩ := m_layApart hm ht
  have hm1 := hm.same s1 (by decide)
  have o1 : uO n o (gA z1 3) := by rw [s1.2.2.1 3 (by decide)]; exact h7
  refine ⟨nI (uLw (aS n (uT n κ φ) (xStep n κ) t o) (n ^ t) (nI y)), z8, z1, ?_, ?_, A0.mayor (k8.sub (by decide) (by decide) (by decide) (by decide)) (s1.sub (by decide) (by decide) (by decide) (by decide)) (x6.same s8 (by decide))⟩
  · unfold fX9_apart
    rw [hx.stands, if_neg (show ¬ (1 : Int32) = 0 by decide), if_neg (nI_pos (n_lt31 (by omega))), if_neg (show ¬ 5 < nI t from nI_nlt (b := t) (a := 5) ht (by decide) |> fun q => q), if_neg (nI_pos (n_lt31 (by omega))), if_pos (show nI y ≤ 1 from nI_le (b := 1) hy (by decide)), hz6]
    simp only [Option.bind_some]
    unfold fX9_number
    rw [x_numberOf hn hx6.2.2.2.2.2.1 o6]
    simp only [Option.bind_some]
    rw [hz8]
    simp only [Option.bind_some]
    rw [x_rolls hx8.2.1 (by omega)]
    simp only [Option.bind_some]
    rw [e8, x_lowest (by omega) hp1 hp2]
    rfl
  · unfold fX10_apartOf
    rw [hz1]
    simp only [Option.bind_some]
    rw [hm1.index o1]
    simp only [Option.bind_some]
    rw [ka_n _ (by omega) (by decide), g16 o hko, aS_same hn t o hko h10]
    simp only [Option.bind_some]
    rw [m_whole hm1.2.1 (by omega)]
    simp only [Option.bind_some]
    rw [m_lowest (by omega) hp1 hp2]
    rfl
theorem sim_apart : kH_apart R := by
  intro k sx sm x y _ H
  unfold fX10_apart
  rcases R_stands H with ⟨e1, e2, _⟩ | ⟨r, n, κ, φ, o, h, A, e1, e2⟩
  · unfold fX9_apart
    rw [if_pos e1, if_pos e2]
    exact ⟨_, _, rfl, rfl, rfl, R_mono H (Nat.le_succ k)⟩
  · rw [if_neg e2]
    rcases rng x 5 (by decide) with ⟨t, ht, rfl, w1, w2, w3, ww⟩ | ⟨w1, ww, _⟩ | ⟨w1, w2, w3, ww, _⟩
    · rw [show fX10_within (nI t) 0 5 = 1 from ww, if_neg (show ¬ (1 : Int32) = 0 by decide)]
      rcases rng y 1 (by decide) with ⟨w, hw, rfl, v1, v2, v3, vw⟩ | ⟨v1, vw, _⟩ | ⟨v1, v2, v3, vw, _⟩
      · obtain ⟨v, tx, tm, g1, g2, B⟩ := apart_both A ht hw
        rw [show fX10_within (nI w) 0 1 = 1 from vw, if_neg (show ¬ (1 : Int32) = 0 by decide), g1, g2]
        exact ⟨_, _, rfl, rfl, rfl, B.R (Nat.le_succ k)⟩
      · unfold fX9_apart
        rw [show fX10_within y 0 1 = 0 from vw, if_pos (show (0 : Int32) = 0 from rfl), if_neg (show ¬ fX8_stands sx = 0 by rw [e1]; decide), if_neg w1, if_neg (show ¬ 5 < nI t from w3), if_pos v1]
        exact ⟨_, _, rfl, rfl, rfl, R_mono H (Nat.le_succ k)⟩
      · unfold fX9_apart
        rw [show fX10_within y 0 1 = 0 from vw, if_pos (show (0 : Int32) = 0 from rfl), if_neg (show ¬ fX8_stands sx = 0 by rw [e1]; decide), if_neg w1, if_neg (show ¬ 5 < nI t from w3), if_neg v1, if_neg (show ¬ y ≤ 1 from v2)]
        exact ⟨_, _, rfl, rfl, rfl, R_mono H (Nat.le_succ k)⟩
    · unfold fX9_apart
      rw [show fX10_within x 0 5 = 0 from ww, if_pos (show (0 : Int32) = 0 from rfl), if_neg (show ¬ fX8_stands sx = 0 by rw [e1]; decide), if_pos w1]
      exact ⟨_, _, rfl, rfl, rfl, R_mono H (Nat.le_succ k)⟩
    · unfold fX9_apart
      rw [show fX10_within x 0 5 = 0 from ww, if_pos (show (0 : Int32) = 0 from rfl), if_neg (show ¬ fX8_stands sx = 0 by rw [e1]; decide), if_neg w1, if_pos (show 5 < x from w3)]
      exact ⟨_, _, rfl, rfl, rfl, R_mono H (Nat.le_succ k)⟩
theorem sim_choose : kH_choose R := by
  intro k sx sm x y _ H
  unfold fX9_choose fX10_choose
  rcases R_has H x with ⟨e1, e2⟩ | ⟨r, n, κ, φ, o, h, j, A, hj, rfl, e1, e2⟩
  · rw [e1, e2]
    exact ⟨_, _, rfl, rfl, rfl, R_mono H (Nat.le_succ k)⟩
  · rw [e1, e2]
    simp only [Option.bind_some]
    rw [if_neg (show ¬ (1 : Int32) = 0 by decide), if_neg (show ¬ (1 : Int32) = 0 by decide)]
    have ww := within_n (v := y) (lo := 1) (hi := 5)
    rcases rng y 5 (by decide) with ⟨N, hN, rfl, w1, w2, w3, _⟩ | ⟨w1, _, _⟩ | ⟨w1, w2, w3, _, _⟩
    · by_cases c1 : N = 0
      · rw [ww, if_pos (show nI N < 1 by rw [c1]; decide), if_neg (show ¬ (1 ≤ nI N ∧ nI N ≤ 5) by rw [c1]; decide), if_pos (show (0 : Int32) = 0 from rfl)]
        exact ⟨_, _, rfl, rfl, rfl, R_mono H (Nat.le_succ k)⟩
      · obtain ⟨t, rfl⟩ : ∃ t, N = t + 1 := ⟨N - 1, by omega⟩
        obtain ⟨c, tx, tm, hc, f1, f2, B⟩ := choose_both A (t := t) hj (by omega)
        rw [ww, if_neg (show ¬ nI (t + 1) < 1 from nI_nlt (b := 1) (by omega) (n_lt31 (by omega))), if_pos (show nI (t + 1) ≤ 5 from w2), if_pos (show 1 ≤ nI (t + 1) ∧ nI (t + 1) ≤ 5 from ⟨nI_le (a := 1) (by omega) (n_lt31 (by omega)), w2⟩), if_neg (show ¬ (1 : Int32) = 0 by decide), number_x A]
        simp only [Option.bind_some]
        rw [f1, f2]
        exact ⟨_, _, rfl, rfl, rfl, B.R (Nat.le_succ k)⟩
    · have n0 : (0 : Int32).toInt = 0 := rfl
      have n1 : (1 : Int32).toInt = 1 := by decide
      rw [Int32.lt_iff_toInt_lt] at w1
      rw [ww, if_pos (show y < 1 by rw [Int32.lt_iff_toInt_lt]; omega), if_neg (show ¬ (1 ≤ y ∧ y ≤ 5) from fun q => by
        have := q.1
        rw [Int32.le_iff_toInt_le] at this
        omega), if_pos (show (0 : Int32) = 0 from rfl)]
      exact ⟨_, _, rfl, rfl, rfl, R_mono H (Nat.le_succ k)⟩
    · have n5 : (5 : Int32).toInt = 5 := by decide
      have n1 : (1 : Int32).toInt = 1 := by decide
      rw [ww, if_neg (show ¬ (1 ≤ y ∧ y ≤ 5) from fun q => w2 q.2), if_pos (show (0 : Int32) = 0 from rfl), if_neg (show ¬ y < 1 from fun q => by
        have w3' : (5 : Int32) < y := w3
        rw [Int32.lt_iff_toInt_lt] at q w3'
        omega), if_neg (show ¬ y ≤ 5 from w2)]
      exact ⟨_, _, rfl, rfl, rfl, R_mono H (Nat.le_succ k)⟩
