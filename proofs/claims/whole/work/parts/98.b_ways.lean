/-! ways and must: both -/
def uMu (n : Nat) (κ : Nat → Nat) (N o : Nat) (v : Int32) : Prop := (yW n κ 9 N o = 0 ∧ v = 0) ∨ (0 < yW n κ 9 N o ∧ uMk n (fun q => decide (yW n κ q N o = 0)) v)
theorem uMu.uniq {n N o : Nat} {κ : Nat → Nat} {v v' : Int32} (h : uMu n κ N o v) (h' : uMu n κ N o v') : v = v' := by
  rcases h with ⟨h1, rfl⟩ | ⟨h1, h2⟩
  · rcases h' with ⟨g1, rfl⟩ | ⟨g1, g2⟩
    · rfl
    · omega
  · rcases h' with ⟨g1, rfl⟩ | ⟨g1, g2⟩
    · omega
    · exact h2.uniq g2
section WB
variable {n : Nat} {κ : Nat → Nat} {φ : Nat → Nat → Bool}
theorem no9 (hn : uHn n) : ∀ p, p < n → (nI p = -1 ↔ p = 9) := fun p hp => by
  have := hn.2
  exact ⟨fun e => absurd e (nI_m1 (n_lt31 (by omega))), fun e => by omega⟩
theorem noP (hn : uHn n) {q : Nat} (hq : q < n) : ∀ p, p < n → (nI p = nI q ↔ p = q) := fun p hp => by
  have := hn.2
  exact nI_eq (n_lt31 (by omega)) (n_lt31 (by omega))
theorem m_mustOf {st : kS} {o N : Nat} (h : mR n κ φ st) (ho : uO n o (gA st 3)) (hN : N ≤ 12) : kZ (fX10_mustOf st (nI N)) (fun z => uMu n κ N o z.1 ∧ kSame [] [] [] [22, 23] st z.2) := by
  have hn := h.1
  have hn6 := hn.2
  unfold fX10_mustOf
  refine (m_waysOf (w := 9) h ho hN (no9 hn)).bind (fun z hz => ?_)
  obtain ⟨z1, z2⟩ := z
  obtain ⟨rfl, hs⟩ := hz
  dsimp only at hs
  have hl := (lN_0 (yW_63 (κ := κ) (w := 9) (k := o) hn hN)).2
  refine kZ.ite (fun e => ?_) (fun e => ?_)
  · obtain ⟨F, hFU⟩ : ∃ F, kFU = F + 1 := ⟨59999, rfl⟩
    rw [hFU]
    show kZ (fX10_mustOf_L22_B _ _ z2 (nI N) 0 0 (nI 0)) _
    unfold fX10_mustOf_L22_B
    rw [(h.same hs (by decide)).2.1]
    exact kZ.ifn (nI_ge (show 0 < n by have := hn.1; omega) hn.lt) (kZ.ifp rfl (kZ.ret ⟨Or.inl ⟨hl.mp e, rfl⟩, hs⟩))
  · have h0 : 0 < yW n κ 9 N o := by
      rcases Nat.eq_zero_or_pos (yW n κ 9 N o) with q | q
      · exact absurd (hl.mpr q) e
      · exact q
    refine kfor (σ := Int32 × kS) (fun F p s => fX10_mustOf_L22 (fun v2_10 _ st_12 => some (v2_10, st_12)) (nI N) 1 F s.1 p s.2) (fun p s => uMk p (fun q => decide (yW n κ q N o = 0)) s.1 ∧ kSame [] [] [] [22, 23] st s.2) n ?_ ?_ kFU 0 (0, z2) (Nat.zero_le _) (kFU_lt0 (by omega)) ⟨uMk.zero _, hs⟩
    · rintro F ⟨v, s⟩ ⟨hv, hs2⟩
      dsimp only at hv hs2
      show kZ (fX10_mustOf_L22_B _ _ s (nI N) v 1 (nI n)) _
      unfold fX10_mustOf_L22_B
      rw [(h.same hs2 (by decide)).2.1]
      exact kZ.ifp (nI_le (Nat.le_refl n) hn.lt) (kZ.ret ⟨Or.inr ⟨h0, hv⟩, hs2⟩)
    · rintro F p ⟨v, s⟩ hp ⟨hv, hs2⟩ next
      dsimp only at hv hs2
      show kZ (fX10_mustOf_L22_B _ _ s (nI N) v 1 (nI p)) _
      unfold fX10_mustOf_L22_B
      have hx := h.same hs2 (by decide)
      rw [hx.2.1]
      refine kZ.ifn (nI_ge hp hn.lt) (kZ.ifn (by decide) ?_)
      rw [show nI p + 1 = nI (p + 1) from nI_1 p]
      refine (m_waysOf (w := p) hx (o := o) (by rw [hs2.2.2.1 3 (by decide)]; exact ho) hN (noP hn hp)).bind (fun z hz => ?_)
      obtain ⟨z1, z3⟩ := z
      obtain ⟨rfl, hs3⟩ := hz
      dsimp only at hs3
      have hlp := (lN_0 (yW_63 (κ := κ) (w := p) (k := o) hn hN)).1
      refine kZ.ite (fun e => next (_, z3) ⟨hv.yes (by omega) (decide_eq_true (hlp.mp e)), hs2.trans hs3⟩) (fun e => ?_)
      rw [Int32.or_zero]
      exact next (v, z3) ⟨hv.no (decide_eq_false (fun q => e (hlp.mpr q))), hs2.trans hs3⟩
variable {k r o h : Nat} {sx sm : kS}
theorem goby_both {N : Nat} (A : rAll k r n κ φ o h sx sm) (hN : N ≤ 12) : ∃ tx, fX6_goBy sx (nI N) = some tx ∧ xY n κ N tx ∧ rAll k r n κ φ o h tx sm ∧ fX9_number tx = some (nI o) := by
  have A0 := A
  obtain ⟨a1, a2, a3, a4, a5, a6, hx, hm, hφ, a7, h5, h6, h7, h8, h9, h10, h11, h12⟩ := A
  obtain ⟨tx, e1, s1, y1⟩ := x_goBy hx hN
  have B := A0.mayor (s1.sub (by decide) (by decide) (by decide) (by decide)) kSame.rf (h5.same s1 (by decide))
  exact ⟨tx, e1, y1, B, number_x B⟩
theorem ways_both {N : Nat} (A : rAll k r n κ φ o h sx sm) (hN : N ≤ 12) : ∃ tx tm, fX9_ways sx (nI N) = some (lN (yW n κ 9 N o), tx) ∧ fX10_waysOf sm (nI N) (-1) = some (lN (yW n κ 9 N o), tm) ∧ rAll k r n κ φ o h tx tm := by
  obtain ⟨tx, e1, y1, B, e2⟩ := goby_both A hN
  have hx := A.2.2.2.2.2.2.1
  have hm := A.2.2.2.2.2.2.2.1
  have h6 := A.2.2.2.2.2.2.2.2.2.2.2.1
  have h7 := A.2.2.2.2.2.2.2.2.2.2.2.2.1
  have hn := hx.1
  have hF := uF_le hn
  have hko := h6.1
  obtain ⟨⟨v, tm⟩, m1, m2, m3⟩ := m_waysOf (w := 9) hm h7 hN (no9 hn)
  dsimp only at m2 m3
  refine ⟨tx, tm, ?_, by rw [m1, m2], B.mayor kSame.rf (m3.sub (by decide) (by decide) (by decide) (by decide)) B.2.2.2.2.2.2.2.2.2.2.1⟩
  unfold fX9_ways
  rw [hx.stands, if_neg (show ¬ (1 : Int32) = 0 by decide), if_neg (nI_pos (n_lt31 (by omega))), if_pos (show nI N ≤ 12 from nI_le (b := 12) hN (by decide)), e1]
  simp only [Option.bind_some]
  rw [e2]
  simp only [Option.bind_some]
  unfold fX6_rowsTo
  rw [kgl_n _ (show o < 720 by omega) (by decide), (y1 o hko).1]
theorem must_both {N : Nat} (A : rAll k r n κ φ o h sx sm) (hN : N ≤ 12) : ∃ v tx tm, fX9_must sx (nI N) = some (v, tx) ∧ fX10_mustOf sm (nI N) = some (v, tm) ∧ rAll k r n κ φ o h tx tm := by
  obtain ⟨tx, e1, y1, B, e2⟩ := goby_both A hN
  have hx := A.2.2.2.2.2.2.1
  have hm := A.2.2.2.2.2.2.2.1
  have h6 := A.2.2.2.2.2.2.2.2.2.2.2.1
  have h7 := A.2.2.2.2.2.2.2.2.2.2.2.2.1
  have hn := hx.1
  have hF := uF_le hn
  have hko := h6.1
  obtain ⟨⟨v, tm⟩, m1, m2, m3⟩ := m_mustOf hm h7 hN
  dsimp only at m2 m3
  refine ⟨v, tx, tm, ?_, m1, B.mayor kSame.rf (m3.sub (by decide) (by decide) (by decide) (by decide)) B.2.2.2.2.2.2.2.2.2.2.1⟩
  unfold fX9_must
  rw [hx.stands, if_neg (show ¬ (1 : Int32) = 0 by decide), if_neg (nI_pos (n_lt31 (by omega))), if_pos (show nI N ≤ 12 from nI_le (b := 12) hN (by decide)), e1]
  simp only [Option.bind_some]
  rw [e2]
  simp only [Option.bind_some]
  have key : uMu n κ N o (fX6_sharedTo tx (nI o)) := by
    unfold fX6_sharedTo fX6_rowsTo
    rw [kgl_n _ (show o < 720 by omega) (by decide), (y1 o hko).1, kg_n _ (show o < 720 by omega) (by decide)]
    have hl := (lN_0 (yW_63 (κ := κ) (w := 9) (k := o) hn hN)).2
    by_cases e : yW n κ 9 N o = 0
    · rw [if_pos (hl.mpr e)]
      exact Or.inl ⟨e, rfl⟩
    · rw [if_neg (fun q => e (hl.mp q))]
      exact Or.inr ⟨by omega, (y1 o hko).2 (by omega)⟩
  rw [key.uniq m2]
end WB
theorem sim_ways : kH_ways R := by
  intro k sx sm x _ H
  unfold fX10_ways
  rcases R_stands H with ⟨e1, e2, _⟩ | ⟨r, n, κ, φ, o, h, A, e1, e2⟩
  · unfold fX9_ways
    rw [if_pos e1, if_pos e2]
    exact ⟨_, _, rfl, rfl, rfl, R_mono H (Nat.le_succ k)⟩
  · rw [if_neg e2]
    rcases rng x 12 (by decide) with ⟨t, ht, rfl, w1, w2, w3, ww⟩ | ⟨w1, ww, _⟩ | ⟨w1, w2, w3, ww, _⟩
    · obtain ⟨tx, tm, g1, g2, B⟩ := ways_both A ht
      rw [show fX10_within (nI t) 0 12 = 1 from ww, if_neg (show ¬ (1 : Int32) = 0 by decide), g1, g2]
      exact ⟨_, _, rfl, rfl, rfl, B.R (Nat.le_succ k)⟩
    · unfold fX9_ways
      rw [show fX10_within x 0 12 = 0 from ww, if_pos (show (0 : Int32) = 0 from rfl), if_neg (show ¬ fX8_stands sx = 0 by rw [e1]; decide), if_pos w1]
      exact ⟨_, _, rfl, rfl, rfl, R_mono H (Nat.le_succ k)⟩
    · unfold fX9_ways
      rw [show fX10_within x 0 12 = 0 from ww, if_pos (show (0 : Int32) = 0 from rfl), if_neg (show ¬ fX8_stands sx = 0 by rw [e1]; decide), if_neg w1, if_neg (show ¬ x ≤ 12 from w2)]
      exact ⟨_, _, rfl, rfl, rfl, R_mono H (Nat.le_succ k)⟩
theorem sim_must : kH_must R := by
  intro k sx sm x _ H
  unfold fX10_must
  rcases R_stands H with ⟨e1, e2, _⟩ | ⟨r, n, κ, φ, o, h, A, e1, e2⟩
  · unfold fX9_must
    rw [if_pos e1, if_pos e2]
    exact ⟨_, _, rfl, rfl, rfl, R_mono H (Nat.le_succ k)⟩
  · rw [if_neg e2]
    rcases rng x 12 (by decide) with ⟨t, ht, rfl, w1, w2, w3, ww⟩ | ⟨w1, ww, _⟩ | ⟨w1, w2, w3, ww, _⟩
    · obtain ⟨v, tx, tm, g1, g2, B⟩ := must_both A ht
      rw [show fX10_within (nI t) 0 12 = 1 from ww, if_neg (show ¬ (1 : Int32) = 0 by decide), g1, g2]
      exact ⟨_, _, rfl, rfl, rfl, B.R (Nat.le_succ k)⟩
    · unfold fX9_must
      rw [show fX10_within x 0 12 = 0 from ww, if_pos (show (0 : Int32) = 0 from rfl), if_neg (show ¬ fX8_stands sx = 0 by rw [e1]; decide), if_pos w1]
      exact ⟨_, _, rfl, rfl, rfl, R_mono H (Nat.le_succ k)⟩
    · unfold fX9_must
      rw [show fX10_within x 0 12 = 0 from ww, if_pos (show (0 : Int32) = 0 from rfl), if_neg (show ¬ fX8_stands sx = 0 by rw [e1]; decide), if_neg w1, if_neg (show ¬ x ≤ 12 from w2)]
      exact ⟨_, _, rfl, rfl, rfl, R_mono H (Nat.le_succ k)⟩
