/-! digest: both -/
theorem kZ.swap {X M : Type} {ox : Option X} {om : Option M} {P : X → M → Prop} (h : kZ om (fun m => kZ ox (fun x => P x m))) : kZ ox (fun x => kZ om (fun m => P x m)) := by
  obtain ⟨m, e1, x, e2, hp⟩ := h
  exact ⟨x, e2, m, e1, hp⟩
def xTl (sx : kS) (v : Int64) : Option (Int64 × kS) := fX9_digest_L153 (fun v1_8 _ => fX9_digest_L188 (fun v1_11 _ => some (v1_11, sx)) sx kFU v1_8 0) sx kFU v 0
def mTl (sm : kS) : Option (Int64 × kS) := fX10_digest_L126 (fun _ st_11 => fX10_digest_L153 (fun _ st_15 => some ((gJ st_15 2), st_15)) kFU 0 st_11) kFU 0 sm
theorem x_J0 {sx : kS} (h : gI sx 13 = 0) (v : Int64) : fX9_digest_J117 sx v = xTl sx v := by
  unfold fX9_digest_J117 xTl
  rw [if_pos h]
theorem x_J1 {sx tx ux : kS} {v1 w1 : Int32} (h : ¬ gI sx 13 = 0) (f : fX9_fewest sx = some (v1, tx)) (g : fX9_surely tx = some (w1, ux)) (v : Int64) : fX9_digest_J117 sx v = xTl ux ((31 * ((31 * v) + v1.toInt64)) + w1.toInt64) := by
  unfold fX9_digest_J117
  rw [if_neg h, f, Option.bind_some, g, Option.bind_some]
  rfl
theorem m_J0 {sm : kS} (h : gI sm 3 = 0) : fX10_digest_J99 sm = mTl sm := by
  unfold fX10_digest_J99 mTl
  rw [if_pos h]
theorem m_J1 {sm tm um : kS} {v1 w1 : Int32} (h : ¬ gI sm 3 = 0) (f : fX10_fewestNow sm = some (v1, tm)) (g : fX10_surelyNow (fX10_mix tm v1.toInt64) = some (w1, um)) : fX10_digest_J99 sm = mTl (fX10_mix um w1.toInt64) := by
  unfold fX10_digest_J99
  rw [if_neg h, f, Option.bind_some, g, Option.bind_some]
  rfl
theorem tail_both {k : Nat} {sx sm : kS} (H : R k sx sm) {v : Int64} (hv : gJ sm 2 = v) : kZ (xTl sx v) (fun zx => kZ (mTl sm) (fun zm => zx.1 = zm.1 ∧ R k zx.2 zm.2)) := by
  obtain ⟨m, c, p1, p2⟩ := H.1
  unfold xTl mTl
  refine x_page p1 (fun _ => x_cnt (fun _ => kZ.ret ?_))
  refine m_page p2 (fun _ s hs hj => m_cnt (C := fun j => fX9_count sx (nI j)) (fun s' hs' j _ => ?_) (fun _ s2 hs2 hj2 => kZ.ret ⟨?_, ?_⟩))
  · exact R_howMany (R_fr H (Nat.le_refl k) kSame.rf ((hs.trans hs').sub (by decide) (by decide) (by decide) (by decide))) (nI j)
  · show _ = gJ s2 2
    rw [hj2, hj, hv]
  · exact R_fr H (Nat.le_refl k) kSame.rf ((hs.trans hs2).sub (by decide) (by decide) (by decide) (by decide))
theorem rAll.mix {k r n o h : Nat} {κ : Nat → Nat} {φ : Nat → Nat → Bool} {sx sm : kS} (A : rAll k r n κ φ o h sx sm) (x : Int64) : rAll k r n κ φ o h sx (fX10_mix sm x) :=
  A.mayor kSame.rf (kSame.rf.sJ (by decide) _) A.2.2.2.2.2.2.2.2.2.2.1
theorem mix_J (s : kS) (x : Int64) : gJ (fX10_mix s x) 2 = 31 * gJ s 2 + x := gJ_e _ _ _
theorem end_both {k : Nat} {sx sm : kS} (H : R k sx sm) {v : Int64} (hv : gJ sm 2 = v) : kZ (fX9_digest_J117 sx v) (fun zx => kZ (fX10_digest_J99 sm) (fun zm => zx.1 = zm.1 ∧ R k zx.2 zm.2)) := by
  rcases R_stands H with ⟨e1, e2, b⟩ | ⟨r, n, κ, φ, o, h, A, e1, e2⟩
  · rw [x_J0 b.2.2.2.2.2.2.1, m_J0 b.2.2.2.2.2.2.2]
    exact tail_both H hv
  · have hT := A.2.2.2.2.2.2
    rcases hT.2.2.2.2.2.2.2.2.2.2.1 with ⟨g1, g2⟩ | ⟨g1, g2, _⟩
    · rw [x_J0 g1, m_J0 g2]
      exact tail_both H hv
    · obtain ⟨v1, tx, a, f1, f2, f3, f4, f5, B⟩ := x_fewest A g1
      obtain ⟨⟨v2, tm⟩, m1, m2, m3⟩ := m_fewestNow hT.2.1 hT.2.2.2.2.2.2.1 hT.2.2.2.2.2.2.2.2.2.1 f2
      dsimp only at m2 m3
      rw [← f5.uniq m2] at m1
      have B1 := (B.mayor kSame.rf (m3.sub (by decide) (by decide) (by decide) (by decide)) B.2.2.2.2.2.2.2.2.2.2.1).mix v1.toInt64
      have hT1 := B1.2.2.2.2.2.2
      obtain ⟨w1, ux, a', h1, h2, h3, h4, h5, B2⟩ := x_surely B1 f4
      obtain ⟨⟨w2, um⟩, n1, n2, n3⟩ := m_surelyNow hT1.2.1 hT1.2.2.2.2.2.2.1 hT1.2.2.2.2.2.2.2.2.2.1 h2
      dsimp only at n2 n3
      rw [← h5.uniq n2] at n1
      have B3 := (B2.mayor kSame.rf (n3.sub (by decide) (by decide) (by decide) (by decide)) B2.2.2.2.2.2.2.2.2.2.2.1).mix w1.toInt64
      rw [x_J1 (show ¬ gI sx 13 = 0 by rw [g1]; decide) f1 h1, m_J1 (show ¬ gI sm 3 = 0 by rw [g2]; decide) m1 n1]
      refine tail_both (B3.R (Nat.le_refl k)) ?_
      rw [mix_J, n3.2.1 2 (by decide), mix_J, m3.2.1 2 (by decide), hv]
theorem x_houses0 {st : kS} {K : Int64 → Int32 → Option (Int64 × kS)} {Q : Int64 × kS → Prop} {v : Int64} (h : gI st 3 = 0) (hK : ∀ w, kZ (K v w) Q) : kZ (fX9_digest_L6 K st kFU v 0) Q := by
  obtain ⟨F, hFU⟩ : ∃ F, kFU = F + 1 := ⟨59999, rfl⟩
  rw [hFU]
  show kZ (fX9_digest_L6_B _ _ st v 0) _
  unfold fX9_digest_L6_B
  rw [h]
  exact kZ.ifp (by decide) (hK _)
theorem m_houses0 {st : kS} {K : Int32 → kS → Option (Int64 × kS)} {Q : Int64 × kS → Prop} (h : gI st 0 = 0) (hK : ∀ w, kZ (K w st) Q) : kZ (fX10_digest_L9 K kFU 0 st) Q := by
  obtain ⟨F, hFU⟩ : ∃ F, kFU = F + 1 := ⟨59999, rfl⟩
  rw [hFU]
  show kZ (fX10_digest_L9_B _ _ st 0) _
  unfold fX10_digest_L9_B
  rw [h]
  exact kZ.ifp (by decide) (hK _)
def dU (n o h : Nat) (κ : Nat → Nat) (g : Nat → Int32) (a i : Nat) : Int32 := if i = 0 then nI (κ a) else if i = 1 then nI (uI n o a) else if i = 2 then nI (uI n h a) else g a
theorem houses_U {k r n o h : Nat} {κ : Nat → Nat} {φ : Nat → Nat → Bool} {sx sm : kS} (A : rAll k r n κ φ o h sx sm) : ∃ U : Nat → Nat → Int32, (∀ a, a < n → ∀ i, i < 4 → fX9_house sx (nI a) (nI i) = some (U a i)) ∧ ∀ s, kSame [] [2] [] [] sm s → ∀ a, a < n → ∀ i, i < 4 → fX10_houseNow s (nI a) (nI i) = some (U a i) := by
  obtain ⟨a1, a2, a3, a4, a5, a6, hx, hm, hφ, a7, h5, h6, h7, h8, h9, h10, h11, h12⟩ := A
  have hn := hx.1
  obtain ⟨g, gx, gm⟩ : ∃ g : Nat → Int32, (∀ a, a < n → fX1_placeOf sx (nI a) = some (g a)) ∧ ∀ s, kSame [] [2] [] [] sm s → ∀ a, a < n → fX10_houseNow s (nI a) (nI 3) = some (g a) := by
    rcases h11 with ⟨g1, g2⟩ | ⟨g1, g2, b, g3, g4, _⟩
    · refine ⟨fun _ => -1, fun a ha => ?_, fun s hs a ha => ?_⟩
      · unfold fX1_placeOf
        rw [if_pos g1]
      · unfold fX10_houseNow
        rw [if_neg (show ¬ nI 3 = 0 by decide), if_neg (show ¬ nI 3 = 1 by decide), if_neg (show ¬ nI 3 = 2 by decide), if_pos ((hs.1 3 (by decide)).trans g2)]
    · refine ⟨fun a => nI (uI n b a), fun a ha => ?_, fun s hs a ha => ?_⟩
      · unfold fX1_placeOf
        rw [if_neg (by rw [g1]; decide), hx.2.1, x_placeIn hn g3 ha]
        rfl
      · unfold fX10_houseNow
        rw [if_neg (show ¬ nI 3 = 0 by decide), if_neg (show ¬ nI 3 = 1 by decide), if_neg (show ¬ nI 3 = 2 by decide), if_neg (show ¬ gI s 3 = 0 by rw [hs.1 3 (by decide), g2]; decide), m_placeIn s hn (show uO n b (gA s 5) by rw [hs.2.2.1 5 (by decide)]; exact g4) ha]
        rfl
  refine ⟨dU n o h κ g, fun a ha i hi => ?_, fun s hs a ha i hi => ?_⟩
  · unfold fX9_house
    rw [hx.has ha, if_neg (show ¬ (1 : Int32) = 0 by decide)]
    rcases (show i = 0 ∨ i = 1 ∨ i = 2 ∨ i = 3 by omega) with rfl | rfl | rfl | rfl
    · rw [if_pos (show nI 0 = 0 from rfl)]
      unfold fX8_kind
      rw [hx.kindg ha]
      rfl
    · rw [if_neg (show ¬ nI 1 = 0 by decide), if_pos (show nI 1 = 1 from rfl), hx.place h6 ha]
      rfl
    · rw [if_neg (show ¬ nI 2 = 0 by decide), if_neg (show ¬ nI 2 = 1 by decide), if_pos (show nI 2 = 2 from rfl), hx.ahead h8 ha]
      rfl
    · rw [if_neg (show ¬ nI 3 = 0 by decide), if_neg (show ¬ nI 3 = 1 by decide), if_neg (show ¬ nI 3 = 2 by decide), if_pos (show nI 3 = 3 from rfl), gx a ha]
      rfl
  · have hms := hm.same hs (by decide)
    rcases (show i = 0 ∨ i = 1 ∨ i = 2 ∨ i = 3 by omega) with rfl | rfl | rfl | rfl
    · unfold fX10_houseNow
      rw [if_pos (show nI 0 = 0 from rfl), hms.kind ha]
      rfl
    · unfold fX10_houseNow
      rw [if_neg (show ¬ nI 1 = 0 by decide), if_pos (show nI 1 = 1 from rfl), m_placeIn s hn (show uO n o (gA s 3) by rw [hs.2.2.1 3 (by decide)]; exact h7) ha]
      rfl
    · unfold fX10_houseNow
      rw [if_neg (show ¬ nI 2 = 0 by decide), if_neg (show ¬ nI 2 = 1 by decide), if_pos (show nI 2 = 2 from rfl), m_placeIn s hn (show uO n h (gA s 4) by rw [hs.2.2.1 4 (by decide)]; exact h9) ha]
      rfl
    · exact gm s hs a ha
theorem apart_J {n t : Nat} {κ : Nat → Nat} {φ : Nat → Nat → Bool} {sm tm : kS} {y v : Int32} (h : mR n κ φ sm) (ht : t ≤ 5) (e : fX10_apartOf sm (nI t) y = some (v, tm)) : gJ tm 2 = gJ sm 2 := by
  obtain ⟨z1, e1, s1, _⟩ := m_layApart h ht
  unfold fX10_apartOf at e
  rw [e1] at e
  obtain ⟨_, e2, e⟩ := kB e
  rw [← Option.some.inj e2] at e
  obtain ⟨_, _, e⟩ := kB e
  obtain ⟨_, _, e⟩ := kB e
  obtain ⟨_, _, e⟩ := kB e
  obtain ⟨_, _, e⟩ := kB e
  have e3 : z1 = tm := congrArg Prod.snd (Option.some.inj e)
  rw [← e3]
  exact s1.2.1 2 (by decide)
theorem ways_J {n o N : Nat} {κ : Nat → Nat} {φ : Nat → Nat → Bool} {sm tm : kS} {v : Int64} (h : mR n κ φ sm) (ho : uO n o (gA sm 3)) (hN : N ≤ 12) (e : fX10_waysOf sm (nI N) (-1) = some (v, tm)) : gJ tm 2 = gJ sm 2 := by
  obtain ⟨z, e1, _, s1⟩ := m_waysOf (w := 9) h ho hN (no9 h.1)
  rw [e] at e1
  rw [← Option.some.inj e1] at s1
  exact s1.2.1 2 (by decide)
theorem must_J {n o N : Nat} {κ : Nat → Nat} {φ : Nat → Nat → Bool} {sm tm : kS} {v : Int32} (h : mR n κ φ sm) (ho : uO n o (gA sm 3)) (hN : N ≤ 12) (e : fX10_mustOf sm (nI N) = some (v, tm)) : gJ tm 2 = gJ sm 2 := by
  obtain ⟨z, e1, _, s1⟩ := m_mustOf h ho hN
  rw [e] at e1
  rw [← Option.some.inj e1] at s1
  exact s1.2.1 2 (by decide)
