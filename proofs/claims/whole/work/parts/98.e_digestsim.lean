/-! digest: both, the whole of it -/
def xMd (st : kS) (v1_3 : Int64) : Option (Int64 × kS) := if (fX8_stands st) = 0 then (fX9_digest_J117 st v1_3) else ((fX9_touch st).bind (fun z_19 => (fX9_joins st).bind (fun z_20 => (fX9_apart st 2 0).bind (fun z_21 => (fX9_apart z_21.2 2 1).bind (fun z_22 => (fX9_ways z_22.2 3).bind (fun z_23 => (fX9_must z_23.2 3).bind (fun z_24 => fX9_digest_J117 z_24.2 ((31 * ((31 * ((31 * ((31 * ((31 * ((31 * v1_3) + z_19.toInt64)) + z_20.toInt64)) + z_21.1.toInt64)) + z_22.1.toInt64)) + z_23.1)) + z_24.1.toInt64))))))))
def mMd (st_4 : kS) : Option (Int64 × kS) := if (gI st_4 0) ≤ 0 then (fX10_digest_J99 st_4) else ((fX10_touchIn 6 (gA st_4 3) st_4).bind (fun z_22 => (fX10_joinsNow (fX10_mix st_4 z_22.toInt64)).bind (fun z_23 => (fX10_apartOf (fX10_mix (fX10_mix st_4 z_22.toInt64) z_23.toInt64) 2 0).bind (fun z_24 => (fX10_apartOf (fX10_mix z_24.2 z_24.1.toInt64) 2 1).bind (fun z_25 => (fX10_waysOf (fX10_mix z_25.2 z_25.1.toInt64) 3 (-1)).bind (fun z_26 => (fX10_mustOf (fX10_mix z_26.2 z_26.1) 3).bind (fun z_27 => fX10_digest_J99 (fX10_mix z_27.2 z_27.1.toInt64))))))))
theorem x_digest_eq (st : kS) : fX9_digest st = fX9_digest_L6 (fun v1 _ => xMd st v1) st kFU 571 0 := by
  unfold fX9_digest xMd
  rfl
theorem m_digest_eq (st : kS) : fX10_digest st = fX10_digest_L9 (fun _ s => mMd s) kFU 0 (sJ st 2 571) := by
  unfold fX10_digest mMd
  rfl
theorem x_md0 {st : kS} (h : fX8_stands st = 0) (v : Int64) : xMd st v = fX9_digest_J117 st v := by
  unfold xMd
  rw [if_pos h]
theorem m_md0 {st : kS} (h : gI st 0 = 0) : mMd st = fX10_digest_J99 st := by
  unfold mMd
  rw [if_pos (show gI st 0 ≤ 0 by rw [h]; decide)]
theorem x_md1 {sx x1 x2 x3 x4 : kS} {a1 a2 a3 a4 a6 : Int32} {a5 : Int64} (h : ¬ fX8_stands sx = 0) (t1 : fX9_touch sx = some a1) (t2 : fX9_joins sx = some a2) (t3 : fX9_apart sx 2 0 = some (a3, x1)) (t4 : fX9_apart x1 2 1 = some (a4, x2)) (t5 : fX9_ways x2 3 = some (a5, x3)) (t6 : fX9_must x3 3 = some (a6, x4)) (v : Int64) : xMd sx v = fX9_digest_J117 x4 ((31 * ((31 * ((31 * ((31 * ((31 * ((31 * v) + a1.toInt64)) + a2.toInt64)) + a3.toInt64)) + a4.toInt64)) + a5)) + a6.toInt64) := by
  unfold xMd
  rw [if_neg h, t1, Option.bind_some, t2, Option.bind_some, t3, Option.bind_some, t4, Option.bind_some, t5, Option.bind_some, t6, Option.bind_some]
theorem m_md1 {s m3 m4 m5 m6 : kS} {a1 a2 a3 a4 a6 : Int32} {a5 : Int64} (h : ¬ gI s 0 ≤ 0) (t1 : fX10_touchIn 6 (gA s 3) s = some a1) (t2 : fX10_joinsNow (fX10_mix s a1.toInt64) = some a2) (t3 : fX10_apartOf (fX10_mix (fX10_mix s a1.toInt64) a2.toInt64) 2 0 = some (a3, m3)) (t4 : fX10_apartOf (fX10_mix m3 a3.toInt64) 2 1 = some (a4, m4)) (t5 : fX10_waysOf (fX10_mix m4 a4.toInt64) 3 (-1) = some (a5, m5)) (t6 : fX10_mustOf (fX10_mix m5 a5) 3 = some (a6, m6)) : mMd s = fX10_digest_J99 (fX10_mix m6 a6.toInt64) := by
  unfold mMd
  rw [if_neg h, t1, Option.bind_some, t2, Option.bind_some, t3, Option.bind_some, t4, Option.bind_some, t5, Option.bind_some, t6, Option.bind_some]
theorem mid_both {k r n o h : Nat} {κ : Nat → Nat} {φ : Nat → Nat → Bool} {sx s : kS} (A : rAll k r n κ φ o h sx s) {v : Int64} (hv : gJ s 2 = v) : kZ (xMd sx v) (fun zx => kZ (mMd s) (fun zm => zx.1 = zm.1 ∧ R k zx.2 zm.2)) := by
  have hT := A.2.2.2.2.2.2
  have hx := hT.1
  have hn := hx.1
  have h6 := hT.2.2.2.2.2.1
  have h8 := hT.2.2.2.2.2.2.2.1
  have x1 : fX9_touch sx = some (nI (uT n κ φ o)) := by
    unfold fX9_touch
    rw [hx.stands, if_neg (show ¬ (1 : Int32) = 0 by decide), x_touching hx hT.2.2.1 h6]
    rfl
  have x2 := x_joins hx h6 h8
  have m1 := m_touchIn hT.2.1 hT.2.2.2.2.2.2.1
  have A1 := A.mix (nI (uT n κ φ o)).toInt64
  have hT1 := A1.2.2.2.2.2.2
  have m2 := m_joinsNow hT1.2.1 hT1.2.2.2.2.2.2.1 hT1.2.2.2.2.2.2.2.2.1
  have A2 := A1.mix (nI (uJs n o h)).toInt64
  obtain ⟨v3, y3, z3, x3, m3, B3⟩ := apart_both A2 (t := 2) (y := 0) (by decide) (by decide)
  have j3 := apart_J A2.2.2.2.2.2.2.2.1 (by decide) m3
  have A3 := B3.mix v3.toInt64
  obtain ⟨v4, y4, z4, x4, m4, B4⟩ := apart_both A3 (t := 2) (y := 1) (by decide) (by decide)
  have j4 := apart_J A3.2.2.2.2.2.2.2.1 (by decide) m4
  have A4 := B4.mix v4.toInt64
  obtain ⟨y5, z5, x5, m5, B5⟩ := ways_both A4 (N := 3) (by decide)
  have j5 := ways_J A4.2.2.2.2.2.2.2.1 A4.2.2.2.2.2.2.2.2.2.2.2.2.1 (by decide) m5
  have A5 := B5.mix (lN (yW n κ 9 3 o))
  obtain ⟨v6, y6, z6, x6, m6, B6⟩ := must_both A5 (N := 3) (by decide)
  have j6 := must_J A5.2.2.2.2.2.2.2.1 A5.2.2.2.2.2.2.2.2.2.2.2.2.1 (by decide) m6
  have A6 := B6.mix v6.toInt64
  rw [x_md1 (show ¬ fX8_stands sx = 0 by rw [hx.stands]; decide) x1 x2 x3 x4 x5 x6 v, m_md1 (show ¬ gI s 0 ≤ 0 by rw [hT.2.1.2.1]; exact nI_nle (by have := hn.1; omega) hn.lt) m1 m2 m3 m4 m5 m6]
  refine end_both (A6.R (Nat.le_refl k)) ?_
  rw [mix_J, j6, mix_J, j5, mix_J, j4, mix_J, j3, mix_J, mix_J, hv]
theorem digest_both {k : Nat} {sx sm : kS} (H : R k sx sm) : kZ (fX9_digest sx) (fun zx => kZ (fX10_digest sm) (fun zm => zx.1 = zm.1 ∧ R k zx.2 zm.2)) := by
  rw [x_digest_eq, m_digest_eq]
  rcases R_stands H with ⟨e1, e2, b⟩ | ⟨r, n, κ, φ, o, h, A, e1, e2⟩
  · refine x_houses0 b.1 (fun _ => kZ.swap (m_houses0 (st := sJ sm 2 571) b.2.1 (fun _ => kZ.swap ?_)))
    rw [x_md0 e1, m_md0 (show gI (sJ sm 2 571) 0 = 0 from b.2.1)]
    exact end_both (R_fr H (Nat.le_refl k) kSame.rf (kSame.rf.sJ (by decide) _)) (gJ_e _ _ _)
  · have hT := A.2.2.2.2.2.2
    have k0 : kSame [] [2] [] [] sm (sJ sm 2 571) := kSame.rf.sJ (by decide) _
    obtain ⟨U, ux, um⟩ := houses_U A
    refine x_houses hT.1 hT.2.2.2.2.2.1 hT.2.2.2.2.2.2.2.1 ux (fun _ => kZ.swap (m_houses (st := sJ sm 2 571) (o := o) (h := h) (U := U) (hT.2.1.same k0 (by decide)) (by rw [k0.2.2.1 3 (by decide)]; exact hT.2.2.2.2.2.2.1) (by rw [k0.2.2.1 4 (by decide)]; exact hT.2.2.2.2.2.2.2.2.1) (fun s hs => um s (k0.trans hs)) (fun _ s hs hj => kZ.swap ?_)))
    have A0 : rAll k r n κ φ o h sx s := A.mayor kSame.rf ((k0.trans hs).sub (by decide) (by decide) (by decide) (by decide)) A.2.2.2.2.2.2.2.2.2.2.1
    refine mid_both A0 ?_
    rw [hj, gJ_e]
theorem sim_digest : kH_digest R := by
  intro k sx sm _ H
  obtain ⟨zx, e1, zm, e2, e3, e4⟩ := digest_both H
  exact ⟨zx, zm, e1, e2, e3, R_mono e4 (Nat.le_succ k)⟩
