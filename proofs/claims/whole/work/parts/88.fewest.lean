/-! fewest: both -/
theorem m_fewestNow {n o a : Nat} {κ : Nat → Nat} {φ : Nat → Nat → Bool} {st : kS} (h : mR n κ φ st) (ho : uO n o (gA st 3)) (hc : uCompat n κ o) (ha : uO n a (gA st 5)) : kZ (fX10_fewestNow st) (fun z => lstIs (fun t => uWk n κ a t o) z.1 ∧ kSame [] [] [18, 19] [] st z.2) := by
  have hn := h.1
  have hF := uF_le hn
  have hko := ho.1
  have hka := ha.1
  unfold fX10_fewestNow
  refine m_few2 h (fun v s hs hi => ?_)
  have hms := h.same hs (by decide)
  have hos : uO n o (gA s 3) := by rw [hs.2.2.1 3 (by decide)]; exact ho
  rw [hms.index hos]
  simp only [Option.bind_some]
  refine kZ.gd (show o < 720 by omega) (by decide) ?_
  rw [nI_clamp (n_lt31 (by omega))]
  have k1 : kSame [] [] [18] [] s (sA s 18 (upd (gA s 18) o 0)) := kSame.rf.sA (by decide) _
  rw [(hms.same k1 (by decide)).index (k := o) (by rw [k1.2.2.1 3 (by decide)]; exact hos)]
  simp only [Option.bind_some]
  refine kZ.gd (j := 0) (by decide) (by decide) ?_
  have k2 : kSame [] [] [18, 19] [] st (sA (sA s 18 (upd (gA s 18) o 0)) 19 (upd (gA s 19) 0 (nI o))) := ((hs.sub (by decide) (by decide) (by decide) (by decide)).sA (by decide) _).sA (by decide) _
  refine m_few48 (o := o) h (fun v w T s2 hs2 hb => ?_) (uF n) kFU 1 0 _ (by omega) (by show _ ≤ 60000; omega) k2 ⟨fun _ => o, fun _ => 0, bI.start hko rfl rfl, ?_, ?_⟩
  · have hm2 := h.same hs2 (by decide)
    obtain ⟨q, D, hB, hX⟩ := hb
    obtain ⟨d1, d2⟩ := hB.done hn
    rw [m_code hn hm2.2.1 (k := a) (by rw [hs2.2.2.1 5 (by decide)]; exact ha)]
    simp only [Option.bind_some]
    have h1 := uCd_lt hn hka
    have h2 := u6_le hn
    refine kZ.ka (show uCd n a < 46656 by omega) (by decide) ?_
    rw [hm2.2.2.2.2.2.2.1 a hka]
    refine kZ.ka (show a < 720 by omega) (by decide) ?_
    rcases hX.2 a hka with ⟨j, hj, ej, e⟩ | ⟨e, hne⟩
    · rw [e]
      have h9 := hB.2.2.2.2.2.2.2.2.1 j hj
      have hr := hB.room
      rw [ej] at h9
      have d := d1 j hj
      rw [ej] at d
      exact kZ.ifn (nI_inf (by omega)) (kZ.ret ⟨few_sym hn hka hko d, hs2⟩)
    · rw [e]
      exact kZ.ifp rfl (kZ.ret ⟨few_sym hn hka hko (d2 a hka hne), hs2⟩)
  · intro j hj
    rw [show j = 0 by omega]
    show gA (sA (sA s 18 _) 19 _) 19 0 = nI o ∧ uCompat n κ o
    rw [gA_e, show Int32.toNatClampNeg 0 = 0 from by decide, upd_e]
    exact ⟨rfl, hc⟩
  · intro k hk
    show (∃ j, j < 1 ∧ o = k ∧ gA (sA (sA s 18 _) 19 _) 18 k = nI 0) ∨ (gA (sA (sA s 18 _) 19 _) 18 k = 268435456 ∧ ∀ j, j < 1 → o ≠ k)
    rw [gA_n (show 18 ≠ 19 by decide), gA_e]
    by_cases e : k = o
    · exact Or.inl ⟨0, by decide, e.symm, by rw [e, upd_e]; rfl⟩
    · refine Or.inr ⟨?_, fun _ _ z => e z.symm⟩
      rw [upd_n e]
      exact hi k hk
