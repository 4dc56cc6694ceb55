/-! fewest: the reference's search -/
def mB (n : Nat) (κ : Nat → Nat) (T : Nat) (q D : Nat → Nat) (s : kS) : Prop := (∀ j, j < T → gA s 19 j = nI (q j) ∧ uCompat n κ (q j)) ∧ ∀ k, k < uF n → (∃ j, j < T ∧ q j = k ∧ gA s 18 k = nI (D k)) ∨ (gA s 18 k = 268435456 ∧ ∀ j, j < T → q j ≠ k)
theorem nI_inf {d : Nat} (h : d < 1000) : ¬ nI d = 268435456 := fun e => by
  have := nI_inj (b := 268435456) (n_lt31 (by omega)) (by decide) e
  omega
section FM
variable {n o : Nat} {κ : Nat → Nat} {φ : Nat → Nat → Bool} {st : kS} {Q : Int32 × kS → Prop}
theorem m_few55 {K : Int32 → Int32 → kS → Option (Int32 × kS)} {hd T : Nat} (h : mR n κ φ st) (hh : hd < T) (hb : ∃ q D, bI n κ o T hd 0 q D ∧ mB n κ T q D st)
    (hK : ∀ v T' s, kSame [] [] [18, 19] [] st s → (∃ q D, bI n κ o T' hd n q D ∧ mB n κ T' q D s) → hd < T' → kZ (K (nI T') v s) Q) : kZ (fX10_fewestNow_L55 K (nI hd) kFU (nI T) 0 st) Q := by
  have hn := h.1
  have hn6 := hn.2
  have hF := uF_le hn
  refine kfor (σ := Nat × kS) (fun F p s => fX10_fewestNow_L55 K (nI hd) F (nI s.1) p s.2) (fun p s => kSame [] [] [18, 19] [] st s.2 ∧ hd < s.1 ∧ ∃ q D, bI n κ o s.1 hd p q D ∧ mB n κ s.1 q D s.2) n ?_ ?_ kFU 0 (T, st) (Nat.zero_le _) (kFU_lt0 (by omega)) ⟨kSame.rf, hh, hb⟩
  · rintro F ⟨T', s⟩ ⟨hs, hh', q, D, hB, hX⟩
    show kZ (fX10_fewestNow_L55_B _ _ s (nI T') (nI hd) (nI n)) _
    unfold fX10_fewestNow_L55_B
    rw [(h.same hs (by decide)).2.1]
    exact kZ.ifp (nI_le (Nat.le_refl n) hn.lt) (hK _ T' s hs ⟨q, D, hB, hX⟩ hh')
  · rintro F p ⟨T', s⟩ hp ⟨hs, hh', q, D, hB, hX⟩ next
    dsimp only at hs hh' hB hX
    show kZ (fX10_fewestNow_L55_B _ _ s (nI T') (nI hd) (nI p)) _
    unfold fX10_fewestNow_L55_B
    have hx := h.same hs (by decide)
    have hk0 := hB.1 hd hh'
    have hroom := hB.room
    have hc0 := (hX.1 hd hh').2
    have hk1 := xStep_lt (κ := κ) hn hk0 hp
    rw [hx.2.1]
    refine kZ.ifn (nI_ge hp hn.lt) (kZ.ka (show hd < 720 by omega) (by decide) ?_)
    rw [(hX.1 hd hh').1, hx.behind hk0 hp, mStep_eq hn hk0 hc0 hp, show nI p + 1 = nI (p + 1) from nI_1 p]
    simp only [Option.bind_some]
    refine kZ.ka (show xStep n κ (q hd) p < 720 by omega) (by decide) ?_
    rcases hX.2 _ hk1 with ⟨j, hj, ej, e18⟩ | ⟨e18, hne⟩
    · rw [e18]
      have h9 := hB.2.2.2.2.2.2.2.2.1 j hj
      rw [ej] at h9
      exact kZ.ifn (nI_inf (by omega)) (next (T', s) ⟨hs, hh', q, D, hB.seen hh' ⟨j, hj, ej⟩, hX⟩)
    · rw [e18]
      refine kZ.ifp rfl (kZ.ka (show hd < 720 by omega) (by decide) ?_)
      rw [(hX.1 hd hh').1]
      refine kZ.ka (show q hd < 720 by omega) (by decide) ?_
      have hadd := hB.add hn hh' hp hne
      have hroom2 := hadd.room
      have hcc := xStep_compat hn hk0 hc0 hp
      have hD : gA s 18 (q hd) = nI (D (q hd)) := by
        rcases hX.2 _ hk0 with ⟨j, hj, ej, e⟩ | ⟨e, hne2⟩
        · exact e
        · exact absurd rfl (hne2 hd hh')
      generalize hk : xStep n κ (q hd) p = k1 at hk1 e18 hne hadd hcc ⊢
      refine kZ.gd (show k1 < 720 by omega) (by decide) (kZ.gd (show T' < 720 by omega) (by decide) ?_)
      rw [nI_clamp (n_lt31 (by omega)), nI_clamp (n_lt31 (by omega)), hD, show nI (D (q hd)) + 1 = nI (D (q hd) + 1) from nI_1 _, show nI T' + 1 = nI (T' + 1) from nI_1 T']
      refine next (T' + 1, _) ⟨(hs.sA (by decide) _).sA (by decide) _, by dsimp only; omega, _, _, hadd, ⟨fun j hj => ?_, fun k hk => ?_⟩⟩
      · show gA (sA (sA s 18 _) 19 _) 19 j = nI (if j = T' then k1 else q j) ∧ uCompat n κ (if j = T' then k1 else q j)
        rw [gA_e]
        by_cases e : j = T'
        · rw [e, upd_e, if_pos rfl]; exact ⟨rfl, hcc⟩
        · rw [upd_n e, if_neg e]
          exact hX.1 j (by dsimp only at hj; omega)
      · show (∃ j', j' < T' + 1 ∧ (if j' = T' then k1 else q j') = k ∧ gA (sA (sA s 18 _) 19 _) 18 k = nI (if k = k1 then D (q hd) + 1 else D k)) ∨ (gA (sA (sA s 18 _) 19 _) 18 k = 268435456 ∧ ∀ j', j' < T' + 1 → (if j' = T' then k1 else q j') ≠ k)
        rw [gA_n (show 18 ≠ 19 by decide), gA_e]
        by_cases e : k = k1
        · refine Or.inl ⟨T', by omega, by rw [if_pos rfl, e], ?_⟩
          rw [e, upd_e, if_pos rfl]
        · rw [upd_n e, if_neg e]
          rcases hX.2 k hk with ⟨j, hj, ej, e2⟩ | ⟨e2, hne2⟩
          · exact Or.inl ⟨j, by omega, by rw [if_neg (by omega)]; exact ej, e2⟩
          · refine Or.inr ⟨e2, fun j hj => ?_⟩
            split
            · exact fun z => e z.symm
            · exact hne2 j (by omega)
end FM
