/-! fewest: the class -/
theorem nI_m1 {d : Nat} (h : d < 2 ^ 31) : ¬ nI d = -1 := fun e => by
  have := congrArg Int32.toInt e
  rw [nI_toInt h, show (-1 : Int32).toInt = -1 from by decide] at this
  omega
def xB (n T : Nat) (q D : Nat → Nat) (s : kS) : Prop := (∀ j, j < T → gA s 24 j = nI (q j)) ∧ ∀ k, k < uF n → (∃ j, j < T ∧ q j = k ∧ gA s 22 k = nI (D k)) ∨ (gA s 22 k = -1 ∧ ∀ j, j < T → q j ≠ k)
section FW
variable {n a : Nat} {κ : Nat → Nat} {φ : Nat → Nat → Bool} {st : kS} {Q : kS → Prop}
theorem x_few67 {K : Int32 → Int32 → kS → Option kS} {v3 : Int32} {hd T k0 : Nat} (h : xR n κ φ st) (hh : hd < T) (hb : ∃ q D, bI n κ a T hd 0 q D ∧ xB n T q D st ∧ q hd = k0)
    (hK : ∀ v T' s, kSame [] [] [22, 24] [] st s → (∃ q D, bI n κ a T' hd n q D ∧ xB n T' q D s) → hd < T' → kZ (K (nI T') v s) Q) : kZ (fX1_countFew_L67 K v3 (nI k0) kFU (nI T) 0 st) Q := by
  have hn := h.1
  have hn6 := hn.2
  have hF := uF_le hn
  refine kfor (σ := Nat × kS) (fun F p s => fX1_countFew_L67 K v3 (nI k0) F (nI s.1) p s.2) (fun p s => kSame [] [] [22, 24] [] st s.2 ∧ hd < s.1 ∧ ∃ q D, bI n κ a s.1 hd p q D ∧ xB n s.1 q D s.2 ∧ q hd = k0) n ?_ ?_ kFU 0 (T, st) (Nat.zero_le _) (kFU_lt0 (by omega)) ⟨kSame.rf, hh, hb⟩
  · rintro F ⟨T', s⟩ ⟨hs, hh', q, D, hB, hX, _⟩
    show kZ (fX1_countFew_L67_B _ _ s (nI T') v3 (nI k0) (nI n)) _
    unfold fX1_countFew_L67_B
    rw [(h.same hs (by decide)).2.1]
    exact kZ.ifp (nI_le (Nat.le_refl n) hn.lt) (hK _ T' s hs ⟨q, D, hB, hX⟩ hh')
  · rintro F p ⟨T', s⟩ hp ⟨hs, hh', q, D, hB, hX, rfl⟩ next
    dsimp only at hs hh' hB hX
    show kZ (fX1_countFew_L67_B _ _ s (nI T') v3 (nI (q hd)) (nI p)) _
    unfold fX1_countFew_L67_B
    have hx := h.same hs (by decide)
    have hk0 := hB.1 hd hh'
    have hroom := hB.room
    rw [hx.2.1]
    refine kZ.ifn (nI_ge hp hn.lt) ?_
    rw [hx.barred hp, show nI p + 1 = nI (p + 1) from nI_1 p]
    cases hb : uBar n κ p with
    | true =>
      refine kZ.ifn (by decide) (next (T', s) ⟨hs, hh', q, D, hB.seen hh' ⟨hd, hh', ?_⟩, hX, rfl⟩)
      unfold xStep
      rw [hb, if_pos rfl]
    | false =>
      refine kZ.ifp rfl ?_
      have ex : xStep n κ (q hd) p = uC n (q hd) p := by unfold xStep; rw [hb, if_neg (by decide)]
      have hk1 := uC_lt hn hk0 hp
      rw [hx.after hk0 hp, kg_n _ (by omega) (by decide)]
      rcases hX.2 _ hk1 with ⟨j, hj, ej, e22⟩ | ⟨e22, hne⟩
      · rw [e22]
        have h9 := hB.2.2.2.2.2.2.2.2.1 j hj
        rw [ej] at h9
        refine kZ.ifn (nI_m1 (n_lt31 (by omega))) (next (T', s) ⟨hs, hh', q, D, hB.seen hh' ⟨j, hj, ej.trans ex.symm⟩, hX, rfl⟩)
      · rw [e22]
        refine kZ.ifp rfl ?_
        have hadd := hB.add hn hh' hp (fun j hj => by rw [ex]; exact hne j hj)
        rw [ex] at hadd
        have hroom2 := hadd.room
        have hD : gA s 22 (q hd) = nI (D (q hd)) := by
          rcases hX.2 _ hk0 with ⟨j, hj, ej, e⟩ | ⟨e, hne2⟩
          · exact e
          · exact absurd rfl (hne2 hd hh')
        rw [kg_n _ (by omega) (by decide), hD, show nI (D (q hd)) + 1 = nI (D (q hd) + 1) from nI_1 _, kp_n _ _ (by omega) (by decide), kp_n _ _ (by omega) (by decide), show nI T' + 1 = nI (T' + 1) from nI_1 T']
        refine next (T' + 1, _) ⟨(hs.sA (by decide) _).sA (by decide) _, by dsimp only; omega, _, _, hadd, ⟨fun j hj => ?_, fun k hk => ?_⟩, if_neg (by omega)⟩
        · show gA (sA (sA s 22 _) 24 _) 24 j = nI (if j = T' then uC n (q hd) p else q j)
          rw [gA_e]
          by_cases e : j = T'
          · rw [e, upd_e, if_pos rfl]
          · rw [upd_n e, if_neg e]
            exact hX.1 j (by dsimp only at hj; omega)
        · show (∃ j', j' < T' + 1 ∧ (if j' = T' then uC n (q hd) p else q j') = k ∧ gA (sA (sA s 22 _) 24 _) 22 k = nI (if k = uC n (q hd) p then D (q hd) + 1 else D k)) ∨ (gA (sA (sA s 22 _) 24 _) 22 k = -1 ∧ ∀ j', j' < T' + 1 → (if j' = T' then uC n (q hd) p else q j') ≠ k)
          rw [gA_n (show 22 ≠ 24 by decide), gA_e]
          by_cases e : k = uC n (q hd) p
          · refine Or.inl ⟨T', by omega, by rw [if_pos rfl, e], ?_⟩
            rw [e, upd_e, if_pos rfl]
          · rw [upd_n e, if_neg e]
            rcases hX.2 k hk with ⟨j, hj, ej, e2⟩ | ⟨e2, hne2⟩
            · exact Or.inl ⟨j, by omega, by rw [if_neg (by omega)]; exact ej, e2⟩
            · refine Or.inr ⟨e2, fun j hj => ?_⟩
              split
              · exact fun z => e z.symm
              · exact hne2 j (by omega)
end FW
