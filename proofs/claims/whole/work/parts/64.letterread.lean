/-! what is a letter -/
def tB (x : Nat) : Bool := Nat.ble 48 x && Nat.ble x 53
def tC (x : Nat) : Bool := Nat.ble 49 x && Nat.ble x 57
def uZs (x : Nat) : Nat := if x = 110 then 0 else if x = 114 then 1 else if x = 108 then 2 else if x = 98 then 3 else 4
def tL (c : Nat → Nat) (i : Nat) : Bool :=
  if i = 0 then Nat.blt (uZs (c 0)) 4
  else if i = 1 then (if uZs (c 0) = 1 ∨ uZs (c 0) = 2 then tC (c 1) else tB (c 1))
  else if i = 2 then (if uZs (c 0) = 0 then false else tB (c 2) && (if uZs (c 0) = 1 ∨ uZs (c 0) = 2 then true else !(c 2 == c 1)))
  else false
theorem uZs_c (x : Nat) : (x = 110 ∧ uZs x = 0) ∨ (x = 114 ∧ uZs x = 1) ∨ (x = 108 ∧ uZs x = 2) ∨ (x = 98 ∧ uZs x = 3) ∨ ((x ≠ 110 ∧ x ≠ 114 ∧ x ≠ 108 ∧ x ≠ 98) ∧ uZs x = 4) := by
  unfold uZs
  split
  · exact Or.inl ⟨by assumption, rfl⟩
  · split
    · exact Or.inr (Or.inl ⟨by assumption, rfl⟩)
    · split
      · exact Or.inr (Or.inr (Or.inl ⟨by assumption, rfl⟩))
      · split
        · exact Or.inr (Or.inr (Or.inr (Or.inl ⟨by assumption, rfl⟩)))
        · exact Or.inr (Or.inr (Or.inr (Or.inr ⟨⟨by assumption, by assumption, by assumption, by assumption⟩, rfl⟩)))
theorem uZs_le (x : Nat) : uZs x ≤ 4 := by rcases uZs_c x with h | h | h | h | h <;> omega
theorem uZs_m : ∀ x, x < 127 → fX10_sortBy (nI x) = if uZs x = 4 then -1 else nI (uZs x) := by decide +kernel
theorem m_B : ∀ x, x < 127 → fX10_within (nI x) 48 53 = b01 (tB x) := by decide +kernel
theorem m_C : ∀ x, x < 127 → fX10_within (nI x) 49 57 = b01 (tC x) := by decide +kernel
theorem x_B : ∀ x, x < 127 → (if nI x - 48 < 0 then (0 : Int32) else if 5 < nI x - 48 then 0 else 1) = b01 (tB x) := by decide +kernel
theorem x_C : ∀ x, x < 127 → (if nI x - 48 < 1 then (0 : Int32) else if 9 < nI x - 48 then 0 else 1) = b01 (tC x) := by decide +kernel
theorem x_S : ∀ x, x < 127 → (nI x = 114 ↔ uZs x = 1) ∧ (nI x = 108 ↔ uZs x = 2) ∧ (nI x = 110 ↔ uZs x = 0) ∧ (nI x = 98 ↔ uZs x = 3) := by decide +kernel
theorem tB_48 {x : Nat} (h : tB x = true) : 48 ≤ x ∧ x ≤ 53 := by
  unfold tB at h
  rw [Bool.and_eq_true] at h
  exact ⟨Nat.le_of_ble_eq_true h.1, Nat.le_of_ble_eq_true h.2⟩
theorem tC_49 {x : Nat} (h : tC x = true) : 49 ≤ x ∧ x ≤ 57 := by
  unfold tC at h
  rw [Bool.and_eq_true] at h
  exact ⟨Nat.le_of_ble_eq_true h.1, Nat.le_of_ble_eq_true h.2⟩
section LX
variable {m : Nat} {c : Nat → Nat} {st : kS}
theorem pgX.isB (h : pgX m c st) {j : Nat} (hj : j < m) : fX5_isDigit st (nI j) 0 5 = b01 (tB (c j)) := by
  unfold fX5_isDigit fX5_digit
  rw [kg_n _ (by have := h.1; omega) (by decide), (h.2.2 j hj).2]
  exact x_B _ (h.2.2 j hj).1
theorem pgX.isC (h : pgX m c st) {j : Nat} (hj : j < m) : fX5_isDigit st (nI j) 1 9 = b01 (tC (c j)) := by
  unfold fX5_isDigit fX5_digit
  rw [kg_n _ (by have := h.1; omega) (by decide), (h.2.2 j hj).2]
  exact x_C _ (h.2.2 j hj).1
theorem pgX.fitsL (h : pgX m c st) {i : Nat} (hi : i < m) : fX5_fitsLetter st (nI i) = some (b01 (tL c i)) := by
  have hm := h.1
  have h0 : 0 < m := by omega
  have hc0 := (h.2.2 0 h0).1
  have hS := x_S _ hc0
  unfold fX5_fitsLetter
  rw [show (fX5_code st 0) = nI (c 0) from h.code (j := 0) h0]
  have fin : ∀ a : Nat, a < 2 → (a = 1 ↔ (uZs (c 0) = 1 ∨ uZs (c 0) = 2)) → fX5_fitsLetter_J23 st (nI i) (nI (c 0)) (nI a) = some (b01 (tL c i)) := by
    intro a ha hh
    unfold fX5_fitsLetter_J23
    rw [l0, l1, l2]
    by_cases i0 : i = 0
    · subst i0
      rw [if_pos rfl]
      show _ = some (b01 (Nat.blt (uZs (c 0)) 4))
      by_cases ea : a = 1
      · rw [ea, if_neg (by decide)]
        have := hh.mp ea
        rw [Nat.blt_eq.mpr (show uZs (c 0) < 4 by omega)]
        rfl
      · rw [show a = 0 by omega, if_pos rfl]
        by_cases e1 : uZs (c 0) = 0
        · rw [if_pos (hS.2.2.1.mpr e1), e1]; rfl
        · rw [if_neg (fun q => e1 (hS.2.2.1.mp q))]
          by_cases e2 : uZs (c 0) = 3
          · rw [if_pos (hS.2.2.2.mpr e2), e2]; rfl
          · rw [if_neg (fun q => e2 (hS.2.2.2.mp q)), show uZs (c 0) = 4 by have := uZs_le (c 0); omega]; rfl
    · rw [if_neg (show ¬ nI i = nI 0 from fun q => i0 (nI_inj (n_lt31 (by omega)) (by decide) q))]
      by_cases i1 : i = 1
      · subst i1
        rw [if_pos (show nI 1 = nI 1 from rfl), show fX5_isDigit st (nI 1) (nI 0) 5 = b01 (tB (c 1)) from h.isB (j := 1) hi, show fX5_isDigit st (nI 1) (nI 1) 9 = b01 (tC (c 1)) from h.isC (j := 1) hi]
        show _ = some (b01 (if uZs (c 0) = 1 ∨ uZs (c 0) = 2 then tC (c 1) else tB (c 1)))
        by_cases ea : a = 1
        · rw [if_pos (hh.mp ea), ea, if_neg (show ¬ nI 1 = nI 0 by decide), if_neg (fun q => q (b01_c (tC (c 1))))]
        · rw [if_neg (fun q => ea (hh.mpr q)), show a = 0 by omega, if_pos (show nI 0 = nI 0 from rfl), if_neg (fun q => q (b01_c (tB (c 1))))]
      · rw [if_neg (show ¬ nI i = nI 1 from fun q => i1 (nI_inj (n_lt31 (by omega)) (by decide) q))]
        by_cases i2 : i = 2
        · subst i2
          rw [if_pos (show nI 2 = nI 2 from rfl), show fX5_isDigit st (nI 2) (nI 0) 5 = b01 (tB (c 2)) from h.isB (j := 2) hi, h.code hi, h.code (show 1 < m by omega)]
          show _ = some (b01 (if uZs (c 0) = 0 then false else tB (c 2) && (if uZs (c 0) = 1 ∨ uZs (c 0) = 2 then true else !(c 2 == c 1))))
          by_cases e1 : uZs (c 0) = 0
          · rw [if_pos (hS.2.2.1.mpr e1), if_pos e1]; rfl
          · rw [if_neg (fun q => e1 (hS.2.2.1.mp q)), if_neg e1]
            cases hb : tB (c 2) with
            | false => rw [if_pos (show b01 false = nI 0 from rfl)]; rfl
            | true =>
              rw [if_neg (show ¬ b01 true = nI 0 by decide), Bool.true_and]
              by_cases ea : a = 1
              · rw [if_pos (hh.mp ea), ea, if_neg (show ¬ nI 1 = nI 0 by decide)]; rfl
              · rw [if_neg (fun q => ea (hh.mpr q)), show a = 0 by omega, if_pos (show nI 0 = nI 0 from rfl)]
                by_cases e : c 2 = c 1
                · rw [if_pos (by rw [e]), e, beq_self_eq_true]; rfl
                · have := (h.2.2 1 (by omega)).1
                  have := (h.2.2 2 hi).1
                  rw [if_neg (show ¬ nI (c 2) = nI (c 1) from fun q => e (nI_inj (n_lt31 (by omega)) (n_lt31 (by omega)) q)), beq_eq_false_iff_ne.mpr e]; rfl
        · rw [if_neg (show ¬ nI i = nI 2 from fun q => i2 (nI_inj (n_lt31 (by omega)) (by decide) q))]
          unfold tL
          rw [if_neg i0, if_neg i1, if_neg i2]
          rfl
  by_cases e1 : uZs (c 0) = 1
  · rw [if_pos (hS.1.mpr e1)]
    exact fin 1 (by decide) ⟨fun _ => Or.inl e1, fun _ => rfl⟩
  · rw [if_neg (fun q => e1 (hS.1.mp q))]
    by_cases e2 : uZs (c 0) = 2
    · rw [if_pos (hS.2.1.mpr e2)]
      exact fin 1 (by decide) ⟨fun _ => Or.inr e2, fun _ => rfl⟩
    · rw [if_neg (fun q => e2 (hS.2.1.mp q))]
      exact fin 0 (by decide) ⟨fun q => absurd q (by decide), fun q => by omega⟩
theorem x_firstNoLetter (h : pgX m c st) : kZ (fX5_firstNoLetter st) (fun z => ∃ P, Fst (tL c) m P ∧ z = nI P) := by
  have hm := h.1
  unfold fX5_firstNoLetter
  rw [h.2.1]
  have key : ∀ d F i, i + d = m → d + 1 ≤ F → (∀ j, j < i → tL c j = true) → kZ (fX5_firstNoLetter_L2 (fun _ => some (nI m)) st F (nI i)) (fun z => ∃ P, Fst (tL c) m P ∧ z = nI P) := by
    intro d
    induction d with
    | zero =>
      intro F i hi hF hj
      obtain ⟨F, rfl⟩ : ∃ F', F = F' + 1 := ⟨F - 1, by omega⟩
      show kZ (fX5_firstNoLetter_L2_B _ _ st (nI i)) _
      unfold fX5_firstNoLetter_L2_B
      rw [h.2.1]
      exact kZ.ifp (nI_le (by omega) (n_lt31 (by omega))) (kZ.ret ⟨m, ⟨by omega, fun j hj' => hj j (by omega), by omega⟩, rfl⟩)
    | succ d ih =>
      intro F i hi hF hj
      obtain ⟨F, rfl⟩ : ∃ F', F = F' + 1 := ⟨F - 1, by omega⟩
      show kZ (fX5_firstNoLetter_L2_B _ _ st (nI i)) _
      unfold fX5_firstNoLetter_L2_B
      rw [h.2.1]
      refine kZ.ifn (nI_ge (by omega) (n_lt31 (by omega))) ?_
      rw [h.fitsL (by omega)]
      simp only [Option.bind_some]
      cases hb : tL c i with
      | false => exact kZ.ifp rfl (kZ.ret ⟨i, ⟨by omega, hj, fun _ => hb⟩, rfl⟩)
      | true =>
        refine kZ.ifn (by decide) ?_
        rw [show nI i + 1 = nI (i + 1) from nI_1 i]
        refine ih F (i + 1) (by omega) (by omega) (fun j hj' => ?_)
        rcases Nat.lt_or_ge j i with r | r
        · exact hj j r
        · rw [show j = i by omega, hb]
  exact key m kFU 0 (by omega) (by show _ ≤ 60000; omega) (fun j hj => absurd hj (Nat.not_lt_zero j))
def tLW (m P s : Nat) : Bool := decide (P = m ∧ m = if s = 0 then 2 else 3)
theorem x_isLetter (h : pgX m c st) : kZ (fX5_isLetter st) (fun z => ∃ P, Fst (tL c) m P ∧ z = b01 (tLW m P (uZs (c 0)))) := by
  have hm := h.1
  have fin : ∀ a : Nat, a < 4 → ((a = if uZs (c 0) = 0 then 2 else 3) ∨ m = 0 ∧ 0 < a) → kZ (fX5_isLetter_J19 st (nI a) (nI m)) (fun z => ∃ P, Fst (tL c) m P ∧ z = b01 (tLW m P (uZs (c 0)))) := by
    intro a ha hh
    unfold fX5_isLetter_J19
    obtain ⟨z, hz, P, hP, rfl⟩ := x_firstNoLetter h
    have hPm := hP.1
    unfold tLW
    by_cases e : m = a
    · refine kZ.ifp (by rw [e]) ?_
      rw [hz, h.2.1]
      simp only [Option.bind_some]
      by_cases e2 : P = m
      · exact kZ.ifp (by rw [e2]) (kZ.ret ⟨P, hP, (b01_d ⟨e2, by omega⟩).symm⟩)
      · exact kZ.ifn (fun q => e2 (nI_inj (n_lt31 (by omega)) (n_lt31 (by omega)) q)) (kZ.ret ⟨P, hP, (b01_nd (fun q => e2 q.1)).symm⟩)
    · refine kZ.ifn (fun q => e (nI_inj (n_lt31 (by omega)) (n_lt31 (by omega)) q)) (kZ.ret ⟨P, hP, (b01_nd (fun q => ?_)).symm⟩)
      rcases hh with q1 | q1
      · omega
      · have q2 := q.2
        split at q2 <;> omega
  unfold fX5_isLetter
  rw [h.2.1, l2, l3]
  rcases Nat.lt_or_ge 0 m with q | q
  · rw [show (fX5_code st 0) = nI (c 0) from h.code (j := 0) q]
    have hS := x_S _ (h.2.2 0 q).1
    by_cases e : uZs (c 0) = 0
    · exact kZ.ifp (hS.2.2.1.mpr e) (fin 2 (by decide) (Or.inl (by rw [if_pos e])))
    · exact kZ.ifn (fun w => e (hS.2.2.1.mp w)) (fin 3 (by decide) (Or.inl (by rw [if_neg e])))
  · exact kZ.ite (fun _ => fin 2 (by decide) (Or.inr ⟨by omega, by decide⟩)) (fun _ => fin 3 (by decide) (Or.inr ⟨by omega, by decide⟩))
end LX
