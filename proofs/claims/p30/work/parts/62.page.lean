/-! THE PAGE: what is a ring, a letter (the class) -/
def pgX (m : Nat) (c : Nat → Nat) (st : kS) : Prop := m ≤ 26 ∧ gI st 2 = nI m ∧ ∀ j, j < m → c j < 127 ∧ gA st 10 j = nI (c j)
def pgM (m : Nat) (c : Nat → Nat) (st : kS) : Prop := m ≤ 26 ∧ gI st 4 = nI m ∧ ∀ j, j < m → c j < 127 ∧ gA st 6 j = nI (c j)
theorem pgX.same {m : Nat} {c : Nat → Nat} {I J A L : List Nat} {s t : kS} (h : pgX m c s) (hs : kSame I J A L s t) (d : 2 ∉ I ∧ 10 ∉ A) : pgX m c t :=
  ⟨h.1, (hs.1 2 d.1).trans h.2.1, fun j hj => ⟨(h.2.2 j hj).1, by rw [hs.2.2.1 10 d.2]; exact (h.2.2 j hj).2⟩⟩
def Fst (ok : Nat → Bool) (m P : Nat) : Prop := P ≤ m ∧ (∀ i, i < P → ok i = true) ∧ (P < m → ok P = false)
theorem Fst.uniq {ok : Nat → Bool} {m P P' : Nat} (h : Fst ok m P) (h' : Fst ok m P') : P = P' := by
  obtain ⟨a1, a2, a3⟩ := h
  obtain ⟨b1, b2, b3⟩ := h'
  rcases Nat.lt_trichotomy P P' with q | q | q
  · have := b2 P q
    rw [a3 (by omega)] at this
    cases this
  · exact q
  · have := a2 P' q
    rw [b3 (by omega)] at this
    cases this
def tK (x : Nat) : Nat := if x = 101 then 2 else if x = 102 then 1 else if x = 104 then 0 else if x = 119 then 3 else 4
theorem tK_x : ∀ x, x < 127 → fX5_kindTold (nI x) = if tK x = 4 then -1 else nI (tK x) := by decide +kernel
theorem tK_le (x : Nat) : tK x < 4 ∨ tK x = 4 := by
  unfold tK
  split <;> (try split) <;> (try split) <;> (try split) <;> omega
theorem tK_n : ∀ k, k < 4 → ¬ nI k = -1 := by decide
def tH (c : Nat → Nat) (i : Nat) : Bool := Nat.blt i 6 && Nat.blt (tK (c i)) 4
def tDg (H x : Nat) : Bool := Nat.ble 48 x && Nat.blt x (48 + H)
def tR (c : Nat → Nat) (H i : Nat) : Bool := if i = H then Nat.ble 3 H && c H == 59 else Nat.blt (i - H - 1) 17 && (if (i - H - 1) % 3 = 0 then tDg H (c i) else if (i - H - 1) % 3 = 1 then tDg H (c i) && !(c i == c (i - 1)) else c i == 44)
def tO (c : Nat → Nat) (H i : Nat) : Bool := if i < H then true else tR c H i
theorem tH_le {c : Nat → Nat} {m H : Nat} (h : Fst (tH c) m H) : H ≤ 6 := by
  rcases Nat.lt_or_ge 6 H with q | q
  · have := h.2.1 6 q
    cases (show false = true by rw [← this]; rfl)
  · exact q
section PX
variable {m : Nat} {c : Nat → Nat} {st : kS}
theorem pgX.code (h : pgX m c st) {j : Nat} (hj : j < m) : fX5_code st (nI j) = nI (c j) := by
  unfold fX5_code
  rw [kg_n _ (by have := h.1; omega) (by decide), (h.2.2 j hj).2]
theorem x_isD : ∀ x, x < 127 → ∀ H, H < 7 → (if nI x - 48 < 0 then (0 : Int32) else if nI H - 1 < nI x - 48 then 0 else 1) = b01 (tDg H x) := by decide +kernel
theorem pgX.isD (h : pgX m c st) {j H : Nat} (hj : j < m) (hH : H < 7) : fX5_isDigit st (nI j) 0 (nI H - 1) = b01 (tDg H (c j)) := by
  unfold fX5_isDigit fX5_digit
  rw [kg_n _ (by have := h.1; omega) (by decide), (h.2.2 j hj).2]
  exact x_isD _ (h.2.2 j hj).1 H hH
theorem x_housesTold (h : pgX m c st) : kZ (fX5_housesTold st) (fun z => ∃ H, Fst (tH c) m H ∧ z = nI H) := by
  have hm := h.1
  unfold fX5_housesTold
  have key : ∀ d F i, i + d = m → d + 1 ≤ F → (∀ j, j < i → tH c j = true) → kZ (fX5_housesTold_L2 (fun v1 => some v1) st F (nI i)) (fun z => ∃ H, Fst (tH c) m H ∧ z = nI H) := by
    intro d
    induction d with
    | zero =>
      intro F i hi hF hj
      obtain ⟨F, rfl⟩ : ∃ F', F = F' + 1 := ⟨F - 1, by omega⟩
      show kZ (fX5_housesTold_L2_B _ _ st (nI i)) _
      unfold fX5_housesTold_L2_B
      rw [h.2.1]
      exact kZ.ifp (nI_le (by omega) (n_lt31 (by omega))) (kZ.ret ⟨i, ⟨by omega, hj, by omega⟩, rfl⟩)
    | succ d ih =>
      intro F i hi hF hj
      obtain ⟨F, rfl⟩ : ∃ F', F = F' + 1 := ⟨F - 1, by omega⟩
      show kZ (fX5_housesTold_L2_B _ _ st (nI i)) _
      unfold fX5_housesTold_L2_B
      rw [h.2.1]
      refine kZ.ifn (nI_ge (by omega) (n_lt31 (by omega))) ?_
      rw [l6]
      rcases Nat.lt_or_ge i 6 with q | q
      · refine kZ.ifn (nI_ge q (by decide)) ?_
        rw [h.code (by omega), tK_x _ (h.2.2 i (by omega)).1]
        rcases tK_le (c i) with e | e
        · rw [show (if tK (c i) = 4 then (-1 : Int32) else nI (tK (c i))) = nI (tK (c i)) from if_neg (by omega)]
          refine kZ.ifn (tK_n _ e) ?_
          rw [show nI i + 1 = nI (i + 1) from nI_1 i]
          refine ih F (i + 1) (by omega) (by omega) (fun j hj' => ?_)
          rcases Nat.lt_or_ge j i with r | r
          · exact hj j r
          · rw [show j = i by omega]
            unfold tH
            rw [Nat.blt_eq.mpr q, Nat.blt_eq.mpr e]
            rfl
        · rw [if_pos e]
          refine kZ.ifp rfl (kZ.ret ⟨i, ⟨by omega, hj, fun _ => ?_⟩, rfl⟩)
          unfold tH
          rw [e, Bool.and_eq_false_iff]
          exact Or.inr rfl
      · refine kZ.ifp (nI_le q (n_lt31 (by omega))) (kZ.ret ⟨i, ⟨by omega, hj, fun _ => ?_⟩, rfl⟩)
        unfold tH
        rw [Bool.and_eq_false_iff]
        exact Or.inl (by cases hb : Nat.blt i 6; rfl; have := Nat.blt_eq.mp hb; omega)
  exact key m kFU 0 (by omega) (by show m + 1 ≤ 60000; omega) (fun j hj => absurd hj (Nat.not_lt_zero j))
theorem sub_48 {x y : Int32} : x - 48 = y - 48 ↔ x = y := by
  constructor
  · intro h
    have := congrArg (fun z => z + 48) h
    simpa [Int32.sub_add_cancel] using this
  · intro h; rw [h]
theorem pgX.fits (h : pgX m c st) {i H : Nat} (hH : H < 7) (hi : i < m) (hHi : H < i) : fX5_fitsFeuds st (nI i) (nI H) = some (b01 (tR c H i)) := by
  have hm := h.1
  unfold fX5_fitsFeuds tR
  have e1 : (nI i - nI H) - 1 = nI (i - H - 1) := by rw [pk_sub (by omega), l1, pk_sub (by omega)]
  rw [e1, if_neg (show ¬ i = H by omega), h.isD hi hH, h.code hi, show nI i - 1 = nI (i - 1) from (by rw [l1, pk_sub (by omega)]), h.code (show i - 1 < m by omega), show (17 : Int32) = nI 17 from rfl, l3, kr_n (n_lt31 (by omega)) (by omega) (by decide), l0, l1, show (44 : Int32) = nI 44 from rfl]
  have hc := (h.2.2 i hi).1
  have hc1 := (h.2.2 (i - 1) (by omega)).1
  rcases Nat.lt_or_ge (i - H - 1) 17 with q | q
  · rw [if_pos (nI_lt q (by decide)), Nat.blt_eq.mpr q, Bool.true_and]
    have hr : (i - H - 1) % 3 = 0 ∨ (i - H - 1) % 3 = 1 ∨ (i - H - 1) % 3 = 2 := by omega
    rcases hr with r | r | r
    · rw [r, if_pos (show nI 0 = nI 0 from rfl), if_neg (show ¬ ¬ (b01 (tDg H (c i)) = nI 0 ∨ b01 (tDg H (c i)) = nI 1) from fun q => q (b01_c _)), if_pos (show (0 : Nat) = 0 from rfl)]
    · rw [r, if_neg (show ¬ nI 1 = nI 0 by decide), if_pos (show nI 1 = nI 1 from rfl), if_neg (show ¬ (1 : Nat) = 0 by decide), if_pos (show (1 : Nat) = 1 from rfl)]
      cases hb : tDg H (c i) with
      | false => rfl
      | true =>
        rw [if_neg (show ¬ b01 true = nI 0 by decide), Bool.true_and]
        by_cases e : c i = c (i - 1)
        · rw [e, if_pos (show nI (c (i - 1)) = nI (c (i - 1)) from rfl), beq_self_eq_true]
          rfl
        · rw [if_neg (show ¬ nI (c i) = nI (c (i - 1)) from fun q => e (nI_inj (n_lt31 (by omega)) (n_lt31 (by omega)) q)), beq_eq_false_iff_ne.mpr e]
          rfl
    · rw [r, if_neg (show ¬ nI 2 = nI 0 by decide), if_neg (show ¬ nI 2 = nI 1 by decide), if_neg (show ¬ (2 : Nat) = 0 by decide), if_neg (show ¬ (2 : Nat) = 1 by decide)]
      by_cases e : c i = 44
      · rw [e]; rfl
      · rw [if_neg (show ¬ nI (c i) = nI 44 from fun q => e (nI_inj (n_lt31 (by omega)) (by decide) q)), beq_eq_false_iff_ne.mpr e]
        rfl
  · rw [if_neg (nI_nlt q (n_lt31 (by omega)))]
    have : Nat.blt (i - H - 1) 17 = false := by cases hb : Nat.blt (i - H - 1) 17; rfl; have := Nat.blt_eq.mp hb; omega
    rw [this]
    rfl
theorem x_firstNoRing (h : pgX m c st) : kZ (fX5_firstNoRing st) (fun z => ∃ H P, Fst (tH c) m H ∧ Fst (tO c H) m P ∧ z = nI P) := by
  have hm := h.1
  unfold fX5_firstNoRing
  refine (x_housesTold h).bind (fun z hz => ?_)
  obtain ⟨H, hH, rfl⟩ := hz
  have hH6 := tH_le hH
  have hlow : ∀ j, j < H → tO c H j = true := fun j hj => by unfold tO; rw [if_pos hj]
  rw [h.2.1]
  by_cases e : H = m
  · refine kZ.ifp (by rw [e]) (kZ.ret ⟨H, m, hH, ⟨Nat.le_refl m, fun j hj => hlow j (by omega), by omega⟩, rfl⟩)
  · have hHm : H < m := by have := hH.1; omega
    refine kZ.ifn (fun q => e (nI_inj (n_lt31 (by omega)) (n_lt31 (by omega)) q)) ?_
    have hat : tO c H H = (Nat.ble 3 H && c H == 59) := by unfold tO tR; rw [if_neg (by omega), if_pos rfl]
    rw [l3]
    rcases Nat.lt_or_ge H 3 with q | q
    · refine kZ.ifp (nI_lt q (by decide)) (kZ.ret ⟨H, H, hH, ⟨by omega, hlow, fun _ => ?_⟩, rfl⟩)
      rw [hat]
      have : Nat.ble 3 H = false := by cases hb : Nat.ble 3 H; rfl; have := Nat.le_of_ble_eq_true hb; omega
      rw [this]
      rfl
    · refine kZ.ifn (nI_nlt q (n_lt31 (by omega))) ?_
      rw [h.code hHm, show (59 : Int32) = nI 59 from rfl]
      have h3 : Nat.ble 3 H = true := Nat.ble_eq.mpr q
      have hc := (h.2.2 H hHm).1
      by_cases e9 : c H = 59
      · refine kZ.ifp (by rw [e9]) ?_
        rw [show nI H + 1 = nI (H + 1) from nI_1 H]
        have key : ∀ d F i, i + d = m → H < i → d + 1 ≤ F → (∀ j, j < i → tO c H j = true) → kZ (fX5_firstNoRing_L39 (fun _ => some (nI m)) st (nI H) F (nI i)) (fun z => ∃ H P, Fst (tH c) m H ∧ Fst (tO c H) m P ∧ z = nI P) := by
          intro d
          induction d with
          | zero =>
            intro F i hi hHi hF hj
            obtain ⟨F, rfl⟩ : ∃ F', F = F' + 1 := ⟨F - 1, by omega⟩
            show kZ (fX5_firstNoRing_L39_B _ _ st (nI H) (nI i)) _
            unfold fX5_firstNoRing_L39_B
            rw [h.2.1]
            exact kZ.ifp (nI_le (by omega) (n_lt31 (by omega))) (kZ.ret ⟨H, m, hH, ⟨by omega, fun j hj' => hj j (by omega), by omega⟩, rfl⟩)
          | succ d ih =>
            intro F i hi hHi hF hj
            obtain ⟨F, rfl⟩ : ∃ F', F = F' + 1 := ⟨F - 1, by omega⟩
            show kZ (fX5_firstNoRing_L39_B _ _ st (nI H) (nI i)) _
            unfold fX5_firstNoRing_L39_B
            rw [h.2.1]
            refine kZ.ifn (nI_ge (by omega) (n_lt31 (by omega))) ?_
            rw [h.fits (by omega) (by omega) hHi]
            simp only [Option.bind_some]
            have eo : tO c H i = tR c H i := by unfold tO; rw [if_neg (by omega)]
            cases hb : tR c H i with
            | false => exact kZ.ifp rfl (kZ.ret ⟨H, i, hH, ⟨by omega, hj, fun _ => by rw [eo, hb]⟩, rfl⟩)
            | true =>
              refine kZ.ifn (by decide) ?_
              rw [show nI i + 1 = nI (i + 1) from nI_1 i]
              refine ih F (i + 1) (by omega) (by omega) (by omega) (fun j hj' => ?_)
              rcases Nat.lt_or_ge j i with r | r
              · exact hj j r
              · rw [show j = i by omega, eo, hb]
        refine key (m - (H + 1)) kFU (H + 1) (by omega) (by omega) (by show _ ≤ 60000; omega) (fun j hj => ?_)
        rcases Nat.lt_or_ge j H with r | r
        · exact hlow j r
        · rw [show j = H by omega, hat, h3, e9]
          rfl
      · refine kZ.ifn (fun q => e9 (nI_inj (n_lt31 (by omega)) (by decide) q)) (kZ.ret ⟨H, H, hH, ⟨by omega, hlow, fun _ => ?_⟩, rfl⟩)
        rw [hat, beq_eq_false_iff_ne.mpr e9, Bool.and_false]
def tW (m H P : Nat) : Bool := decide (3 ≤ H ∧ P = m ∧ (m = H ∨ (m - H - 1) % 3 = 2))
theorem b01_d {p : Prop} [Decidable p] (h : p) : b01 (decide p) = 1 := by rw [decide_eq_true h]; rfl
theorem b01_nd {p : Prop} [Decidable p] (h : ¬ p) : b01 (decide p) = 0 := by rw [decide_eq_false h]; rfl
theorem x_isRing (h : pgX m c st) : kZ (fX5_isRing st) (fun z => ∃ H P, Fst (tH c) m H ∧ Fst (tO c H) m P ∧ z = b01 (tW m H P)) := by
  have hm := h.1
  unfold fX5_isRing
  refine (x_housesTold h).bind (fun z hz => ?_)
  obtain ⟨H, hH, rfl⟩ := hz
  have hH6 := tH_le hH
  obtain ⟨z', hz', H', P, hH', hP, rfl⟩ := x_firstNoRing h
  have eH : H' = H := hH'.uniq hH
  rw [eH] at hP
  rw [l3]
  have hP6 := hP.1
  rcases Nat.lt_or_ge H 3 with q | q
  · exact kZ.ifp (nI_lt q (by decide)) (kZ.ret ⟨H, P, hH, hP, (b01_nd (by omega)).symm⟩)
  · refine kZ.ifn (nI_nlt q (n_lt31 (by omega))) ?_
    rw [hz', h.2.1]
    simp only [Option.bind_some]
    by_cases e : P = m
    · refine kZ.ifp (by rw [e]) ?_
      by_cases e2 : m = H
      · exact kZ.ifp (by rw [e2]) (kZ.ret ⟨H, P, hH, hP, (b01_d (by omega)).symm⟩)
      · refine kZ.ifn (fun q => e2 (nI_inj (n_lt31 (by omega)) (n_lt31 (by omega)) q)) ?_
        have hHm : H < m := by have := hH.1; omega
        rw [pk_sub (by omega), l1, pk_sub (by omega), kr_n (n_lt31 (by omega)) (by omega) (by decide), l2]
        by_cases e3 : (m - H - 1) % 3 = 2
        · exact kZ.ifp (by rw [e3]) (kZ.ret ⟨H, P, hH, hP, (b01_d (by omega)).symm⟩)
        · exact kZ.ifn (fun q => e3 (nI_inj (n_lt31 (by omega)) (by decide) q)) (kZ.ret ⟨H, P, hH, hP, (b01_nd (by omega)).symm⟩)
    · exact kZ.ifn (fun q => e (nI_inj (n_lt31 (by omega)) (n_lt31 (by omega)) q)) (kZ.ret ⟨H, P, hH, hP, (b01_nd (by omega)).symm⟩)
end PX
