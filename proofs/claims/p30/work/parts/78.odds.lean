/-! odds: the pure walk of one who is drawn along, and the class's count -/
def uPa (n : Nat) (κ : Nat → Nat) (q d : Nat) : Nat := if uBar n κ d then q else if q = d then uN n d else if q = uN n d then d else q
def eQ (n : Nat) (κ : Nat → Nat) (f : Nat → Nat) (q j : Nat) : Nat → Nat := fun d => if uPa n κ q d = j then f q else 0
def eT (n : Nat) (κ : Nat → Nat) (f : Nat → Nat) (j : Nat) : Nat := uRow (fun q => uRow (eQ n κ f q j) n 0) n 0
def eP (n : Nat) (κ : Nat → Nat) (p : Nat) : Nat → Nat → Nat
  | 0, j => if j = p then 1 else 0
  | t + 1, j => eT n κ (eP n κ p t) j
theorem uPa_lt {n q d : Nat} {κ : Nat → Nat} (hn : uHn n) (hq : q < n) (hd : d < n) : uPa n κ q d < n := by
  have := uN_lt hn hd
  unfold uPa
  repeat' split
  all_goals omega
theorem uPa_inj {n q q' d : Nat} {κ : Nat → Nat} (hn : uHn n) (hd : d < n) (e : uPa n κ q d = uPa n κ q' d) : q = q' := by
  have := uN_ne hn hd
  unfold uPa at e
  cases hb : uBar n κ d with
  | true => rw [hb, if_pos rfl, if_pos rfl] at e; exact e
  | false =>
    rw [hb, if_neg (show ¬ (false : Bool) = true by decide), if_neg (show ¬ (false : Bool) = true by decide)] at e
    repeat' split at e
    all_goals omega
theorem uRow_add {h g : Nat → Nat} {n : Nat} : ∀ d j, j + d = n → uRow (fun i => h i + g i) n j = uRow h n j + uRow g n j := by
  intro d
  induction d with
  | zero => intro j hj; rw [uRow_e (by omega), uRow_e (by omega), uRow_e (by omega)]
  | succ d ih =>
    intro j hj
    rw [uRow_s (h := fun i => h i + g i) (by omega), uRow_s (h := h) (by omega), uRow_s (h := g) (by omega), ih (j + 1) (by omega)]
    omega
theorem uRow_zero {n : Nat} : ∀ d j, j + d = n → uRow (fun _ => 0) n j = 0 := by
  intro d
  induction d with
  | zero => intro j hj; rw [uRow_e (by omega)]
  | succ d ih => intro j hj; rw [uRow_s (by omega), ih (j + 1) (by omega)]
theorem uRow_swap {g : Nat → Nat → Nat} {n : Nat} : ∀ d j, j + d = n → uRow (fun q => uRow (fun e => g q e) n 0) n j = uRow (fun e => uRow (fun q => g q e) n j) n 0 := by
  intro d
  induction d with
  | zero =>
    intro j hj
    rw [uRow_e (by omega), uRow_cong2 (h := fun e => uRow (fun q => g q e) n j) (g := fun _ => 0) n 0 (by omega) (fun i _ _ => uRow_e (by omega)), uRow_zero n 0 (by omega)]
  | succ d ih =>
    intro j hj
    rw [uRow_s (by omega), ih (j + 1) (by omega), ← uRow_add n 0 (by omega)]
    exact uRow_cong2 n 0 (by omega) (fun i _ _ => (uRow_s (h := fun q => g q i) (show j < n by omega)).symm)
theorem eQ_one {n d j B : Nat} {κ : Nat → Nat} {f : Nat → Nat} (hn : uHn n) (hd : d < n) (hf : ∀ q, f q ≤ B) : ∀ e i, i + e = n → uRow (fun q => eQ n κ f q j d) n i ≤ B := by
  intro e
  induction e with
  | zero => intro i hi; rw [uRow_e (by omega)]; omega
  | succ e ih =>
    intro i hi
    rw [uRow_s (by omega)]
    by_cases q : uPa n κ i d = j
    · have z : uRow (fun q => eQ n κ f q j d) n (i + 1) = 0 := by
        rw [uRow_cong2 (g := fun _ => 0) e (i + 1) (by omega) (fun q' h1 h2 => ?_), uRow_zero e (i + 1) (by omega)]
        show (if uPa n κ q' d = j then f q' else 0) = 0
        rw [if_neg (fun w => by
          have := uPa_inj hn hd (q.trans w.symm)
          omega)]
      rw [z]
      show (if uPa n κ i d = j then f i else 0) + 0 ≤ B
      rw [if_pos q]
      exact hf i
    · show (if uPa n κ i d = j then f i else 0) + _ ≤ B
      rw [if_neg q, Nat.zero_add]
      exact ih (i + 1) (by omega)
theorem eT_le {n B : Nat} {κ : Nat → Nat} {f : Nat → Nat} (hn : uHn n) (hf : ∀ q, f q ≤ B) (j : Nat) : eT n κ f j ≤ n * B := by
  unfold eT
  have e : uRow (fun q => uRow (eQ n κ f q j) n 0) n 0 = uRow (fun d => uRow (fun q => eQ n κ f q j d) n 0) n 0 := uRow_swap (g := fun q d => eQ n κ f q j d) n 0 (by omega)
  rw [e]
  have h2 : uRow (fun d => if d < n then uRow (fun q => eQ n κ f q j d) n 0 else 0) n 0 ≤ n * B := uRow_le (fun d => by
    by_cases q : d < n
    · rw [if_pos q]; exact eQ_one hn q hf n 0 (by omega)
    · rw [if_neg q]; omega) n 0 (by omega)
  rw [uRow_cong2 (g := fun d => if d < n then uRow (fun q => eQ n κ f q j d) n 0 else 0) n 0 (by omega) (fun i _ hi => (if_pos hi).symm)]
  exact h2
theorem eP_le {n p : Nat} {κ : Nat → Nat} (hn : uHn n) : ∀ t j, eP n κ p t j ≤ n ^ t
  | 0, j => by
    show (if j = p then 1 else 0) ≤ n ^ 0
    rw [Nat.pow_zero]
    split <;> omega
  | t + 1, j => by
    rw [Nat.pow_succ, Nat.mul_comm]
    exact eT_le hn (eP_le hn t) j
section OX
variable {n : Nat} {κ : Nat → Nat} {φ : Nat → Nat → Bool} {st : kS} {Q : Int32 × kS → Prop}
theorem xR.placeAfter (h : xR n κ φ st) {q d : Nat} (hq : q < n) (hd : d < n) : fX7_placeAfter st (nI q) (nI d) = nI (uPa n κ q d) := by
  have hn := h.1
  have h2 := uN_lt hn hd
  unfold fX7_placeAfter uPa
  rw [h.barred hd, h.next hd]
  cases hb : uBar n κ d with
  | true => rw [if_neg (show ¬ b01 true = 0 by decide), if_pos rfl]
  | false =>
    rw [if_pos (show b01 false = 0 from rfl), if_neg (show ¬ (false : Bool) = true by decide)]
    by_cases e : q = d
    · rw [if_pos (by rw [e]), if_pos e]
    · rw [if_neg (fun w => e (nI_inj (hn.lp hq) (hn.lp hd) w)), if_neg e]
      by_cases e2 : q = uN n d
      · rw [if_pos (by rw [e2]), if_pos e2]
      · rw [if_neg (fun w => e2 (nI_inj (hn.lp hq) (hn.lp h2) w)), if_neg e2]
theorem x_odds52 {K : Int32 → kS → Option (Int32 × kS)} {v2 v3 v4 : Int32} {f s0 : Nat → Nat} {q : Nat} (h : xR n κ φ st) (hq : q < n) (hf : gA st 29 q = nI (f q)) (h30 : ∀ j, j < n → gA st 30 j = nI (s0 j)) (hK : ∀ v s, kSame [] [] [30] [] st s → (∀ j, j < n → gA s 30 j = nI (s0 j + uRow (eQ n κ f q j) n 0)) → kZ (K v s) Q) : kZ (fX7_rolls_L52 K v2 v3 v4 (nI q) kFU 0 st) Q := by
  have hn := h.1
  have hn6 := hn.2
  refine kfor (σ := kS) (fun F i s => fX7_rolls_L52 K v2 v3 v4 (nI q) F i s) (fun i s => kSame [] [] [30] [] st s ∧ ∃ w : Nat → Nat, (∀ j, j < n → gA s 30 j = nI (w j)) ∧ ∀ j, j < n → w j + uRow (eQ n κ f q j) n i = s0 j + uRow (eQ n κ f q j) n 0) n ?_ ?_ kFU 0 st (Nat.zero_le _) (kFU_lt0 (by omega)) ⟨kSame.rf, s0, h30, fun _ _ => rfl⟩
  · rintro F s ⟨hs, w, hw, he⟩
    show kZ (fX7_rolls_L52_B _ _ s v2 v3 v4 (nI q) (nI n)) _
    unfold fX7_rolls_L52_B
    rw [hs.1 3 (by decide), h.2.1]
    refine kZ.ifp (nI_le (Nat.le_refl n) hn.lt) (hK _ s hs (fun j hj => ?_))
    rw [hw j hj, ← he j hj, uRow_e (Nat.le_refl n), Nat.add_zero]
  · rintro F d s hd ⟨hs, w, hw, he⟩ next
    show kZ (fX7_rolls_L52_B _ _ s v2 v3 v4 (nI q) (nI d)) _
    unfold fX7_rolls_L52_B
    have hx := h.same hs (by decide)
    have hp := uPa_lt (κ := κ) hn hq hd
    rw [hx.2.1]
    refine kZ.ifn (nI_ge hd hn.lt) ?_
    rw [hx.placeAfter hq hd, kg_n _ (by omega) (by decide), hs.2.2.1 29 (by decide), hf, show nI d + 1 = nI (d + 1) from nI_1 d]
    unfold fX7_add
    rw [kg_n _ (by omega) (by decide), kp_n _ _ (by omega) (by decide), hw _ hp, nI_add]
    refine next _ ⟨hs.sA (by decide) _, fun j => if j = uPa n κ q d then w j + f q else w j, fun j hj => ?_, fun j hj => ?_⟩
    · rw [gA_e]
      dsimp only
      by_cases e : j = uPa n κ q d
      · rw [e, upd_e, if_pos rfl]
      · rw [upd_n e, if_neg e]; exact hw j hj
    · have := he j hj
      dsimp only
      rw [uRow_s hd] at this
      have e1 : eQ n κ f q j d = if uPa n κ q d = j then f q else 0 := rfl
      rw [e1] at this
      by_cases e : j = uPa n κ q d
      · rw [if_pos e]; rw [if_pos e.symm] at this; omega
      · rw [if_neg e]; rw [if_neg (fun z => e z.symm)] at this; omega
theorem x_odds37 {K : Int32 → kS → Option (Int32 × kS)} {v2 v3 v4 : Int32} {f : Nat → Nat} (h : xR n κ φ st) (hf : ∀ j, j < n → gA st 29 j = nI (f j)) (h30 : ∀ j, j < n → gA st 30 j = nI 0) (hK : ∀ v s, kSame [] [] [30] [] st s → (∀ j, j < n → gA s 30 j = nI (eT n κ f j)) → kZ (K v s) Q) : kZ (fX7_rolls_L37 K v2 v3 v4 kFU 0 st) Q := by
  have hn := h.1
  have hn6 := hn.2
  refine kfor (σ := kS) (fun F i s => fX7_rolls_L37 K v2 v3 v4 F i s) (fun i s => kSame [] [] [30] [] st s ∧ ∃ w : Nat → Nat, (∀ j, j < n → gA s 30 j = nI (w j)) ∧ ∀ j, j < n → w j + uRow (fun q => uRow (eQ n κ f q j) n 0) n i = eT n κ f j) n ?_ ?_ kFU 0 st (Nat.zero_le _) (kFU_lt0 (by omega)) ⟨kSame.rf, fun _ => 0, h30, fun _ _ => Nat.zero_add _⟩
  · rintro F s ⟨hs, w, hw, he⟩
    show kZ (fX7_rolls_L37_B _ _ s v2 v3 v4 (nI n)) _
    unfold fX7_rolls_L37_B
    rw [hs.1 3 (by decide), h.2.1]
    refine kZ.ifp (nI_le (Nat.le_refl n) hn.lt) (hK _ s hs (fun j hj => ?_))
    rw [hw j hj, ← he j hj, uRow_e (Nat.le_refl n), Nat.add_zero]
  · rintro F q s hq ⟨hs, w, hw, he⟩ next
    show kZ (fX7_rolls_L37_B _ _ s v2 v3 v4 (nI q)) _
    unfold fX7_rolls_L37_B
    have hx := h.same hs (by decide)
    rw [hx.2.1]
    refine kZ.ifn (nI_ge hq hn.lt) ?_
    refine x_odds52 hx hq (by rw [hs.2.2.1 29 (by decide)]; exact hf q hq) hw (fun v s2 hs2 h2 => ?_)
    rw [show nI q + 1 = nI (q + 1) from nI_1 q]
    refine next _ ⟨hs.trans hs2, _, h2, fun j hj => ?_⟩
    have := he j hj
    rw [uRow_s hq] at this
    omega
theorem x_odds100 {K : Int32 → kS → Option (Int32 × kS)} {v2 v3 v4 : Int32} {g : Nat → Nat} (h : xR n κ φ st) (hg : ∀ j, j < n → gA st 30 j = nI (g j)) (hK : ∀ v s, kSame [] [] [29] [] st s → (∀ j, j < n → gA s 29 j = nI (g j)) → kZ (K v s) Q) : kZ (fX7_rolls_L100 K v2 v3 v4 kFU 0 st) Q := by
  have hn := h.1
  have hn6 := hn.2
  refine kfor (σ := kS) (fun F i s => fX7_rolls_L100 K v2 v3 v4 F i s) (fun i s => kSame [] [] [29] [] st s ∧ ∀ j, j < i → gA s 29 j = nI (g j)) n ?_ ?_ kFU 0 st (Nat.zero_le _) (kFU_lt0 (by omega)) ⟨kSame.rf, fun j hj => absurd hj (Nat.not_lt_zero j)⟩
  · rintro F s ⟨hs, hw⟩
    show kZ (fX7_rolls_L100_B _ _ s v2 v3 v4 (nI n)) _
    unfold fX7_rolls_L100_B
    rw [hs.1 3 (by decide), h.2.1]
    exact kZ.ifp (nI_le (Nat.le_refl n) hn.lt) (hK _ s hs hw)
  · rintro F q s hq ⟨hs, hw⟩ next
    show kZ (fX7_rolls_L100_B _ _ s v2 v3 v4 (nI q)) _
    unfold fX7_rolls_L100_B
    rw [hs.1 3 (by decide), h.2.1]
    refine kZ.ifn (nI_ge hq hn.lt) ?_
    rw [kg_n _ (by omega) (by decide), kp_n _ _ (by omega) (by decide), hs.2.2.1 30 (by decide), hg q hq, show nI q + 1 = nI (q + 1) from nI_1 q]
    refine next _ ⟨hs.sA (by decide) _, fun j hj => ?_⟩
    rw [gA_e]
    by_cases e : j = q
    · rw [e, upd_e]
    · rw [upd_n e]; exact hw j (by omega)
theorem x_oddsRolls {p w t : Nat} (h : xR n κ φ st) (hp : p < n) (hw : w < n) (ht : t ≤ 8) : kZ (fX7_rolls st (nI p) (nI w) (nI t)) (fun z => z.1 = nI (eP n κ p t w) ∧ kSame [] [] [29, 30] [] st z.2) := by
  have hn := h.1
  have hn6 := hn.2
  unfold fX7_rolls
  rw [kp_n _ _ (show p < 6 by omega) (by decide)]
  refine kfor (σ := kS) (fun F i s => fX7_rolls_L20 _ (nI w) (nI t) F i s) (fun i s => kSame [] [] [29, 30] [] st s ∧ ∀ j, j < n → gA s 29 j = nI (eP n κ p i j)) t ?_ ?_ kFU 0 _ (Nat.zero_le _) (kFU_lt0 (by omega)) ⟨(kSame.rf.sA (by decide) _).sA (by decide) _, fun j hj => ?_⟩
  · rintro F s ⟨hs, hj⟩
    show kZ (fX7_rolls_L20_B _ _ s (nI w) (nI t) (nI t)) _
    unfold fX7_rolls_L20_B
    refine kZ.ifp (nI_le (Nat.le_refl t) (n_lt31 (by omega))) (kZ.ret ⟨?_, hs⟩)
    show kg 6 (gA s 29) (nI w) = _
    rw [kg_n _ (by omega) (by decide)]
    exact hj w hw
  · rintro F i s hi ⟨hs, hj⟩ next
    show kZ (fX7_rolls_L20_B _ _ s (nI w) (nI t) (nI i)) _
    unfold fX7_rolls_L20_B
    refine kZ.ifn (nI_ge hi (n_lt31 (by omega))) ?_
    have hs1 : kSame [] [] [29, 30] [] st (sA s 30 (kfill 6 (gA s 30) 0)) := hs.sA (by decide) _
    refine x_odds37 (f := eP n κ p i) (h.same hs1 (by decide)) (fun j hj' => ?_) (fun j hj' => ?_) (fun v s2 hs2 h2 => ?_)
    · rw [gA_n (by decide)]; exact hj j hj'
    · rw [gA_e]
      unfold kfill
      rw [if_pos (by omega)]
      rfl
    · have hs12 : kSame [] [] [29, 30] [] st s2 := hs1.trans (hs2.sub (by decide) (by decide) (by decide) (by decide))
      refine x_odds100 (h.same hs12 (by decide)) h2 (fun v s3 hs3 h3 => ?_)
      rw [show nI i + 1 = nI (i + 1) from nI_1 i]
      exact next _ ⟨hs12.trans (hs3.sub (by decide) (by decide) (by decide) (by decide)), h3⟩
  · show gA (sA (sA st 29 _) 29 _) 29 j = nI (if j = p then 1 else 0)
    rw [gA_e]
    by_cases e : j = p
    · rw [e, upd_e, if_pos rfl]; rfl
    · rw [upd_n e, if_neg e]
      unfold kfill
      rw [if_pos (by omega)]
      rfl
end OX
