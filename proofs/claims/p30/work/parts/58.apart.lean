/-! APART: how likely feuds stay apart, by levels -/
/-- the place of a die and a choice (0, 1, 2 for -1, 0, 1) -/
def aP (n d c : Nat) : Nat := (d + c + (n - 1)) % n
def aM (a b c : Nat) : Nat := max a (max b c)
def aS (n : Nat) (T : Nat → Nat) (S : Nat → Nat → Nat) : Nat → Nat → Nat
  | 0, k => if T k = 0 then 1 else 0
  | t + 1, k => if T k = 0 then uRow (fun d => aM (aS n T S t (S k (aP n d 0))) (aS n T S t (S k (aP n d 1))) (aS n T S t (S k (aP n d 2)))) n 0 else 0
theorem aP_lt {n d c : Nat} (hn : uHn n) : aP n d c < n := Nat.mod_lt _ (by have := hn.1; omega)
theorem uRow_le {h : Nat → Nat} {n B : Nat} (hB : ∀ j, h j ≤ B) : ∀ d j, j + d = n → uRow h n j ≤ d * B := by
  intro d
  induction d with
  | zero => intro j hj; rw [uRow_e (by omega)]; omega
  | succ d ih =>
    intro j hj
    rw [uRow_s (by omega), Nat.succ_mul]
    have := ih (j + 1) (by omega)
    have := hB j
    omega
theorem aS_le {n : Nat} {T : Nat → Nat} {S : Nat → Nat → Nat} (h0 : 0 < n) : ∀ t k, aS n T S t k ≤ n ^ t := by
  intro t
  induction t with
  | zero => intro k; unfold aS; split <;> simp
  | succ t ih =>
    intro k
    unfold aS
    split
    · have := uRow_le (h := fun d => aM (aS n T S t (S k (aP n d 0))) (aS n T S t (S k (aP n d 1))) (aS n T S t (S k (aP n d 2)))) (n := n) (B := n ^ t) (fun j => by
        unfold aM
        have h1 := ih (S k (aP n j 0))
        have h2 := ih (S k (aP n j 1))
        have h3 := ih (S k (aP n j 2))
        omega) n 0 (Nat.zero_add n)
      rw [Nat.pow_succ, Nat.mul_comm]
      exact this
    · exact Nat.zero_le _
theorem aS_small {n t k : Nat} {T : Nat → Nat} {S : Nat → Nat → Nat} (hn : uHn n) (ht : t ≤ 5) : aS n T S t k ≤ 7776 := by
  have h1 := aS_le (T := T) (S := S) (show 0 < n by have := hn.1; omega) t k
  have h2 : n ^ t ≤ 6 ^ t := Nat.pow_le_pow_left hn.2 t
  have h3 : 6 ^ t ≤ 6 ^ 5 := Nat.pow_le_pow_right (by decide) ht
  have h4 : (6 : Nat) ^ 5 = 7776 := by decide
  omega
theorem uRow_congr {h g : Nat → Nat} {n : Nat} (e : ∀ j, j < n → h j = g j) : ∀ d j, j + d = n → uRow h n j = uRow g n j := by
  intro d
  induction d with
  | zero => intro j hj; rw [uRow_e (by omega), uRow_e (by omega)]
  | succ d ih =>
    intro j hj
    rw [uRow_s (h := h) (by omega), uRow_s (h := g) (by omega), ih (j + 1) (by omega), e j (by omega)]
/-- on orders that can come the two steps give the same -/
theorem aS_same {n : Nat} {κ : Nat → Nat} {T : Nat → Nat} (hn : uHn n) : ∀ t k, k < uF n → uCompat n κ k → aS n T (mStep n κ) t k = aS n T (xStep n κ) t k := by
  intro t
  induction t with
  | zero => intro k _ _; rfl
  | succ t ih =>
    intro k hk hc
    have e : ∀ p, p < n → aS n T (mStep n κ) t (mStep n κ k p) = aS n T (xStep n κ) t (xStep n κ k p) := fun p hp => by
      rw [mStep_eq hn hk hc hp]
      exact ih _ (xStep_lt hn hk hp) (xStep_compat hn hk hc hp)
    unfold aS
    split
    · refine uRow_congr (fun j _ => ?_) n 0 (Nat.zero_add n)
      rw [e _ (aP_lt hn), e _ (aP_lt hn), e _ (aP_lt hn)]
    · rfl
/-- a die and a choice in both -/
theorem around_dec (n : Nat) (hn : uHn n) : ∀ d, d < n → ∀ c, c < 3 → kfm (nI d + (nI c - 1)) (nI n) = nI (aP n d c) ∧ kr ((nI d + (nI c - 1)) + nI n) (nI n) = nI (aP n d c) :=
  uHn.all (P := fun n => ∀ d, d < n → ∀ c, c < 3 → kfm (nI d + (nI c - 1)) (nI n) = nI (aP n d c) ∧ kr ((nI d + (nI c - 1)) + nI n) (nI n) = nI (aP n d c)) (by decide +kernel) (by decide +kernel) (by decide +kernel) (by decide +kernel) hn
theorem xR.around {n : Nat} {κ : Nat → Nat} {φ : Nat → Nat → Bool} {st : kS} (h : xR n κ φ st) {d c : Nat} (hd : d < n) (hc : c < 3) : fX8_around st (nI d + (nI c - 1)) = nI (aP n d c) := by
  unfold fX8_around
  rw [h.2.1, if_neg (nI_nle (by have := h.1.1; omega) h.1.lt)]
  exact (around_dec n h.1 d hd c hc).1
/-- THE CLASS -/
def xT (n : Nat) (κ : Nat → Nat) (φ : Nat → Nat → Bool) (t : Nat) (f : Nat → Int32) : Prop := ∀ u k, u < t → k < uF n → f (720 * u + k) = nI (aS n (uT n κ φ) (xStep n κ) u k)
theorem x_lookAhead {n k t : Nat} {κ : Nat → Nat} {φ : Nat → Nat → Bool} {st : kS} (h : xR n κ φ st) (hk : k < uF n) (ht : t < 5) (hT : xT n κ φ (t + 1) (gA st 19)) : kZ (fX2_lookAhead st (nI k) (nI (t + 1))) (fun z => kSame [] [] [20] [] st z ∧ ∀ p, p < n → gA z 20 p = nI (aS n (uT n κ φ) (xStep n κ) t (xStep n κ k p))) := by
  have hn := h.1
  have hn6 := hn.2
  have hF := uF_le hn
  unfold fX2_lookAhead
  refine kfor (σ := kS) (fun F p s => fX2_lookAhead_L2 (fun _ st_4 => some st_4) (nI k) (nI (t + 1)) F p s) (fun p s => kSame [] [] [20] [] st s ∧ ∀ q, q < p → gA s 20 q = nI (aS n (uT n κ φ) (xStep n κ) t (xStep n κ k q))) n ?_ ?_ kFU 0 st (Nat.zero_le _) (kFU_lt0 (by omega)) ⟨kSame.rf, fun q hq => absurd hq (Nat.not_lt_zero q)⟩
  · rintro F s ⟨hs, hq⟩
    show kZ (fX2_lookAhead_L2_B _ _ s _ _ (nI n)) _
    unfold fX2_lookAhead_L2_B
    have hx := h.same hs (by decide)
    rw [hx.2.1]
    exact kZ.ifp (nI_le (Nat.le_refl n) hn.lt) (kZ.ret ⟨hs, hq⟩)
  · rintro F p s hp ⟨hs, hq⟩ next
    show kZ (fX2_lookAhead_L2_B _ _ s _ _ (nI p)) _
    unfold fX2_lookAhead_L2_B
    have hx := h.same hs (by decide)
    rw [hx.2.1, hx.barred hp, hx.after hk hp]
    refine kZ.ifn (nI_ge hp hn.lt) ?_
    have fin : ∀ m, m < uF n → m = xStep n κ k p → kZ (fX2_lookAhead_J37 (fun _ st_4 => some st_4) (fX2_lookAhead_L2 (fun _ st_4 => some st_4) (nI k) (nI (t + 1)) F) s (nI k) (nI (t + 1)) (nI p) (nI m)) (fun z => kSame [] [] [20] [] st z ∧ ∀ p, p < n → gA z 20 p = nI (aS n (uT n κ φ) (xStep n κ) t (xStep n κ k p))) := by
      intro m hm e
      unfold fX2_lookAhead_J37
      rw [show nI p + 1 = nI (p + 1) from nI_1 p, nI_pred, show (720 : Int32) = nI 720 from rfl, pk_mul, nI_add, Nat.mul_comm t 720, kg_n _ (by omega) (by decide), kp_n _ _ (by omega) (by decide), hs.2.2.1 19 (by decide), hT t m (by omega) hm]
      refine next _ ⟨hs.sA (by decide) _, fun q hq' => ?_⟩
      rw [gA_e]
      by_cases e2 : q = p
      · rw [e2, upd_e, e]
      · rw [upd_n e2]
        exact hq q (by omega)
    unfold xStep at fin
    cases hb : uBar n κ p with
    | true =>
      rw [hb] at fin
      exact kZ.ifn (by decide) (fin k hk rfl)
    | false =>
      rw [hb] at fin
      exact kZ.ifp rfl (fin _ (uC_lt hn hk hp) rfl)
theorem x_leftBy {n d c : Nat} {κ : Nat → Nat} {φ : Nat → Nat → Bool} {st : kS} {l : Nat → Nat} (h : xR n κ φ st) (hl : ∀ p, p < n → gA st 20 p = nI (l p)) (hd : d < n) (hc : c < 3) : fX2_leftBy st (nI d + (nI c - 1)) = nI (l (aP n d c)) := by
  have := h.1.2
  have := aP_lt (d := d) (c := c) h.1
  unfold fX2_leftBy
  rw [h.around hd hc, kg_n _ (by omega) (by decide), hl _ (aP_lt h.1)]
theorem kmax_n {a b : Nat} (ha : a < 2 ^ 31) (hb : b < 2 ^ 31) : kmax (nI a) (nI b) = nI (max a b) := by
  unfold kmax
  by_cases q : a < b
  · rw [if_pos (nI_lt q hb), Nat.max_eq_right (Nat.le_of_lt q)]
  · rw [if_neg (nI_nlt (by omega) ha), Nat.max_eq_left (by omega)]
theorem x_rollsFor {n k t : Nat} {κ : Nat → Nat} {φ : Nat → Nat → Bool} {st : kS} (h : xR n κ φ st) (hφ : ∀ a b, φ a b = φ b a) (hk : k < uF n) (ht : t ≤ 5) (hT : xT n κ φ t (gA st 19)) : kZ (fX2_rollsFor st (nI k) (nI t)) (fun z => z.1 = nI (aS n (uT n κ φ) (xStep n κ) t k) ∧ kSame [] [] [18, 20] [] st z.2) := by
  have hn := h.1
  have hn6 := hn.2
  have hF := uF_le hn
  unfold fX2_rollsFor
  cases t with
  | zero =>
    refine kZ.ifp rfl ?_
    refine (x_unfold hn h.2.2.2.2.2.1 hk).bind (fun z hz => ?_)
    have hs : kSame [] [] [18, 20] [] st z := hz.1.sub (by decide) (by decide) (by decide) (by decide)
    have hx := h.same hs (by decide)
    rw [x_touching hx hφ ⟨hk, hz.2⟩]
    show kZ (if nI (uT n κ φ k) = 0 then _ else _) _
    have hsm : uT n κ φ k < 2 ^ 31 := by
      have : ∀ l : List (Nat × Nat), (l.map (uG κ φ)).sum ≤ l.length := by
        intro l
        induction l with
        | nil => exact Nat.le_refl _
        | cons x t ih =>
          rw [List.map_cons, List.sum_cons, List.length_cons]
          have : uG κ φ x ≤ 1 := by unfold uG; split <;> omega
          omega
      have h2 := this (uEdges n k)
      have h3 : (uEdges n k).length = n := by unfold uEdges; rw [List.length_map, List.length_range]
      exact n_lt31 (by unfold uT; omega)
    refine kZ.ite (fun e => kZ.ret ⟨?_, hs⟩) (fun e => kZ.ret ⟨?_, hs⟩)
    · have e0 : uT n κ φ k = 0 := nI_inj hsm (by decide) e
      show (1 : Int32) = nI (if uT n κ φ k = 0 then 1 else 0)
      rw [if_pos e0]
      rfl
    · have e0 : ¬ uT n κ φ k = 0 := fun q => e (by rw [q]; rfl)
      show (0 : Int32) = nI (if uT n κ φ k = 0 then 1 else 0)
      rw [if_neg e0]
      rfl
  | succ t =>
    refine kZ.ifn (nI_ne0 (Nat.succ_pos t) (n_lt31 (by omega))) ?_
    have hT0 := hT 0 k (Nat.succ_pos t) hk
    rw [Nat.mul_zero, Nat.zero_add] at hT0
    rw [kg_n _ (by omega) (by decide), hT0]
    by_cases e0 : uT n κ φ k = 0
    · have a0 : aS n (uT n κ φ) (xStep n κ) 0 k = 1 := if_pos e0
      rw [a0]
      refine kZ.ifn (by decide) ?_
      refine (x_lookAhead h hk (by omega) hT).bind (fun z hz => ?_)
      have hs : kSame [] [] [18, 20] [] st z := hz.1.sub (by decide) (by decide) (by decide) (by decide)
      have hx := h.same hs (by decide)
      have e1 : aS n (uT n κ φ) (xStep n κ) (t + 1) k = uRow (fun d => aM (aS n (uT n κ φ) (xStep n κ) t (xStep n κ k (aP n d 0))) (aS n (uT n κ φ) (xStep n κ) t (xStep n κ k (aP n d 1))) (aS n (uT n κ φ) (xStep n κ) t (xStep n κ k (aP n d 2)))) n 0 := if_pos e0
      rw [e1]
      refine kfor (σ := Int32) (fun F i s => fX2_rollsFor_L52 (fun v3_5 _ => some (v3_5, z)) z F s i) (fun i s => ∃ v, s = nI v ∧ v + uRow (fun d => aM (aS n (uT n κ φ) (xStep n κ) t (xStep n κ k (aP n d 0))) (aS n (uT n κ φ) (xStep n κ) t (xStep n κ k (aP n d 1))) (aS n (uT n κ φ) (xStep n κ) t (xStep n κ k (aP n d 2)))) n i = uRow (fun d => aM (aS n (uT n κ φ) (xStep n κ) t (xStep n κ k (aP n d 0))) (aS n (uT n κ φ) (xStep n κ) t (xStep n κ k (aP n d 1))) (aS n (uT n κ φ) (xStep n κ) t (xStep n κ k (aP n d 2)))) n 0) n ?_ ?_ kFU 0 (nI 0) (Nat.zero_le _) (kFU_lt0 (by omega)) ⟨0, rfl, Nat.zero_add _⟩
      · rintro F s ⟨v, rfl, hv⟩
        show kZ (fX2_rollsFor_L52_B _ _ z (nI v) (nI n)) _
        unfold fX2_rollsFor_L52_B
        rw [hx.2.1]
        refine kZ.ifp (nI_le (Nat.le_refl n) hn.lt) (kZ.ret ⟨?_, hs⟩)
        rw [uRow_e (Nat.le_refl n)] at hv
        rw [← hv]
        rfl
      · rintro F d s hd ⟨v, rfl, hv⟩ next
        show kZ (fX2_rollsFor_L52_B _ _ z (nI v) (nI d)) _
        unfold fX2_rollsFor_L52_B
        rw [hx.2.1]
        refine kZ.ifn (nI_ge hd hn.lt) ?_
        have l0' := x_leftBy (c := 0) hx hz.2 hd (by decide)
        have l1' := x_leftBy (c := 1) hx hz.2 hd (by decide)
        have l2' := x_leftBy (c := 2) hx hz.2 hd (by decide)
        have c0 : nI d - 1 = nI d + (nI 0 - 1) := by
          have : ∀ x : Int32, x - 1 = x + (nI 0 - 1) := fun x => by
            rw [show nI 0 - 1 = (-1 : Int32) by decide, Int32.sub_eq_add_neg]
          exact this _
        have c1 : nI d = nI d + (nI 1 - 1) := by rw [show nI 1 - 1 = nI 0 by decide, nI_add]; rfl
        have c2 : nI d + 1 = nI d + (nI 2 - 1) := by rw [show nI 2 - 1 = (1 : Int32) by decide]
        rw [c0, c2, l0', l2']
        have l1'' := l1'
        rw [← c1] at l1''
        have s0 := aS_small (k := xStep n κ k (aP n d 0)) (T := uT n κ φ) (S := xStep n κ) hn (show t ≤ 5 by omega)
        have s1 := aS_small (k := xStep n κ k (aP n d 1)) (T := uT n κ φ) (S := xStep n κ) hn (show t ≤ 5 by omega)
        have s2 := aS_small (k := xStep n κ k (aP n d 2)) (T := uT n κ φ) (S := xStep n κ) hn (show t ≤ 5 by omega)
        rw [l1'', kmax_n (n_lt31 (by omega)) (n_lt31 (by omega)), kmax_n (n_lt31 (by omega)) (n_lt31 (by omega)), nI_add]
        rw [show nI d + (nI 2 - 1) = nI (d + 1) from nI_1 d]
        rw [uRow_s hd] at hv
        exact next _ ⟨_, rfl, by rw [← hv, Nat.add_assoc]; rfl⟩
    · have a0 : aS n (uT n κ φ) (xStep n κ) 0 k = 0 := if_neg e0
      rw [a0]
      refine kZ.ifp rfl (kZ.ret ⟨?_, kSame.rf⟩)
      show (0 : Int32) = nI (if uT n κ φ k = 0 then _ else 0)
      rw [if_neg e0]
      rfl
/-- what is learnt -/
def xA (n : Nat) (κ : Nat → Nat) (φ : Nat → Nat → Bool) (st : kS) : Prop := ∃ kn, kn ≤ 5 ∧ gI st 12 = nI kn ∧ xT n κ φ kn (gA st 19)
theorem x_learn {n t : Nat} {κ : Nat → Nat} {φ : Nat → Nat → Bool} {st : kS} (h : xR n κ φ st) (hφ : ∀ a b, φ a b = φ b a) (hA : xA n κ φ st) (ht : t ≤ 5) : kZ (fX2_learn st (nI t)) (fun z => kSame [12] [] [18, 19, 20] [] st z ∧ xA n κ φ z ∧ xT n κ φ t (gA z 19)) := by
  have hn := h.1
  have hn6 := hn.2
  have hF := uF_le hn
  unfold fX2_learn
  obtain ⟨kn0, hA⟩ := hA
  refine kwhile (fun F (s : kS) => fX2_learn_L0 (fun st_7 => some st_7) (nI t) F s) (fun d s => kSame [12] [] [18, 19, 20] [] st s ∧ ∃ kn, d + kn = 5 ∧ gI s 12 = nI kn ∧ xT n κ φ kn (gA s 19)) ?_ kFU (5 - kn0) st (kFU_lt (by omega)) ⟨kSame.rf, kn0, by omega, hA.2⟩
  rintro F d s ⟨hs, kn, hd, h12, hT⟩ next
  show kZ (fX2_learn_L0_B _ _ s (nI t)) _
  unfold fX2_learn_L0_B
  rw [h12]
  refine kZ.ite (fun e => kZ.ret ⟨hs, ⟨kn, by omega, h12, hT⟩, ?_⟩) (fun e => ?_)
  · rw [nI_leI (n_lt31 (by omega)) (n_lt31 (by omega))] at e
    exact fun u k hu hk => hT u k (by omega) hk
  · rw [nI_leI (n_lt31 (by omega)) (n_lt31 (by omega))] at e
    refine kZ.ifn ?_ ?_
    · rw [l5, nI_leI (by decide) (n_lt31 (by omega))]
      omega
    · have hx := h.same hs (by decide)
      refine kfor (σ := kS) (fun F i s' => fX2_learn_L18 _ (nI t) F i s') (fun i s' => kSame [] [] [18, 19, 20] [] s s' ∧ xT n κ φ kn (gA s' 19) ∧ ∀ k, k < i → gA s' 19 (720 * kn + k) = nI (aS n (uT n κ φ) (xStep n κ) kn k)) (uF n) ?_ ?_ kFU 0 s (Nat.zero_le _) (kFU_lt0 (by omega)) ⟨kSame.rf, hT, fun k hk => absurd hk (Nat.not_lt_zero k)⟩
      · rintro F' s' ⟨hs', hT', hq⟩
        show kZ (fX2_learn_L18_B _ _ s' (nI t) (nI (uF n))) _
        unfold fX2_learn_L18_B
        have hx' := hx.same hs' (by decide)
        rw [hx'.2.2.2.2.2.2.1]
        refine kZ.ifp (nI_le (Nat.le_refl _) (uF.lt hn)) ?_
        have h12' : gI s' 12 = nI kn := (hs'.1 12 (by decide)).trans h12
        dsimp only
        rw [h12', show nI kn + 1 = nI (kn + 1) from nI_1 kn]
        refine next (d - 1) _ (by omega) ⟨(hs.trans (hs'.sub (by decide) (by decide) (by decide) (by decide))).sI (by decide) _, kn + 1, by omega, gI_e _ _ _, fun u k hu hk => ?_⟩
        rw [gA_sI]
        rcases Nat.lt_or_ge u kn with q | q
        · exact hT' u k q hk
        · obtain rfl : u = kn := by omega
          exact hq k hk
      · rintro F' i s' hi ⟨hs', hT', hq⟩ next2
        show kZ (fX2_learn_L18_B _ _ s' (nI t) (nI i)) _
        unfold fX2_learn_L18_B
        have hx' := hx.same hs' (by decide)
        rw [hx'.2.2.2.2.2.2.1]
        refine kZ.ifn (nI_ge hi (uF.lt hn)) ?_
        have h12' : gI s' 12 = nI kn := (hs'.1 12 (by decide)).trans h12
        rw [h12']
        refine (x_rollsFor hx' hφ hi (by omega) hT').bind (fun z hz => ?_)
        rw [show nI i + 1 = nI (i + 1) from nI_1 i, show (720 : Int32) = nI 720 from rfl, pk_mul, nI_add, Nat.mul_comm kn 720, kp_n _ _ (by omega) (by decide), hz.1, hz.2.2.2.1 19 (by decide)]
        refine next2 _ ⟨(hs'.trans (hz.2.sub (by decide) (by decide) (by decide) (by decide))).sA (by decide) _, fun u k hu hk => ?_, fun k hk => ?_⟩
        · rw [gA_e, upd_n (by omega)]
          exact hT' u k hu hk
        · rw [gA_e]
          by_cases e2 : k = i
          · rw [e2, upd_e]
          · rw [upd_n (by omega)]
            exact hq k (by omega)
/-- CHOOSE: which of three is the best, of like ones the first -/
def uCh (l : Nat → Nat) : Nat := if l (if l 0 < l 1 then 1 else 0) < l 2 then 2 else if l 0 < l 1 then 1 else 0
theorem uCh_lt (l : Nat → Nat) : uCh l < 3 := by
  unfold uCh
  repeat' split
  all_goals decide
theorem x_choice {n k t d : Nat} {κ : Nat → Nat} {φ : Nat → Nat → Bool} {st : kS} (h : xR n κ φ st) (hφ : ∀ a b, φ a b = φ b a) (hA : xA n κ φ st) (hk : k < uF n) (ht : t < 5) (hd : d < n) : kZ (fX2_choice st (nI k) (nI d) (nI (t + 1))) (fun z => z.1 = nI (uCh (fun c => aS n (uT n κ φ) (xStep n κ) t (xStep n κ k (aP n d c)))) - 1 ∧ kSame [12] [] [18, 19, 20] [] st z.2 ∧ xA n κ φ z.2) := by
  have hn := h.1
  unfold fX2_choice
  refine (x_learn h hφ hA (show t + 1 ≤ 5 by omega)).bind (fun z1 hz1 => ?_)
  obtain ⟨hs1, hA1, hT1⟩ := hz1
  have hx1 := h.same hs1 (by decide)
  refine (x_lookAhead hx1 hk ht hT1).bind (fun z2 hz2 => ?_)
  obtain ⟨hs2, hl⟩ := hz2
  have hx2 := hx1.same hs2 (by decide)
  have hA2 : xA n κ φ z2 := by
    obtain ⟨kn, q1, q2, q3⟩ := hA1
    exact ⟨kn, q1, (hs2.1 12 (by decide)).trans q2, by rw [hs2.2.2.1 19 (by decide)]; exact q3⟩
  have hs : kSame [12] [] [18, 19, 20] [] st z2 := hs1.trans (hs2.sub (by decide) (by decide) (by decide) (by decide))
  obtain ⟨l, hle⟩ : ∃ l : Nat → Nat, l = fun c => aS n (uT n κ φ) (xStep n κ) t (xStep n κ k (aP n d c)) := ⟨_, rfl⟩
  have hL : ∀ c, c < 3 → fX2_leftBy z2 (nI d + (nI c - 1)) = nI (l c) := fun c hc => by
    rw [x_leftBy hx2 hl hd hc, hle]
  have hsm : ∀ c, l c < 2 ^ 31 := fun c => by
    rw [hle]
    dsimp only
    exact n_lt31 (by have := aS_small (k := xStep n κ k (aP n d c)) (T := uT n κ φ) (S := xStep n κ) hn (show t ≤ 5 by omega); omega)
  rw [← hle]
  -- two turns of the loop
  have turn : ∀ F b c, b < 3 → c + 1 < 3 → fX2_choice_L17 (fun v4_5 _ => some (v4_5, z2)) z2 (nI d) (F + 1) (nI b - 1) (nI (c + 1) - 1) = fX2_choice_L17 (fun v4_5 _ => some (v4_5, z2)) z2 (nI d) F (nI (if l b < l (c + 1) then c + 1 else b) - 1) (nI (c + 2) - 1) := by
    intro F b c hb hc
    show fX2_choice_L17_B _ _ z2 (nI d) (nI b - 1) (nI (c + 1) - 1) = _
    unfold fX2_choice_L17_B
    rw [hL _ hc, hL _ hb, nI_pred, show nI c + 1 = nI (c + 2) - 1 by rw [nI_pred]; exact nI_1 c]
    rw [if_neg (by rw [l1, nI_lt_iff (by decide) (n_lt31 (by omega))]; omega)]
    by_cases q : l b < l (c + 1)
    · rw [if_neg (nI_ge q (hsm _)), if_pos q, nI_pred, nI_pred]
    · rw [if_pos (nI_le (by omega) (hsm _)), if_neg q]
  obtain ⟨F, hF⟩ : ∃ F, kFU = F + 3 := ⟨59997, rfl⟩
  have e : fX2_choice_L17 (fun v4_5 _ => some (v4_5, z2)) z2 (nI d) kFU (-1) 0 = some (nI (uCh l) - 1, z2) := by
    rw [hF]
    refine (turn (F + 2) 0 0 (by decide) (by decide)).trans ?_
    refine (turn (F + 1) _ 1 (by split <;> decide) (by decide)).trans ?_
    show fX2_choice_L17_B _ _ z2 (nI d) _ (nI 3 - 1) = _
    unfold fX2_choice_L17_B
    rw [if_pos (by decide)]
    unfold uCh
    rfl
  rw [show (fX2_choice_L17 (fun v4_5 v5_6 => some (v4_5, z2)) z2 (nI d) kFU (-1) 0) = _ from e]
  exact kZ.ret ⟨rfl, hs, hA2⟩
