/-! ORDERS MADE: unfold (the class), think (the reference) -/
theorem fa_and (a b : Nat) : nI a &&& nI b = nI (a &&& b) := by
  apply Int32.toBitVec_inj.1
  show BitVec.ofNat 32 a &&& BitVec.ofNat 32 b = BitVec.ofNat 32 (a &&& b)
  apply BitVec.eq_of_getLsbD_eq
  intro i hi
  simp [hi]
theorem fa_or (a b : Nat) : nI a ||| nI b = nI (a ||| b) := by
  apply Int32.toBitVec_inj.1
  show BitVec.ofNat 32 a ||| BitVec.ofNat 32 b = BitVec.ofNat 32 (a ||| b)
  apply BitVec.eq_of_getLsbD_eq
  intro i hi
  simp [hi]
theorem kshl_1 : ∀ p, p < 31 → kshl 1 (nI p) = nI (2 ^ p) := by decide +kernel
theorem uL_length : ∀ b r, (uL b r).length = b
  | 0, _ => rfl
  | b + 1, r => by
    show ((uL b r).map _).length + 1 = b + 1
    rw [List.length_map, uL_length b r]
theorem uL_0 (b r : Nat) : (uL (b + 1) r).getD 0 0 = r / uF b % (b + 1) := rfl
theorem uL_s {b r x : Nat} (hx : x < b) : (uL (b + 1) r).getD (x + 1) 0 = uB (r / uF b % (b + 1)) ((uL b r).getD x 0) := by
  show ((uL b r).map _).getD x 0 = _
  have h : x < (uL b r).length := by rw [uL_length]; exact hx
  rw [List.getD_eq_getElem?_getD, List.getElem?_map, List.getD_eq_getElem?_getD, List.getElem?_eq_getElem h]
  rfl
theorem uL_small : ∀ b r x, (uL b r).getD x 0 ≤ b
  | 0, _, _ => by simp [uL]
  | b + 1, r, 0 => by rw [uL_0]; have := Nat.mod_lt (r / uF b) (show 0 < b + 1 by omega); omega
  | b + 1, r, x + 1 => by
    rcases Nat.lt_or_ge x b with h | h
    · rw [uL_s h]
      have := uL_small b r x
      unfold uB
      split <;> omega
    · have : (uL (b + 1) r).length ≤ x + 1 := by rw [uL_length]; omega
      rw [List.getD_eq_getElem?_getD, List.getElem?_eq_none this]
      exact Nat.zero_le _
theorem x_unfold_in {n c k sm : Nat} {st s : kS} {Q : kS → Prop} {K : Int32 → kS → Option kS} {r b : Int32} (hn : uHn n) (hp : gI st 10 = nI n) (hc : c + 1 ≤ n) (hs : kSame [] [] [18] [] st s) (h0 : gA s 18 (n - (c + 1)) = nI sm) (hsm : sm < c + 1) (hx : ∀ x, x < c → gA s 18 (n - c + x) = nI ((uL c k).getD x 0))
    (hK : ∀ v s', kSame [] [] [18] [] st s' → gA s' 18 (n - (c + 1)) = nI sm → (∀ x, x < c → gA s' 18 (n - c + x) = nI (uB sm ((uL c k).getD x 0))) → kZ (K v s') Q) : kZ (fX4_unfold_L46 K r b (nI sm) kFU (nI (n - (c + 1) + 1)) s) Q := by
  have hn6 := hn.2
  refine kfor (σ := kS) (fun F j s' => fX4_unfold_L46 K r b (nI sm) F j s') (fun j s' => n - (c + 1) < j ∧ kSame [] [] [18] [] st s' ∧ gA s' 18 (n - (c + 1)) = nI sm ∧ ∀ x, x < c → gA s' 18 (n - c + x) = nI (if n - c + x < j then uB sm ((uL c k).getD x 0) else (uL c k).getD x 0)) n ?_ ?_ kFU (n - (c + 1) + 1) s (by omega) (by have := kFU_lt (N := 20) (by decide); omega) ⟨by omega, hs, h0, fun x h => by rw [hx x h, if_neg (by omega)]⟩
  · rintro F s' ⟨-, hs', h0, hx⟩
    show kZ (fX4_unfold_L46_B _ _ s' _ _ (nI sm) (nI n)) _
    unfold fX4_unfold_L46_B
    rw [hs'.1 10 (by decide), hp]
    refine kZ.ifp (nI_le (Nat.le_refl n) hn.lt) ?_
    exact hK _ _ hs' h0 (fun x h => by rw [hx x h, if_pos (by omega)])
  · rintro F j s' hjn ⟨hj0, hs', h0, hx⟩ next2
    show kZ (fX4_unfold_L46_B _ _ s' _ _ (nI sm) (nI j)) _
    unfold fX4_unfold_L46_B
    rw [hs'.1 10 (by decide), hp]
    refine kZ.ifn (nI_ge hjn hn.lt) ?_
    have hval : gA s' 18 j = nI ((uL c k).getD (j - (n - c)) 0) := by
      have := hx (j - (n - c)) (by omega)
      rwa [show n - c + (j - (n - c)) = j by omega, if_neg (by omega)] at this
    have hsmall := uL_small c k (j - (n - c))
    rw [kg_n _ (by omega) (by decide), hval, l1, nI_add]
    have fin : ∀ v, v = nI (uB sm ((uL c k).getD (j - (n - c)) 0)) → kZ (fX4_unfold_J88 K (fX4_unfold_L46 K r b (nI sm) F) s' r b (nI sm) (nI j) v (nI j)) Q := by
      intro v hv
      unfold fX4_unfold_J88
      rw [l1, nI_add, kp_n _ _ (by omega) (by decide)]
      refine next2 _ ⟨by omega, hs'.sA (by decide) _, ?_, fun x hx' => ?_⟩
      · rw [gA_e, upd_n (by omega)]; exact h0
      · rw [gA_e]
        by_cases e : n - c + x = j
        · rw [e, upd_e, if_pos (by omega), hv, ← e, show n - c + x - (n - c) = x by omega]
        · rw [upd_n e, hx x hx']
          by_cases e2 : n - c + x < j
          · rw [if_pos e2, if_pos (by omega)]
          · rw [if_neg e2, if_neg (by omega)]
    refine kZ.ite (fun e => ?_) (fun e => ?_)
    · rw [nI_lt_iff (n_lt31 (by omega)) (n_lt31 (by omega))] at e
      exact fin _ (by unfold uB; rw [if_neg (by omega)])
    · rw [nI_lt_iff (n_lt31 (by omega)) (n_lt31 (by omega))] at e
      exact fin _ (by unfold uB; rw [if_pos (by omega)])
theorem x_unfold {n k : Nat} {st : kS} (hn : uHn n) (hp : gI st 10 = nI n) (hk : k < uF n) : kZ (fX4_unfold st (nI k)) (fun z => kSame [] [] [18] [] st z ∧ ∀ j, j < n → gA z 18 j = nI (uD n k j)) := by
  have hn6 := hn.2
  have hk31 := uF.lk hn hk
  unfold fX4_unfold
  refine kfor (σ := Int32 × kS) (fun F i s => fX4_unfold_L4 (fun _ _ st_9 => some st_9) F s.1 i s.2) (fun b s => 1 ≤ b ∧ s.1 = nI (k / uF (b - 1)) ∧ kSame [] [] [18] [] st s.2 ∧ ∀ j, j < b - 1 → gA s.2 18 (n - (b - 1) + j) = nI ((uL (b - 1) k).getD j 0)) (n + 1) ?_ ?_ kFU 1 (nI k, st) (by omega) (by have := kFU_lt (N := 20) (by decide); omega) ⟨Nat.le_refl 1, by rw [show uF (1 - 1) = 1 from rfl, Nat.div_one], kSame.rf, fun j hj => absurd hj (Nat.not_lt_zero j)⟩
  · rintro F ⟨r, s⟩ ⟨-, hr, hs, hj⟩
    show kZ (fX4_unfold_L4_B _ _ s r (nI (n + 1))) _
    unfold fX4_unfold_L4_B
    rw [hs.1 10 (by decide), hp]
    refine kZ.ifp (nI_lt (by omega) (n_lt31 (by omega))) (kZ.ret ⟨hs, fun j h => ?_⟩)
    have := hj j h
    rwa [show n - (n + 1 - 1) + j = j by omega, show n + 1 - 1 = n by omega] at this
  · rintro F b ⟨r, s⟩ hb ⟨hb1, hr, hs, hj⟩ next
    show kZ (fX4_unfold_L4_B _ _ s r (nI b)) _
    obtain ⟨c, rfl⟩ : ∃ c, b = c + 1 := ⟨b - 1, by omega⟩
    rw [show c + 1 - 1 = c by omega] at hr hj
    dsimp only at hr hs hj
    subst hr
    have hq : k / uF c < 2 ^ 31 := Nat.lt_of_le_of_lt (Nat.div_le_self _ _) hk31
    unfold fX4_unfold_L4_B
    rw [hs.1 10 (by decide), hp]
    refine kZ.ifn (nI_nlt (by omega) (n_lt31 (by omega))) ?_
    refine kZ.ifn (nI_ne0 (by omega) (n_lt31 (by omega))) ?_
    have hsm : k / uF c % (c + 1) < c + 1 := Nat.mod_lt _ (by omega)
    have hm : kr (nI (k / uF c)) (nI (c + 1)) = nI (k / uF c % (c + 1)) := kr_n hq (by omega) (n_lt31 (by omega))
    rw [hm, pk_sub (by omega), kp_n _ _ (by omega) (by decide), show nI (n - (c + 1)) + 1 = nI (n - (c + 1) + 1) from nI_1 _]
    refine x_unfold_in hn hp (by omega) (hs.sA (by decide) _) (by rw [gA_e, upd_e]) hsm (fun x hx => by rw [gA_e, upd_n (by omega), hj x hx]) ?_
    intro v s' hs' h0 hx
    rw [show nI (c + 1) + 1 = nI (c + 1 + 1) from nI_1 _, pk_div hq (by omega) (n_lt31 (by omega))]
    refine next (_, s') ⟨by omega, ?_, hs', fun j hj' => ?_⟩
    · dsimp only
      rw [show c + 1 + 1 - 1 = c + 1 by omega, Nat.div_div_eq_div_mul, show uF (c + 1) = uF c * (c + 1) from Nat.mul_comm _ _]
      rfl
    · dsimp only
      rw [show c + 1 + 1 - 1 = c + 1 by omega] at hj' ⊢
      cases j with
      | zero => rw [uL_0]; exact h0
      | succ x => rw [uL_s (by omega), show n - (c + 1) + (x + 1) = n - c + x by omega, hx x (by omega)]
def uOk6 (n : Nat) : Bool := (List.range (uF n)).all (fun k => (List.range n).all (fun j => uCd n k / 6 ^ (n - 1 - j) % 6 == uD n k j))
theorem uOk6_3 : uOk6 3 = true := by decide +kernel
theorem uOk6_4 : uOk6 4 = true := by decide +kernel
theorem uOk6_5 : uOk6 5 = true := by decide +kernel
theorem uOk6_6 : uOk6 6 = true := by decide +kernel
theorem u_6 {n k j : Nat} (hn : uHn n) (hk : k < uF n) (hj : j < n) : uCd n k / 6 ^ (n - 1 - j) % 6 = uD n k j := by
  have q := u_all (u_all (uHn.all (P := fun n => uOk6 n = true) uOk6_3 uOk6_4 uOk6_5 uOk6_6 hn) hk) hj
  simpa only [beq_iff_eq] using q
theorem nI_dec {p : Nat} : nI (p + 1) + (-1) = nI p := pk_m1 p
