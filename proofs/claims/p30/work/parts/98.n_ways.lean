/-! THE LAW'S LOOPS: ways, must -/
theorem and_m1 : ∀ M, M < 64 → nI M &&& (-1) = nI M := by decide +kernel
theorem full_dec (n : Nat) (hn : uHn n) : kshl 1 (nI n) - 1 = nI (2 ^ n - 1) ∧ 2 ^ n - 1 < 64 := uHn.all (P := fun n => kshl 1 (nI n) - 1 = nI (2 ^ n - 1) ∧ 2 ^ n - 1 < 64) (by decide) (by decide) (by decide) (by decide) hn
theorem uMk.full {n : Nat} (hn : uHn n) : uMk n (fun _ => true) (kshl 1 (nI n) - 1) := by
  obtain ⟨e1, e2⟩ := full_dec n hn
  exact ⟨2 ^ n - 1, e1, e2, fun j => by rw [Nat.testBit_two_pow_sub_one, Bool.and_true]⟩
theorem uMk.none (n : Nat) : uMk n (fun _ => false) 0 := ⟨0, rfl, by decide, fun j => by rw [Nat.zero_testBit, Bool.and_false]⟩
section LW
variable {n o h t : Nat} {κ : Nat → Nat} {φ : Nat → Nat → Bool} {st : kS} {L : Nat} {xs : Nat → Int32} {Q : Int32 × kS → Prop} {v5 v6 v7 v8 v9 v10 v11 v18 v19 v22 v23 : Int32} {v20 : Int64}
theorem l_L729 {K : Int32 → Int32 → Option (Int32 × kS)} {go : Nat} (hg : go < 1000) (hK : ∀ w, kZ (K (nI (n ^ go)) w) Q) : kZ (fL_law_L729 K L xs st (nI n) v5 v6 v7 v8 v10 (nI go) kFU 1 0) Q := by
  refine kfor (σ := Int32) (fun F i s => fL_law_L729 K L xs st (nI n) v5 v6 v7 v8 v10 (nI go) F s i) (fun i s => s = nI (n ^ i)) go ?_ ?_ kFU 0 1 (Nat.zero_le _) (kFU_lt0 (by omega)) rfl
  · rintro F s rfl
    show kZ (fL_law_L729_B _ _ _ _ _ _ _ _ _ _ _ _ _ (nI go)) _
    unfold fL_law_L729_B
    exact kZ.ifp (nI_le (Nat.le_refl go) (n_lt31 (by omega))) (hK _)
  · rintro F i s hi rfl next
    show kZ (fL_law_L729_B _ _ _ _ _ _ _ _ _ _ _ _ _ (nI i)) _
    unfold fL_law_L729_B
    refine kZ.ifn (nI_ge hi (n_lt31 (by omega))) ?_
    rw [pk_mul, nI_1]
    exact next _ rfl
theorem l_L787 {K : Int32 → Int32 → Int32 → Int32 → Int32 → Option (Int32 × kS)} {back : Nat} (H : lS n κ φ o h t st) (hb : back < 1000) : ∀ r F i c k (g : Nat → Bool) v26, i + r = back → r + 2 ≤ F → c < 2 ^ 31 → k < uF n → uCompat n κ k → uMk n g v26 → (wA n κ 9 r c = true → ∀ w1 m w2, uMk n (fun q => g q || wU n r c q) m → kZ (K w1 (nI (oP n (wO n κ r c k))) m 1 w2) Q) → (wA n κ 9 r c = false → ∀ w1 w2 w3 w4, kZ (K w1 w2 w3 0 w4) Q) → kZ (fL_law_L787 K L xs st (nI n) v5 v6 v7 v8 v10 (nI back) v19 v20 v22 v23 F (nI c) (nI (oP n k)) v26 1 (nI i)) Q := by
  have hn := H.1.1
  have h0 : 0 < n := by have := hn.1; omega
  intro r
  induction r with
  | zero =>
    intro F i c k g v26 hi hF hc hk hco hm hK1 hK0
    obtain ⟨F, rfl⟩ : ∃ F', F = F' + 1 := ⟨F - 1, by omega⟩
    show kZ (fL_law_L787_B _ _ _ _ _ _ _ _ _ _ _ _ _ _ _ _ _ _ _ _ _) _
    unfold fL_law_L787_B
    refine kZ.ifp (nI_le (by omega) (n_lt31 (by omega))) ?_
    exact hK1 rfl _ _ _ (hm.cg (fun q _ => (Bool.or_false _).symm))
  | succ r ih =>
    intro F i c k g v26 hi hF hc hk hco hm hK1 hK0
    obtain ⟨F, rfl⟩ : ∃ F', F = F' + 1 := ⟨F - 1, by omega⟩
    have hp : c % n < n := Nat.mod_lt _ h0
    show kZ (fL_law_L787_B _ _ _ _ _ _ _ _ _ _ _ _ _ _ _ _ _ _ _ _ _) _
    unfold fL_law_L787_B fL_law_J826
    refine kZ.ifn (nI_ge (by omega) (n_lt31 (by omega))) (kZ.ifn (by decide) (kZ.ifn (nI_ne0 h0 hn.lt) ?_))
    rw [l_step H hk hco hc]
    simp only [Option.bind_some]
    rw [if_neg (nI_ne0 h0 hn.lt), if_neg (nI_ne0 h0 hn.lt), pk_div hc h0 hn.lt, kr_n hc h0 hn.lt, nI_1]
    have hk2 := xStep_lt (κ := κ) hn hk hp
    cases hb2 : uBar n κ (c % n) with
    | true =>
      have hx : xStep n κ k (c % n) = k := by
        unfold xStep
        rw [hb2]
        rfl
      rw [hx]
      refine kZ.ifp rfl ?_
      have hA : wA n κ 9 (r + 1) c = false := by
        show (yA n κ 9 (c % n) && wA n κ 9 r (c / n)) = false
        unfold yA
        rw [hb2]
        rfl
      obtain ⟨F, rfl⟩ : ∃ F', F = F' + 1 := ⟨F - 1, by omega⟩
      show kZ (fL_law_L787_B _ _ _ _ _ _ _ _ _ _ _ _ _ _ _ _ _ _ _ _ _) _
      unfold fL_law_L787_B
      exact kZ.ite (fun _ => hK0 hA _ _ _ _) (fun _ => kZ.ifp rfl (hK0 hA _ _ _ _))
    | false =>
      have hx : xStep n κ k (c % n) = uC n k (c % n) := by
        unfold xStep
        rw [hb2]
        rfl
      have hne : ¬ nI (oP n (xStep n κ k (c % n))) = nI (oP n k) := fun q => uC_ne hn hk hp (by rw [← hx]; exact oP_inj hn hk2 hk (nI_inj (oP31 hn hk2) (oP31 hn hk) q))
      refine kZ.ifn hne ?_
      have hA : wA n κ 9 (r + 1) c = wA n κ 9 r (c / n) := by
        show (yA n κ 9 (c % n) && wA n κ 9 r (c / n)) = _
        rw [yA_bar hn hp hb2, Bool.true_and]
      refine ih F (i + 1) (c / n) _ (fun q => g q || decide (c % n = q)) _ (by omega) (by omega) (Nat.lt_of_le_of_lt (Nat.div_le_self _ _) hc) hk2 (xStep_compat hn hk hco hp) (uMk.or hn hp hm) (fun q w1 m w2 hm2 => ?_) (fun q => hK0 (hA.trans q))
      refine hK1 (hA.trans q) w1 m w2 (hm2.cg (fun q _ => ?_))
      show ((g q || decide (c % n = q)) || wU n r (c / n) q) = (g q || ((c % n == q) || wU n r (c / n) q))
      rw [Bool.or_assoc]
      rfl
theorem l_L763 {K : Int64 → Int32 → Int32 → Option (Int32 × kS)} {back : Nat} (H : lS n κ φ o h t st) (hb : back ≤ 4)
    (hK : ∀ m w, uMk n (fun q => decide (yW n κ q back o = 0)) m → kZ (K (lN (yW n κ 9 back o)) m w) Q) : kZ (fL_law_L763 K L xs st (nI n) (nI (oP n 0)) (nI (oP n o)) v7 v8 v10 (nI back) (nI (n ^ back)) kFU 0 ((kshl 1 (nI n)) - 1) 0) Q := by
  have hn := H.1.1
  have ho := H.2.2.2.2.2.1.1
  have hF := uF_pos hn
  have hpw : n ^ back ≤ 6 ^ 4 := Nat.le_trans (Nat.pow_le_pow_left hn.2 back) (Nat.pow_le_pow_right (by decide) hb)
  have hpw2 : n ^ back ≤ 1296 := hpw
  have cnt : ∀ w, sB (wC n κ w back 0 o) (n ^ back) = yW n κ w back o := fun w => (ways_count hn ho back 0 hF).trans (yS_0 back o)
  refine kfor (σ := Int64 × Int32) (fun F i s => fL_law_L763 K L xs st (nI n) (nI (oP n 0)) (nI (oP n o)) v7 v8 v10 (nI back) (nI (n ^ back)) F s.1 s.2 i) (fun i s => s.1 = lN (sB (wC n κ 9 back 0 o) i) ∧ uMk n (fun q => decide (sB (wC n κ q back 0 o) i = 0)) s.2) (n ^ back) ?_ ?_ kFU 0 (0, (kshl 1 (nI n)) - 1) (Nat.zero_le _) (kFU_lt0 (by omega)) ⟨rfl, (uMk.full hn).cg (fun q _ => (decide_eq_true (show sB (wC n κ q back 0 o) 0 = 0 from rfl)).symm)⟩
  · rintro F ⟨s1, s2⟩ ⟨h1, h2⟩
    dsimp only at h1 h2
    subst h1
    show kZ (fL_law_L763_B _ _ _ _ _ _ _ _ _ _ _ _ _ _ _ (nI (n ^ back))) _
    unfold fL_law_L763_B
    refine kZ.ifp (nI_le (Nat.le_refl _) (n_lt31 (by omega))) ?_
    rw [cnt]
    refine hK _ _ (h2.cg (fun q _ => ?_))
    rw [cnt]
  · rintro F i ⟨s1, s2⟩ hi ⟨h1, h2⟩ next
    dsimp only at h1 h2
    subst h1
    show kZ (fL_law_L763_B _ _ _ _ _ _ _ _ _ _ _ _ _ _ _ (nI i)) _
    unfold fL_law_L763_B
    refine kZ.ifn (nI_ge hi (n_lt31 (by omega))) ?_
    have hand : s2 &&& (-1) = s2 := by
      obtain ⟨M, rfl, hM, -⟩ := h2
      exact and_m1 M hM
    have stay : (∀ q, q < n → wC n κ q back 0 o i = 0) → wC n κ 9 back 0 o i = 0 → kZ (fL_law_L763 K L xs st (nI n) (nI (oP n 0)) (nI (oP n o)) v7 v8 v10 (nI back) (nI (n ^ back)) F (lN (sB (wC n κ 9 back 0 o) i) + 0) (s2 &&& (-1)) (nI (i + 1))) Q := by
      intro z zz
      refine next (lN (sB (wC n κ 9 back 0 o) i) + 0, s2 &&& (-1)) ⟨?_, ?_⟩
      · show lN _ + lN 0 = lN (sB (wC n κ 9 back 0 o) i + wC n κ 9 back 0 o i)
        rw [lN_add, zz]
      · show uMk n _ (s2 &&& (-1))
        rw [hand]
        refine h2.cg (fun q hq => ?_)
        show _ = decide (sB (wC n κ q back 0 o) i + wC n κ q back 0 o i = 0)
        rw [z q hq]
        rfl
    refine l_L787 H (by omega) back kFU 0 i 0 (fun _ => false) 0 (by omega) (show back + 2 ≤ 60000 by omega) (n_lt31 (by omega)) hF (uCompat_0 hn) (uMk.none n) (fun hA w1 m w2 hm => ?_) (fun hA w1 w2 w3 w4 => ?_)
    · have hw := wO_ok (κ := κ) hn back i 0 hF (uCompat_0 hn)
      show kZ (fL_law_J857 K _ L xs st (nI n) (nI (oP n 0)) (nI (oP n o)) v7 v8 v10 (nI back) (nI (n ^ back)) (lN (sB (wC n κ 9 back 0 o) i)) s2 (nI i) (nI (oP n (wO n κ back i 0))) m 1) Q
      unfold fL_law_J857 fL_law_J875 fL_law_J876
      rw [nI_1, if_neg (show ¬ (1 : Int32) = 0 by decide), if_neg (show ¬ (1 : Int32) = 0 by decide), if_neg (show ¬ (1 : Int32) = 0 by decide)]
      by_cases e : wO n κ back i 0 = o
      · rw [if_pos (show nI (oP n (wO n κ back i 0)) = nI (oP n o) by rw [e]), if_pos (show nI (oP n (wO n κ back i 0)) = nI (oP n o) by rw [e])]
        refine next (lN (sB (wC n κ 9 back 0 o) i) + 1, s2 &&& m) ⟨?_, ?_⟩
        · show lN _ + lN 1 = lN (sB (wC n κ 9 back 0 o) i + wC n κ 9 back 0 o i)
          have : wC n κ 9 back 0 o i = 1 := by
            unfold wC
            rw [hA, e, beq_self_eq_true]
            rfl
          rw [lN_add, this]
        · refine (h2.and hm).cg (fun q hq => ?_)
          show (decide (sB (wC n κ q back 0 o) i = 0) && (false || wU n back i q)) = decide (sB (wC n κ q back 0 o) i + wC n κ q back 0 o i = 0)
          have : wC n κ q back 0 o i = if wU n back i q then 0 else 1 := by
            unfold wC
            rw [wA_q hn, hA, e, beq_self_eq_true]
            cases wU n back i q <;> rfl
          rw [this, Bool.false_or]
          cases wU n back i q with
          | true =>
            rw [Bool.and_true]
            rfl
          | false =>
            rw [Bool.and_false]
            exact (decide_eq_false (show ¬ sB (wC n κ q back 0 o) i + 1 = 0 by omega)).symm
      · have hne : ¬ nI (oP n (wO n κ back i 0)) = nI (oP n o) := fun q => e (oP_inj hn hw.1 ho (nI_inj (oP31 hn hw.1) (oP31 hn ho) q))
        rw [if_neg hne, if_neg hne]
        have z : ∀ q, wC n κ q back 0 o i = 0 := fun q => by
          unfold wC
          rw [beq_eq_false_iff_ne.mpr e, Bool.and_false]
          rfl
        exact stay (fun q _ => z q) (z 9)
    · show kZ (fL_law_J857 K _ L xs st (nI n) (nI (oP n 0)) (nI (oP n o)) v7 v8 v10 (nI back) (nI (n ^ back)) (lN (sB (wC n κ 9 back 0 o) i)) s2 (nI i) w2 w3 0) Q
      unfold fL_law_J857 fL_law_J875 fL_law_J876
      rw [nI_1, if_pos (show (0 : Int32) = 0 from rfl), if_pos (show (0 : Int32) = 0 from rfl)]
      have z : ∀ q, wC n κ q back 0 o i = 0 := fun q => by
        unfold wC
        rw [wA_q hn, hA]
        rfl
      exact stay (fun q _ => z q) (z 9)
theorem l_J713 {K Gc : Int32 → Int32 → Int32 → Int32 → kS → Option (Int32 × kS)} {X : Nat} (H : lS n κ φ o h t st) (hX : X < 2 ^ 31) (hK : ∀ st', lS n κ φ o h t st' → kZ (fL_law_J944 K Gc L xs st' (nI n) (nI (oP n 0)) (nI (oP n o)) v7 v8 v10) Q) : kZ (fL_law_J713 K Gc L xs st (nI n) (nI (oP n 0)) (nI (oP n o)) v7 v8 v10 (nI X)) Q := by
  have hn := H.1.1
  have e3 : kr (nI X / 8192) 5 = nI (X / 8192 % 5) := l_dm (d := 8192) (m := 5) hX (by decide) (by decide) (by decide) (by decide)
  have hb : X / 8192 % 5 ≤ 4 := by omega
  unfold fL_law_J713
  rw [e3]
  refine l_L729 (by omega) (fun w => ?_)
  refine l_L763 H hb (fun m w hm => ?_)
  show kZ (fL_law_J908 K Gc L xs st (nI n) (nI (oP n 0)) (nI (oP n o)) v7 v8 v10 (nI (X / 8192 % 5)) (lN (yW n κ 9 (X / 8192 % 5) o)) m) Q
  obtain ⟨z1, ez1, e1, H1⟩ := c_ways H (show X / 8192 % 5 ≤ 12 by omega)
  obtain ⟨z2, ez2, e2, H2⟩ := c_must H1 (show X / 8192 % 5 ≤ 12 by omega)
  have hl := (lN_0 (yW_63 (κ := κ) (w := 9) (k := o) hn (show X / 8192 % 5 ≤ 12 by omega))).2
  unfold fL_law_J908
  rw [ez1]
  simp only [Option.bind_some]
  rw [e1, if_pos (lg_cmp_self rfl), ez2]
  simp only [Option.bind_some]
  unfold fL_law_J939
  refine kZ.ite (fun c => ?_) (fun c => ?_)
  · have y0 := hl.mp c
    rcases e2 with ⟨-, ev⟩ | ⟨q, -⟩
    · exact kZ.ifp ev (hK _ H2)
    · omega
  · have y0 : ¬ yW n κ 9 (X / 8192 % 5) o = 0 := fun q => c (hl.mpr q)
    rcases e2 with ⟨q, -⟩ | ⟨-, ev⟩
    · exact absurd q y0
    · exact kZ.ifp (ev.uniq hm) (hK _ H2)
end LW
