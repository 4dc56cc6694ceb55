/-! THE LAW'S LOOPS: odds -/
theorem l_dm {X d m : Nat} (hX : X < 2 ^ 31) (hd : 0 < d) (hd2 : d < 2 ^ 31) (hm : 0 < m) (hm2 : m < 2 ^ 31) : kr (nI X / nI d) (nI m) = nI (X / d % m) := by
  rw [pk_div hX hd hd2, kr_n (Nat.lt_of_le_of_lt (Nat.div_le_self _ _) hX) hm hm2]
section LO
variable {n o h t : Nat} {κ : Nat → Nat} {φ : Nat → Nat → Bool} {st : kS} {L : Nat} {xs : Nat → Int32} {Q : Int32 × kS → Prop} {v5 v6 v7 v8 v9 v10 v11 v13 v14 v16 v17 v18 : Int32}
theorem l_step {k c : Nat} (H : lS n κ φ o h t st) (hk : k < uF n) (hc : uCompat n κ k) (hcl : c < 2 ^ 31) : fL_change st (nI n) (nI (oP n k)) (kr (nI c) (nI n)) = some (nI (oP n (xStep n κ k (c % n)))) := by
  have hn := H.1.1
  have h0 : 0 < n := by have := hn.1; omega
  have hp : c % n < n := Nat.mod_lt _ h0
  have hn6 := hn.2
  rw [kr_n hcl h0 hn.lt, ← mStep_eq hn hk hc hp]
  refine l_change hn H.2.2.1 hk hp ?_
  rw [nI_add, kr_n (n_lt31 (by omega)) h0 hn.lt, Nat.add_mod_right, Nat.mod_mod]
theorem l_L568 {K : Int32 → Int32 → Option (Int32 × kS)} {go : Nat} (hg : go < 1000) (hK : ∀ w, kZ (K (nI (n ^ go)) w) Q) : kZ (fL_law_L568 K L xs st (nI n) v5 v6 v7 v8 v10 v11 v13 v14 (nI go) kFU 1 0) Q := by
  refine kfor (σ := Int32) (fun F i s => fL_law_L568 K L xs st (nI n) v5 v6 v7 v8 v10 v11 v13 v14 (nI go) F s i) (fun i s => s = nI (n ^ i)) go ?_ ?_ kFU 0 1 (Nat.zero_le _) (kFU_lt0 (by omega)) rfl
  · rintro F s rfl
    show kZ (fL_law_L568_B _ _ _ _ _ _ _ _ _ _ _ _ _ _ _ _ (nI go)) _
    unfold fL_law_L568_B
    exact kZ.ifp (nI_le (Nat.le_refl go) (n_lt31 (by omega))) (hK _)
  · rintro F i s hi rfl next
    show kZ (fL_law_L568_B _ _ _ _ _ _ _ _ _ _ _ _ _ _ _ _ (nI i)) _
    unfold fL_law_L568_B
    refine kZ.ifn (nI_ge hi (n_lt31 (by omega))) ?_
    rw [pk_mul, nI_1]
    exact next _ rfl
theorem l_L612 {K : Int32 → Int32 → Int32 → Option (Int32 × kS)} {go : Nat} (H : lS n κ φ o h t st) (hg : go < 1000) : ∀ r F i c k, i + r = go → r + 1 ≤ F → c < 2 ^ 31 → k < uF n → uCompat n κ k → (∀ w1 w2, kZ (K w1 (nI (oP n (wO n κ r c k))) w2) Q) → kZ (fL_law_L612 K L xs st (nI n) v5 v6 v7 v8 v10 v11 v13 v14 (nI go) v16 v17 v18 F (nI c) (nI (oP n k)) (nI i)) Q := by
  have hn := H.1.1
  have h0 : 0 < n := by have := hn.1; omega
  intro r
  induction r with
  | zero =>
    intro F i c k hi hF hc hk hco hK
    obtain ⟨F, rfl⟩ : ∃ F', F = F' + 1 := ⟨F - 1, by omega⟩
    show kZ (fL_law_L612_B _ _ _ _ _ _ _ _ _ _ _ _ _ _ _ _ _ _ _ _ _) _
    unfold fL_law_L612_B
    exact kZ.ifp (nI_le (by omega) (n_lt31 (by omega))) (hK _ _)
  | succ r ih =>
    intro F i c k hi hF hc hk hco hK
    obtain ⟨F, rfl⟩ : ∃ F', F = F' + 1 := ⟨F - 1, by omega⟩
    show kZ (fL_law_L612_B _ _ _ _ _ _ _ _ _ _ _ _ _ _ _ _ _ _ _ _ _) _
    unfold fL_law_L612_B
    refine kZ.ifn (nI_ge (by omega) (n_lt31 (by omega))) (kZ.ifn (nI_ne0 h0 hn.lt) ?_)
    rw [l_step H hk hco hc]
    simp only [Option.bind_some]
    rw [pk_div hc h0 hn.lt, nI_1]
    have hp : c % n < n := Nat.mod_lt _ h0
    exact ih F (i + 1) (c / n) _ (by omega) (by omega) (Nat.lt_of_le_of_lt (Nat.div_le_self _ _) hc) (xStep_lt hn hk hp) (xStep_compat hn hk hco hp) hK
theorem l_L594 {K : Int32 → Int32 → Option (Int32 × kS)} {go hh p : Nat} (H : lS n κ φ o h t st) (hg : go ≤ 3) (hh1 : hh < n) (hp : p < n) (hK : ∀ w, kZ (K (nI (eP n κ (uI n o hh) go p)) w) Q) : kZ (fL_law_L594 K L xs st (nI n) v5 (nI (oP n o)) v7 v8 v10 v11 (nI hh) (nI p) (nI go) (nI (n ^ go)) kFU 0 0) Q := by
  have hn := H.1.1
  have ho := H.2.2.2.2.2.1.1
  have hco := H.2.2.2.2.2.2.2.1
  have hpw : n ^ go ≤ 6 ^ 3 := Nat.le_trans (Nat.pow_le_pow_left hn.2 go) (Nat.pow_le_pow_right (by decide) hg)
  have hpw2 : n ^ go ≤ 216 := hpw
  refine kfor (σ := Int32) (fun F i s => fL_law_L594 K L xs st (nI n) v5 (nI (oP n o)) v7 v8 v10 v11 (nI hh) (nI p) (nI go) (nI (n ^ go)) F s i) (fun i s => s = nI (sB (fun c => if uD n (wO n κ go c o) p = hh then 1 else 0) i)) (n ^ go) ?_ ?_ kFU 0 0 (Nat.zero_le _) (kFU_lt0 (by omega)) rfl
  · rintro F s rfl
    show kZ (fL_law_L594_B _ _ _ _ _ _ _ _ _ _ _ _ _ _ _ _ _ (nI (n ^ go))) _
    unfold fL_law_L594_B
    refine kZ.ifp (nI_le (Nat.le_refl _) (n_lt31 (by omega))) ?_
    rw [odds_count hn hh1 hp go o ho]
    exact hK _
  · rintro F i s hi rfl next
    show kZ (fL_law_L594_B _ _ _ _ _ _ _ _ _ _ _ _ _ _ _ _ _ (nI i)) _
    unfold fL_law_L594_B
    refine kZ.ifn (nI_ge hi (n_lt31 (by omega))) ?_
    refine l_L612 H (by omega) go kFU 0 i o (by omega) (show go + 1 ≤ 60000 by omega) (n_lt31 (by omega)) ho hco (fun w1 w2 => ?_)
    have hw := wO_ok hn go i o ho hco
    show kZ (if (fL_at (nI (oP n (wO n κ go i o))) (nI p)) = nI hh then _ else _) _
    rw [l_at hn hw.1 hp, nI_1, nI_1, show (0 : Int32) = nI 0 from rfl, nI_add]
    refine kZ.ite (fun c => next _ ?_) (fun c => next _ ?_)
    · have e := nI_inj (uD_lt31 hn hw.1 hp) (hn.lp hh1) c
      show _ = nI (sB _ i + if uD n (wO n κ go i o) p = hh then 1 else 0)
      rw [if_pos e]
    · have e : ¬ uD n (wO n κ go i o) p = hh := fun q => c (congrArg nI q)
      show _ = nI (sB _ i + if uD n (wO n κ go i o) p = hh then 1 else 0)
      rw [if_neg e]
theorem l_J675 {K Gc : Int32 → Int32 → Int32 → Int32 → kS → Option (Int32 × kS)} {go hh p : Nat} (H : lS n κ φ o h t st) (hg : go ≤ 3) (hh1 : hh < n) (hp : p < n) (hK : ∀ st', lS n κ φ o h t st' → kZ (fL_law_J713 K Gc L xs st' (nI n) v5 v6 v7 v8 v10 v11) Q) : kZ (fL_law_J675 K Gc L xs st (nI n) v5 v6 v7 v8 v10 v11 (nI hh) (nI p) (nI go) (nI (n ^ go)) (nI (eP n κ (uI n o hh) go p))) Q := by
  have hn := H.1.1
  obtain ⟨hp1, hp2⟩ := pow_ok (t := go) hn (by omega)
  have hle := eP_le (κ := κ) (p := uI n o hh) hn go p
  obtain ⟨z1, ez1, e1, H1⟩ := c_odds (y := 0) H hh1 hp (show go ≤ 8 by omega) (by decide)
  obtain ⟨z2, ez2, e2, H2⟩ := c_odds (y := 1) H1 hh1 hp (show go ≤ 8 by omega) (by decide)
  unfold fL_law_J675
  rw [show fX9_odds st (nI hh) (nI p) (nI go) 0 = some z1 from ez1]
  simp only [Option.bind_some]
  rw [show fX9_odds (kJ st z1.2) (nI hh) (nI p) (nI go) 1 = some z2 from ez2]
  simp only [Option.bind_some]
  rw [e1, e2, nI_l (show eP n κ (uI n o hh) go p < 2 ^ 31 by omega), nI_l (show n ^ go < 2 ^ 31 by omega), show fL_terms (nI (uLw (eP n κ (uI n o hh) go p) (n ^ go) (nI 0))).toInt64 (nI (uLw (eP n κ (uI n o hh) go p) (n ^ go) (nI 1))).toInt64 (lN (eP n κ (uI n o hh) go p)) (lN (n ^ go)) = some 1 from l_terms (by omega) hp1 hp2]
  simp only [Option.bind_some]
  exact kZ.ifn (by decide) (hK _ H2)
theorem l_J531 {K Gc : Int32 → Int32 → Int32 → Int32 → kS → Option (Int32 × kS)} {X : Nat} (H : lS n κ φ o h t st) (hX : X < 2 ^ 31) (hK : ∀ st', lS n κ φ o h t st' → kZ (fL_law_J713 K Gc L xs st' (nI n) v5 (nI (oP n o)) v7 v8 v10 (nI X)) Q) : kZ (fL_law_J531 K Gc L xs st (nI n) v5 (nI (oP n o)) v7 v8 v10 (nI X)) Q := by
  have hn := H.1.1
  have h0 : 0 < n := by have := hn.1; omega
  have e1 : kr (nI X / 32) (nI n) = nI (X / 32 % n) := l_dm (d := 32) hX (by decide) (by decide) h0 hn.lt
  have e2 : kr (nI X / 256) (nI n) = nI (X / 256 % n) := l_dm (d := 256) hX (by decide) (by decide) h0 hn.lt
  have e3 : kr (nI X / 2048) 4 = nI (X / 2048 % 4) := l_dm (d := 2048) (m := 4) hX (by decide) (by decide) (by decide) (by decide)
  unfold fL_law_J531
  rw [e1, e2, e3]
  refine kZ.ifn (nI_ne0 h0 hn.lt) ?_
  refine l_L568 (by omega) (fun w => ?_)
  refine l_L594 H (by omega) (Nat.mod_lt _ h0) (Nat.mod_lt _ h0) (fun w2 => ?_)
  exact l_J675 H (by omega) (Nat.mod_lt _ h0) (Nat.mod_lt _ h0) hK
end LO
