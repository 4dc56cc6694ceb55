theorem k_more {L k : Nat} (hL : L ≤ 2560) (hk : k ≤ 513) (h : ¬ nI L - 5 < nI (5 * k)) : 5 * k + 5 ≤ L := by
  have e : (nI L - nI 5).toInt = (L : Int) - (5 : Nat) := pk_sub_toInt (by omega) (by omega)
  have e2 : (nI (5 * k)).toInt = ((5 * k : Nat) : Int) := nI_toInt (by omega)
  rw [show (5 : Int32) = nI 5 from rfl, Int32.lt_iff_toInt_lt, e, e2] at h
  omega
/-- the law's surroundings -/
def kLaw (E : kE) (b : Nat) : Prop :=
  match E with
  | (p, l, e, R, s, m, args, below, meth, c, A, Q, nL) => meth.sig.returnType = ret ∧ args = #[Value.ref b] ∧ Q = lw_Z below #[Value.ref b] s ∧ ∀ q : Nat, A q → s.heap.size ≤ q
theorem x_lawret {G : kG} {E : kE} {cs : Nat × Nat} {ws : va_W} {pc : Nat} {lv : List (Nat × Value)} {b : Nat} (C : kOk G E cL_law RL 4 room_1) (Z : kLaw E b) (hcs : cs.1 ≤ 600000 ∧ cs.2 ≤ 7302250) (hdg : decode cL_law pc = .ok (.ireturn, 1)) : kX G E cs ws pc lv [.int 1] := by
  obtain ⟨p, l, e, R, s, m, args, below, meth, c, A, Q, nL⟩ := E
  obtain ⟨hx, hb, -, -, -, hlocks, hK, -, -, rfl, -⟩ := C
  obtain ⟨hr, rfl, rfl, hA⟩ := Z
  intro H locs ls hP hD hS h
  refine va_forget (fun q hq => hA _ (hS.2.2 q hq)) ?_
  refine W.widen (k := 600000) (n := 7302250) hcs.1 hcs.2 ?_
  exact lw_ret hx hb hr hlocks hdg
set_option maxRecDepth 100000 in
set_option maxHeartbeats 4000000 in
/-- THE LAW'S LOOP: at its head, behind k calls, the two states are related -/
theorem law_loop {G : kG} {E : kE} {cs : Nat × Nat} {a am : Nat → Nat} (C : kOk G E cL_law RL 4 room_1) (hcs : cs.1 ≤ 600000 ∧ cs.2 ≤ 7302250) {b L : Nat} {xs : Nat → Int32} (hL : L ≤ 2560) (X : kScr E b L xs) (Z : kLaw E b) {R : Nat → kS → kS → Prop} (hmono : ∀ (k : Nat) (sx sm : kS), R k sx sm → R (k + 1) sx sm) (hS : kSim R) :
    ∀ (d k : Nat), 512 ≤ k + d → k ≤ 512 → ∀ (sx sm : kS), R k sx sm → kX G E cs (wX G a sx ++ wM G am sm) 18 [(0, .ref b), (1, .ref (a 0)), (2, .ref (am 0)), (3, .int (nI (5 * k)))] [] := by
  obtain ⟨h_letters, h_blank, h_fault, h_ring, h_aim, h_letter, h_house, h_as, h_at, h_feud, h_touch, h_joins, h_walk, h_night, h_nights, h_seed, h_apart, h_choose, h_fewest, h_surely, h_odds, h_ways, h_must, h_image, h_restore, h_count, h_digest⟩ := hS
  intro d
  induction d with
  | zero =>
    intro k hk1 hk2 sx sm hR
    obtain rfl : k = 512 := by omega
    refine x_iload_n (pc := 18) C 3 dL_law_18 rfl rfl ?_
    refine x_aload_n (pc := 19) C 0 dL_law_19 rfl rfl ?_
    refine x_slen (pc := 20) C X dL_law_20 ?_
    refine x_iconst (pc := 21) C 5 dL_law_21 (by decide) ?_
    refine x_isub (pc := 22) C dL_law_22 ?_
    refine x_icmp_gt (pc := 23) C 805 dL_law_23 (by decide) (fun c_1 => ?_) (fun c_1 => ?_)
    · refine x_iconst (pc := 805) C 1 dL_law_805 (by decide) ?_
      exact x_lawret C Z hcs dL_law_806
    · exact absurd (k_more hL (by omega) c_1) (by omega)
  | succ d ih =>
    intro k hk1 hk2 sx sm hR
    refine x_iload_n (pc := 18) C 3 dL_law_18 rfl rfl ?_
    refine x_aload_n (pc := 19) C 0 dL_law_19 rfl rfl ?_
    refine x_slen (pc := 20) C X dL_law_20 ?_
    refine x_iconst (pc := 21) C 5 dL_law_21 (by decide) ?_
    refine x_isub (pc := 22) C dL_law_22 ?_
    refine x_icmp_gt (pc := 23) C 805 dL_law_23 (by decide) (fun c_1 => ?_) (fun c_1 => ?_)
    · refine x_iconst (pc := 805) C 1 dL_law_805 (by decide) ?_
      exact x_lawret C Z hcs dL_law_806
    · have hlen := k_more hL (by omega) c_1
      have hk : k < 512 := by omega
      have h0 : vp_in (nI (5 * k)) L := vp_in_nI (by omega) (by omega)
      have h1 : vp_in (nI (5 * k) + 1) L := by rw [show (1 : Int32) = nI 1 from rfl, nI_add]; exact vp_in_nI (by omega) (by omega)
      have h2 : vp_in (nI (5 * k) + 2) L := by rw [show (2 : Int32) = nI 2 from rfl, nI_add]; exact vp_in_nI (by omega) (by omega)
      have h3 : vp_in (nI (5 * k) + 3) L := by rw [show (3 : Int32) = nI 3 from rfl, nI_add]; exact vp_in_nI (by omega) (by omega)
      have h4 : vp_in (nI (5 * k) + 4) L := by rw [show (4 : Int32) = nI 4 from rfl, nI_add]; exact vp_in_nI (by omega) (by omega)
      have next : ∀ (sx sm : kS), R (k + 1) sx sm → kX G E cs (wX G a sx ++ wM G am sm) 799 [(0, .ref b), (1, .ref (a 0)), (2, .ref (am 0)), (3, .int (nI (5 * k)))] [] := by
        intro sx sm hR
        refine x_iinc (pc := 799) C 3 (v := nI (5 * (k + 1))) (lv' := [(3, .int (nI (5 * (k + 1)))), (0, .ref b), (1, .ref (a 0)), (2, .ref (am 0))]) dL_law_799 rfl (by rw [show (Int32.ofInt 5) = nI 5 from rfl, nI_add]; rfl) (by decide) rfl ?_
        refine x_goto (pc := 802) C 18 dL_law_802 (by decide) ?_
        refine kX.pick [1, 2, 3, 0] (lv' := [(0, .ref b), (1, .ref (a 0)), (2, .ref (am 0)), (3, .int (nI (5 * (k + 1))))]) rfl ?_
        exact ih (k + 1) (by omega) (by omega) sx sm hR
      refine x_aload_n (pc := 26) C 0 dL_law_26 rfl rfl ?_
      refine x_iload_n (pc := 27) C 3 dL_law_27 rfl rfl ?_
      refine x_sld (pc := 28) C X h0 dL_law_28 ?_
      refine x_bipush (pc := 29) C 31 dL_law_29 (by decide) ?_
      refine x_iand (pc := 31) C dL_law_31 ?_
      generalize xs (nI (5 * k)).toNatClampNeg &&& 31 = v
      rcases Decidable.em (v = 0) with c0 | c0
      · refine x_tsIn (pc := 32) C 156 dL_law_32 (by rw [c0]; decide) (by rw [c0]; decide) (by rw [c0]; rfl) (by decide) ?_
        exact law_letters C hcs X h0 h1 h2 h3 h4 h_letters hk sx sm hR next
      rcases Decidable.em (v = 1) with c1 | c1
      · refine x_tsIn (pc := 32) C 209 dL_law_32 (by rw [c1]; decide) (by rw [c1]; decide) (by rw [c1]; rfl) (by decide) ?_
        exact law_blank C hcs X h0 h1 h2 h3 h4 h_blank hk sx sm hR next
      rcases Decidable.em (v = 2) with c2 | c2
      · refine x_tsIn (pc := 32) C 222 dL_law_32 (by rw [c2]; decide) (by rw [c2]; decide) (by rw [c2]; rfl) (by decide) ?_
        exact law_fault C hcs X h0 h1 h2 h3 h4 h_fault hk sx sm hR next
      rcases Decidable.em (v = 3) with c3 | c3
      · refine x_tsIn (pc := 32) C 245 dL_law_32 (by rw [c3]; decide) (by rw [c3]; decide) (by rw [c3]; rfl) (by decide) ?_
        exact law_ring C hcs X h0 h1 h2 h3 h4 h_ring hk sx sm hR next
      rcases Decidable.em (v = 4) with c4 | c4
      · refine x_tsIn (pc := 32) C 258 dL_law_32 (by rw [c4]; decide) (by rw [c4]; decide) (by rw [c4]; rfl) (by decide) ?_
        exact law_aim C hcs X h0 h1 h2 h3 h4 h_aim hk sx sm hR next
      rcases Decidable.em (v = 5) with c5 | c5
      · refine x_tsIn (pc := 32) C 271 dL_law_32 (by rw [c5]; decide) (by rw [c5]; decide) (by rw [c5]; rfl) (by decide) ?_
        exact law_letter C hcs X h0 h1 h2 h3 h4 h_letter hk sx sm hR next
      rcases Decidable.em (v = 6) with c6 | c6
      · refine x_tsIn (pc := 32) C 284 dL_law_32 (by rw [c6]; decide) (by rw [c6]; decide) (by rw [c6]; rfl) (by decide) ?_
        exact law_house C hcs X h0 h1 h2 h3 h4 h_house hk sx sm hR next
      rcases Decidable.em (v = 7) with c7 | c7
      · refine x_tsIn (pc := 32) C 317 dL_law_32 (by rw [c7]; decide) (by rw [c7]; decide) (by rw [c7]; rfl) (by decide) ?_
        exact law_as C hcs X h0 h1 h2 h3 h4 h_as hk sx sm hR next
      rcases Decidable.em (v = 8) with c8 | c8
      · refine x_tsIn (pc := 32) C 350 dL_law_32 (by rw [c8]; decide) (by rw [c8]; decide) (by rw [c8]; rfl) (by decide) ?_
        exact law_at C hcs X h0 h1 h2 h3 h4 h_at hk sx sm hR next
      rcases Decidable.em (v = 9) with c9 | c9
      · refine x_tsIn (pc := 32) C 373 dL_law_32 (by rw [c9]; decide) (by rw [c9]; decide) (by rw [c9]; rfl) (by decide) ?_
        exact law_feud C hcs X h0 h1 h2 h3 h4 h_feud hk sx sm hR next
      rcases Decidable.em (v = 10) with c10 | c10
      · refine x_tsIn (pc := 32) C 406 dL_law_32 (by rw [c10]; decide) (by rw [c10]; decide) (by rw [c10]; rfl) (by decide) ?_
        exact law_touch C hcs X h0 h1 h2 h3 h4 h_touch hk sx sm hR next
      rcases Decidable.em (v = 11) with c11 | c11
      · refine x_tsIn (pc := 32) C 419 dL_law_32 (by rw [c11]; decide) (by rw [c11]; decide) (by rw [c11]; rfl) (by decide) ?_
        exact law_joins C hcs X h0 h1 h2 h3 h4 h_joins hk sx sm hR next
      rcases Decidable.em (v = 12) with c12 | c12
      · refine x_tsIn (pc := 32) C 432 dL_law_32 (by rw [c12]; decide) (by rw [c12]; decide) (by rw [c12]; rfl) (by decide) ?_
        exact law_walk C hcs X h0 h1 h2 h3 h4 h_walk hk sx sm hR next
      rcases Decidable.em (v = 13) with c13 | c13
      · refine x_tsIn (pc := 32) C 455 dL_law_32 (by rw [c13]; decide) (by rw [c13]; decide) (by rw [c13]; rfl) (by decide) ?_
        exact law_night C hcs X h0 h1 h2 h3 h4 h_night hk sx sm hR next
      rcases Decidable.em (v = 14) with c14 | c14
      · refine x_tsIn (pc := 32) C 488 dL_law_32 (by rw [c14]; decide) (by rw [c14]; decide) (by rw [c14]; rfl) (by decide) ?_
        exact law_nights C hcs X h0 h1 h2 h3 h4 h_nights hk sx sm hR next
      rcases Decidable.em (v = 15) with c15 | c15
      · refine x_tsIn (pc := 32) C 521 dL_law_32 (by rw [c15]; decide) (by rw [c15]; decide) (by rw [c15]; rfl) (by decide) ?_
        exact law_seed C hcs X h0 h1 h2 h3 h4 h_seed hk sx sm hR next
      rcases Decidable.em (v = 16) with c16 | c16
      · refine x_tsIn (pc := 32) C 544 dL_law_32 (by rw [c16]; decide) (by rw [c16]; decide) (by rw [c16]; rfl) (by decide) ?_
        exact law_apart C hcs X h0 h1 h2 h3 h4 h_apart hk sx sm hR next
      rcases Decidable.em (v = 17) with c17 | c17
      · refine x_tsIn (pc := 32) C 577 dL_law_32 (by rw [c17]; decide) (by rw [c17]; decide) (by rw [c17]; rfl) (by decide) ?_
        exact law_choose C hcs X h0 h1 h2 h3 h4 h_choose hk sx sm hR next
      rcases Decidable.em (v = 18) with c18 | c18
      · refine x_tsIn (pc := 32) C 610 dL_law_32 (by rw [c18]; decide) (by rw [c18]; decide) (by rw [c18]; rfl) (by decide) ?_
        exact law_fewest C hcs X h0 h1 h2 h3 h4 h_fewest hk sx sm hR next
      rcases Decidable.em (v = 19) with c19 | c19
      · refine x_tsIn (pc := 32) C 623 dL_law_32 (by rw [c19]; decide) (by rw [c19]; decide) (by rw [c19]; rfl) (by decide) ?_
        exact law_surely C hcs X h0 h1 h2 h3 h4 h_surely hk sx sm hR next
      rcases Decidable.em (v = 20) with c20 | c20
      · refine x_tsIn (pc := 32) C 636 dL_law_32 (by rw [c20]; decide) (by rw [c20]; decide) (by rw [c20]; rfl) (by decide) ?_
        exact law_odds C hcs X h0 h1 h2 h3 h4 h_odds hk sx sm hR next
      rcases Decidable.em (v = 21) with c21 | c21
      · refine x_tsIn (pc := 32) C 689 dL_law_32 (by rw [c21]; decide) (by rw [c21]; decide) (by rw [c21]; rfl) (by decide) ?_
        exact law_ways C hcs X h0 h1 h2 h3 h4 h_ways hk sx sm hR next
      rcases Decidable.em (v = 22) with c22 | c22
      · refine x_tsIn (pc := 32) C 713 dL_law_32 (by rw [c22]; decide) (by rw [c22]; decide) (by rw [c22]; rfl) (by decide) ?_
        exact law_must C hcs X h0 h1 h2 h3 h4 h_must hk sx sm hR next
      rcases Decidable.em (v = 23) with c23 | c23
      · refine x_tsIn (pc := 32) C 736 dL_law_32 (by rw [c23]; decide) (by rw [c23]; decide) (by rw [c23]; rfl) (by decide) ?_
        exact law_image C hcs X h0 h1 h2 h3 h4 h_image hk sx sm hR next
      rcases Decidable.em (v = 24) with c24 | c24
      · refine x_tsIn (pc := 32) C 749 dL_law_32 (by rw [c24]; decide) (by rw [c24]; decide) (by rw [c24]; rfl) (by decide) ?_
        exact law_restore C hcs X h0 h1 h2 h3 h4 h_restore hk sx sm hR next
      rcases Decidable.em (v = 25) with c25 | c25
      · refine x_tsIn (pc := 32) C 762 dL_law_32 (by rw [c25]; decide) (by rw [c25]; decide) (by rw [c25]; rfl) (by decide) ?_
        exact law_count C hcs X h0 h1 h2 h3 h4 h_count hk sx sm hR next
      rcases Decidable.em (v = 26) with c26 | c26
      · refine x_tsIn (pc := 32) C 785 dL_law_32 (by rw [c26]; decide) (by rw [c26]; decide) (by rw [c26]; rfl) (by decide) ?_
        exact law_digest C hcs X h0 h1 h2 h3 h4 h_digest hk sx sm hR next
      refine x_tsOut (pc := 32) C 799 dL_law_32 (k_out (fun i hi1 hi2 => by
          have hq : i = 0 ∨ i = 1 ∨ i = 2 ∨ i = 3 ∨ i = 4 ∨ i = 5 ∨ i = 6 ∨ i = 7 ∨ i = 8 ∨ i = 9 ∨ i = 10 ∨ i = 11 ∨ i = 12 ∨ i = 13 ∨ i = 14 ∨ i = 15 ∨ i = 16 ∨ i = 17 ∨ i = 18 ∨ i = 19 ∨ i = 20 ∨ i = 21 ∨ i = 22 ∨ i = 23 ∨ i = 24 ∨ i = 25 ∨ i = 26 := by omega
          rcases hq with rfl | rfl | rfl | rfl | rfl | rfl | rfl | rfl | rfl | rfl | rfl | rfl | rfl | rfl | rfl | rfl | rfl | rfl | rfl | rfl | rfl | rfl | rfl | rfl | rfl | rfl | rfl
          · exact lv_neT c0 rfl
          · exact lv_neT c1 rfl
          · exact lv_neT c2 rfl
          · exact lv_neT c3 rfl
          · exact lv_neT c4 rfl
          · exact lv_neT c5 rfl
          · exact lv_neT c6 rfl
          · exact lv_neT c7 rfl
          · exact lv_neT c8 rfl
          · exact lv_neT c9 rfl
          · exact lv_neT c10 rfl
          · exact lv_neT c11 rfl
          · exact lv_neT c12 rfl
          · exact lv_neT c13 rfl
          · exact lv_neT c14 rfl
          · exact lv_neT c15 rfl
          · exact lv_neT c16 rfl
          · exact lv_neT c17 rfl
          · exact lv_neT c18 rfl
          · exact lv_neT c19 rfl
          · exact lv_neT c20 rfl
          · exact lv_neT c21 rfl
          · exact lv_neT c22 rfl
          · exact lv_neT c23 rfl
          · exact lv_neT c24 rfl
          · exact lv_neT c25 rfl
          · exact lv_neT c26 rfl)) (by decide) ?_
      exact next sx sm (hmono k sx sm hR)
set_option maxRecDepth 100000 in
set_option maxHeartbeats 4000000 in
/-- THE LAW from its entry, over a relation of the two states -/
theorem law_start {R : Nat → kS → kS → Prop} (h00 : R 0 kX0 kM0) (hmono : ∀ (k : Nat) (sx sm : kS), R k sx sm → R (k + 1) sx sm) (hSim : kSim R) {p : Program} {e : Env} {s : State} {m : MethodId} {below : List Frame} {meth : Method} {c : Code} (l : Launch) {b L : Nat} {xs : Nat → Int32} (hL : L ≤ 2560) (C0 : lw_At p s m meth c b L xs) : W p l e room_1 s m #[Value.ref b] below meth c s.heap [] 0 0 (lw_Z below #[Value.ref b] s) (entryFrame m ([Value.ref b] : List Value).toArray 4) := by
  obtain ⟨hx, hb, hr, hml, hown, hts, hX, hbl, hlocks, hgv⟩ := id C0
  have hts2 : ∀ w ∈ wsL_law, w.before #[Value.ref b] s = true := fun w h => hts w (wsL_law_in w h)
  obtain ⟨c1, i1, hKn1⟩ := u_known (C := RX1) (T := TX1) (N := 9) (n := 9) hts2 inlX1 (hts2 _ q2_11)
  obtain ⟨c2, i2, hKn2⟩ := u_known (C := RX2) (T := TX2) (N := 5) (n := 5) hts2 inlX2 (hts2 _ q2_7)
  obtain ⟨c3, i3, hKn3⟩ := u_known (C := RX3) (T := TX3) (N := 4) (n := 4) hts2 inlX3 (hts2 _ q2_2)
  obtain ⟨c4, i4, hKn4⟩ := u_known (C := RX4) (T := TX4) (N := 4) (n := 4) hts2 inlX4 (hts2 _ q1_17)
  obtain ⟨c5, i5, hKn5⟩ := u_known (C := RX5) (T := TX5) (N := 2) (n := 2) hts2 inlX5 (hts2 _ q1_20)
  obtain ⟨c6, i6, hKn6⟩ := u_known (C := RX6) (T := TX6) (N := 6) (n := 6) hts2 inlX6 (hts2 _ q2_15)
  obtain ⟨c7, i7, hKn7⟩ := u_known (C := RX7) (T := TX7) (N := 3) (n := 3) hts2 inlX7 (hts2 _ q2_19)
  obtain ⟨c8, i8, hKn8⟩ := u_known (C := RX8) (T := TX8) (N := 5) (n := 5) hts2 inlX8 (hts2 _ q1_14)
  obtain ⟨c9, i9, hKn9⟩ := u_known (C := RX9) (T := TX9) (N := 11) (n := 11) hts2 inlX9 (hts2 _ q1_1)
  obtain ⟨c10, i10, hKn10⟩ := u_known (C := RX10) (T := TX10) (N := 43) (n := 43) hts2 inlX10 (hts2 _ q1_4)
  obtain ⟨cI, kAI, compI, fI1, fI2, fI3⟩ := Cond.arrayClass_spec (hts2 _ q3_1)
  obtain ⟨cJ, kAJ, compJ, fJ1, fJ2, fJ3⟩ := Cond.arrayClass_spec (hts2 _ q4_17)
  obtain ⟨cB, kAB, compB, fB1, fB2, fB3⟩ := Cond.arrayClass_spec (hts2 _ q5_18)
  obtain ⟨cZ, kAZ, compZ, fZ1, fZ2, fZ3⟩ := Cond.arrayClass_spec (hts2 _ q5_12)
  obtain ⟨dC, hdC⟩ : ∃ f : Nat → ClassId, f = fun k => [c1, c2, c3, c4, c5, c6, c7, c8, c9, c10].getD k 0 := ⟨_, rfl⟩
  obtain ⟨dI, hdI⟩ : ∃ f : Nat → Nat → Nat, f = fun k => [i1, i2, i3, i4, i5, i6, i7, i8, i9, i10].getD k (fun _ => 0) := ⟨_, rfl⟩
  obtain ⟨G, hG⟩ : ∃ G : kG, G = ((dC, dI), cI, cJ, cB, cZ) := ⟨_, rfl⟩
  have hK : va_K (kD G) vwCl (kT G) s := by
    subst hG hdC hdI
    refine ⟨fun k q hq => ?_, fun k q hq => ?_⟩
    · match k, hq with
      | 0, hq => cases hq; exact hKn1
      | 1, hq => cases hq; exact hKn2
      | 2, hq => cases hq; exact hKn3
      | 3, hq => cases hq; exact hKn4
      | 4, hq => cases hq; exact hKn5
      | 5, hq => cases hq; exact hKn6
      | 6, hq => cases hq; exact hKn7
      | 7, hq => cases hq; exact hKn8
      | 8, hq => cases hq; exact hKn9
      | 9, hq => cases hq; exact hKn10
      | k + 10, hq => cases hq
    · match k, hq with
      | 0, hq => cases hq; exact ⟨fun n z => ⟨fun k h => (by cases h), kAI, fI2, compI, fI3⟩, fI1⟩
      | 1, hq => cases hq; exact ⟨fun n z => ⟨fun k h => (by cases h), kAJ, fJ2, compJ, fJ3⟩, fJ1⟩
      | 2, hq => cases hq; exact ⟨fun n z => ⟨fun k h => (by cases h), kAB, fB2, compB, fB3⟩, fB1⟩
      | 3, hq => cases hq; exact ⟨fun n z => ⟨fun k h => (by cases h), kAZ, fZ2, compZ, fZ3⟩, fZ1⟩
      | k + 4, hq => cases hq
  have hNw : ∀ w ∈ kNest, va_Nw w s := fun w h => va_Nw.of (kNest_on w h) (hts w (kNest_in w h))
  obtain ⟨E, hE⟩ : ∃ E : kE, E = (p, l, e, room_1, s, m, #[Value.ref b], below, meth, c, (fun q : Nat => s.heap.size ≤ q), lw_Z below #[Value.ref b] s, 4) := ⟨_, rfl⟩
  have C : kOk G E cL_law RL 4 room_1 := by
    subst hE
    exact ⟨hx, hb, hml, hown, hts2, hlocks, hK, fun _ h => h, rfl, rfl, hNw⟩
  have X : kScr E b L xs := by
    subst hE
    exact ⟨hX, hbl, Nat.not_le.mpr hbl⟩
  have Z : kLaw E b := by
    subst hE
    exact ⟨hr, rfl, rfl, fun _ h => h⟩
  have K : kX G E (0, 0) [] 0 [(0, .ref b)] [] := by
    refine x_new (pc := 0) C inlX9 tyX9 tyX9_ok q1_0 q1_1 q1_2 (ci := 8) rfl (fs := [.null, .null, .null, .null, .null, .null, .null, .null, .null, .int 0, .int 0]) (fun j hj => by
      rcases (show j = 0 ∨ j = 1 ∨ j = 2 ∨ j = 3 ∨ j = 4 ∨ j = 5 ∨ j = 6 ∨ j = 7 ∨ j = 8 ∨ j = 9 ∨ j = 10 by omega) with rfl | rfl | rfl | rfl | rfl | rfl | rfl | rfl | rfl | rfl | rfl <;> rfl) ⟨Nat.le_of_ble_eq_true rfl, Nat.le_of_ble_eq_true rfl⟩ dL_law_0 (fun q1 => ?_)
    refine x_dup (pc := 3) C dL_law_3 rfl ?_
    refine x_callI (pc := 4) C [] [] rfl (mX9_init G q1) yiX9_init q1_7 ⟨Nat.le_of_ble_eq_true rfl, Nat.le_of_ble_eq_true rfl, rfl, rfl⟩ ⟨Nat.le_of_ble_eq_true rfl, Nat.le_of_ble_eq_true rfl⟩ rfl rfl (Nat.le_of_ble_eq_true rfl) dL_law_4 (fun r1 w1 hp1 => ?_)
    obtain ⟨rfl, a, ha, rfl⟩ := hp1
    subst ha
    refine kX.eqs (stk' := [.ref (a 0)]) rfl ?_
    refine x_astore_n (pc := 7) C (lv' := [(1, .ref (a 0)), (0, .ref b)]) dL_law_7 rfl (by decide) rfl ?_
    refine x_new (pc := 8) C inlX10 tyX10 tyX10_ok q1_3 q1_4 q1_5 (ci := 9) rfl (fs := [.int 0, .int 0, .null, .null, .null, .null, .int 0, .null, .int 0, .long 0, .int 0, .null, .int 0, .int 0, .int 0, .long 0, .null, .null, .int 0, .int 0, .int 0, .int 0, .null, .null, .null, .int 0, .int 0, .int 0, .int 0, .int 0, .null, .null, .null, .null, .null, .null, .null, .null, .null, .null, .null, .null, .long 0]) (fun j hj => by
      rcases (show j = 0 ∨ j = 1 ∨ j = 2 ∨ j = 3 ∨ j = 4 ∨ j = 5 ∨ j = 6 ∨ j = 7 ∨ j = 8 ∨ j = 9 ∨ j = 10 ∨ j = 11 ∨ j = 12 ∨ j = 13 ∨ j = 14 ∨ j = 15 ∨ j = 16 ∨ j = 17 ∨ j = 18 ∨ j = 19 ∨ j = 20 ∨ j = 21 ∨ j = 22 ∨ j = 23 ∨ j = 24 ∨ j = 25 ∨ j = 26 ∨ j = 27 ∨ j = 28 ∨ j = 29 ∨ j = 30 ∨ j = 31 ∨ j = 32 ∨ j = 33 ∨ j = 34 ∨ j = 35 ∨ j = 36 ∨ j = 37 ∨ j = 38 ∨ j = 39 ∨ j = 40 ∨ j = 41 ∨ j = 42 by omega) with rfl | rfl | rfl | rfl | rfl | rfl | rfl | rfl | rfl | rfl | rfl | rfl | rfl | rfl | rfl | rfl | rfl | rfl | rfl | rfl | rfl | rfl | rfl | rfl | rfl | rfl | rfl | rfl | rfl | rfl | rfl | rfl | rfl | rfl | rfl | rfl | rfl | rfl | rfl | rfl | rfl | rfl | rfl <;> rfl) ⟨Nat.le_of_ble_eq_true rfl, Nat.le_of_ble_eq_true rfl⟩ dL_law_8 (fun q2 => ?_)
    refine x_dup (pc := 11) C dL_law_11 rfl ?_
    refine x_callI (pc := 12) C (wX G a kX0) [] rfl (mX10_init G q2) yiX10_init q5_7 ⟨Nat.le_of_ble_eq_true rfl, Nat.le_of_ble_eq_true rfl, rfl, rfl⟩ ⟨Nat.le_of_ble_eq_true rfl, Nat.le_of_ble_eq_true rfl⟩ rfl rfl (Nat.le_of_ble_eq_true rfl) dL_law_12 (fun r2 w2 hp2 => ?_)
    obtain ⟨rfl, am, ham, rfl⟩ := hp2
    subst ham
    refine kX.eqs (stk' := [.ref (am 0)]) rfl ?_
    refine x_astore_n (pc := 15) C (lv' := [(2, .ref (am 0)), (1, .ref (a 0)), (0, .ref b)]) dL_law_15 rfl (by decide) rfl ?_
    refine x_iconst (pc := 16) C 0 dL_law_16 (by decide) ?_
    refine x_istore_n (pc := 17) C (lv' := [(3, .int 0), (2, .ref (am 0)), (1, .ref (a 0)), (0, .ref b)]) dL_law_17 rfl (by decide) rfl ?_
    refine kX.pick [3, 2, 1, 0] (lv' := [(0, .ref b), (1, .ref (a 0)), (2, .ref (am 0)), (3, .int (nI (5 * 0)))]) rfl ?_
    exact law_loop C ⟨Nat.le_of_ble_eq_true rfl, Nat.le_of_ble_eq_true rfl⟩ hL X Z hmono hSim 512 0 (Nat.le_refl _) (Nat.zero_le _) kX0 kM0 h00
  subst hE
  rw [lg_entry_eq]
  exact K s.heap [] _ (fun k q h => by simp at h) ⟨fun i j p q h => by simp at h, fun k q h => by simp at h⟩ va_S.rf (lv_entry [Value.ref b] (Nat.le_of_ble_eq_true rfl))
