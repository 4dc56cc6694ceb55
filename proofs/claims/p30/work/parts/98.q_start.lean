def aX (a : Nat → Nat) (q2 q3 : Nat) : Nat → Nat := fun k => if k = 31 then q2 else if k = 32 then q3 else a k
set_option maxRecDepth 100000 in
set_option maxHeartbeats 4000000 in
/-- THE LAW from its entry -/
theorem law_start {p : Program} {e : Env} {s : State} {m : MethodId} {below : List Frame} {meth : Method} {c : Code} (l : Launch) {b L : Nat} {xs : Nat → Int32} (hL : L ≤ 260) (C0 : lw_At p s m meth c b L xs) : W p l e room_1 s m #[Value.ref b] below meth c s.heap [] 0 0 (lw_Z below #[Value.ref b] s) (entryFrame m ([Value.ref b] : List Value).toArray 36) := by
  obtain ⟨hx, hb, hr, hml, hown, hts, hX, hbl, hlocks, hgv⟩ := id C0
  have hts2 : ∀ w ∈ wsL_law, w.before #[Value.ref b] s = true := fun w h => hts w (wsL_law_in w h)
  obtain ⟨c1, i1, hKn1⟩ := u_known (C := RX1) (T := TX1) (N := 9) (n := 9) hts2 inlX1 (hts2 _ q2_9)
  obtain ⟨c2, i2, hKn2⟩ := u_known (C := RX2) (T := TX2) (N := 5) (n := 5) hts2 inlX2 (hts2 _ q2_5)
  obtain ⟨c3, i3, hKn3⟩ := u_known (C := RX3) (T := TX3) (N := 4) (n := 4) hts2 inlX3 (hts2 _ q2_0)
  obtain ⟨c4, i4, hKn4⟩ := u_known (C := RX4) (T := TX4) (N := 4) (n := 4) hts2 inlX4 (hts2 _ q1_15)
  obtain ⟨c5, i5, hKn5⟩ := u_known (C := RX5) (T := TX5) (N := 2) (n := 2) hts2 inlX5 (hts2 _ q1_18)
  obtain ⟨c6, i6, hKn6⟩ := u_known (C := RX6) (T := TX6) (N := 6) (n := 6) hts2 inlX6 (hts2 _ q2_13)
  obtain ⟨c7, i7, hKn7⟩ := u_known (C := RX7) (T := TX7) (N := 3) (n := 3) hts2 inlX7 (hts2 _ q2_17)
  obtain ⟨c8, i8, hKn8⟩ := u_known (C := RX8) (T := TX8) (N := 5) (n := 5) hts2 inlX8 (hts2 _ q1_12)
  obtain ⟨c9, i9, hKn9⟩ := u_known (C := RX9) (T := TX9) (N := 11) (n := 11) hts2 inlX9 (hts2 _ q1_1)
  obtain ⟨cI, kAI, compI, fI1, fI2, fI3⟩ := Cond.arrayClass_spec (hts2 _ q1_3)
  obtain ⟨cJ, kAJ, compJ, fJ1, fJ2, fJ3⟩ := Cond.arrayClass_spec (hts2 _ q4_14)
  obtain ⟨dC, hdC⟩ : ∃ f : Nat → ClassId, f = fun k => [c1, c2, c3, c4, c5, c6, c7, c8, c9].getD k 0 := ⟨_, rfl⟩
  obtain ⟨dI, hdI⟩ : ∃ f : Nat → Nat → Nat, f = fun k => [i1, i2, i3, i4, i5, i6, i7, i8, i9].getD k (fun _ => 0) := ⟨_, rfl⟩
  obtain ⟨G, hG⟩ : ∃ G : kG, G = ((dC, dI), cI, cJ, cI, cI) := ⟨_, rfl⟩
  have hK : va_K (kD G) vwCl (kT G) s := by
    subst hG hdC hdI
    refine ⟨fun k q hq => ?_, fun k q hq => ?_⟩
    · match k, hq with
      | 0, hq => cases hq; exact hKn1
      | 1, hq => cases hq; exact hKn2
      | 2, hq => cases hq; exact hKn3
      | 3, hq => cases hq; exact hKn4
      | 4, hq => cases hq; exact hKn5
      | 5, hq => cases hq; exact hKn6
      | 6, hq => cases hq; exact hKn7
      | 7, hq => cases hq; exact hKn8
      | 8, hq => cases hq; exact hKn9
      | k + 9, hq => cases hq
    · match k, hq with
      | 0, hq => cases hq; exact ⟨fun n z => ⟨fun k h => (by cases h), kAI, fI2, compI, fI3⟩, fI1⟩
      | 1, hq => cases hq; exact ⟨fun n z => ⟨fun k h => (by cases h), kAJ, fJ2, compJ, fJ3⟩, fJ1⟩
      | k + 2, hq => cases hq
  have hNw : ∀ w ∈ kNest, va_Nw w s := fun w h => va_Nw.of (kNest_on w h) (hts w (kNest_in w h))
  obtain ⟨E, hE⟩ : ∃ E : kE, E = (p, l, e, room_1, s, m, #[Value.ref b], below, meth, c, (fun q : Nat => s.heap.size ≤ q), lw_Z below #[Value.ref b] s, 36) := ⟨_, rfl⟩
  have C : kOk G E cL_law RL 36 room_1 := by
    subst hE
    exact ⟨hx, hb, hml, hown, hts2, hlocks, hK, fun _ h => h, rfl, rfl, hNw⟩
  have X : kScr E b L xs := by
    subst hE
    exact ⟨hX, hbl, Nat.not_le.mpr hbl⟩
  have Z : kLaw E b := by
    subst hE
    exact ⟨hr, rfl, rfl, fun _ h => h⟩
  obtain ⟨z, hz, hz1⟩ := l_law (xs := xs) hL
  have K : kX G E (0, 0) [] 0 [(0, .ref b)] [] := by
    refine x_new (pc := 0) C inlX9 tyX9 tyX9_ok q1_0 q1_1 q1_2 (ci := 8) rfl (fs := [.null, .null, .null, .null, .null, .null, .null, .null, .null, .int 0, .int 0]) (fun j hj => by
      rcases (show j = 0 ∨ j = 1 ∨ j = 2 ∨ j = 3 ∨ j = 4 ∨ j = 5 ∨ j = 6 ∨ j = 7 ∨ j = 8 ∨ j = 9 ∨ j = 10 by omega) with rfl | rfl | rfl | rfl | rfl | rfl | rfl | rfl | rfl | rfl | rfl <;> rfl) ⟨Nat.le_of_ble_eq_true rfl, Nat.le_of_ble_eq_true rfl⟩ dL_law_0 (fun q1 => ?_)
    refine x_dup (pc := 3) C dL_law_3 rfl ?_
    refine x_callI (pc := 4) C [] [] rfl (mX9_init G q1) yiX9_init q1_5 ⟨Nat.le_of_ble_eq_true rfl, Nat.le_of_ble_eq_true rfl, rfl, rfl⟩ ⟨Nat.le_of_ble_eq_true rfl, Nat.le_of_ble_eq_true rfl⟩ rfl rfl (Nat.le_of_ble_eq_true rfl) dL_law_4 (fun r1 w1 hp1 => ?_)
    obtain ⟨rfl, a, ha, rfl⟩ := hp1
    subst ha
    refine kX.eqs (stk' := [.ref (a 0)]) rfl ?_
    refine x_astore_n (pc := 7) C (lv' := [(1, .ref (a 0)), (0, .ref b)]) dL_law_7 rfl (by decide) rfl ?_
    refine x_bipush (pc := 8) C 6 dL_law_8 (by decide) ?_
    refine x_newa (pc := 10) C .int q1_3 .int rfl 0 rfl (fun _ _ => rfl) 6 (6, .inl (fun _ => 0)) (fun _ => rfl) (by decide) (by decide) (Nat.le_of_ble_eq_true rfl) ⟨Nat.le_of_ble_eq_true rfl, Nat.le_of_ble_eq_true rfl⟩ dL_law_10 (fun q2 => ?_)
    refine x_astore_n (pc := 12) C (lv' := [(2, .ref q2), (1, .ref (a 0)), (0, .ref b)]) dL_law_12 rfl (by decide) rfl ?_
    refine x_bipush (pc := 13) C 6 dL_law_13 (by decide) ?_
    refine x_newa (pc := 15) C .int q1_3 .int rfl 0 rfl (fun _ _ => rfl) 6 (6, .inl (fun _ => 0)) (fun _ => rfl) (by decide) (by decide) (Nat.le_of_ble_eq_true rfl) ⟨Nat.le_of_ble_eq_true rfl, Nat.le_of_ble_eq_true rfl⟩ dL_law_15 (fun q3 => ?_)
    refine x_astore_n (pc := 17) C (lv' := [(3, .ref q3), (2, .ref q2), (1, .ref (a 0)), (0, .ref b)]) dL_law_17 rfl (by decide) rfl ?_
    refine kX.eqw (ws' := wL G (aX a q2 q3) kX0) rfl ?_
    refine kX.pick [3, 2, 1, 0] (lv' := [(0, .ref b), (1, .ref (aX a q2 q3 0)), (2, .ref (aX a q2 q3 31)), (3, .ref (aX a q2 q3 32))]) rfl ?_
    exact wL_law C ⟨Z, ⟨Nat.le_of_ble_eq_true rfl, Nat.le_of_ble_eq_true rfl⟩, hz1⟩ X kX0 hz
  subst hE
  rw [lg_entry_eq]
  exact K s.heap [] _ (fun k q h => by simp at h) ⟨fun i j p q h => by simp at h, fun k q h => by simp at h⟩ va_S.rf (lv_entry [Value.ref b] (Nat.le_of_ble_eq_true rfl))
