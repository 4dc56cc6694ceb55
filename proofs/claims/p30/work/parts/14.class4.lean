theorem yvX2_leftBy : kYV yX2_leftBy RX2 cX2_leftBy 2 (some .int) 1 := ⟨q21_22, q21_23, q2_6, q22_0, by decide +kernel⟩
abbrev rmfX2_leftBy : Room := { frames := 2, cells := 0, slots := 0, locals := 43 }
def fX2_leftBy (st : kS) (x1 : Int32) : Int32 := (kg 6 (gA st 20) (fX8_around st x1))
set_option maxRecDepth 100000 in
set_option maxHeartbeats 4000000 in
theorem wX2_leftBy {G : kG} {E : kE} {a : Nat → Nat} {st0 : kS} (C : kOk G E cX2_leftBy RX2 2 rmfX2_leftBy) {z : Int32} (Zd : kEnd G E (0, 0) (some .int) (some (.int z)) (wX G a st0)) (x1 : Int32) (h : fX2_leftBy st0 x1 = z) : kX G E (0, 0) (wX G a st0) 0 [(0, .ref (a 6)), (1, .int x1)] [] := by
  unfold fX2_leftBy at h
  refine x_aload_n (pc := 0) C 0 dX2_leftBy_0 rfl rfl ?_
  refine x_get (pc := 1) C inlX2 6 rfl rfl 3 (by decide) q3_21 (v := .ref (a 20)) rfl dX2_leftBy_1 ?_
  refine x_aload_n (pc := 4) C 0 dX2_leftBy_4 rfl rfl ?_
  refine x_get (pc := 5) C inlX2 6 rfl rfl 0 (by decide) q3_22 (v := .ref (a 2)) rfl dX2_leftBy_5 ?_
  refine x_iload_n (pc := 8) C 1 dX2_leftBy_8 rfl rfl ?_
  refine x_callV (pc := 9) C 2 [.int x1] rfl rfl (mX8_around G a st0 x1) yvX8_around q22_1 ⟨Nat.le_of_ble_eq_true rfl, Nat.le_of_ble_eq_true rfl, rfl, rfl⟩ ⟨Nat.zero_le _, Nat.zero_le _⟩ rfl rfl (Nat.le_of_ble_eq_true rfl) rfl dX2_leftBy_9 ?_
  refine x_callS (pc := 12) C [.ref (a 20), .int (fX8_around st0 x1)] (mX0_get G (N := 6) (f := (gA st0 20)) 20 (lwX_A20 G a rfl) (by decide) (fX8_around st0 x1)) ysX0_get q21_13 ⟨Nat.le_of_ble_eq_true rfl, Nat.le_of_ble_eq_true rfl, rfl, rfl⟩ ⟨Nat.zero_le _, Nat.zero_le _⟩ rfl rfl (Nat.le_of_ble_eq_true rfl) rfl dX2_leftBy_12 ?_
  subst h
  exact x_iret (pc := 15) C Zd dX2_leftBy_15
set_option maxRecDepth 100000 in
theorem mX2_leftBy (G : kG) (a : Nat → Nat) (st : kS) (x1 : Int32) : kMet G yX2_leftBy cX2_leftBy 2 (some .int) rmfX2_leftBy (0, 0) [.ref (a 6), .int x1] (wX G a st) (some (.int (fX2_leftBy st x1))) (wX G a st) := kMet.mk (by decide +kernel) (Nat.le_of_ble_eq_true rfl) (fun E C Zd => wX2_leftBy  C Zd  x1 rfl)
theorem yvX2_rollsFor : kYV yX2_rollsFor RX2 cX2_rollsFor 5 (some .int) 2 := ⟨q21_5, q21_6, q2_6, q21_7, by decide +kernel⟩
abbrev rmfX2_rollsFor : Room := { frames := 3, cells := 0, slots := 0, locals := 69 }
def fX2_rollsFor_L52_B (K : Int32 → Int32 → Option (Int32 × kS)) (Gc : Int32 → Int32 → Option (Int32 × kS)) (st : kS) (v3 : Int32) (v4 : Int32) : Option (Int32 × kS) := if (gI st 3) ≤ v4 then (K v3 v4) else (Gc (v3 + (kmax (fX2_leftBy st (v4 - 1)) (kmax (fX2_leftBy st v4) (fX2_leftBy st (v4 + 1))))) (v4 + 1))
set_option maxRecDepth 100000 in
set_option maxHeartbeats 4000000 in
theorem wX2_rollsFor_L52_B {G : kG} {E : kE} {a : Nat → Nat} (C : kOk G E cX2_rollsFor RX2 5 rmfX2_rollsFor) {z : Int32 × kS} (Zd : kEnd G E (0, 0) (some .int) (some (.int z.1)) (wX G a z.2)) {K Gc : Int32 → Int32 → Option (Int32 × kS)} (st : kS) (v3 : Int32) (v4 : Int32) (hK : ∀ (u3 : Int32) (u4 : Int32), K u3 u4 = some z → kX G E (0, 0) (wX G a st) 101 [(3, .int u3)] []) (hG : ∀ (u3 : Int32) (u4 : Int32), Gc u3 u4 = some z → kX G E (0, 0) (wX G a st) 52 [(0, .ref (a 6)), (3, .int u3), (4, .int u4)] []) (h : fX2_rollsFor_L52_B K Gc st v3 v4 = some z) : kX G E (0, 0) (wX G a st) 52 [(0, .ref (a 6)), (3, .int v3), (4, .int v4)] [] := by
  unfold fX2_rollsFor_L52_B at h
  refine x_iload (pc := 52) C 2 dX2_rollsFor_52 rfl ?_
  refine x_aload_n (pc := 54) C 0 dX2_rollsFor_54 rfl rfl ?_
  refine x_get (pc := 55) C inlX2 6 rfl rfl 0 (by decide) q3_22 (v := .ref (a 2)) rfl dX2_rollsFor_55 ?_
  refine x_getN (pc := 58) C inlX8 2 rfl rfl 2 (by decide) nn4 (v := .int (gI st 3)) rfl dX2_rollsFor_58 ?_
  refine x_icmp_ge (pc := 61) C 101 dX2_rollsFor_61 (by decide) (fun c_4 => ?_) (fun c_4 => ?_)
  · have h := kIp c_4 h
    refine kX.pick [1] (lv' := [(3, .int v3)]) rfl ?_
    exact hK v3 v4 h
  · have h := kIn c_4 h
    refine x_iload_n (pc := 64) C 1 dX2_rollsFor_64 rfl rfl ?_
    refine x_aload_n (pc := 65) C 0 dX2_rollsFor_65 rfl rfl ?_
    refine x_iload (pc := 66) C 2 dX2_rollsFor_66 rfl ?_
    refine x_iconst (pc := 68) C 1 dX2_rollsFor_68 (by decide) ?_
    refine x_isub (pc := 69) C dX2_rollsFor_69 ?_
    refine x_callV (pc := 70) C 6 [.int (v4 - 1)] rfl rfl (mX2_leftBy G a st (v4 - 1)) yvX2_leftBy q21_21 ⟨Nat.le_of_ble_eq_true rfl, Nat.le_of_ble_eq_true rfl, rfl, rfl⟩ ⟨Nat.zero_le _, Nat.zero_le _⟩ rfl rfl (Nat.le_of_ble_eq_true rfl) rfl dX2_rollsFor_70 ?_
    refine x_aload_n (pc := 73) C 0 dX2_rollsFor_73 rfl rfl ?_
    refine x_iload (pc := 74) C 2 dX2_rollsFor_74 rfl ?_
    refine x_callV (pc := 76) C 6 [.int v4] rfl rfl (mX2_leftBy G a st v4) yvX2_leftBy q21_21 ⟨Nat.le_of_ble_eq_true rfl, Nat.le_of_ble_eq_true rfl, rfl, rfl⟩ ⟨Nat.zero_le _, Nat.zero_le _⟩ rfl rfl (Nat.le_of_ble_eq_true rfl) rfl dX2_rollsFor_76 ?_
    refine x_aload_n (pc := 79) C 0 dX2_rollsFor_79 rfl rfl ?_
    refine x_iload (pc := 80) C 2 dX2_rollsFor_80 rfl ?_
    refine x_iconst (pc := 82) C 1 dX2_rollsFor_82 (by decide) ?_
    refine x_iadd (pc := 83) C dX2_rollsFor_83 ?_
    refine x_callV (pc := 84) C 6 [.int (v4 + 1)] rfl rfl (mX2_leftBy G a st (v4 + 1)) yvX2_leftBy q21_21 ⟨Nat.le_of_ble_eq_true rfl, Nat.le_of_ble_eq_true rfl, rfl, rfl⟩ ⟨Nat.zero_le _, Nat.zero_le _⟩ rfl rfl (Nat.le_of_ble_eq_true rfl) rfl dX2_rollsFor_84 ?_
    refine y_mmax (pc := 87) C q21_8 q21_9 q16_3 q21_10 ⟨Nat.le_of_ble_eq_true rfl, Nat.le_of_ble_eq_true rfl⟩ ⟨Nat.zero_le _, Nat.zero_le _⟩ (Nat.le_of_ble_eq_true rfl) dX2_rollsFor_87 ?_
    refine y_mmax (pc := 90) C q21_8 q21_9 q16_3 q21_10 ⟨Nat.le_of_ble_eq_true rfl, Nat.le_of_ble_eq_true rfl⟩ ⟨Nat.zero_le _, Nat.zero_le _⟩ (Nat.le_of_ble_eq_true rfl) dX2_rollsFor_90 ?_
    refine x_iadd (pc := 93) C dX2_rollsFor_93 ?_
    refine x_istore_n (pc := 94) C (lv' := [(3, .int (v3 + (kmax (fX2_leftBy st (v4 - 1)) (kmax (fX2_leftBy st v4) (fX2_leftBy st (v4 + 1)))))), (0, .ref (a 6)), (4, .int v4)]) dX2_rollsFor_94 rfl (by decide) rfl ?_
    refine x_iinc (pc := 95) C 2 (v := v4 + 1) (lv' := [(4, .int (v4 + 1)), (3, .int (v3 + (kmax (fX2_leftBy st (v4 - 1)) (kmax (fX2_leftBy st v4) (fX2_leftBy st (v4 + 1)))))), (0, .ref (a 6))]) dX2_rollsFor_95 rfl rfl (by decide) rfl ?_
    refine x_goto (pc := 98) C 52 dX2_rollsFor_98 (by decide) ?_
    refine kX.pick [2, 1, 0] (lv' := [(0, .ref (a 6)), (3, .int (v3 + (kmax (fX2_leftBy st (v4 - 1)) (kmax (fX2_leftBy st v4) (fX2_leftBy st (v4 + 1)))))), (4, .int (v4 + 1))]) rfl ?_
    exact hG (v3 + (kmax (fX2_leftBy st (v4 - 1)) (kmax (fX2_leftBy st v4) (fX2_leftBy st (v4 + 1))))) (v4 + 1) h
def fX2_rollsFor_L52 (K : Int32 → Int32 → Option (Int32 × kS)) (st : kS) : Nat → Int32 → Int32 → Option (Int32 × kS)
  | 0, _, _ => none
  | F + 1, v3, v4 => fX2_rollsFor_L52_B K (fX2_rollsFor_L52 K st F) st v3 v4
set_option maxRecDepth 100000 in
set_option maxHeartbeats 4000000 in
theorem wX2_rollsFor_L52 {G : kG} {E : kE} {a : Nat → Nat} (C : kOk G E cX2_rollsFor RX2 5 rmfX2_rollsFor) {z : Int32 × kS} (Zd : kEnd G E (0, 0) (some .int) (some (.int z.1)) (wX G a z.2)) {K : Int32 → Int32 → Option (Int32 × kS)} (st : kS) (hK : ∀ (u3 : Int32) (u4 : Int32), K u3 u4 = some z → kX G E (0, 0) (wX G a st) 101 [(3, .int u3)] []) : ∀ (F : Nat) (v3 : Int32) (v4 : Int32), fX2_rollsFor_L52 K st F v3 v4 = some z → kX G E (0, 0) (wX G a st) 52 [(0, .ref (a 6)), (3, .int v3), (4, .int v4)] [] := by
  intro F
  induction F with
  | zero =>
    intro v3 v4 h
    exact absurd (show none = some z from h) (fun q => by cases q)
  | succ F ih =>
    intro v3 v4 h
    exact wX2_rollsFor_L52_B  C Zd  st v3 v4 hK (fun v3 v4 h => ih v3 v4 h) h
def fX2_rollsFor (st : kS) (x1 : Int32) (x2 : Int32) : Option (Int32 × kS) := if x2 = 0 then ((fX4_unfold st x1).bind (fun z_7 => (fX8_touching 6 (gA z_7 18) z_7).bind (fun z_8 => if z_8 = 0 then (some (1, z_7)) else (some (0, z_7))))) else (if (kg 3600 (gA st 19) x1) = 0 then (some (0, st)) else ((fX2_lookAhead st x1 x2).bind (fun z_3 => fX2_rollsFor_L52 (fun v3_5 v4_6 => some (v3_5, z_3)) z_3 kFU 0 0)))
set_option maxRecDepth 100000 in
set_option maxHeartbeats 4000000 in
theorem wX2_rollsFor {G : kG} {E : kE} {a : Nat → Nat} (C : kOk G E cX2_rollsFor RX2 5 rmfX2_rollsFor) {z : Int32 × kS} (Zd : kEnd G E (0, 0) (some .int) (some (.int z.1)) (wX G a z.2)) (st : kS) (x1 : Int32) (x2 : Int32) (h : fX2_rollsFor st x1 x2 = some z) : kX G E (0, 0) (wX G a st) 0 [(0, .ref (a 6)), (1, .int x1), (2, .int x2)] [] := by
  unfold fX2_rollsFor at h
  refine x_iload_n (pc := 0) C 2 dX2_rollsFor_0 rfl rfl ?_
  refine x_if_ne (pc := 1) C 28 dX2_rollsFor_1 (by decide) (fun c_1 => ?_) (fun c_1 => ?_)
  · have h := kIn c_1 h
    refine x_aload_n (pc := 28) C 0 dX2_rollsFor_28 rfl rfl ?_
    refine x_get (pc := 29) C inlX2 6 rfl rfl 2 (by decide) q3_20 (v := .ref (a 19)) rfl dX2_rollsFor_29 ?_
    refine x_iload_n (pc := 32) C 1 dX2_rollsFor_32 rfl rfl ?_
    refine x_callS (pc := 33) C [.ref (a 19), .int x1] (mX0_get G (N := 3600) (f := (gA st 19)) 19 (lwX_A19 G a rfl) (by decide) x1) ysX0_get q21_13 ⟨Nat.le_of_ble_eq_true rfl, Nat.le_of_ble_eq_true rfl, rfl, rfl⟩ ⟨Nat.zero_le _, Nat.zero_le _⟩ rfl rfl (Nat.le_of_ble_eq_true rfl) rfl dX2_rollsFor_33 ?_
    refine x_if_ne (pc := 36) C 41 dX2_rollsFor_36 (by decide) (fun c_2 => ?_) (fun c_2 => ?_)
    · have h := kIn c_2 h
      refine x_aload_n (pc := 41) C 0 dX2_rollsFor_41 rfl rfl ?_
      refine x_iload_n (pc := 42) C 1 dX2_rollsFor_42 rfl rfl ?_
      refine x_iload_n (pc := 43) C 2 dX2_rollsFor_43 rfl rfl ?_
      obtain ⟨z_3, hz_3, h⟩ := kB h
      refine x_callV (pc := 44) C 6 [.int x1, .int x2] rfl rfl (mX2_lookAhead G a st x1 x2 hz_3) yvX2_lookAhead q21_14 ⟨Nat.le_of_ble_eq_true rfl, Nat.le_of_ble_eq_true rfl, rfl, rfl⟩ ⟨Nat.zero_le _, Nat.zero_le _⟩ rfl rfl (Nat.le_of_ble_eq_true rfl) rfl dX2_rollsFor_44 ?_
      refine x_iconst (pc := 47) C 0 dX2_rollsFor_47 (by decide) ?_
      refine x_istore_n (pc := 48) C (lv' := [(3, .int 0), (0, .ref (a 6)), (1, .int x1), (2, .int x2)]) dX2_rollsFor_48 rfl (by decide) rfl ?_
      refine x_iconst (pc := 49) C 0 dX2_rollsFor_49 (by decide) ?_
      refine x_istore (pc := 50) C (lv' := [(4, .int 0), (3, .int 0), (0, .ref (a 6)), (1, .int x1), (2, .int x2)]) dX2_rollsFor_50 (by decide) rfl ?_
      refine kX.pick [2, 1, 0] (lv' := [(0, .ref (a 6)), (3, .int 0), (4, .int 0)]) rfl ?_
      refine wX2_rollsFor_L52  C Zd  z_3  (fun v3_5 v4_6 h => ?_) kFU 0 0 h
      refine x_iload_n (pc := 101) C 0 dX2_rollsFor_101 rfl rfl ?_
      obtain rfl := Option.some.inj h
      exact x_iret (pc := 102) C Zd dX2_rollsFor_102
    · have h := kIp c_2 h
      refine x_iconst (pc := 39) C 0 dX2_rollsFor_39 (by decide) ?_
      obtain rfl := Option.some.inj h
      exact x_iret (pc := 40) C Zd dX2_rollsFor_40
  · have h := kIp c_1 h
    refine x_aload_n (pc := 4) C 0 dX2_rollsFor_4 rfl rfl ?_
    refine x_get (pc := 5) C inlX2 6 rfl rfl 0 (by decide) q3_22 (v := .ref (a 2)) rfl dX2_rollsFor_5 ?_
    refine x_aload_n (pc := 8) C 0 dX2_rollsFor_8 rfl rfl ?_
    refine x_get (pc := 9) C inlX2 6 rfl rfl 1 (by decide) q3_23 (v := .ref (a 5)) rfl dX2_rollsFor_9 ?_
    refine x_iload_n (pc := 12) C 1 dX2_rollsFor_12 rfl rfl ?_
    obtain ⟨z_7, hz_7, h⟩ := kB h
    refine x_callV (pc := 13) C 5 [.int x1] rfl rfl (mX4_unfold G a st x1 hz_7) yvX4_unfold q21_11 ⟨Nat.le_of_ble_eq_true rfl, Nat.le_of_ble_eq_true rfl, rfl, rfl⟩ ⟨Nat.zero_le _, Nat.zero_le _⟩ rfl rfl (Nat.le_of_ble_eq_true rfl) rfl dX2_rollsFor_13 ?_
    obtain ⟨z_8, hz_8, h⟩ := kB h
    refine x_callV (pc := 16) C 2 [.ref (a 18)] rfl rfl (mX8_touching G a (N := 6) (f := (gA z_7 18)) 18 (lwX_A18 G a rfl) (by decide) z_7 hz_8) yvX8_touching q21_12 ⟨Nat.le_of_ble_eq_true rfl, Nat.le_of_ble_eq_true rfl, rfl, rfl⟩ ⟨Nat.zero_le _, Nat.zero_le _⟩ rfl rfl (Nat.le_of_ble_eq_true rfl) rfl dX2_rollsFor_16 ?_
    refine x_if_ne (pc := 19) C 26 dX2_rollsFor_19 (by decide) (fun c_9 => ?_) (fun c_9 => ?_)
    · have h := kIn c_9 h
      refine x_iconst (pc := 26) C 0 dX2_rollsFor_26 (by decide) ?_
      obtain rfl := Option.some.inj h
      exact x_iret (pc := 27) C Zd dX2_rollsFor_27
    · have h := kIp c_9 h
      refine x_iconst (pc := 22) C 1 dX2_rollsFor_22 (by decide) ?_
      refine x_goto (pc := 23) C 27 dX2_rollsFor_23 (by decide) ?_
      obtain rfl := Option.some.inj h
      exact x_iret (pc := 27) C Zd dX2_rollsFor_27
set_option maxRecDepth 100000 in
theorem mX2_rollsFor (G : kG) (a : Nat → Nat) (st : kS) (x1 : Int32) (x2 : Int32) {z : Int32 × kS} (h : fX2_rollsFor st x1 x2 = some z) : kMet G yX2_rollsFor cX2_rollsFor 5 (some .int) rmfX2_rollsFor (0, 0) [.ref (a 6), .int x1, .int x2] (wX G a st) (some (.int z.1)) (wX G a z.2) := kMet.mk (by decide +kernel) (Nat.le_of_ble_eq_true rfl) (fun E C Zd => wX2_rollsFor  C Zd  st x1 x2 h)
theorem yvX2_learn : kYV yX2_learn RX2 cX2_learn 3 none 1 := ⟨q21_1, q21_2, q2_6, q21_3, by decide +kernel⟩
abbrev rmfX2_learn : Room := { frames := 4, cells := 0, slots := 0, locals := 93 }
def fX2_learn_L18_B (K : Int32 → kS → Option (kS)) (Gc : Int32 → kS → Option (kS)) (st : kS) (v1 : Int32) (v2 : Int32) : Option (kS) := if (gI st 11) ≤ v2 then (K v2 st) else ((fX2_rollsFor st v2 (gI st 12)).bind (fun z_4 => Gc (v2 + 1) (sA z_4.2 19 (kp 3600 (gA z_4.2 19) (((gI st 12) * 720) + v2) z_4.1))))
set_option maxRecDepth 100000 in
set_option maxHeartbeats 4000000 in
theorem wX2_learn_L18_B {G : kG} {E : kE} {a : Nat → Nat} (C : kOk G E cX2_learn RX2 3 rmfX2_learn) {z : kS} (Zd : kEnd G E (0, 0) none none (wX G a z)) {K Gc : Int32 → kS → Option (kS)} (st : kS) (v1 : Int32) (v2 : Int32) (hK : ∀ (u2 : Int32) (su : kS), K u2 su = some z → kX G E (0, 0) (wX G a su) 61 [(0, .ref (a 6)), (1, .int v1)] []) (hG : ∀ (u2 : Int32) (su : kS), Gc u2 su = some z → kX G E (0, 0) (wX G a su) 18 [(0, .ref (a 6)), (1, .int v1), (2, .int u2)] []) (h : fX2_learn_L18_B K Gc st v1 v2 = some z) : kX G E (0, 0) (wX G a st) 18 [(0, .ref (a 6)), (1, .int v1), (2, .int v2)] [] := by
  unfold fX2_learn_L18_B at h
  refine x_iload_n (pc := 18) C 2 dX2_learn_18 rfl rfl ?_
  refine x_aload_n (pc := 19) C 0 dX2_learn_19 rfl rfl ?_
  refine x_get (pc := 20) C inlX2 6 rfl rfl 1 (by decide) q3_23 (v := .ref (a 5)) rfl dX2_learn_20 ?_
  refine x_getN (pc := 23) C inlX4 5 rfl rfl 3 (by decide) nn9 (v := .int (gI st 11)) rfl dX2_learn_23 ?_
  refine x_icmp_ge (pc := 26) C 61 dX2_learn_26 (by decide) (fun c_3 => ?_) (fun c_3 => ?_)
  · have h := kIp c_3 h
    refine kX.pick [0, 1] (lv' := [(0, .ref (a 6)), (1, .int v1)]) rfl ?_
    exact hK v2 st h
  · have h := kIn c_3 h
    refine x_aload_n (pc := 29) C 0 dX2_learn_29 rfl rfl ?_
    refine x_get (pc := 30) C inlX2 6 rfl rfl 2 (by decide) q3_20 (v := .ref (a 19)) rfl dX2_learn_30 ?_
    refine x_aload_n (pc := 33) C 0 dX2_learn_33 rfl rfl ?_
    refine x_get (pc := 34) C inlX2 6 rfl rfl 4 (by decide) q11_18 (v := .int (gI st 12)) rfl dX2_learn_34 ?_
    refine x_sipush (pc := 37) C 720 dX2_learn_37 (by decide) ?_
    refine x_imul (pc := 40) C dX2_learn_40 ?_
    refine x_iload_n (pc := 41) C 2 dX2_learn_41 rfl rfl ?_
    refine x_iadd (pc := 42) C dX2_learn_42 ?_
    refine x_aload_n (pc := 43) C 0 dX2_learn_43 rfl rfl ?_
    refine x_iload_n (pc := 44) C 2 dX2_learn_44 rfl rfl ?_
    refine x_aload_n (pc := 45) C 0 dX2_learn_45 rfl rfl ?_
    refine x_get (pc := 46) C inlX2 6 rfl rfl 4 (by decide) q11_18 (v := .int (gI st 12)) rfl dX2_learn_46 ?_
    obtain ⟨z_4, hz_4, h⟩ := kB h
    refine x_callV (pc := 49) C 6 [.int v2, .int (gI st 12)] rfl rfl (mX2_rollsFor G a st v2 (gI st 12) hz_4) yvX2_rollsFor q21_4 ⟨Nat.le_of_ble_eq_true rfl, Nat.le_of_ble_eq_true rfl, rfl, rfl⟩ ⟨Nat.zero_le _, Nat.zero_le _⟩ rfl rfl (Nat.le_of_ble_eq_true rfl) rfl dX2_learn_49 ?_
    refine x_callS (pc := 52) C [.ref (a 19), .int (((gI st 12) * 720) + v2), .int z_4.1] (mX0_put G (N := 3600) (f := (gA z_4.2 19)) 19 (lwX_A19 G a rfl) (by decide) (((gI st 12) * 720) + v2) z_4.1 (swX_A19 G a _ _)) ysX0_put q21_20 ⟨Nat.le_of_ble_eq_true rfl, Nat.le_of_ble_eq_true rfl, rfl, rfl⟩ ⟨Nat.zero_le _, Nat.zero_le _⟩ rfl rfl (Nat.le_of_ble_eq_true rfl) rfl dX2_learn_52 ?_
    refine x_iinc (pc := 55) C 2 (v := v2 + 1) (lv' := [(2, .int (v2 + 1)), (0, .ref (a 6)), (1, .int v1)]) dX2_learn_55 rfl rfl (by decide) rfl ?_
    refine x_goto (pc := 58) C 18 dX2_learn_58 (by decide) ?_
    refine kX.pick [1, 2, 0] (lv' := [(0, .ref (a 6)), (1, .int v1), (2, .int (v2 + 1))]) rfl ?_
    exact hG (v2 + 1) (sA z_4.2 19 (kp 3600 (gA z_4.2 19) (((gI st 12) * 720) + v2) z_4.1)) h
def fX2_learn_L18 (K : Int32 → kS → Option (kS)) (v1 : Int32) : Nat → Int32 → kS → Option (kS)
  | 0, _, _ => none
  | F + 1, v2, st => fX2_learn_L18_B K (fX2_learn_L18 K v1 F) st v1 v2
set_option maxRecDepth 100000 in
set_option maxHeartbeats 4000000 in
theorem wX2_learn_L18 {G : kG} {E : kE} {a : Nat → Nat} (C : kOk G E cX2_learn RX2 3 rmfX2_learn) {z : kS} (Zd : kEnd G E (0, 0) none none (wX G a z)) {K : Int32 → kS → Option (kS)} (v1 : Int32) (hK : ∀ (u2 : Int32) (su : kS), K u2 su = some z → kX G E (0, 0) (wX G a su) 61 [(0, .ref (a 6)), (1, .int v1)] []) : ∀ (F : Nat) (v2 : Int32) (st : kS), fX2_learn_L18 K v1 F v2 st = some z → kX G E (0, 0) (wX G a st) 18 [(0, .ref (a 6)), (1, .int v1), (2, .int v2)] [] := by
  intro F
  induction F with
  | zero =>
    intro v2 st h
    exact absurd (show none = some z from h) (fun q => by cases q)
  | succ F ih =>
    intro v2 st h
    exact wX2_learn_L18_B  C Zd  st v1 v2 hK (fun v2 st h => ih v2 st h) h
def fX2_learn_L0_B (K : kS → Option (kS)) (Gc : kS → Option (kS)) (st : kS) (v1 : Int32) : Option (kS) := if v1 ≤ (gI st 12) then (K st) else (if 5 ≤ (gI st 12) then (K st) else (fX2_learn_L18 (fun v2_5 st_6 => Gc (sI st_6 12 ((gI st_6 12) + 1))) v1 kFU 0 st))
set_option maxRecDepth 100000 in
set_option maxHeartbeats 4000000 in
theorem wX2_learn_L0_B {G : kG} {E : kE} {a : Nat → Nat} (C : kOk G E cX2_learn RX2 3 rmfX2_learn) {z : kS} (Zd : kEnd G E (0, 0) none none (wX G a z)) {K Gc : kS → Option (kS)} (st : kS) (v1 : Int32) (hK : ∀  (su : kS), K  su = some z → kX G E (0, 0) (wX G a su) 74 [] []) (hG : ∀  (su : kS), Gc  su = some z → kX G E (0, 0) (wX G a su) 0 [(0, .ref (a 6)), (1, .int v1)] []) (h : fX2_learn_L0_B K Gc st v1 = some z) : kX G E (0, 0) (wX G a st) 0 [(0, .ref (a 6)), (1, .int v1)] [] := by
  unfold fX2_learn_L0_B at h
  refine x_aload_n (pc := 0) C 0 dX2_learn_0 rfl rfl ?_
  refine x_get (pc := 1) C inlX2 6 rfl rfl 4 (by decide) q11_18 (v := .int (gI st 12)) rfl dX2_learn_1 ?_
  refine x_iload_n (pc := 4) C 1 dX2_learn_4 rfl rfl ?_
  refine x_icmp_ge (pc := 5) C 74 dX2_learn_5 (by decide) (fun c_1 => ?_) (fun c_1 => ?_)
  · have h := kIp c_1 h
    refine kX.pick [] (lv' := []) rfl ?_
    exact hK st h
  · have h := kIn c_1 h
    refine x_aload_n (pc := 8) C 0 dX2_learn_8 rfl rfl ?_
    refine x_get (pc := 9) C inlX2 6 rfl rfl 4 (by decide) q11_18 (v := .int (gI st 12)) rfl dX2_learn_9 ?_
    refine x_iconst (pc := 12) C 5 dX2_learn_12 (by decide) ?_
    refine x_icmp_ge (pc := 13) C 74 dX2_learn_13 (by decide) (fun c_2 => ?_) (fun c_2 => ?_)
    · have h := kIp c_2 h
      refine kX.pick [] (lv' := []) rfl ?_
      exact hK st h
    · have h := kIn c_2 h
      refine x_iconst (pc := 16) C 0 dX2_learn_16 (by decide) ?_
      refine x_istore_n (pc := 17) C (lv' := [(2, .int 0), (0, .ref (a 6)), (1, .int v1)]) dX2_learn_17 rfl (by decide) rfl ?_
      refine kX.pick [1, 2, 0] (lv' := [(0, .ref (a 6)), (1, .int v1), (2, .int 0)]) rfl ?_
      refine wX2_learn_L18  C Zd  v1 (fun v2_5 st_6 h => ?_) kFU 0 st h
      refine x_aload_n (pc := 61) C 0 dX2_learn_61 rfl rfl ?_
      refine x_dup (pc := 62) C dX2_learn_62 rfl ?_
      refine x_get (pc := 63) C inlX2 6 rfl rfl 4 (by decide) q11_18 (v := .int (gI st_6 12)) rfl dX2_learn_63 ?_
      refine x_iconst (pc := 66) C 1 dX2_learn_66 (by decide) ?_
      refine x_iadd (pc := 67) C dX2_learn_67 ?_
      refine x_put (pc := 68) C inlX2 tyX2 tyX2_ok nmX2 6 rfl rfl 4 (by decide) q11_18 rfl .int (v := .int ((gI st_6 12) + 1)) (by decide +kernel) rfl rfl (Nat.le_of_ble_eq_true rfl) (swX_I12 G a _ _) dX2_learn_68 ?_
      refine x_goto (pc := 71) C 0 dX2_learn_71 (by decide) ?_
      exact hG (sI st_6 12 ((gI st_6 12) + 1)) h
def fX2_learn_L0 (K : kS → Option (kS)) (v1 : Int32) : Nat → kS → Option (kS)
  | 0, _ => none
  | F + 1, st => fX2_learn_L0_B K (fX2_learn_L0 K v1 F) st v1
set_option maxRecDepth 100000 in
set_option maxHeartbeats 4000000 in
theorem wX2_learn_L0 {G : kG} {E : kE} {a : Nat → Nat} (C : kOk G E cX2_learn RX2 3 rmfX2_learn) {z : kS} (Zd : kEnd G E (0, 0) none none (wX G a z)) {K : kS → Option (kS)} (v1 : Int32) (hK : ∀  (su : kS), K  su = some z → kX G E (0, 0) (wX G a su) 74 [] []) : ∀ (F : Nat) (st : kS), fX2_learn_L0 K v1 F st = some z → kX G E (0, 0) (wX G a st) 0 [(0, .ref (a 6)), (1, .int v1)] [] := by
  intro F
  induction F with
  | zero =>
    intro st h
    exact absurd (show none = some z from h) (fun q => by cases q)
  | succ F ih =>
    intro st h
    exact wX2_learn_L0_B  C Zd  st v1 hK (fun st h => ih st h) h
def fX2_learn (st : kS) (x1 : Int32) : Option (kS) := fX2_learn_L0 (fun st_7 => some st_7) x1 kFU st
set_option maxRecDepth 100000 in
set_option maxHeartbeats 4000000 in
theorem wX2_learn {G : kG} {E : kE} {a : Nat → Nat} (C : kOk G E cX2_learn RX2 3 rmfX2_learn) {z : kS} (Zd : kEnd G E (0, 0) none none (wX G a z)) (st : kS) (x1 : Int32) (h : fX2_learn st x1 = some z) : kX G E (0, 0) (wX G a st) 0 [(0, .ref (a 6)), (1, .int x1)] [] := by
  unfold fX2_learn at h
  refine wX2_learn_L0  C Zd  x1 (fun st_7 h => ?_) kFU  st h
  obtain rfl := Option.some.inj h
  exact x_vret (pc := 74) C Zd dX2_learn_74
set_option maxRecDepth 100000 in
theorem mX2_learn (G : kG) (a : Nat → Nat) (st : kS) (x1 : Int32) {z : kS} (h : fX2_learn st x1 = some z) : kMet G yX2_learn cX2_learn 3 none rmfX2_learn (0, 0) [.ref (a 6), .int x1] (wX G a st) none (wX G a z) := kMet.mk (by decide +kernel) (Nat.le_of_ble_eq_true rfl) (fun E C Zd => wX2_learn  C Zd  st x1 h)
theorem yvX9_number : kYV yX9_number RX9 cX9_number 1 (some .int) 0 := ⟨q20_3, q20_4, q1_2, q20_5, by decide +kernel⟩
abbrev rmfX9_number : Room := { frames := 2, cells := 0, slots := 0, locals := 46 }
def fX9_number (st : kS) : Option (Int32) := (fX4_numberOf 6 (gA st 13) st).bind (fun z_1 => some z_1)
set_option maxRecDepth 100000 in
set_option maxHeartbeats 4000000 in
theorem wX9_number {G : kG} {E : kE} {a : Nat → Nat} {st0 : kS} (C : kOk G E cX9_number RX9 1 rmfX9_number) {z : Int32} (Zd : kEnd G E (0, 0) (some .int) (some (.int z)) (wX G a st0)) (h : fX9_number st0 = some z) : kX G E (0, 0) (wX G a st0) 0 [(0, .ref (a 0))] [] := by
  unfold fX9_number at h
  refine x_aload_n (pc := 0) C 0 dX9_number_0 rfl rfl ?_
  refine x_get (pc := 1) C inlX9 0 rfl rfl 4 (by decide) q1_22 (v := .ref (a 5)) rfl dX9_number_1 ?_
  refine x_aload_n (pc := 4) C 0 dX9_number_4 rfl rfl ?_
  refine x_get (pc := 5) C inlX9 0 rfl rfl 2 (by decide) q2_2 (v := .ref (a 3)) rfl dX9_number_5 ?_
  refine x_getN (pc := 8) C inlX3 3 rfl rfl 0 (by decide) nn15 (v := .ref (a 13)) rfl dX9_number_8 ?_
  obtain ⟨z_1, hz_1, h⟩ := kB h
  refine x_callV (pc := 11) C 5 [.ref (a 13)] rfl rfl (mX4_numberOf G a (N := 6) (f := (gA st0 13)) 13 (lwX_A13 G a rfl) (by decide) st0 hz_1) yvX4_numberOf q20_6 ⟨Nat.le_of_ble_eq_true rfl, Nat.le_of_ble_eq_true rfl, rfl, rfl⟩ ⟨Nat.zero_le _, Nat.zero_le _⟩ rfl rfl (Nat.le_of_ble_eq_true rfl) rfl dX9_number_11 ?_
  obtain rfl := Option.some.inj h
  exact x_iret (pc := 14) C Zd dX9_number_14
set_option maxRecDepth 100000 in
theorem mX9_number (G : kG) (a : Nat → Nat) (st : kS)  {z : Int32} (h : fX9_number st = some z) : kMet G yX9_number cX9_number 1 (some .int) rmfX9_number (0, 0) [.ref (a 0)] (wX G a st) (some (.int z)) (wX G a st) := kMet.mk (by decide +kernel) (Nat.le_of_ble_eq_true rfl) (fun E C Zd => wX9_number  C Zd   h)
theorem yvX8_rolls : kYV yX8_rolls RX8 cX8_rolls 4 (some .int) 1 := ⟨q18_11, q18_12, q1_13, q18_13, by decide +kernel⟩
abbrev rmfX8_rolls : Room := { frames := 0, cells := 0, slots := 0, locals := 0 }
def fX8_rolls_L4_B (K : Int32 → Int32 → Option (Int32)) (Gc : Int32 → Int32 → Option (Int32)) (st : kS) (v1 : Int32) (v2 : Int32) (v3 : Int32) : Option (Int32) := if v1 ≤ v3 then (K v2 v3) else (Gc (v2 * (gI st 3)) (v3 + 1))
set_option maxRecDepth 100000 in
set_option maxHeartbeats 4000000 in
theorem wX8_rolls_L4_B {G : kG} {E : kE} {a : Nat → Nat} {st0 : kS} (C : kOk G E cX8_rolls RX8 4 rmfX8_rolls) {z : Int32} (Zd : kEnd G E (0, 0) (some .int) (some (.int z)) (wX G a st0)) {K Gc : Int32 → Int32 → Option (Int32)} (v1 : Int32) (v2 : Int32) (v3 : Int32) (hK : ∀ (u2 : Int32) (u3 : Int32), K u2 u3 = some z → kX G E (0, 0) (wX G a st0) 22 [(2, .int u2)] []) (hG : ∀ (u2 : Int32) (u3 : Int32), Gc u2 u3 = some z → kX G E (0, 0) (wX G a st0) 4 [(0, .ref (a 2)), (1, .int v1), (2, .int u2), (3, .int u3)] []) (h : fX8_rolls_L4_B K Gc st0 v1 v2 v3 = some z) : kX G E (0, 0) (wX G a st0) 4 [(0, .ref (a 2)), (1, .int v1), (2, .int v2), (3, .int v3)] [] := by
  unfold fX8_rolls_L4_B at h
  refine x_iload_n (pc := 4) C 3 dX8_rolls_4 rfl rfl ?_
  refine x_iload_n (pc := 5) C 1 dX8_rolls_5 rfl rfl ?_
  refine x_icmp_ge (pc := 6) C 22 dX8_rolls_6 (by decide) (fun c_1 => ?_) (fun c_1 => ?_)
  · have h := kIp c_1 h
    refine kX.pick [2] (lv' := [(2, .int v2)]) rfl ?_
    exact hK v2 v3 h
  · have h := kIn c_1 h
    refine x_iload_n (pc := 9) C 2 dX8_rolls_9 rfl rfl ?_
    refine x_aload_n (pc := 10) C 0 dX8_rolls_10 rfl rfl ?_
    refine x_get (pc := 11) C inlX8 2 rfl rfl 2 (by decide) q8_23 (v := .int (gI st0 3)) rfl dX8_rolls_11 ?_
    refine x_imul (pc := 14) C dX8_rolls_14 ?_
    refine x_istore_n (pc := 15) C (lv' := [(2, .int (v2 * (gI st0 3))), (0, .ref (a 2)), (1, .int v1), (3, .int v3)]) dX8_rolls_15 rfl (by decide) rfl ?_
    refine x_iinc (pc := 16) C 3 (v := v3 + 1) (lv' := [(3, .int (v3 + 1)), (2, .int (v2 * (gI st0 3))), (0, .ref (a 2)), (1, .int v1)]) dX8_rolls_16 rfl rfl (by decide) rfl ?_
    refine x_goto (pc := 19) C 4 dX8_rolls_19 (by decide) ?_
    refine kX.pick [2, 3, 1, 0] (lv' := [(0, .ref (a 2)), (1, .int v1), (2, .int (v2 * (gI st0 3))), (3, .int (v3 + 1))]) rfl ?_
    exact hG (v2 * (gI st0 3)) (v3 + 1) h
def fX8_rolls_L4 (K : Int32 → Int32 → Option (Int32)) (st : kS) (v1 : Int32) : Nat → Int32 → Int32 → Option (Int32)
  | 0, _, _ => none
  | F + 1, v2, v3 => fX8_rolls_L4_B K (fX8_rolls_L4 K st v1 F) st v1 v2 v3
set_option maxRecDepth 100000 in
set_option maxHeartbeats 4000000 in
theorem wX8_rolls_L4 {G : kG} {E : kE} {a : Nat → Nat} {st0 : kS} (C : kOk G E cX8_rolls RX8 4 rmfX8_rolls) {z : Int32} (Zd : kEnd G E (0, 0) (some .int) (some (.int z)) (wX G a st0)) {K : Int32 → Int32 → Option (Int32)} (v1 : Int32) (hK : ∀ (u2 : Int32) (u3 : Int32), K u2 u3 = some z → kX G E (0, 0) (wX G a st0) 22 [(2, .int u2)] []) : ∀ (F : Nat) (v2 : Int32) (v3 : Int32), fX8_rolls_L4 K st0 v1 F v2 v3 = some z → kX G E (0, 0) (wX G a st0) 4 [(0, .ref (a 2)), (1, .int v1), (2, .int v2), (3, .int v3)] [] := by
  intro F
  induction F with
  | zero =>
    intro v2 v3 h
    exact absurd (show none = some z from h) (fun q => by cases q)
  | succ F ih =>
    intro v2 v3 h
    exact wX8_rolls_L4_B  C Zd  v1 v2 v3 hK (fun v2 v3 h => ih v2 v3 h) h
def fX8_rolls (st : kS) (x1 : Int32) : Option (Int32) := fX8_rolls_L4 (fun v2_2 v3_3 => some v2_2) st x1 kFU 1 0
set_option maxRecDepth 100000 in
set_option maxHeartbeats 4000000 in
theorem wX8_rolls {G : kG} {E : kE} {a : Nat → Nat} {st0 : kS} (C : kOk G E cX8_rolls RX8 4 rmfX8_rolls) {z : Int32} (Zd : kEnd G E (0, 0) (some .int) (some (.int z)) (wX G a st0)) (x1 : Int32) (h : fX8_rolls st0 x1 = some z) : kX G E (0, 0) (wX G a st0) 0 [(0, .ref (a 2)), (1, .int x1)] [] := by
  unfold fX8_rolls at h
  refine x_iconst (pc := 0) C 1 dX8_rolls_0 (by decide) ?_
  refine x_istore_n (pc := 1) C (lv' := [(2, .int 1), (0, .ref (a 2)), (1, .int x1)]) dX8_rolls_1 rfl (by decide) rfl ?_
  refine x_iconst (pc := 2) C 0 dX8_rolls_2 (by decide) ?_
  refine x_istore_n (pc := 3) C (lv' := [(3, .int 0), (2, .int 1), (0, .ref (a 2)), (1, .int x1)]) dX8_rolls_3 rfl (by decide) rfl ?_
  refine kX.pick [2, 3, 1, 0] (lv' := [(0, .ref (a 2)), (1, .int x1), (2, .int 1), (3, .int 0)]) rfl ?_
  refine wX8_rolls_L4  C Zd  x1 (fun v2_2 v3_3 h => ?_) kFU 1 0 h
  refine x_iload_n (pc := 22) C 0 dX8_rolls_22 rfl rfl ?_
  obtain rfl := Option.some.inj h
  exact x_iret (pc := 23) C Zd dX8_rolls_23
set_option maxRecDepth 100000 in
theorem mX8_rolls (G : kG) (a : Nat → Nat) (st : kS) (x1 : Int32) {z : Int32} (h : fX8_rolls st x1 = some z) : kMet G yX8_rolls cX8_rolls 4 (some .int) rmfX8_rolls (0, 0) [.ref (a 2), .int x1] (wX G a st) (some (.int z)) (wX G a st) := kMet.mk (by decide +kernel) (Nat.le_of_ble_eq_true rfl) (fun E C Zd => wX8_rolls  C Zd  x1 h)
theorem ysX9_lowest : kYS yX9_lowest cX9_lowest 7 (some .int) 3 := ⟨q18_15, q1_2, q18_16, by decide +kernel⟩
abbrev rmfX9_lowest : Room := { frames := 0, cells := 0, slots := 0, locals := 0 }
def fX9_lowest_L8_B (K : Int32 → Int32 → Int32 → Option (Int32)) (Gc : Int32 → Int32 → Int32 → Option (Int32)) (v0 : Int32) (v1 : Int32) (v2 : Int32) (v3 : Int32) (v4 : Int32) (v5 : Int32) : Option (Int32) := if 64 ≤ v5 then (K v3 v4 v5) else (if v4 = 0 then (K v3 v4 v5) else (Gc v4 (kr v3 v4) (v5 + 1)))
set_option maxRecDepth 100000 in
set_option maxHeartbeats 4000000 in
theorem wX9_lowest_L8_B {G : kG} {E : kE} {ws : va_W} (C : kOk G E cX9_lowest RX9 7 rmfX9_lowest) {z : Int32} (Zd : kEnd G E (0, 0) (some .int) (some (.int z)) ws) {K Gc : Int32 → Int32 → Int32 → Option (Int32)} (v0 : Int32) (v1 : Int32) (v2 : Int32) (v3 : Int32) (v4 : Int32) (v5 : Int32) (hK : ∀ (u3 : Int32) (u4 : Int32) (u5 : Int32), K u3 u4 u5 = some z → kX G E (0, 0) ws 39 [(0, .int v0), (1, .int v1), (2, .int v2), (3, .int u3)] []) (hG : ∀ (u3 : Int32) (u4 : Int32) (u5 : Int32), Gc u3 u4 u5 = some z → kX G E (0, 0) ws 8 [(0, .int v0), (1, .int v1), (2, .int v2), (3, .int u3), (4, .int u4), (5, .int u5)] []) (h : fX9_lowest_L8_B K Gc v0 v1 v2 v3 v4 v5 = some z) : kX G E (0, 0) ws 8 [(0, .int v0), (1, .int v1), (2, .int v2), (3, .int v3), (4, .int v4), (5, .int v5)] [] := by
  unfold fX9_lowest_L8_B at h
  refine x_iload (pc := 8) C 5 dX9_lowest_8 rfl ?_
  refine x_bipush (pc := 10) C 64 dX9_lowest_10 (by decide) ?_
  refine x_icmp_ge (pc := 12) C 39 dX9_lowest_12 (by decide) (fun c_1 => ?_) (fun c_1 => ?_)
  · have h := kIp c_1 h
    refine kX.pick [0, 1, 2, 3] (lv' := [(0, .int v0), (1, .int v1), (2, .int v2), (3, .int v3)]) rfl ?_
    exact hK v3 v4 v5 h
  · have h := kIn c_1 h
    refine x_iload (pc := 15) C 4 dX9_lowest_15 rfl ?_
    refine x_if_eq (pc := 17) C 39 dX9_lowest_17 (by decide) (fun c_2 => ?_) (fun c_2 => ?_)
    · have h := kIp c_2 h
      refine kX.pick [0, 1, 2, 3] (lv' := [(0, .int v0), (1, .int v1), (2, .int v2), (3, .int v3)]) rfl ?_
      exact hK v3 v4 v5 h
    · have h := kIn c_2 h
      refine x_iload_n (pc := 20) C 3 dX9_lowest_20 rfl rfl ?_
      refine x_iload (pc := 21) C 4 dX9_lowest_21 rfl ?_
      refine y_irem (pc := 23) C dX9_lowest_23 c_2 ?_
      refine x_istore (pc := 24) C (lv' := [(6, .int (kr v3 v4)), (0, .int v0), (1, .int v1), (2, .int v2), (3, .int v3), (4, .int v4), (5, .int v5)]) dX9_lowest_24 (by decide) rfl ?_
      refine x_iload (pc := 26) C 5 dX9_lowest_26 rfl ?_
      refine x_istore_n (pc := 28) C (lv' := [(3, .int v4), (6, .int (kr v3 v4)), (0, .int v0), (1, .int v1), (2, .int v2), (4, .int v4), (5, .int v5)]) dX9_lowest_28 rfl (by decide) rfl ?_
      refine x_iload (pc := 29) C 1 dX9_lowest_29 rfl ?_
      refine x_istore (pc := 31) C (lv' := [(4, .int (kr v3 v4)), (3, .int v4), (6, .int (kr v3 v4)), (0, .int v0), (1, .int v1), (2, .int v2), (5, .int v5)]) dX9_lowest_31 (by decide) rfl ?_
      refine x_iinc (pc := 33) C 6 (v := v5 + 1) (lv' := [(5, .int (v5 + 1)), (4, .int (kr v3 v4)), (3, .int v4), (6, .int (kr v3 v4)), (0, .int v0), (1, .int v1), (2, .int v2)]) dX9_lowest_33 rfl rfl (by decide) rfl ?_
      refine x_goto (pc := 36) C 8 dX9_lowest_36 (by decide) ?_
      refine kX.pick [4, 5, 6, 2, 1, 0] (lv' := [(0, .int v0), (1, .int v1), (2, .int v2), (3, .int v4), (4, .int (kr v3 v4)), (5, .int (v5 + 1))]) rfl ?_
      exact hG v4 (kr v3 v4) (v5 + 1) h
def fX9_lowest_L8 (K : Int32 → Int32 → Int32 → Option (Int32)) (v0 : Int32) (v1 : Int32) (v2 : Int32) : Nat → Int32 → Int32 → Int32 → Option (Int32)
  | 0, _, _, _ => none
  | F + 1, v3, v4, v5 => fX9_lowest_L8_B K (fX9_lowest_L8 K v0 v1 v2 F) v0 v1 v2 v3 v4 v5
set_option maxRecDepth 100000 in
set_option maxHeartbeats 4000000 in
theorem wX9_lowest_L8 {G : kG} {E : kE} {ws : va_W} (C : kOk G E cX9_lowest RX9 7 rmfX9_lowest) {z : Int32} (Zd : kEnd G E (0, 0) (some .int) (some (.int z)) ws) {K : Int32 → Int32 → Int32 → Option (Int32)} (v0 : Int32) (v1 : Int32) (v2 : Int32) (hK : ∀ (u3 : Int32) (u4 : Int32) (u5 : Int32), K u3 u4 u5 = some z → kX G E (0, 0) ws 39 [(0, .int v0), (1, .int v1), (2, .int v2), (3, .int u3)] []) : ∀ (F : Nat) (v3 : Int32) (v4 : Int32) (v5 : Int32), fX9_lowest_L8 K v0 v1 v2 F v3 v4 v5 = some z → kX G E (0, 0) ws 8 [(0, .int v0), (1, .int v1), (2, .int v2), (3, .int v3), (4, .int v4), (5, .int v5)] [] := by
  intro F
  induction F with
  | zero =>
    intro v3 v4 v5 h
    exact absurd (show none = some z from h) (fun q => by cases q)
  | succ F ih =>
    intro v3 v4 v5 h
    exact wX9_lowest_L8_B  C Zd  v0 v1 v2 v3 v4 v5 hK (fun v3 v4 v5 h => ih v3 v4 v5 h) h
def fX9_lowest_J48 (v3 : Int32) (s0 : Int32) : Option (Int32) := if v3 = 0 then (some s0) else (some (s0 / v3))
set_option maxRecDepth 100000 in
set_option maxHeartbeats 4000000 in
theorem wX9_lowest_J48 {G : kG} {E : kE} {ws : va_W} (C : kOk G E cX9_lowest RX9 7 rmfX9_lowest) {z : Int32} (Zd : kEnd G E (0, 0) (some .int) (some (.int z)) ws) (v3 : Int32) (s0 : Int32) (h : fX9_lowest_J48 v3 s0 = some z) : kX G E (0, 0) ws 48 [(3, .int v3)] [.int s0] := by
  unfold fX9_lowest_J48 at h
  refine x_istore (pc := 48) C (lv' := [(5, .int s0), (3, .int v3)]) dX9_lowest_48 (by decide) rfl ?_
  refine x_iload_n (pc := 50) C 1 dX9_lowest_50 rfl rfl ?_
  refine x_if_ne (pc := 51) C 59 dX9_lowest_51 (by decide) (fun c_7 => ?_) (fun c_7 => ?_)
  · have h := kIn c_7 h
    refine x_iload (pc := 59) C 0 dX9_lowest_59 rfl ?_
    refine x_iload_n (pc := 61) C 1 dX9_lowest_61 rfl rfl ?_
    refine y_idiv (pc := 62) C dX9_lowest_62 c_7 ?_
    obtain rfl := Option.some.inj h
    exact x_iret (pc := 63) C Zd dX9_lowest_63
  · have h := kIp c_7 h
    refine x_iload (pc := 54) C 0 dX9_lowest_54 rfl ?_
    refine x_goto (pc := 56) C 63 dX9_lowest_56 (by decide) ?_
    obtain rfl := Option.some.inj h
    exact x_iret (pc := 63) C Zd dX9_lowest_63
def fX9_lowest_J39 (v0 : Int32) (v1 : Int32) (v2 : Int32) (v3 : Int32) : Option (Int32) := if v2 = 0 then (fX9_lowest_J48 v3 v0) else (fX9_lowest_J48 v3 v1)
set_option maxRecDepth 100000 in
set_option maxHeartbeats 4000000 in
theorem wX9_lowest_J39 {G : kG} {E : kE} {ws : va_W} (C : kOk G E cX9_lowest RX9 7 rmfX9_lowest) {z : Int32} (Zd : kEnd G E (0, 0) (some .int) (some (.int z)) ws) (v0 : Int32) (v1 : Int32) (v2 : Int32) (v3 : Int32) (h : fX9_lowest_J39 v0 v1 v2 v3 = some z) : kX G E (0, 0) ws 39 [(0, .int v0), (1, .int v1), (2, .int v2), (3, .int v3)] [] := by
  unfold fX9_lowest_J39 at h
  refine x_iload_n (pc := 39) C 2 dX9_lowest_39 rfl rfl ?_
  refine x_if_ne (pc := 40) C 47 dX9_lowest_40 (by decide) (fun c_6 => ?_) (fun c_6 => ?_)
  · have h := kIn c_6 h
    refine x_iload_n (pc := 47) C 1 dX9_lowest_47 rfl rfl ?_
    refine kX.pick [3] (lv' := [(3, .int v3)]) rfl ?_
    exact wX9_lowest_J48  C Zd  v3 v1 h
  · have h := kIp c_6 h
    refine x_iload_n (pc := 43) C 0 dX9_lowest_43 rfl rfl ?_
    refine x_goto (pc := 44) C 48 dX9_lowest_44 (by decide) ?_
    refine kX.pick [3] (lv' := [(3, .int v3)]) rfl ?_
    exact wX9_lowest_J48  C Zd  v3 v0 h
def fX9_lowest (x0 : Int32) (x1 : Int32) (x2 : Int32) : Option (Int32) := fX9_lowest_L8 (fun v3_3 v4_4 v5_5 => fX9_lowest_J39 x0 x1 x2 v3_3) x0 x1 x2 kFU x0 x1 0
set_option maxRecDepth 100000 in
set_option maxHeartbeats 4000000 in
theorem wX9_lowest {G : kG} {E : kE} {ws : va_W} (C : kOk G E cX9_lowest RX9 7 rmfX9_lowest) {z : Int32} (Zd : kEnd G E (0, 0) (some .int) (some (.int z)) ws) (x0 : Int32) (x1 : Int32) (x2 : Int32) (h : fX9_lowest x0 x1 x2 = some z) : kX G E (0, 0) ws 0 [(0, .int x0), (1, .int x1), (2, .int x2)] [] := by
  unfold fX9_lowest at h
  refine x_iload_n (pc := 0) C 0 dX9_lowest_0 rfl rfl ?_
  refine x_istore_n (pc := 1) C (lv' := [(3, .int x0), (0, .int x0), (1, .int x1), (2, .int x2)]) dX9_lowest_1 rfl (by decide) rfl ?_
  refine x_iload_n (pc := 2) C 2 dX9_lowest_2 rfl rfl ?_
  refine x_istore (pc := 3) C (lv' := [(4, .int x1), (3, .int x0), (0, .int x0), (1, .int x1), (2, .int x2)]) dX9_lowest_3 (by decide) rfl ?_
  refine x_iconst (pc := 5) C 0 dX9_lowest_5 (by decide) ?_
  refine x_istore (pc := 6) C (lv' := [(5, .int 0), (4, .int x1), (3, .int x0), (0, .int x0), (1, .int x1), (2, .int x2)]) dX9_lowest_6 (by decide) rfl ?_
  refine kX.pick [3, 4, 5, 2, 1, 0] (lv' := [(0, .int x0), (1, .int x1), (2, .int x2), (3, .int x0), (4, .int x1), (5, .int 0)]) rfl ?_
  refine wX9_lowest_L8  C Zd  x0 x1 x2 (fun v3_3 v4_4 v5_5 h => ?_) kFU x0 x1 0 h
  exact wX9_lowest_J39  C Zd  x0 x1 x2 v3_3 h
set_option maxRecDepth 100000 in
theorem mX9_lowest (G : kG) {ws : va_W} (x0 : Int32) (x1 : Int32) (x2 : Int32) {z : Int32} (h : fX9_lowest x0 x1 x2 = some z) : kMet G yX9_lowest cX9_lowest 7 (some .int) rmfX9_lowest (0, 0) [.int x0, .int x1, .int x2] ws (some (.int z)) ws := kMet.mk (by decide +kernel) (Nat.le_of_ble_eq_true rfl) (fun E C Zd => wX9_lowest  C Zd  x0 x1 x2 h)
theorem yvX9_apart : kYV yX9_apart RX9 cX9_apart 3 (some .int) 2 := ⟨q20_21, q20_22, q1_2, q20_23, by decide +kernel⟩
abbrev rmfX9_apart : Room := { frames := 5, cells := 0, slots := 0, locals := 115 }
def fX9_apart (st : kS) (x1 : Int32) (x2 : Int32) : Option (Int32 × kS) := if (fX8_stands st) = 0 then (some ((-103), st)) else (if x1 < 0 then (some ((-102), st)) else (if 5 < x1 then (some ((-102), st)) else (if x2 < 0 then (some ((-102), st)) else (if x2 ≤ 1 then ((fX2_learn st x1).bind (fun z_6 => (fX9_number z_6).bind (fun z_7 => (fX2_rollsFor z_6 z_7 x1).bind (fun z_8 => (fX8_rolls z_8.2 x1).bind (fun z_9 => (fX9_lowest z_8.1 z_9 x2).bind (fun z_10 => some (z_10, z_8.2))))))) else (some ((-102), st))))))
set_option maxRecDepth 100000 in
set_option maxHeartbeats 4000000 in
theorem wX9_apart {G : kG} {E : kE} {a : Nat → Nat} (C : kOk G E cX9_apart RX9 3 rmfX9_apart) {z : Int32 × kS} (Zd : kEnd G E (0, 0) (some .int) (some (.int z.1)) (wX G a z.2)) (st : kS) (x1 : Int32) (x2 : Int32) (h : fX9_apart st x1 x2 = some z) : kX G E (0, 0) (wX G a st) 0 [(0, .ref (a 0)), (1, .int x1), (2, .int x2)] [] := by
  unfold fX9_apart at h
  refine x_aload_n (pc := 0) C 0 dX9_apart_0 rfl rfl ?_
  refine x_get (pc := 1) C inlX9 0 rfl rfl 1 (by decide) q1_21 (v := .ref (a 2)) rfl dX9_apart_1 ?_
  refine x_callV (pc := 4) C 2 [] rfl rfl (mX8_stands G a st) yvX8_stands q16_18 ⟨Nat.le_of_ble_eq_true rfl, Nat.le_of_ble_eq_true rfl, rfl, rfl⟩ ⟨Nat.zero_le _, Nat.zero_le _⟩ rfl rfl (Nat.le_of_ble_eq_true rfl) rfl dX9_apart_4 ?_
  refine x_if_ne (pc := 7) C 13 dX9_apart_7 (by decide) (fun c_1 => ?_) (fun c_1 => ?_)
  · have h := kIn c_1 h
    refine x_iload_n (pc := 13) C 1 dX9_apart_13 rfl rfl ?_
    refine x_if_lt (pc := 14) C 31 dX9_apart_14 (by decide) (fun c_2 => ?_) (fun c_2 => ?_)
    · have h := kIp c_2 h
      refine x_bipush (pc := 31) C (-102) dX9_apart_31 (by decide) ?_
      obtain rfl := Option.some.inj h
      exact x_iret (pc := 33) C Zd dX9_apart_33
    · have h := kIn c_2 h
      refine x_iload_n (pc := 17) C 1 dX9_apart_17 rfl rfl ?_
      refine x_iconst (pc := 18) C 5 dX9_apart_18 (by decide) ?_
      refine x_icmp_gt (pc := 19) C 31 dX9_apart_19 (by decide) (fun c_3 => ?_) (fun c_3 => ?_)
      · have h := kIp c_3 h
        refine x_bipush (pc := 31) C (-102) dX9_apart_31 (by decide) ?_
        obtain rfl := Option.some.inj h
        exact x_iret (pc := 33) C Zd dX9_apart_33
      · have h := kIn c_3 h
        refine x_iload_n (pc := 22) C 2 dX9_apart_22 rfl rfl ?_
        refine x_if_lt (pc := 23) C 31 dX9_apart_23 (by decide) (fun c_4 => ?_) (fun c_4 => ?_)
        · have h := kIp c_4 h
          refine x_bipush (pc := 31) C (-102) dX9_apart_31 (by decide) ?_
          obtain rfl := Option.some.inj h
          exact x_iret (pc := 33) C Zd dX9_apart_33
        · have h := kIn c_4 h
          refine x_iload_n (pc := 26) C 2 dX9_apart_26 rfl rfl ?_
          refine x_iconst (pc := 27) C 1 dX9_apart_27 (by decide) ?_
          refine x_icmp_le (pc := 28) C 34 dX9_apart_28 (by decide) (fun c_5 => ?_) (fun c_5 => ?_)
          · have h := kIp c_5 h
            refine x_aload_n (pc := 34) C 0 dX9_apart_34 rfl rfl ?_
            refine x_get (pc := 35) C inlX9 0 rfl rfl 5 (by decide) q2_7 (v := .ref (a 6)) rfl dX9_apart_35 ?_
            refine x_iload_n (pc := 38) C 1 dX9_apart_38 rfl rfl ?_
            obtain ⟨z_6, hz_6, h⟩ := kB h
            refine x_callV (pc := 39) C 6 [.int x1] rfl rfl (mX2_learn G a st x1 hz_6) yvX2_learn q21_0 ⟨Nat.le_of_ble_eq_true rfl, Nat.le_of_ble_eq_true rfl, rfl, rfl⟩ ⟨Nat.zero_le _, Nat.zero_le _⟩ rfl rfl (Nat.le_of_ble_eq_true rfl) rfl dX9_apart_39 ?_
            refine x_aload_n (pc := 42) C 0 dX9_apart_42 rfl rfl ?_
            refine x_get (pc := 43) C inlX9 0 rfl rfl 5 (by decide) q2_7 (v := .ref (a 6)) rfl dX9_apart_43 ?_
            refine x_aload_n (pc := 46) C 0 dX9_apart_46 rfl rfl ?_
            obtain ⟨z_7, hz_7, h⟩ := kB h
            refine x_callV (pc := 47) C 0 [] rfl rfl (mX9_number G a z_6 hz_7) yvX9_number q20_2 ⟨Nat.le_of_ble_eq_true rfl, Nat.le_of_ble_eq_true rfl, rfl, rfl⟩ ⟨Nat.zero_le _, Nat.zero_le _⟩ rfl rfl (Nat.le_of_ble_eq_true rfl) rfl dX9_apart_47 ?_
            refine x_iload_n (pc := 50) C 1 dX9_apart_50 rfl rfl ?_
            obtain ⟨z_8, hz_8, h⟩ := kB h
            refine x_callV (pc := 51) C 6 [.int z_7, .int x1] rfl rfl (mX2_rollsFor G a z_6 z_7 x1 hz_8) yvX2_rollsFor q22_2 ⟨Nat.le_of_ble_eq_true rfl, Nat.le_of_ble_eq_true rfl, rfl, rfl⟩ ⟨Nat.zero_le _, Nat.zero_le _⟩ rfl rfl (Nat.le_of_ble_eq_true rfl) rfl dX9_apart_51 ?_
            refine x_aload_n (pc := 54) C 0 dX9_apart_54 rfl rfl ?_
            refine x_get (pc := 55) C inlX9 0 rfl rfl 1 (by decide) q1_21 (v := .ref (a 2)) rfl dX9_apart_55 ?_
            refine x_iload_n (pc := 58) C 1 dX9_apart_58 rfl rfl ?_
            obtain ⟨z_9, hz_9, h⟩ := kB h
            refine x_callV (pc := 59) C 2 [.int x1] rfl rfl (mX8_rolls G a z_8.2 x1 hz_9) yvX8_rolls q18_10 ⟨Nat.le_of_ble_eq_true rfl, Nat.le_of_ble_eq_true rfl, rfl, rfl⟩ ⟨Nat.zero_le _, Nat.zero_le _⟩ rfl rfl (Nat.le_of_ble_eq_true rfl) rfl dX9_apart_59 ?_
            refine x_iload_n (pc := 62) C 2 dX9_apart_62 rfl rfl ?_
            obtain ⟨z_10, hz_10, h⟩ := kB h
            refine x_callS (pc := 63) C [.int z_8.1, .int z_9, .int x2] (mX9_lowest G z_8.1 z_9 x2 hz_10) ysX9_lowest q18_14 ⟨Nat.le_of_ble_eq_true rfl, Nat.le_of_ble_eq_true rfl, rfl, rfl⟩ ⟨Nat.zero_le _, Nat.zero_le _⟩ rfl rfl (Nat.le_of_ble_eq_true rfl) rfl dX9_apart_63 ?_
            obtain rfl := Option.some.inj h
            exact x_iret (pc := 66) C Zd dX9_apart_66
          · have h := kIn c_5 h
            refine x_bipush (pc := 31) C (-102) dX9_apart_31 (by decide) ?_
            obtain rfl := Option.some.inj h
            exact x_iret (pc := 33) C Zd dX9_apart_33
  · have h := kIp c_1 h
    refine x_bipush (pc := 10) C (-103) dX9_apart_10 (by decide) ?_
    obtain rfl := Option.some.inj h
    exact x_iret (pc := 12) C Zd dX9_apart_12
set_option maxRecDepth 100000 in
theorem mX9_apart (G : kG) (a : Nat → Nat) (st : kS) (x1 : Int32) (x2 : Int32) {z : Int32 × kS} (h : fX9_apart st x1 x2 = some z) : kMet G yX9_apart cX9_apart 3 (some .int) rmfX9_apart (0, 0) [.ref (a 0), .int x1, .int x2] (wX G a st) (some (.int z.1)) (wX G a z.2) := kMet.mk (by decide +kernel) (Nat.le_of_ble_eq_true rfl) (fun E C Zd => wX9_apart  C Zd  st x1 x2 h)
theorem yvX2_choice : kYV yX2_choice RX2 cX2_choice 6 (some .int) 3 := ⟨q22_8, q22_9, q2_6, q22_10, by decide +kernel⟩
abbrev rmfX2_choice : Room := { frames := 5, cells := 0, slots := 0, locals := 115 }
def fX2_choice_L17_B (K : Int32 → Int32 → Option (Int32 × kS)) (Gc : Int32 → Int32 → Option (Int32 × kS)) (st : kS) (v2 : Int32) (v4 : Int32) (v5 : Int32) : Option (Int32 × kS) := if 1 < v5 then (K v4 v5) else (if (fX2_leftBy st (v2 + v5)) ≤ (fX2_leftBy st (v2 + v4)) then (Gc v4 (v5 + 1)) else (Gc v5 (v5 + 1)))
set_option maxRecDepth 100000 in
set_option maxHeartbeats 4000000 in
theorem wX2_choice_L17_B {G : kG} {E : kE} {a : Nat → Nat} (C : kOk G E cX2_choice RX2 6 rmfX2_choice) {z : Int32 × kS} (Zd : kEnd G E (0, 0) (some .int) (some (.int z.1)) (wX G a z.2)) {K Gc : Int32 → Int32 → Option (Int32 × kS)} (st : kS) (v2 : Int32) (v4 : Int32) (v5 : Int32) (hK : ∀ (u4 : Int32) (u5 : Int32), K u4 u5 = some z → kX G E (0, 0) (wX G a st) 52 [(4, .int u4)] []) (hG : ∀ (u4 : Int32) (u5 : Int32), Gc u4 u5 = some z → kX G E (0, 0) (wX G a st) 17 [(0, .ref (a 6)), (2, .int v2), (4, .int u4), (5, .int u5)] []) (h : fX2_choice_L17_B K Gc st v2 v4 v5 = some z) : kX G E (0, 0) (wX G a st) 17 [(0, .ref (a 6)), (2, .int v2), (4, .int v4), (5, .int v5)] [] := by
  unfold fX2_choice_L17_B at h
  refine x_iload (pc := 17) C 3 dX2_choice_17 rfl ?_
  refine x_iconst (pc := 19) C 1 dX2_choice_19 (by decide) ?_
  refine x_icmp_gt (pc := 20) C 52 dX2_choice_20 (by decide) (fun c_3 => ?_) (fun c_3 => ?_)
  · have h := kIp c_3 h
    refine kX.pick [2] (lv' := [(4, .int v4)]) rfl ?_
    exact hK v4 v5 h
  · have h := kIn c_3 h
    refine x_aload_n (pc := 23) C 0 dX2_choice_23 rfl rfl ?_
    refine x_iload_n (pc := 24) C 1 dX2_choice_24 rfl rfl ?_
    refine x_iload (pc := 25) C 3 dX2_choice_25 rfl ?_
    refine x_iadd (pc := 27) C dX2_choice_27 ?_
    refine x_callV (pc := 28) C 6 [.int (v2 + v5)] rfl rfl (mX2_leftBy G a st (v2 + v5)) yvX2_leftBy q21_21 ⟨Nat.le_of_ble_eq_true rfl, Nat.le_of_ble_eq_true rfl, rfl, rfl⟩ ⟨Nat.zero_le _, Nat.zero_le _⟩ rfl rfl (Nat.le_of_ble_eq_true rfl) rfl dX2_choice_28 ?_
    refine x_aload_n (pc := 31) C 0 dX2_choice_31 rfl rfl ?_
    refine x_iload_n (pc := 32) C 1 dX2_choice_32 rfl rfl ?_
    refine x_iload (pc := 33) C 2 dX2_choice_33 rfl ?_
    refine x_iadd (pc := 35) C dX2_choice_35 ?_
    refine x_callV (pc := 36) C 6 [.int (v2 + v4)] rfl rfl (mX2_leftBy G a st (v2 + v4)) yvX2_leftBy q21_21 ⟨Nat.le_of_ble_eq_true rfl, Nat.le_of_ble_eq_true rfl, rfl, rfl⟩ ⟨Nat.zero_le _, Nat.zero_le _⟩ rfl rfl (Nat.le_of_ble_eq_true rfl) rfl dX2_choice_36 ?_
    refine x_icmp_le (pc := 39) C 46 dX2_choice_39 (by decide) (fun c_4 => ?_) (fun c_4 => ?_)
    · have h := kIp c_4 h
      refine x_iinc (pc := 46) C 3 (v := v5 + 1) (lv' := [(5, .int (v5 + 1)), (0, .ref (a 6)), (2, .int v2), (4, .int v4)]) dX2_choice_46 rfl rfl (by decide) rfl ?_
      refine x_goto (pc := 49) C 17 dX2_choice_49 (by decide) ?_
      refine kX.pick [1, 2, 3, 0] (lv' := [(0, .ref (a 6)), (2, .int v2), (4, .int v4), (5, .int (v5 + 1))]) rfl ?_
      exact hG v4 (v5 + 1) h
    · have h := kIn c_4 h
      refine x_iload (pc := 42) C 3 dX2_choice_42 rfl ?_
      refine x_istore (pc := 44) C (lv' := [(4, .int v5), (0, .ref (a 6)), (2, .int v2), (5, .int v5)]) dX2_choice_44 (by decide) rfl ?_
      refine x_iinc (pc := 46) C 3 (v := v5 + 1) (lv' := [(5, .int (v5 + 1)), (4, .int v5), (0, .ref (a 6)), (2, .int v2)]) dX2_choice_46 rfl rfl (by decide) rfl ?_
      refine x_goto (pc := 49) C 17 dX2_choice_49 (by decide) ?_
      refine kX.pick [2, 3, 1, 0] (lv' := [(0, .ref (a 6)), (2, .int v2), (4, .int v5), (5, .int (v5 + 1))]) rfl ?_
      exact hG v5 (v5 + 1) h
def fX2_choice_L17 (K : Int32 → Int32 → Option (Int32 × kS)) (st : kS) (v2 : Int32) : Nat → Int32 → Int32 → Option (Int32 × kS)
  | 0, _, _ => none
  | F + 1, v4, v5 => fX2_choice_L17_B K (fX2_choice_L17 K st v2 F) st v2 v4 v5
set_option maxRecDepth 100000 in
set_option maxHeartbeats 4000000 in
theorem wX2_choice_L17 {G : kG} {E : kE} {a : Nat → Nat} (C : kOk G E cX2_choice RX2 6 rmfX2_choice) {z : Int32 × kS} (Zd : kEnd G E (0, 0) (some .int) (some (.int z.1)) (wX G a z.2)) {K : Int32 → Int32 → Option (Int32 × kS)} (st : kS) (v2 : Int32) (hK : ∀ (u4 : Int32) (u5 : Int32), K u4 u5 = some z → kX G E (0, 0) (wX G a st) 52 [(4, .int u4)] []) : ∀ (F : Nat) (v4 : Int32) (v5 : Int32), fX2_choice_L17 K st v2 F v4 v5 = some z → kX G E (0, 0) (wX G a st) 17 [(0, .ref (a 6)), (2, .int v2), (4, .int v4), (5, .int v5)] [] := by
  intro F
  induction F with
  | zero =>
    intro v4 v5 h
    exact absurd (show none = some z from h) (fun q => by cases q)
  | succ F ih =>
    intro v4 v5 h
    exact wX2_choice_L17_B  C Zd  st v2 v4 v5 hK (fun v4 v5 h => ih v4 v5 h) h
def fX2_choice (st : kS) (x1 : Int32) (x2 : Int32) (x3 : Int32) : Option (Int32 × kS) := (fX2_learn st x3).bind (fun z_1 => (fX2_lookAhead z_1 x1 x3).bind (fun z_2 => fX2_choice_L17 (fun v4_5 v5_6 => some (v4_5, z_2)) z_2 x2 kFU (-1) 0))
set_option maxRecDepth 100000 in
set_option maxHeartbeats 4000000 in
theorem wX2_choice {G : kG} {E : kE} {a : Nat → Nat} (C : kOk G E cX2_choice RX2 6 rmfX2_choice) {z : Int32 × kS} (Zd : kEnd G E (0, 0) (some .int) (some (.int z.1)) (wX G a z.2)) (st : kS) (x1 : Int32) (x2 : Int32) (x3 : Int32) (h : fX2_choice st x1 x2 x3 = some z) : kX G E (0, 0) (wX G a st) 0 [(0, .ref (a 6)), (1, .int x1), (2, .int x2), (3, .int x3)] [] := by
  unfold fX2_choice at h
  refine x_aload_n (pc := 0) C 0 dX2_choice_0 rfl rfl ?_
  refine x_iload_n (pc := 1) C 3 dX2_choice_1 rfl rfl ?_
  obtain ⟨z_1, hz_1, h⟩ := kB h
  refine x_callV (pc := 2) C 6 [.int x3] rfl rfl (mX2_learn G a st x3 hz_1) yvX2_learn q22_11 ⟨Nat.le_of_ble_eq_true rfl, Nat.le_of_ble_eq_true rfl, rfl, rfl⟩ ⟨Nat.zero_le _, Nat.zero_le _⟩ rfl rfl (Nat.le_of_ble_eq_true rfl) rfl dX2_choice_2 ?_
  refine x_aload_n (pc := 5) C 0 dX2_choice_5 rfl rfl ?_
  refine x_iload_n (pc := 6) C 1 dX2_choice_6 rfl rfl ?_
  refine x_iload_n (pc := 7) C 3 dX2_choice_7 rfl rfl ?_
  obtain ⟨z_2, hz_2, h⟩ := kB h
  refine x_callV (pc := 8) C 6 [.int x1, .int x3] rfl rfl (mX2_lookAhead G a z_1 x1 x3 hz_2) yvX2_lookAhead q21_14 ⟨Nat.le_of_ble_eq_true rfl, Nat.le_of_ble_eq_true rfl, rfl, rfl⟩ ⟨Nat.zero_le _, Nat.zero_le _⟩ rfl rfl (Nat.le_of_ble_eq_true rfl) rfl dX2_choice_8 ?_
  refine x_iconst (pc := 11) C (-1) dX2_choice_11 (by decide) ?_
  refine x_istore (pc := 12) C (lv' := [(4, .int (-1)), (0, .ref (a 6)), (1, .int x1), (2, .int x2), (3, .int x3)]) dX2_choice_12 (by decide) rfl ?_
  refine x_iconst (pc := 14) C 0 dX2_choice_14 (by decide) ?_
  refine x_istore (pc := 15) C (lv' := [(5, .int 0), (4, .int (-1)), (0, .ref (a 6)), (1, .int x1), (2, .int x2), (3, .int x3)]) dX2_choice_15 (by decide) rfl ?_
  refine kX.pick [2, 4, 1, 0] (lv' := [(0, .ref (a 6)), (2, .int x2), (4, .int (-1)), (5, .int 0)]) rfl ?_
  refine wX2_choice_L17  C Zd  z_2 x2 (fun v4_5 v5_6 h => ?_) kFU (-1) 0 h
  refine x_iload (pc := 52) C 0 dX2_choice_52 rfl ?_
  obtain rfl := Option.some.inj h
  exact x_iret (pc := 54) C Zd dX2_choice_54
set_option maxRecDepth 100000 in
theorem mX2_choice (G : kG) (a : Nat → Nat) (st : kS) (x1 : Int32) (x2 : Int32) (x3 : Int32) {z : Int32 × kS} (h : fX2_choice st x1 x2 x3 = some z) : kMet G yX2_choice cX2_choice 6 (some .int) rmfX2_choice (0, 0) [.ref (a 6), .int x1, .int x2, .int x3] (wX G a st) (some (.int z.1)) (wX G a z.2) := kMet.mk (by decide +kernel) (Nat.le_of_ble_eq_true rfl) (fun E C Zd => wX2_choice  C Zd  st x1 x2 x3 h)
theorem yvX9_choose : kYV yX9_choose RX9 cX9_choose 3 (some .int) 2 := ⟨q22_4, q22_5, q1_2, q22_6, by decide +kernel⟩
abbrev rmfX9_choose : Room := { frames := 6, cells := 0, slots := 0, locals := 140 }
def fX9_choose (st : kS) (x1 : Int32) (x2 : Int32) : Option (Int32 × kS) := if (fX8_has st x1) = 0 then (some ((-101), st)) else (if x2 < 1 then (some ((-102), st)) else (if x2 ≤ 5 then ((fX9_number st).bind (fun z_4 => (fX2_choice st z_4 x1 x2).bind (fun z_5 => some (z_5.1, z_5.2)))) else (some ((-102), st))))
set_option maxRecDepth 100000 in
set_option maxHeartbeats 4000000 in
theorem wX9_choose {G : kG} {E : kE} {a : Nat → Nat} (C : kOk G E cX9_choose RX9 3 rmfX9_choose) {z : Int32 × kS} (Zd : kEnd G E (0, 0) (some .int) (some (.int z.1)) (wX G a z.2)) (st : kS) (x1 : Int32) (x2 : Int32) (h : fX9_choose st x1 x2 = some z) : kX G E (0, 0) (wX G a st) 0 [(0, .ref (a 0)), (1, .int x1), (2, .int x2)] [] := by
  unfold fX9_choose at h
  refine x_aload_n (pc := 0) C 0 dX9_choose_0 rfl rfl ?_
  refine x_get (pc := 1) C inlX9 0 rfl rfl 1 (by decide) q1_21 (v := .ref (a 2)) rfl dX9_choose_1 ?_
  refine x_iload_n (pc := 4) C 1 dX9_choose_4 rfl rfl ?_
  refine x_callV (pc := 5) C 2 [.int x1] rfl rfl (mX8_has G a st x1) yvX8_has q12_7 ⟨Nat.le_of_ble_eq_true rfl, Nat.le_of_ble_eq_true rfl, rfl, rfl⟩ ⟨Nat.zero_le _, Nat.zero_le _⟩ rfl rfl (Nat.le_of_ble_eq_true rfl) rfl dX9_choose_5 ?_
  refine x_if_ne (pc := 8) C 14 dX9_choose_8 (by decide) (fun c_1 => ?_) (fun c_1 => ?_)
  · have h := kIn c_1 h
    refine x_iload_n (pc := 14) C 2 dX9_choose_14 rfl rfl ?_
    refine x_iconst (pc := 15) C 1 dX9_choose_15 (by decide) ?_
    refine x_icmp_lt (pc := 16) C 24 dX9_choose_16 (by decide) (fun c_2 => ?_) (fun c_2 => ?_)
    · have h := kIp c_2 h
      refine x_bipush (pc := 24) C (-102) dX9_choose_24 (by decide) ?_
      obtain rfl := Option.some.inj h
      exact x_iret (pc := 26) C Zd dX9_choose_26
    · have h := kIn c_2 h
      refine x_iload_n (pc := 19) C 2 dX9_choose_19 rfl rfl ?_
      refine x_iconst (pc := 20) C 5 dX9_choose_20 (by decide) ?_
      refine x_icmp_le (pc := 21) C 27 dX9_choose_21 (by decide) (fun c_3 => ?_) (fun c_3 => ?_)
      · have h := kIp c_3 h
        refine x_aload_n (pc := 27) C 0 dX9_choose_27 rfl rfl ?_
        refine x_get (pc := 28) C inlX9 0 rfl rfl 5 (by decide) q2_7 (v := .ref (a 6)) rfl dX9_choose_28 ?_
        refine x_aload_n (pc := 31) C 0 dX9_choose_31 rfl rfl ?_
        obtain ⟨z_4, hz_4, h⟩ := kB h
        refine x_callV (pc := 32) C 0 [] rfl rfl (mX9_number G a st hz_4) yvX9_number q20_2 ⟨Nat.le_of_ble_eq_true rfl, Nat.le_of_ble_eq_true rfl, rfl, rfl⟩ ⟨Nat.zero_le _, Nat.zero_le _⟩ rfl rfl (Nat.le_of_ble_eq_true rfl) rfl dX9_choose_32 ?_
        refine x_iload_n (pc := 35) C 1 dX9_choose_35 rfl rfl ?_
        refine x_iload_n (pc := 36) C 2 dX9_choose_36 rfl rfl ?_
        obtain ⟨z_5, hz_5, h⟩ := kB h
        refine x_callV (pc := 37) C 6 [.int z_4, .int x1, .int x2] rfl rfl (mX2_choice G a st z_4 x1 x2 hz_5) yvX2_choice q22_7 ⟨Nat.le_of_ble_eq_true rfl, Nat.le_of_ble_eq_true rfl, rfl, rfl⟩ ⟨Nat.zero_le _, Nat.zero_le _⟩ rfl rfl (Nat.le_of_ble_eq_true rfl) rfl dX9_choose_37 ?_
        obtain rfl := Option.some.inj h
        exact x_iret (pc := 40) C Zd dX9_choose_40
      · have h := kIn c_3 h
        refine x_bipush (pc := 24) C (-102) dX9_choose_24 (by decide) ?_
        obtain rfl := Option.some.inj h
        exact x_iret (pc := 26) C Zd dX9_choose_26
  · have h := kIp c_1 h
    refine x_bipush (pc := 11) C (-101) dX9_choose_11 (by decide) ?_
    obtain rfl := Option.some.inj h
    exact x_iret (pc := 13) C Zd dX9_choose_13
set_option maxRecDepth 100000 in
theorem mX9_choose (G : kG) (a : Nat → Nat) (st : kS) (x1 : Int32) (x2 : Int32) {z : Int32 × kS} (h : fX9_choose st x1 x2 = some z) : kMet G yX9_choose cX9_choose 3 (some .int) rmfX9_choose (0, 0) [.ref (a 0), .int x1, .int x2] (wX G a st) (some (.int z.1)) (wX G a z.2) := kMet.mk (by decide +kernel) (Nat.le_of_ble_eq_true rfl) (fun E C Zd => wX9_choose  C Zd  st x1 x2 h)
