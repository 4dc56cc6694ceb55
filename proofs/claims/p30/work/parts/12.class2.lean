theorem yvX4_numberOf : kYV yX4_numberOf RX4 cX4_numberOf 6 (some .int) 1 := ⟨q11_11, q11_12, q1_16, q11_13, by decide +kernel⟩
abbrev rmfX4_numberOf : Room := { frames := 1, cells := 0, slots := 0, locals := 21 }
def fX4_numberOf_L20_B (K : Int32 → Int32 → Option (Int32)) (Gc : Int32 → Int32 → Option (Int32)) (N1 : Nat) (f1 : Nat → Int32) (st : kS) (v2 : Int32) (v3 : Int32) (v4 : Int32) (v5 : Int32) : Option (Int32) := if (gI st 10) ≤ v5 then (K v4 v5) else (if (kg N1 f1 v3) ≤ (kg N1 f1 v5) then (Gc v4 (v5 + 1)) else (Gc (v4 + 1) (v5 + 1)))
set_option maxRecDepth 100000 in
set_option maxHeartbeats 4000000 in
theorem wX4_numberOf_L20_B {G : kG} {E : kE} {a : Nat → Nat} {st0 : kS} {q1 a1 N1 : Nat} {f1 : Nat → Int32} (hN1 : N1 < 2 ^ 31) (C : kOk G E cX4_numberOf RX4 6 rmfX4_numberOf) {z : Int32} (Zd : kEnd G E (0, 0) (some .int) (some (.int z)) (wX G a st0)) (hq1 : (wX G a st0)[q1]? = some (a1, .inl (G.2.1, N1, .inl f1))) {K Gc : Int32 → Int32 → Option (Int32)} (v2 : Int32) (v3 : Int32) (v4 : Int32) (v5 : Int32) (hK : ∀ (u4 : Int32) (u5 : Int32), K u4 u5 = some z → kX G E (0, 0) (wX G a st0) 52 [(0, .ref (a 5)), (1, .ref a1), (2, .int v2), (3, .int v3), (4, .int u4)] []) (hG : ∀ (u4 : Int32) (u5 : Int32), Gc u4 u5 = some z → kX G E (0, 0) (wX G a st0) 20 [(0, .ref (a 5)), (1, .ref a1), (2, .int v2), (3, .int v3), (4, .int u4), (5, .int u5)] []) (h : fX4_numberOf_L20_B K Gc N1 f1 st0 v2 v3 v4 v5 = some z) : kX G E (0, 0) (wX G a st0) 20 [(0, .ref (a 5)), (1, .ref a1), (2, .int v2), (3, .int v3), (4, .int v4), (5, .int v5)] [] := by
  unfold fX4_numberOf_L20_B at h
  refine x_iload (pc := 20) C 5 dX4_numberOf_20 rfl ?_
  refine x_aload_n (pc := 22) C 0 dX4_numberOf_22 rfl rfl ?_
  refine x_get (pc := 23) C inlX4 5 rfl rfl 2 (by decide) q10_22 (v := .int (gI st0 10)) rfl dX4_numberOf_23 ?_
  refine x_icmp_ge (pc := 26) C 52 dX4_numberOf_26 (by decide) (fun c_2 => ?_) (fun c_2 => ?_)
  · have h := kIp c_2 h
    refine kX.pick [0, 1, 2, 3, 4] (lv' := [(0, .ref (a 5)), (1, .ref a1), (2, .int v2), (3, .int v3), (4, .int v4)]) rfl ?_
    exact hK v4 v5 h
  · have h := kIn c_2 h
    refine x_aload_n (pc := 29) C 1 dX4_numberOf_29 rfl rfl ?_
    refine x_iload (pc := 30) C 5 dX4_numberOf_30 rfl ?_
    refine x_callS (pc := 32) C [.ref a1, .int v5] (mX0_get G (N := N1) (f := f1) q1 hq1 hN1 v5) ysX0_get q11_5 ⟨Nat.le_of_ble_eq_true rfl, Nat.le_of_ble_eq_true rfl, rfl, rfl⟩ ⟨Nat.zero_le _, Nat.zero_le _⟩ rfl rfl (Nat.le_of_ble_eq_true rfl) rfl dX4_numberOf_32 ?_
    refine x_aload_n (pc := 35) C 1 dX4_numberOf_35 rfl rfl ?_
    refine x_iload_n (pc := 36) C 3 dX4_numberOf_36 rfl rfl ?_
    refine x_callS (pc := 37) C [.ref a1, .int v3] (mX0_get G (N := N1) (f := f1) q1 hq1 hN1 v3) ysX0_get q11_5 ⟨Nat.le_of_ble_eq_true rfl, Nat.le_of_ble_eq_true rfl, rfl, rfl⟩ ⟨Nat.zero_le _, Nat.zero_le _⟩ rfl rfl (Nat.le_of_ble_eq_true rfl) rfl dX4_numberOf_37 ?_
    refine x_icmp_ge (pc := 40) C 46 dX4_numberOf_40 (by decide) (fun c_3 => ?_) (fun c_3 => ?_)
    · have h := kIp c_3 h
      refine x_iinc (pc := 46) C 5 (v := v5 + 1) (lv' := [(5, .int (v5 + 1)), (0, .ref (a 5)), (1, .ref a1), (2, .int v2), (3, .int v3), (4, .int v4)]) dX4_numberOf_46 rfl rfl (by decide) rfl ?_
      refine x_goto (pc := 49) C 20 dX4_numberOf_49 (by decide) ?_
      refine kX.pick [1, 2, 3, 4, 5, 0] (lv' := [(0, .ref (a 5)), (1, .ref a1), (2, .int v2), (3, .int v3), (4, .int v4), (5, .int (v5 + 1))]) rfl ?_
      exact hG v4 (v5 + 1) h
    · have h := kIn c_3 h
      refine x_iinc (pc := 43) C 4 (v := v4 + 1) (lv' := [(4, .int (v4 + 1)), (0, .ref (a 5)), (1, .ref a1), (2, .int v2), (3, .int v3), (5, .int v5)]) dX4_numberOf_43 rfl rfl (by decide) rfl ?_
      refine x_iinc (pc := 46) C 5 (v := v5 + 1) (lv' := [(5, .int (v5 + 1)), (4, .int (v4 + 1)), (0, .ref (a 5)), (1, .ref a1), (2, .int v2), (3, .int v3)]) dX4_numberOf_46 rfl rfl (by decide) rfl ?_
      refine x_goto (pc := 49) C 20 dX4_numberOf_49 (by decide) ?_
      refine kX.pick [2, 3, 4, 5, 1, 0] (lv' := [(0, .ref (a 5)), (1, .ref a1), (2, .int v2), (3, .int v3), (4, .int (v4 + 1)), (5, .int (v5 + 1))]) rfl ?_
      exact hG (v4 + 1) (v5 + 1) h
def fX4_numberOf_L20 (K : Int32 → Int32 → Option (Int32)) (N1 : Nat) (f1 : Nat → Int32) (st : kS) (v2 : Int32) (v3 : Int32) : Nat → Int32 → Int32 → Option (Int32)
  | 0, _, _ => none
  | F + 1, v4, v5 => fX4_numberOf_L20_B K (fX4_numberOf_L20 K N1 f1 st v2 v3 F) N1 f1 st v2 v3 v4 v5
set_option maxRecDepth 100000 in
set_option maxHeartbeats 4000000 in
theorem wX4_numberOf_L20 {G : kG} {E : kE} {a : Nat → Nat} {st0 : kS} {q1 a1 N1 : Nat} {f1 : Nat → Int32} (hN1 : N1 < 2 ^ 31) (C : kOk G E cX4_numberOf RX4 6 rmfX4_numberOf) {z : Int32} (Zd : kEnd G E (0, 0) (some .int) (some (.int z)) (wX G a st0)) (hq1 : (wX G a st0)[q1]? = some (a1, .inl (G.2.1, N1, .inl f1))) {K : Int32 → Int32 → Option (Int32)} (v2 : Int32) (v3 : Int32) (hK : ∀ (u4 : Int32) (u5 : Int32), K u4 u5 = some z → kX G E (0, 0) (wX G a st0) 52 [(0, .ref (a 5)), (1, .ref a1), (2, .int v2), (3, .int v3), (4, .int u4)] []) : ∀ (F : Nat) (v4 : Int32) (v5 : Int32), fX4_numberOf_L20 K N1 f1 st0 v2 v3 F v4 v5 = some z → kX G E (0, 0) (wX G a st0) 20 [(0, .ref (a 5)), (1, .ref a1), (2, .int v2), (3, .int v3), (4, .int v4), (5, .int v5)] [] := by
  intro F
  induction F with
  | zero =>
    intro v4 v5 h
    exact absurd (show none = some z from h) (fun q => by cases q)
  | succ F ih =>
    intro v4 v5 h
    exact wX4_numberOf_L20_B hN1 C Zd hq1 v2 v3 v4 v5 hK (fun v4 v5 h => ih v4 v5 h) h
def fX4_numberOf_L4_B (K : Int32 → Int32 → Option (Int32)) (Gc : Int32 → Int32 → Option (Int32)) (N1 : Nat) (f1 : Nat → Int32) (st : kS) (v2 : Int32) (v3 : Int32) : Option (Int32) := if (gI st 10) ≤ v3 then (K v2 v3) else (fX4_numberOf_L20 (fun v4_4 v5_5 => Gc ((v2 * ((gI st 10) - v3)) + v4_4) (v3 + 1)) N1 f1 st v2 v3 kFU 0 (v3 + 1))
set_option maxRecDepth 100000 in
set_option maxHeartbeats 4000000 in
theorem wX4_numberOf_L4_B {G : kG} {E : kE} {a : Nat → Nat} {st0 : kS} {q1 a1 N1 : Nat} {f1 : Nat → Int32} (hN1 : N1 < 2 ^ 31) (C : kOk G E cX4_numberOf RX4 6 rmfX4_numberOf) {z : Int32} (Zd : kEnd G E (0, 0) (some .int) (some (.int z)) (wX G a st0)) (hq1 : (wX G a st0)[q1]? = some (a1, .inl (G.2.1, N1, .inl f1))) {K Gc : Int32 → Int32 → Option (Int32)} (v2 : Int32) (v3 : Int32) (hK : ∀ (u2 : Int32) (u3 : Int32), K u2 u3 = some z → kX G E (0, 0) (wX G a st0) 70 [(2, .int u2)] []) (hG : ∀ (u2 : Int32) (u3 : Int32), Gc u2 u3 = some z → kX G E (0, 0) (wX G a st0) 4 [(0, .ref (a 5)), (1, .ref a1), (2, .int u2), (3, .int u3)] []) (h : fX4_numberOf_L4_B K Gc N1 f1 st0 v2 v3 = some z) : kX G E (0, 0) (wX G a st0) 4 [(0, .ref (a 5)), (1, .ref a1), (2, .int v2), (3, .int v3)] [] := by
  unfold fX4_numberOf_L4_B at h
  refine x_iload_n (pc := 4) C 3 dX4_numberOf_4 rfl rfl ?_
  refine x_aload_n (pc := 5) C 0 dX4_numberOf_5 rfl rfl ?_
  refine x_get (pc := 6) C inlX4 5 rfl rfl 2 (by decide) q10_22 (v := .int (gI st0 10)) rfl dX4_numberOf_6 ?_
  refine x_icmp_ge (pc := 9) C 70 dX4_numberOf_9 (by decide) (fun c_1 => ?_) (fun c_1 => ?_)
  · have h := kIp c_1 h
    refine kX.pick [2] (lv' := [(2, .int v2)]) rfl ?_
    exact hK v2 v3 h
  · have h := kIn c_1 h
    refine x_iconst (pc := 12) C 0 dX4_numberOf_12 (by decide) ?_
    refine x_istore (pc := 13) C (lv' := [(4, .int 0), (0, .ref (a 5)), (1, .ref a1), (2, .int v2), (3, .int v3)]) dX4_numberOf_13 (by decide) rfl ?_
    refine x_iload_n (pc := 15) C 4 dX4_numberOf_15 rfl rfl ?_
    refine x_iconst (pc := 16) C 1 dX4_numberOf_16 (by decide) ?_
    refine x_iadd (pc := 17) C dX4_numberOf_17 ?_
    refine x_istore (pc := 18) C (lv' := [(5, .int (v3 + 1)), (4, .int 0), (0, .ref (a 5)), (1, .ref a1), (2, .int v2), (3, .int v3)]) dX4_numberOf_18 (by decide) rfl ?_
    refine kX.pick [2, 3, 4, 5, 1, 0] (lv' := [(0, .ref (a 5)), (1, .ref a1), (2, .int v2), (3, .int v3), (4, .int 0), (5, .int (v3 + 1))]) rfl ?_
    refine wX4_numberOf_L20 hN1 C Zd hq1 v2 v3 (fun v4_4 v5_5 h => ?_) kFU 0 (v3 + 1) h
    refine x_iload_n (pc := 52) C 2 dX4_numberOf_52 rfl rfl ?_
    refine x_aload_n (pc := 53) C 0 dX4_numberOf_53 rfl rfl ?_
    refine x_get (pc := 54) C inlX4 5 rfl rfl 2 (by decide) q10_22 (v := .int (gI st0 10)) rfl dX4_numberOf_54 ?_
    refine x_iload_n (pc := 57) C 3 dX4_numberOf_57 rfl rfl ?_
    refine x_isub (pc := 58) C dX4_numberOf_58 ?_
    refine x_imul (pc := 59) C dX4_numberOf_59 ?_
    refine x_iload (pc := 60) C 4 dX4_numberOf_60 rfl ?_
    refine x_iadd (pc := 62) C dX4_numberOf_62 ?_
    refine x_istore_n (pc := 63) C (lv' := [(2, .int ((v2 * ((gI st0 10) - v3)) + v4_4)), (0, .ref (a 5)), (1, .ref a1), (3, .int v3), (4, .int v4_4)]) dX4_numberOf_63 rfl (by decide) rfl ?_
    refine x_iinc (pc := 64) C 3 (v := v3 + 1) (lv' := [(3, .int (v3 + 1)), (2, .int ((v2 * ((gI st0 10) - v3)) + v4_4)), (0, .ref (a 5)), (1, .ref a1), (4, .int v4_4)]) dX4_numberOf_64 rfl rfl (by decide) rfl ?_
    refine x_goto (pc := 67) C 4 dX4_numberOf_67 (by decide) ?_
    refine kX.pick [2, 3, 1, 0] (lv' := [(0, .ref (a 5)), (1, .ref a1), (2, .int ((v2 * ((gI st0 10) - v3)) + v4_4)), (3, .int (v3 + 1))]) rfl ?_
    exact hG ((v2 * ((gI st0 10) - v3)) + v4_4) (v3 + 1) h
def fX4_numberOf_L4 (K : Int32 → Int32 → Option (Int32)) (N1 : Nat) (f1 : Nat → Int32) (st : kS) : Nat → Int32 → Int32 → Option (Int32)
  | 0, _, _ => none
  | F + 1, v2, v3 => fX4_numberOf_L4_B K (fX4_numberOf_L4 K N1 f1 st F) N1 f1 st v2 v3
set_option maxRecDepth 100000 in
set_option maxHeartbeats 4000000 in
theorem wX4_numberOf_L4 {G : kG} {E : kE} {a : Nat → Nat} {st0 : kS} {q1 a1 N1 : Nat} {f1 : Nat → Int32} (hN1 : N1 < 2 ^ 31) (C : kOk G E cX4_numberOf RX4 6 rmfX4_numberOf) {z : Int32} (Zd : kEnd G E (0, 0) (some .int) (some (.int z)) (wX G a st0)) (hq1 : (wX G a st0)[q1]? = some (a1, .inl (G.2.1, N1, .inl f1))) {K : Int32 → Int32 → Option (Int32)} (hK : ∀ (u2 : Int32) (u3 : Int32), K u2 u3 = some z → kX G E (0, 0) (wX G a st0) 70 [(2, .int u2)] []) : ∀ (F : Nat) (v2 : Int32) (v3 : Int32), fX4_numberOf_L4 K N1 f1 st0 F v2 v3 = some z → kX G E (0, 0) (wX G a st0) 4 [(0, .ref (a 5)), (1, .ref a1), (2, .int v2), (3, .int v3)] [] := by
  intro F
  induction F with
  | zero =>
    intro v2 v3 h
    exact absurd (show none = some z from h) (fun q => by cases q)
  | succ F ih =>
    intro v2 v3 h
    exact wX4_numberOf_L4_B hN1 C Zd hq1 v2 v3 hK (fun v2 v3 h => ih v2 v3 h) h
def fX4_numberOf (N1 : Nat) (f1 : Nat → Int32) (st : kS) : Option (Int32) := fX4_numberOf_L4 (fun v2_6 v3_7 => some v2_6) N1 f1 st kFU 0 0
set_option maxRecDepth 100000 in
set_option maxHeartbeats 4000000 in
theorem wX4_numberOf {G : kG} {E : kE} {a : Nat → Nat} {st0 : kS} {q1 a1 N1 : Nat} {f1 : Nat → Int32} (hN1 : N1 < 2 ^ 31) (C : kOk G E cX4_numberOf RX4 6 rmfX4_numberOf) {z : Int32} (Zd : kEnd G E (0, 0) (some .int) (some (.int z)) (wX G a st0)) (hq1 : (wX G a st0)[q1]? = some (a1, .inl (G.2.1, N1, .inl f1))) (h : fX4_numberOf N1 f1 st0 = some z) : kX G E (0, 0) (wX G a st0) 0 [(0, .ref (a 5)), (1, .ref a1)] [] := by
  unfold fX4_numberOf at h
  refine x_iconst (pc := 0) C 0 dX4_numberOf_0 (by decide) ?_
  refine x_istore_n (pc := 1) C (lv' := [(2, .int 0), (0, .ref (a 5)), (1, .ref a1)]) dX4_numberOf_1 rfl (by decide) rfl ?_
  refine x_iconst (pc := 2) C 0 dX4_numberOf_2 (by decide) ?_
  refine x_istore_n (pc := 3) C (lv' := [(3, .int 0), (2, .int 0), (0, .ref (a 5)), (1, .ref a1)]) dX4_numberOf_3 rfl (by decide) rfl ?_
  refine kX.pick [2, 3, 1, 0] (lv' := [(0, .ref (a 5)), (1, .ref a1), (2, .int 0), (3, .int 0)]) rfl ?_
  refine wX4_numberOf_L4 hN1 C Zd hq1  (fun v2_6 v3_7 h => ?_) kFU 0 0 h
  refine x_iload_n (pc := 70) C 0 dX4_numberOf_70 rfl rfl ?_
  obtain rfl := Option.some.inj h
  exact x_iret (pc := 71) C Zd dX4_numberOf_71
set_option maxRecDepth 100000 in
theorem mX4_numberOf (G : kG) (a : Nat → Nat) {st : kS} {a1 : Nat} {N : Nat} {f : Nat → Int32} (q1 : Nat) (hq1 : (wX G a st)[q1]? = some (a1, .inl (G.2.1, N, .inl f))) (hN1 : N < 2 ^ 31) (_ : kS)  {z : Int32} (h : fX4_numberOf N f st = some z) : kMet G yX4_numberOf cX4_numberOf 6 (some .int) rmfX4_numberOf (0, 0) [.ref (a 5), .ref a1] (wX G a st) (some (.int z)) (wX G a st) := kMet.mk (by decide +kernel) (Nat.le_of_ble_eq_true rfl) (fun E C Zd => wX4_numberOf hN1 C Zd hq1  h)
theorem yvX4_prepare : kYV yX4_prepare RX4 cX4_prepare 5 none 1 := ⟨q10_19, q10_20, q1_16, q10_21, by decide +kernel⟩
abbrev rmfX4_prepare : Room := { frames := 2, cells := 0, slots := 0, locals := 49 }
def fX4_prepare_L21_B (K : Int32 → kS → Option (kS)) (Gc : Int32 → kS → Option (kS)) (st : kS) (v2 : Int32) : Option (kS) := if (gI st 10) < v2 then (K v2 st) else (Gc (v2 + 1) (sI st 11 ((gI st 11) * v2)))
set_option maxRecDepth 100000 in
set_option maxHeartbeats 4000000 in
theorem wX4_prepare_L21_B {G : kG} {E : kE} {a : Nat → Nat} (C : kOk G E cX4_prepare RX4 5 rmfX4_prepare) {z : kS} (Zd : kEnd G E (0, 0) none none (wX G a z)) {K Gc : Int32 → kS → Option (kS)} (st : kS) (v2 : Int32) (hK : ∀ (u2 : Int32) (su : kS), K u2 su = some z → kX G E (0, 0) (wX G a su) 45 [(0, .ref (a 5))] []) (hG : ∀ (u2 : Int32) (su : kS), Gc u2 su = some z → kX G E (0, 0) (wX G a su) 21 [(0, .ref (a 5)), (2, .int u2)] []) (h : fX4_prepare_L21_B K Gc st v2 = some z) : kX G E (0, 0) (wX G a st) 21 [(0, .ref (a 5)), (2, .int v2)] [] := by
  unfold fX4_prepare_L21_B at h
  refine x_iload_n (pc := 21) C 1 dX4_prepare_21 rfl rfl ?_
  refine x_aload_n (pc := 22) C 0 dX4_prepare_22 rfl rfl ?_
  refine x_get (pc := 23) C inlX4 5 rfl rfl 2 (by decide) q10_22 (v := .int (gI st 10)) rfl dX4_prepare_23 ?_
  refine x_icmp_gt (pc := 26) C 45 dX4_prepare_26 (by decide) (fun c_2 => ?_) (fun c_2 => ?_)
  · have h := kIp c_2 h
    refine kX.pick [0] (lv' := [(0, .ref (a 5))]) rfl ?_
    exact hK v2 st h
  · have h := kIn c_2 h
    refine x_aload_n (pc := 29) C 0 dX4_prepare_29 rfl rfl ?_
    refine x_dup (pc := 30) C dX4_prepare_30 rfl ?_
    refine x_get (pc := 31) C inlX4 5 rfl rfl 3 (by decide) q10_23 (v := .int (gI st 11)) rfl dX4_prepare_31 ?_
    refine x_iload_n (pc := 34) C 1 dX4_prepare_34 rfl rfl ?_
    refine x_imul (pc := 35) C dX4_prepare_35 ?_
    refine x_put (pc := 36) C inlX4 tyX4 tyX4_ok nmX4 5 rfl rfl 3 (by decide) q10_23 rfl .int (v := .int ((gI st 11) * v2)) (by decide +kernel) rfl rfl (Nat.le_of_ble_eq_true rfl) (swX_I11 G a _ _) dX4_prepare_36 ?_
    refine x_iinc (pc := 39) C 1 (v := v2 + 1) (lv' := [(2, .int (v2 + 1)), (0, .ref (a 5))]) dX4_prepare_39 rfl rfl (by decide) rfl ?_
    refine x_goto (pc := 42) C 21 dX4_prepare_42 (by decide) ?_
    refine kX.pick [1, 0] (lv' := [(0, .ref (a 5)), (2, .int (v2 + 1))]) rfl ?_
    exact hG (v2 + 1) (sI st 11 ((gI st 11) * v2)) h
def fX4_prepare_L21 (K : Int32 → kS → Option (kS)) : Nat → Int32 → kS → Option (kS)
  | 0, _, _ => none
  | F + 1, v2, st => fX4_prepare_L21_B K (fX4_prepare_L21 K F) st v2
set_option maxRecDepth 100000 in
set_option maxHeartbeats 4000000 in
theorem wX4_prepare_L21 {G : kG} {E : kE} {a : Nat → Nat} (C : kOk G E cX4_prepare RX4 5 rmfX4_prepare) {z : kS} (Zd : kEnd G E (0, 0) none none (wX G a z)) {K : Int32 → kS → Option (kS)} (hK : ∀ (u2 : Int32) (su : kS), K u2 su = some z → kX G E (0, 0) (wX G a su) 45 [(0, .ref (a 5))] []) : ∀ (F : Nat) (v2 : Int32) (st : kS), fX4_prepare_L21 K F v2 st = some z → kX G E (0, 0) (wX G a st) 21 [(0, .ref (a 5)), (2, .int v2)] [] := by
  intro F
  induction F with
  | zero =>
    intro v2 st h
    exact absurd (show none = some z from h) (fun q => by cases q)
  | succ F ih =>
    intro v2 st h
    exact wX4_prepare_L21_B  C Zd  st v2 hK (fun v2 st h => ih v2 st h) h
def fX4_prepare_J88 (K : Int32 → kS → Option (kS)) (Gc : Int32 → kS → Option (kS)) (st : kS) (v2 : Int32) (v3 : Int32) (s0 : Int32) : Option (kS) := (fX4_numberOf 6 (gA (fX4_change st v3 s0) 18) (fX4_change st v3 s0)).bind (fun z_9 => Gc (v3 + 1) (fX4_change (sA (fX4_change st v3 s0) 17 (kp 4320 (gA (fX4_change st v3 s0) 17) ((v2 * 6) + v3) z_9)) v3 s0))
set_option maxRecDepth 100000 in
set_option maxHeartbeats 4000000 in
theorem wX4_prepare_J88 {G : kG} {E : kE} {a : Nat → Nat} (C : kOk G E cX4_prepare RX4 5 rmfX4_prepare) {z : kS} (Zd : kEnd G E (0, 0) none none (wX G a z)) {K Gc : Int32 → kS → Option (kS)} (st : kS) (v2 : Int32) (v3 : Int32) (s0 : Int32) (hK : ∀ (u3 : Int32) (su : kS), K u3 su = some z → kX G E (0, 0) (wX G a su) 131 [(0, .ref (a 5)), (2, .int v2)] []) (hG : ∀ (u3 : Int32) (su : kS), Gc u3 su = some z → kX G E (0, 0) (wX G a su) 63 [(0, .ref (a 5)), (2, .int v2), (3, .int u3)] []) (h : fX4_prepare_J88 K Gc st v2 v3 s0 = some z) : kX G E (0, 0) (wX G a st) 88 [(0, .ref (a 5)), (2, .int v2), (3, .int v3)] [.int s0] := by
  unfold fX4_prepare_J88 at h
  refine x_istore (pc := 88) C (lv' := [(4, .int s0), (0, .ref (a 5)), (2, .int v2), (3, .int v3)]) dX4_prepare_88 (by decide) rfl ?_
  refine x_aload_n (pc := 90) C 1 dX4_prepare_90 rfl rfl ?_
  refine x_iload_n (pc := 91) C 3 dX4_prepare_91 rfl rfl ?_
  refine x_iload (pc := 92) C 0 dX4_prepare_92 rfl ?_
  refine x_callV (pc := 94) C 5 [.int v3, .int s0] rfl rfl (mX4_change G a st v3 s0) yvX4_change q11_6 ⟨Nat.le_of_ble_eq_true rfl, Nat.le_of_ble_eq_true rfl, rfl, rfl⟩ ⟨Nat.zero_le _, Nat.zero_le _⟩ rfl rfl (Nat.le_of_ble_eq_true rfl) rfl dX4_prepare_94 ?_
  refine x_aload_n (pc := 97) C 1 dX4_prepare_97 rfl rfl ?_
  refine x_get (pc := 98) C inlX4 5 rfl rfl 0 (by decide) q3_4 (v := .ref (a 17)) rfl dX4_prepare_98 ?_
  refine x_iload_n (pc := 101) C 2 dX4_prepare_101 rfl rfl ?_
  refine x_bipush (pc := 102) C 6 dX4_prepare_102 (by decide) ?_
  refine x_imul (pc := 104) C dX4_prepare_104 ?_
  refine x_iload_n (pc := 105) C 3 dX4_prepare_105 rfl rfl ?_
  refine x_iadd (pc := 106) C dX4_prepare_106 ?_
  refine x_aload_n (pc := 107) C 1 dX4_prepare_107 rfl rfl ?_
  refine x_aload_n (pc := 108) C 1 dX4_prepare_108 rfl rfl ?_
  refine x_get (pc := 109) C inlX4 5 rfl rfl 1 (by decide) q3_5 (v := .ref (a 18)) rfl dX4_prepare_109 ?_
  obtain ⟨z_9, hz_9, h⟩ := kB h
  refine x_callV (pc := 112) C 5 [.ref (a 18)] rfl rfl (mX4_numberOf G a (N := 6) (f := (gA (fX4_change st v3 s0) 18)) 18 (lwX_A18 G a rfl) (by decide) (fX4_change st v3 s0) hz_9) yvX4_numberOf q11_10 ⟨Nat.le_of_ble_eq_true rfl, Nat.le_of_ble_eq_true rfl, rfl, rfl⟩ ⟨Nat.zero_le _, Nat.zero_le _⟩ rfl rfl (Nat.le_of_ble_eq_true rfl) rfl dX4_prepare_112 ?_
  refine x_callS (pc := 115) C [.ref (a 17), .int ((v2 * 6) + v3), .int z_9] (mX0_put G (N := 4320) (f := (gA (fX4_change st v3 s0) 17)) 17 (lwX_A17 G a rfl) (by decide) ((v2 * 6) + v3) z_9 (swX_A17 G a _ _)) ysX0_put q11_4 ⟨Nat.le_of_ble_eq_true rfl, Nat.le_of_ble_eq_true rfl, rfl, rfl⟩ ⟨Nat.zero_le _, Nat.zero_le _⟩ rfl rfl (Nat.le_of_ble_eq_true rfl) rfl dX4_prepare_115 ?_
  refine x_aload_n (pc := 118) C 1 dX4_prepare_118 rfl rfl ?_
  refine x_iload_n (pc := 119) C 3 dX4_prepare_119 rfl rfl ?_
  refine x_iload (pc := 120) C 0 dX4_prepare_120 rfl ?_
  refine x_callV (pc := 122) C 5 [.int v3, .int s0] rfl rfl (mX4_change G a (sA (fX4_change st v3 s0) 17 (kp 4320 (gA (fX4_change st v3 s0) 17) ((v2 * 6) + v3) z_9)) v3 s0) yvX4_change q11_6 ⟨Nat.le_of_ble_eq_true rfl, Nat.le_of_ble_eq_true rfl, rfl, rfl⟩ ⟨Nat.zero_le _, Nat.zero_le _⟩ rfl rfl (Nat.le_of_ble_eq_true rfl) rfl dX4_prepare_122 ?_
  refine x_iinc (pc := 125) C 3 (v := v3 + 1) (lv' := [(3, .int (v3 + 1)), (4, .int s0), (0, .ref (a 5)), (2, .int v2)]) dX4_prepare_125 rfl rfl (by decide) rfl ?_
  refine x_goto (pc := 128) C 63 dX4_prepare_128 (by decide) ?_
  refine kX.pick [2, 3, 0] (lv' := [(0, .ref (a 5)), (2, .int v2), (3, .int (v3 + 1))]) rfl ?_
  exact hG (v3 + 1) (fX4_change (sA (fX4_change st v3 s0) 17 (kp 4320 (gA (fX4_change st v3 s0) 17) ((v2 * 6) + v3) z_9)) v3 s0) h
def fX4_prepare_L63_B (K : Int32 → kS → Option (kS)) (Gc : Int32 → kS → Option (kS)) (st : kS) (v2 : Int32) (v3 : Int32) : Option (kS) := if (gI st 10) ≤ v3 then (K v3 st) else (if (gI st 10) ≤ (v3 + 1) then (fX4_prepare_J88 K Gc st v2 v3 0) else (fX4_prepare_J88 K Gc st v2 v3 (v3 + 1)))
set_option maxRecDepth 100000 in
set_option maxHeartbeats 4000000 in
theorem wX4_prepare_L63_B {G : kG} {E : kE} {a : Nat → Nat} (C : kOk G E cX4_prepare RX4 5 rmfX4_prepare) {z : kS} (Zd : kEnd G E (0, 0) none none (wX G a z)) {K Gc : Int32 → kS → Option (kS)} (st : kS) (v2 : Int32) (v3 : Int32) (hK : ∀ (u3 : Int32) (su : kS), K u3 su = some z → kX G E (0, 0) (wX G a su) 131 [(0, .ref (a 5)), (2, .int v2)] []) (hG : ∀ (u3 : Int32) (su : kS), Gc u3 su = some z → kX G E (0, 0) (wX G a su) 63 [(0, .ref (a 5)), (2, .int v2), (3, .int u3)] []) (h : fX4_prepare_L63_B K Gc st v2 v3 = some z) : kX G E (0, 0) (wX G a st) 63 [(0, .ref (a 5)), (2, .int v2), (3, .int v3)] [] := by
  unfold fX4_prepare_L63_B at h
  refine x_iload_n (pc := 63) C 2 dX4_prepare_63 rfl rfl ?_
  refine x_aload_n (pc := 64) C 0 dX4_prepare_64 rfl rfl ?_
  refine x_get (pc := 65) C inlX4 5 rfl rfl 2 (by decide) q10_22 (v := .int (gI st 10)) rfl dX4_prepare_65 ?_
  refine x_icmp_ge (pc := 68) C 131 dX4_prepare_68 (by decide) (fun c_7 => ?_) (fun c_7 => ?_)
  · have h := kIp c_7 h
    refine kX.pick [0, 1] (lv' := [(0, .ref (a 5)), (2, .int v2)]) rfl ?_
    exact hK v3 st h
  · have h := kIn c_7 h
    refine x_iload_n (pc := 71) C 2 dX4_prepare_71 rfl rfl ?_
    refine x_iconst (pc := 72) C 1 dX4_prepare_72 (by decide) ?_
    refine x_iadd (pc := 73) C dX4_prepare_73 ?_
    refine x_aload_n (pc := 74) C 0 dX4_prepare_74 rfl rfl ?_
    refine x_get (pc := 75) C inlX4 5 rfl rfl 2 (by decide) q10_22 (v := .int (gI st 10)) rfl dX4_prepare_75 ?_
    refine x_icmp_ge (pc := 78) C 87 dX4_prepare_78 (by decide) (fun c_8 => ?_) (fun c_8 => ?_)
    · have h := kIp c_8 h
      refine x_iconst (pc := 87) C 0 dX4_prepare_87 (by decide) ?_
      exact wX4_prepare_J88  C Zd  st v2 v3 0 hK hG h
    · have h := kIn c_8 h
      refine x_iload_n (pc := 81) C 2 dX4_prepare_81 rfl rfl ?_
      refine x_iconst (pc := 82) C 1 dX4_prepare_82 (by decide) ?_
      refine x_iadd (pc := 83) C dX4_prepare_83 ?_
      refine x_goto (pc := 84) C 88 dX4_prepare_84 (by decide) ?_
      exact wX4_prepare_J88  C Zd  st v2 v3 (v3 + 1) hK hG h
def fX4_prepare_L63 (K : Int32 → kS → Option (kS)) (v2 : Int32) : Nat → Int32 → kS → Option (kS)
  | 0, _, _ => none
  | F + 1, v3, st => fX4_prepare_L63_B K (fX4_prepare_L63 K v2 F) st v2 v3
set_option maxRecDepth 100000 in
set_option maxHeartbeats 4000000 in
theorem wX4_prepare_L63 {G : kG} {E : kE} {a : Nat → Nat} (C : kOk G E cX4_prepare RX4 5 rmfX4_prepare) {z : kS} (Zd : kEnd G E (0, 0) none none (wX G a z)) {K : Int32 → kS → Option (kS)} (v2 : Int32) (hK : ∀ (u3 : Int32) (su : kS), K u3 su = some z → kX G E (0, 0) (wX G a su) 131 [(0, .ref (a 5)), (2, .int v2)] []) : ∀ (F : Nat) (v3 : Int32) (st : kS), fX4_prepare_L63 K v2 F v3 st = some z → kX G E (0, 0) (wX G a st) 63 [(0, .ref (a 5)), (2, .int v2), (3, .int v3)] [] := by
  intro F
  induction F with
  | zero =>
    intro v3 st h
    exact absurd (show none = some z from h) (fun q => by cases q)
  | succ F ih =>
    intro v3 st h
    exact wX4_prepare_L63_B  C Zd  st v2 v3 hK (fun v3 st h => ih v3 st h) h
def fX4_prepare_L47_B (K : Int32 → kS → Option (kS)) (Gc : Int32 → kS → Option (kS)) (st : kS) (v2 : Int32) : Option (kS) := if (gI st 11) ≤ v2 then (K v2 st) else ((fX4_unfold st v2).bind (fun z_6 => fX4_prepare_L63 (fun v3_10 st_11 => Gc (v2 + 1) st_11) v2 kFU 0 z_6))
set_option maxRecDepth 100000 in
set_option maxHeartbeats 4000000 in
theorem wX4_prepare_L47_B {G : kG} {E : kE} {a : Nat → Nat} (C : kOk G E cX4_prepare RX4 5 rmfX4_prepare) {z : kS} (Zd : kEnd G E (0, 0) none none (wX G a z)) {K Gc : Int32 → kS → Option (kS)} (st : kS) (v2 : Int32) (hK : ∀ (u2 : Int32) (su : kS), K u2 su = some z → kX G E (0, 0) (wX G a su) 137 [] []) (hG : ∀ (u2 : Int32) (su : kS), Gc u2 su = some z → kX G E (0, 0) (wX G a su) 47 [(0, .ref (a 5)), (2, .int u2)] []) (h : fX4_prepare_L47_B K Gc st v2 = some z) : kX G E (0, 0) (wX G a st) 47 [(0, .ref (a 5)), (2, .int v2)] [] := by
  unfold fX4_prepare_L47_B at h
  refine x_iload_n (pc := 47) C 1 dX4_prepare_47 rfl rfl ?_
  refine x_aload_n (pc := 48) C 0 dX4_prepare_48 rfl rfl ?_
  refine x_get (pc := 49) C inlX4 5 rfl rfl 3 (by decide) q10_23 (v := .int (gI st 11)) rfl dX4_prepare_49 ?_
  refine x_icmp_ge (pc := 52) C 137 dX4_prepare_52 (by decide) (fun c_5 => ?_) (fun c_5 => ?_)
  · have h := kIp c_5 h
    refine kX.pick [] (lv' := []) rfl ?_
    exact hK v2 st h
  · have h := kIn c_5 h
    refine x_aload_n (pc := 55) C 0 dX4_prepare_55 rfl rfl ?_
    refine x_iload_n (pc := 56) C 1 dX4_prepare_56 rfl rfl ?_
    obtain ⟨z_6, hz_6, h⟩ := kB h
    refine x_callV (pc := 57) C 5 [.int v2] rfl rfl (mX4_unfold G a st v2 hz_6) yvX4_unfold q11_0 ⟨Nat.le_of_ble_eq_true rfl, Nat.le_of_ble_eq_true rfl, rfl, rfl⟩ ⟨Nat.zero_le _, Nat.zero_le _⟩ rfl rfl (Nat.le_of_ble_eq_true rfl) rfl dX4_prepare_57 ?_
    refine x_pop (pc := 60) C dX4_prepare_60 rfl ?_
    refine x_iconst (pc := 61) C 0 dX4_prepare_61 (by decide) ?_
    refine x_istore_n (pc := 62) C (lv' := [(3, .int 0), (0, .ref (a 5)), (2, .int v2)]) dX4_prepare_62 rfl (by decide) rfl ?_
    refine kX.pick [1, 2, 0] (lv' := [(0, .ref (a 5)), (2, .int v2), (3, .int 0)]) rfl ?_
    refine wX4_prepare_L63  C Zd  v2 (fun v3_10 st_11 h => ?_) kFU 0 z_6 h
    refine x_iinc (pc := 131) C 1 (v := v2 + 1) (lv' := [(2, .int (v2 + 1)), (0, .ref (a 5))]) dX4_prepare_131 rfl rfl (by decide) rfl ?_
    refine x_goto (pc := 134) C 47 dX4_prepare_134 (by decide) ?_
    refine kX.pick [1, 0] (lv' := [(0, .ref (a 5)), (2, .int (v2 + 1))]) rfl ?_
    exact hG (v2 + 1) st_11 h
def fX4_prepare_L47 (K : Int32 → kS → Option (kS)) : Nat → Int32 → kS → Option (kS)
  | 0, _, _ => none
  | F + 1, v2, st => fX4_prepare_L47_B K (fX4_prepare_L47 K F) st v2
set_option maxRecDepth 100000 in
set_option maxHeartbeats 4000000 in
theorem wX4_prepare_L47 {G : kG} {E : kE} {a : Nat → Nat} (C : kOk G E cX4_prepare RX4 5 rmfX4_prepare) {z : kS} (Zd : kEnd G E (0, 0) none none (wX G a z)) {K : Int32 → kS → Option (kS)} (hK : ∀ (u2 : Int32) (su : kS), K u2 su = some z → kX G E (0, 0) (wX G a su) 137 [] []) : ∀ (F : Nat) (v2 : Int32) (st : kS), fX4_prepare_L47 K F v2 st = some z → kX G E (0, 0) (wX G a st) 47 [(0, .ref (a 5)), (2, .int v2)] [] := by
  intro F
  induction F with
  | zero =>
    intro v2 st h
    exact absurd (show none = some z from h) (fun q => by cases q)
  | succ F ih =>
    intro v2 st h
    exact wX4_prepare_L47_B  C Zd  st v2 hK (fun v2 st h => ih v2 st h) h
def fX4_prepare (st : kS) (x1 : Int32) : Option (kS) := if (gI st 10) = x1 then (some st) else (fX4_prepare_L21 (fun v2_3 st_4 => fX4_prepare_L47 (fun v2_12 st_13 => some st_13) kFU 0 st_4) kFU 2 (sI (sI st 10 x1) 11 1))
set_option maxRecDepth 100000 in
set_option maxHeartbeats 4000000 in
theorem wX4_prepare {G : kG} {E : kE} {a : Nat → Nat} (C : kOk G E cX4_prepare RX4 5 rmfX4_prepare) {z : kS} (Zd : kEnd G E (0, 0) none none (wX G a z)) (st : kS) (x1 : Int32) (h : fX4_prepare st x1 = some z) : kX G E (0, 0) (wX G a st) 0 [(0, .ref (a 5)), (1, .int x1)] [] := by
  unfold fX4_prepare at h
  refine x_aload_n (pc := 0) C 0 dX4_prepare_0 rfl rfl ?_
  refine x_get (pc := 1) C inlX4 5 rfl rfl 2 (by decide) q10_22 (v := .int (gI st 10)) rfl dX4_prepare_1 ?_
  refine x_iload_n (pc := 4) C 1 dX4_prepare_4 rfl rfl ?_
  refine x_icmp_ne (pc := 5) C 9 dX4_prepare_5 (by decide) (fun c_1 => ?_) (fun c_1 => ?_)
  · have h := kIn c_1 h
    refine x_aload_n (pc := 9) C 0 dX4_prepare_9 rfl rfl ?_
    refine x_iload_n (pc := 10) C 1 dX4_prepare_10 rfl rfl ?_
    refine x_put (pc := 11) C inlX4 tyX4 tyX4_ok nmX4 5 rfl rfl 2 (by decide) q10_22 rfl .int (v := .int x1) (by decide +kernel) rfl rfl (Nat.le_of_ble_eq_true rfl) (swX_I10 G a _ _) dX4_prepare_11 ?_
    refine x_aload_n (pc := 14) C 0 dX4_prepare_14 rfl rfl ?_
    refine x_iconst (pc := 15) C 1 dX4_prepare_15 (by decide) ?_
    refine x_put (pc := 16) C inlX4 tyX4 tyX4_ok nmX4 5 rfl rfl 3 (by decide) q10_23 rfl .int (v := .int 1) (by decide +kernel) rfl rfl (Nat.le_of_ble_eq_true rfl) (swX_I11 G a _ _) dX4_prepare_16 ?_
    refine x_iconst (pc := 19) C 2 dX4_prepare_19 (by decide) ?_
    refine x_istore_n (pc := 20) C (lv' := [(2, .int 2), (0, .ref (a 5)), (1, .int x1)]) dX4_prepare_20 rfl (by decide) rfl ?_
    refine kX.pick [1, 0] (lv' := [(0, .ref (a 5)), (2, .int 2)]) rfl ?_
    refine wX4_prepare_L21  C Zd   (fun v2_3 st_4 h => ?_) kFU 2 (sI (sI st 10 x1) 11 1) h
    refine x_iconst (pc := 45) C 0 dX4_prepare_45 (by decide) ?_
    refine x_istore_n (pc := 46) C (lv' := [(2, .int 0), (0, .ref (a 5))]) dX4_prepare_46 rfl (by decide) rfl ?_
    refine kX.pick [1, 0] (lv' := [(0, .ref (a 5)), (2, .int 0)]) rfl ?_
    refine wX4_prepare_L47  C Zd   (fun v2_12 st_13 h => ?_) kFU 0 st_4 h
    obtain rfl := Option.some.inj h
    exact x_vret (pc := 137) C Zd dX4_prepare_137
  · have h := kIp c_1 h
    obtain rfl := Option.some.inj h
    exact x_vret (pc := 8) C Zd dX4_prepare_8
set_option maxRecDepth 100000 in
theorem mX4_prepare (G : kG) (a : Nat → Nat) (st : kS) (x1 : Int32) {z : kS} (h : fX4_prepare st x1 = some z) : kMet G yX4_prepare cX4_prepare 5 none rmfX4_prepare (0, 0) [.ref (a 5), .int x1] (wX G a st) none (wX G a z) := kMet.mk (by decide +kernel) (Nat.le_of_ble_eq_true rfl) (fun E C Zd => wX4_prepare  C Zd  st x1 h)
theorem yvX2_forget : kYV yX2_forget RX2 cX2_forget 1 none 0 := ⟨q11_15, q11_16, q2_6, q11_17, by decide +kernel⟩
abbrev rmfX2_forget : Room := { frames := 0, cells := 0, slots := 0, locals := 0 }
def fX2_forget (st : kS) : kS := (sI st 12 0)
set_option maxRecDepth 100000 in
set_option maxHeartbeats 4000000 in
theorem wX2_forget {G : kG} {E : kE} {a : Nat → Nat} (C : kOk G E cX2_forget RX2 1 rmfX2_forget) {z : kS} (Zd : kEnd G E (0, 0) none none (wX G a z)) (st : kS) (h : fX2_forget st = z) : kX G E (0, 0) (wX G a st) 0 [(0, .ref (a 6))] [] := by
  unfold fX2_forget at h
  refine x_aload_n (pc := 0) C 0 dX2_forget_0 rfl rfl ?_
  refine x_iconst (pc := 1) C 0 dX2_forget_1 (by decide) ?_
  refine x_put (pc := 2) C inlX2 tyX2 tyX2_ok nmX2 6 rfl rfl 4 (by decide) q11_18 rfl .int (v := .int 0) (by decide +kernel) rfl rfl (Nat.le_of_ble_eq_true rfl) (swX_I12 G a _ _) dX2_forget_2 ?_
  subst h
  exact x_vret (pc := 5) C Zd dX2_forget_5
set_option maxRecDepth 100000 in
theorem mX2_forget (G : kG) (a : Nat → Nat) (st : kS)  : kMet G yX2_forget cX2_forget 1 none rmfX2_forget (0, 0) [.ref (a 6)] (wX G a st) none (wX G a (fX2_forget st)) := kMet.mk (by decide +kernel) (Nat.le_of_ble_eq_true rfl) (fun E C Zd => wX2_forget  C Zd  st  rfl)
theorem yvX1_forget : kYV yX1_forget RX1 cX1_forget 1 none 0 := ⟨q11_20, q11_21, q2_10, q11_22, by decide +kernel⟩
abbrev rmfX1_forget : Room := { frames := 0, cells := 0, slots := 0, locals := 0 }
def fX1_forget (st : kS) : kS := (sI st 13 0)
set_option maxRecDepth 100000 in
set_option maxHeartbeats 4000000 in
theorem wX1_forget {G : kG} {E : kE} {a : Nat → Nat} (C : kOk G E cX1_forget RX1 1 rmfX1_forget) {z : kS} (Zd : kEnd G E (0, 0) none none (wX G a z)) (st : kS) (h : fX1_forget st = z) : kX G E (0, 0) (wX G a st) 0 [(0, .ref (a 7))] [] := by
  unfold fX1_forget at h
  refine x_aload_n (pc := 0) C 0 dX1_forget_0 rfl rfl ?_
  refine x_iconst (pc := 1) C 0 dX1_forget_1 (by decide) ?_
  refine x_put (pc := 2) C inlX1 tyX1 tyX1_ok nmX1 7 rfl rfl 6 (by decide) q11_23 rfl .boolean (v := .int 0) (by decide +kernel) rfl rfl (Nat.le_of_ble_eq_true rfl) (swX_I13 G a _ _) dX1_forget_2 ?_
  subst h
  exact x_vret (pc := 5) C Zd dX1_forget_5
set_option maxRecDepth 100000 in
theorem mX1_forget (G : kG) (a : Nat → Nat) (st : kS)  : kMet G yX1_forget cX1_forget 1 none rmfX1_forget (0, 0) [.ref (a 7)] (wX G a st) none (wX G a (fX1_forget st)) := kMet.mk (by decide +kernel) (Nat.le_of_ble_eq_true rfl) (fun E C Zd => wX1_forget  C Zd  st  rfl)
theorem yvX9_ring : kYV yX9_ring RX9 cX9_ring 1 (some .int) 0 := ⟨q8_10, q8_11, q1_2, q8_12, by decide +kernel⟩
abbrev rmfX9_ring : Room := { frames := 6, cells := 0, slots := 0, locals := 131 }
def fX9_ring (st : kS) : Option (Int32 × kS) := (fX5_isRing st).bind (fun z_1 => if z_1 = 0 then (some ((-103), st)) else ((fX8_read st).bind (fun z_3 => (fX3_begin_3 ((fX5_clear z_3).2)).bind (fun z_4 => (fX4_prepare z_4 (gI z_4 3)).bind (fun z_5 => some ((gI (fX1_forget (fX2_forget z_5)) 3), (sI (sI (fX1_forget (fX2_forget z_5)) 0 0) 1 ((gI (fX1_forget (fX2_forget z_5)) 1) + 1))))))))
set_option maxRecDepth 100000 in
set_option maxHeartbeats 4000000 in
theorem wX9_ring {G : kG} {E : kE} {a : Nat → Nat} (C : kOk G E cX9_ring RX9 1 rmfX9_ring) {z : Int32 × kS} (Zd : kEnd G E (0, 0) (some .int) (some (.int z.1)) (wX G a z.2)) (st : kS) (h : fX9_ring st = some z) : kX G E (0, 0) (wX G a st) 0 [(0, .ref (a 0))] [] := by
  unfold fX9_ring at h
  refine x_aload_n (pc := 0) C 0 dX9_ring_0 rfl rfl ?_
  refine x_get (pc := 1) C inlX9 0 rfl rfl 0 (by decide) q1_20 (v := .ref (a 1)) rfl dX9_ring_1 ?_
  obtain ⟨z_1, hz_1, h⟩ := kB h
  refine x_callV (pc := 4) C 1 [] rfl rfl (mX5_isRing G a st hz_1) yvX5_isRing q8_14 ⟨Nat.le_of_ble_eq_true rfl, Nat.le_of_ble_eq_true rfl, rfl, rfl⟩ ⟨Nat.zero_le _, Nat.zero_le _⟩ rfl rfl (Nat.le_of_ble_eq_true rfl) rfl dX9_ring_4 ?_
  refine x_if_ne (pc := 7) C 13 dX9_ring_7 (by decide) (fun c_2 => ?_) (fun c_2 => ?_)
  · have h := kIn c_2 h
    refine x_aload_n (pc := 13) C 0 dX9_ring_13 rfl rfl ?_
    refine x_get (pc := 14) C inlX9 0 rfl rfl 1 (by decide) q1_21 (v := .ref (a 2)) rfl dX9_ring_14 ?_
    refine x_aload_n (pc := 17) C 0 dX9_ring_17 rfl rfl ?_
    refine x_get (pc := 18) C inlX9 0 rfl rfl 0 (by decide) q1_20 (v := .ref (a 1)) rfl dX9_ring_18 ?_
    obtain ⟨z_3, hz_3, h⟩ := kB h
    refine x_callV (pc := 21) C 2 [.ref (a 1)] rfl rfl (mX8_read G a st hz_3) yvX8_read q8_19 ⟨Nat.le_of_ble_eq_true rfl, Nat.le_of_ble_eq_true rfl, rfl, rfl⟩ ⟨Nat.zero_le _, Nat.zero_le _⟩ rfl rfl (Nat.le_of_ble_eq_true rfl) rfl dX9_ring_21 ?_
    refine x_aload_n (pc := 24) C 0 dX9_ring_24 rfl rfl ?_
    refine x_get (pc := 25) C inlX9 0 rfl rfl 0 (by decide) q1_20 (v := .ref (a 1)) rfl dX9_ring_25 ?_
    refine x_callV (pc := 28) C 1 [] rfl rfl (mX5_clear G a z_3) yvX5_clear q10_8 ⟨Nat.le_of_ble_eq_true rfl, Nat.le_of_ble_eq_true rfl, rfl, rfl⟩ ⟨Nat.zero_le _, Nat.zero_le _⟩ rfl rfl (Nat.le_of_ble_eq_true rfl) rfl dX9_ring_28 ?_
    refine x_pop (pc := 31) C dX9_ring_31 rfl ?_
    refine x_aload_n (pc := 32) C 0 dX9_ring_32 rfl rfl ?_
    refine x_get (pc := 33) C inlX9 0 rfl rfl 2 (by decide) q2_2 (v := .ref (a 3)) rfl dX9_ring_33 ?_
    obtain ⟨z_4, hz_4, h⟩ := kB h
    refine x_callV (pc := 36) C 3 [] rfl rfl (mX3_begin_3 G a ((fX5_clear z_3).2) hz_4) yvX3_begin q10_12 ⟨Nat.le_of_ble_eq_true rfl, Nat.le_of_ble_eq_true rfl, rfl, rfl⟩ ⟨Nat.zero_le _, Nat.zero_le _⟩ rfl rfl (Nat.le_of_ble_eq_true rfl) rfl dX9_ring_36 ?_
    refine x_aload_n (pc := 39) C 0 dX9_ring_39 rfl rfl ?_
    refine x_get (pc := 40) C inlX9 0 rfl rfl 4 (by decide) q1_22 (v := .ref (a 5)) rfl dX9_ring_40 ?_
    refine x_aload_n (pc := 43) C 0 dX9_ring_43 rfl rfl ?_
    refine x_get (pc := 44) C inlX9 0 rfl rfl 1 (by decide) q1_21 (v := .ref (a 2)) rfl dX9_ring_44 ?_
    refine x_getN (pc := 47) C inlX8 2 rfl rfl 2 (by decide) nn5 (v := .int (gI z_4 3)) rfl dX9_ring_47 ?_
    obtain ⟨z_5, hz_5, h⟩ := kB h
    refine x_callV (pc := 50) C 5 [.int (gI z_4 3)] rfl rfl (mX4_prepare G a z_4 (gI z_4 3) hz_5) yvX4_prepare q10_18 ⟨Nat.le_of_ble_eq_true rfl, Nat.le_of_ble_eq_true rfl, rfl, rfl⟩ ⟨Nat.zero_le _, Nat.zero_le _⟩ rfl rfl (Nat.le_of_ble_eq_true rfl) rfl dX9_ring_50 ?_
    refine x_aload_n (pc := 53) C 0 dX9_ring_53 rfl rfl ?_
    refine x_get (pc := 54) C inlX9 0 rfl rfl 5 (by decide) q2_7 (v := .ref (a 6)) rfl dX9_ring_54 ?_
    refine x_callV (pc := 57) C 6 [] rfl rfl (mX2_forget G a z_5) yvX2_forget q11_14 ⟨Nat.le_of_ble_eq_true rfl, Nat.le_of_ble_eq_true rfl, rfl, rfl⟩ ⟨Nat.zero_le _, Nat.zero_le _⟩ rfl rfl (Nat.le_of_ble_eq_true rfl) rfl dX9_ring_57 ?_
    refine x_aload_n (pc := 60) C 0 dX9_ring_60 rfl rfl ?_
    refine x_get (pc := 61) C inlX9 0 rfl rfl 6 (by decide) q2_11 (v := .ref (a 7)) rfl dX9_ring_61 ?_
    refine x_callV (pc := 64) C 7 [] rfl rfl (mX1_forget G a (fX2_forget z_5)) yvX1_forget q11_19 ⟨Nat.le_of_ble_eq_true rfl, Nat.le_of_ble_eq_true rfl, rfl, rfl⟩ ⟨Nat.zero_le _, Nat.zero_le _⟩ rfl rfl (Nat.le_of_ble_eq_true rfl) rfl dX9_ring_64 ?_
    refine x_aload_n (pc := 67) C 0 dX9_ring_67 rfl rfl ?_
    refine x_iconst (pc := 68) C 0 dX9_ring_68 (by decide) ?_
    refine x_put (pc := 69) C inlX9 tyX9 tyX9_ok nmX9 0 rfl rfl 9 (by decide) q8_13 rfl .boolean (v := .int 0) (by decide +kernel) rfl rfl (Nat.le_of_ble_eq_true rfl) (swX_I0 G a _ _) dX9_ring_69 ?_
    refine x_aload_n (pc := 72) C 0 dX9_ring_72 rfl rfl ?_
    refine x_dup (pc := 73) C dX9_ring_73 rfl ?_
    refine x_get (pc := 74) C inlX9 0 rfl rfl 10 (by decide) q8_8 (v := .int (gI (fX1_forget (fX2_forget z_5)) 1)) rfl dX9_ring_74 ?_
    refine x_iconst (pc := 77) C 1 dX9_ring_77 (by decide) ?_
    refine x_iadd (pc := 78) C dX9_ring_78 ?_
    refine x_put (pc := 79) C inlX9 tyX9 tyX9_ok nmX9 0 rfl rfl 10 (by decide) q8_8 rfl .int (v := .int ((gI (fX1_forget (fX2_forget z_5)) 1) + 1)) (by decide +kernel) rfl rfl (Nat.le_of_ble_eq_true rfl) (swX_I1 G a _ _) dX9_ring_79 ?_
    refine x_aload_n (pc := 82) C 0 dX9_ring_82 rfl rfl ?_
    refine x_get (pc := 83) C inlX9 0 rfl rfl 1 (by decide) q1_21 (v := .ref (a 2)) rfl dX9_ring_83 ?_
    refine x_getN (pc := 86) C inlX8 2 rfl rfl 2 (by decide) nn5 (v := .int (gI (fX1_forget (fX2_forget z_5)) 3)) rfl dX9_ring_86 ?_
    obtain rfl := Option.some.inj h
    exact x_iret (pc := 89) C Zd dX9_ring_89
  · have h := kIp c_2 h
    refine x_bipush (pc := 10) C (-103) dX9_ring_10 (by decide) ?_
    obtain rfl := Option.some.inj h
    exact x_iret (pc := 12) C Zd dX9_ring_12
set_option maxRecDepth 100000 in
theorem mX9_ring (G : kG) (a : Nat → Nat) (st : kS)  {z : Int32 × kS} (h : fX9_ring st = some z) : kMet G yX9_ring cX9_ring 1 (some .int) rmfX9_ring (0, 0) [.ref (a 0)] (wX G a st) (some (.int z.1)) (wX G a z.2) := kMet.mk (by decide +kernel) (Nat.le_of_ble_eq_true rfl) (fun E C Zd => wX9_ring  C Zd  st  h)
theorem yvX8_has : kYV yX8_has RX8 cX8_has 2 (some .boolean) 1 := ⟨q12_8, q12_9, q1_13, q12_10, by decide +kernel⟩
abbrev rmfX8_has : Room := { frames := 0, cells := 0, slots := 0, locals := 0 }
def fX8_has (st : kS) (x1 : Int32) : Int32 := if x1 < 0 then (0) else (if (gI st 3) ≤ x1 then (0) else (1))
set_option maxRecDepth 100000 in
set_option maxHeartbeats 4000000 in
theorem wX8_has {G : kG} {E : kE} {a : Nat → Nat} {st0 : kS} (C : kOk G E cX8_has RX8 2 rmfX8_has) {z : Int32} (Zd : kEnd G E (0, 0) (some .boolean) (some (.int z)) (wX G a st0)) (x1 : Int32) (h : fX8_has st0 x1 = z) : kX G E (0, 0) (wX G a st0) 0 [(0, .ref (a 2)), (1, .int x1)] [] := by
  unfold fX8_has at h
  refine x_iload_n (pc := 0) C 1 dX8_has_0 rfl rfl ?_
  refine x_if_lt (pc := 1) C 16 dX8_has_1 (by decide) (fun c_1 => ?_) (fun c_1 => ?_)
  · have h := kIp c_1 h
    refine x_iconst (pc := 16) C 0 dX8_has_16 (by decide) ?_
    subst h
    exact x_zret (pc := 17) C rfl Zd dX8_has_17
  · have h := kIn c_1 h
    refine x_iload_n (pc := 4) C 1 dX8_has_4 rfl rfl ?_
    refine x_aload_n (pc := 5) C 0 dX8_has_5 rfl rfl ?_
    refine x_get (pc := 6) C inlX8 2 rfl rfl 2 (by decide) q8_23 (v := .int (gI st0 3)) rfl dX8_has_6 ?_
    refine x_icmp_ge (pc := 9) C 16 dX8_has_9 (by decide) (fun c_2 => ?_) (fun c_2 => ?_)
    · have h := kIp c_2 h
      refine x_iconst (pc := 16) C 0 dX8_has_16 (by decide) ?_
      subst h
      exact x_zret (pc := 17) C rfl Zd dX8_has_17
    · have h := kIn c_2 h
      refine x_iconst (pc := 12) C 1 dX8_has_12 (by decide) ?_
      refine x_goto (pc := 13) C 17 dX8_has_13 (by decide) ?_
      subst h
      exact x_zret (pc := 17) C rfl Zd dX8_has_17
set_option maxRecDepth 100000 in
theorem mX8_has (G : kG) (a : Nat → Nat) (st : kS) (x1 : Int32) : kMet G yX8_has cX8_has 2 (some .boolean) rmfX8_has (0, 0) [.ref (a 2), .int x1] (wX G a st) (some (.int (fX8_has st x1))) (wX G a st) := kMet.mk (by decide +kernel) (Nat.le_of_ble_eq_true rfl) (fun E C Zd => wX8_has  C Zd  x1 rfl)
theorem yvX8_kind : kYV yX8_kind RX8 cX8_kind 2 (some .int) 1 := ⟨q14_17, q14_18, q1_13, q14_19, by decide +kernel⟩
abbrev rmfX8_kind : Room := { frames := 1, cells := 0, slots := 0, locals := 21 }
def fX8_kind (st : kS) (x1 : Int32) : Int32 := (kg 6 (gA st 11) x1)
set_option maxRecDepth 100000 in
set_option maxHeartbeats 4000000 in
theorem wX8_kind {G : kG} {E : kE} {a : Nat → Nat} {st0 : kS} (C : kOk G E cX8_kind RX8 2 rmfX8_kind) {z : Int32} (Zd : kEnd G E (0, 0) (some .int) (some (.int z)) (wX G a st0)) (x1 : Int32) (h : fX8_kind st0 x1 = z) : kX G E (0, 0) (wX G a st0) 0 [(0, .ref (a 2)), (1, .int x1)] [] := by
  unfold fX8_kind at h
  refine x_aload_n (pc := 0) C 0 dX8_kind_0 rfl rfl ?_
  refine x_get (pc := 1) C inlX8 2 rfl rfl 0 (by decide) q2_23 (v := .ref (a 11)) rfl dX8_kind_1 ?_
  refine x_iload_n (pc := 4) C 1 dX8_kind_4 rfl rfl ?_
  refine x_callS (pc := 5) C [.ref (a 11), .int x1] (mX0_get G (N := 6) (f := (gA st0 11)) 11 (lwX_A11 G a rfl) (by decide) x1) ysX0_get q9_14 ⟨Nat.le_of_ble_eq_true rfl, Nat.le_of_ble_eq_true rfl, rfl, rfl⟩ ⟨Nat.zero_le _, Nat.zero_le _⟩ rfl rfl (Nat.le_of_ble_eq_true rfl) rfl dX8_kind_5 ?_
  subst h
  exact x_iret (pc := 8) C Zd dX8_kind_8
set_option maxRecDepth 100000 in
theorem mX8_kind (G : kG) (a : Nat → Nat) (st : kS) (x1 : Int32) : kMet G yX8_kind cX8_kind 2 (some .int) rmfX8_kind (0, 0) [.ref (a 2), .int x1] (wX G a st) (some (.int (fX8_kind st x1))) (wX G a st) := kMet.mk (by decide +kernel) (Nat.le_of_ble_eq_true rfl) (fun E C Zd => wX8_kind  C Zd  x1 rfl)
theorem ysX3_placeIn : kYS yX3_placeIn cX3_placeIn 4 (some .int) 3 := ⟨q15_1, q2_1, q15_2, by decide +kernel⟩
abbrev rmfX3_placeIn : Room := { frames := 1, cells := 0, slots := 0, locals := 21 }
def fX3_placeIn_L2_B (K : Int32 → Option (Int32)) (Gc : Int32 → Option (Int32)) (N0 : Nat) (f0 : Nat → Int32) (v1 : Int32) (v2 : Int32) (v3 : Int32) : Option (Int32) := if v2 ≤ v3 then (K v3) else (if (kg N0 f0 v3) = v1 then (some v3) else (Gc (v3 + 1)))
set_option maxRecDepth 100000 in
set_option maxHeartbeats 4000000 in
theorem wX3_placeIn_L2_B {G : kG} {E : kE} {ws : va_W} {q0 a0 N0 : Nat} {f0 : Nat → Int32} (hN0 : N0 < 2 ^ 31) (C : kOk G E cX3_placeIn RX3 4 rmfX3_placeIn) {z : Int32} (Zd : kEnd G E (0, 0) (some .int) (some (.int z)) ws) (hq0 : ws[q0]? = some (a0, .inl (G.2.1, N0, .inl f0))) {K Gc : Int32 → Option (Int32)} (v1 : Int32) (v2 : Int32) (v3 : Int32) (hK : ∀ (u3 : Int32), K u3 = some z → kX G E (0, 0) ws 24 [] []) (hG : ∀ (u3 : Int32), Gc u3 = some z → kX G E (0, 0) ws 2 [(0, .ref a0), (1, .int v1), (2, .int v2), (3, .int u3)] []) (h : fX3_placeIn_L2_B K Gc N0 f0 v1 v2 v3 = some z) : kX G E (0, 0) ws 2 [(0, .ref a0), (1, .int v1), (2, .int v2), (3, .int v3)] [] := by
  unfold fX3_placeIn_L2_B at h
  refine x_iload_n (pc := 2) C 3 dX3_placeIn_2 rfl rfl ?_
  refine x_iload_n (pc := 3) C 2 dX3_placeIn_3 rfl rfl ?_
  refine x_icmp_ge (pc := 4) C 24 dX3_placeIn_4 (by decide) (fun c_1 => ?_) (fun c_1 => ?_)
  · have h := kIp c_1 h
    refine kX.pick [] (lv' := []) rfl ?_
    exact hK v3 h
  · have h := kIn c_1 h
    refine x_aload_n (pc := 7) C 0 dX3_placeIn_7 rfl rfl ?_
    refine x_iload_n (pc := 8) C 3 dX3_placeIn_8 rfl rfl ?_
    refine x_callS (pc := 9) C [.ref a0, .int v3] (mX0_get G (N := N0) (f := f0) q0 hq0 hN0 v3) ysX0_get q13_19 ⟨Nat.le_of_ble_eq_true rfl, Nat.le_of_ble_eq_true rfl, rfl, rfl⟩ ⟨Nat.zero_le _, Nat.zero_le _⟩ rfl rfl (Nat.le_of_ble_eq_true rfl) rfl dX3_placeIn_9 ?_
    refine x_iload_n (pc := 12) C 1 dX3_placeIn_12 rfl rfl ?_
    refine x_icmp_ne (pc := 13) C 18 dX3_placeIn_13 (by decide) (fun c_2 => ?_) (fun c_2 => ?_)
    · have h := kIn c_2 h
      refine x_iinc (pc := 18) C 3 (v := v3 + 1) (lv' := [(3, .int (v3 + 1)), (0, .ref a0), (1, .int v1), (2, .int v2)]) dX3_placeIn_18 rfl rfl (by decide) rfl ?_
      refine x_goto (pc := 21) C 2 dX3_placeIn_21 (by decide) ?_
      refine kX.pick [1, 2, 3, 0] (lv' := [(0, .ref a0), (1, .int v1), (2, .int v2), (3, .int (v3 + 1))]) rfl ?_
      exact hG (v3 + 1) h
    · have h := kIp c_2 h
      refine x_iload_n (pc := 16) C 3 dX3_placeIn_16 rfl rfl ?_
      obtain rfl := Option.some.inj h
      exact x_iret (pc := 17) C Zd dX3_placeIn_17
def fX3_placeIn_L2 (K : Int32 → Option (Int32)) (N0 : Nat) (f0 : Nat → Int32) (v1 : Int32) (v2 : Int32) : Nat → Int32 → Option (Int32)
  | 0, _ => none
  | F + 1, v3 => fX3_placeIn_L2_B K (fX3_placeIn_L2 K N0 f0 v1 v2 F) N0 f0 v1 v2 v3
set_option maxRecDepth 100000 in
set_option maxHeartbeats 4000000 in
theorem wX3_placeIn_L2 {G : kG} {E : kE} {ws : va_W} {q0 a0 N0 : Nat} {f0 : Nat → Int32} (hN0 : N0 < 2 ^ 31) (C : kOk G E cX3_placeIn RX3 4 rmfX3_placeIn) {z : Int32} (Zd : kEnd G E (0, 0) (some .int) (some (.int z)) ws) (hq0 : ws[q0]? = some (a0, .inl (G.2.1, N0, .inl f0))) {K : Int32 → Option (Int32)} (v1 : Int32) (v2 : Int32) (hK : ∀ (u3 : Int32), K u3 = some z → kX G E (0, 0) ws 24 [] []) : ∀ (F : Nat) (v3 : Int32), fX3_placeIn_L2 K N0 f0 v1 v2 F v3 = some z → kX G E (0, 0) ws 2 [(0, .ref a0), (1, .int v1), (2, .int v2), (3, .int v3)] [] := by
  intro F
  induction F with
  | zero =>
    intro v3 h
    exact absurd (show none = some z from h) (fun q => by cases q)
  | succ F ih =>
    intro v3 h
    exact wX3_placeIn_L2_B hN0 C Zd hq0 v1 v2 v3 hK (fun v3 h => ih v3 h) h
def fX3_placeIn (N0 : Nat) (f0 : Nat → Int32) (x1 : Int32) (x2 : Int32) : Option (Int32) := fX3_placeIn_L2 (fun v3_3 => some (-1)) N0 f0 x1 x2 kFU 0
set_option maxRecDepth 100000 in
set_option maxHeartbeats 4000000 in
theorem wX3_placeIn {G : kG} {E : kE} {ws : va_W} {q0 a0 N0 : Nat} {f0 : Nat → Int32} (hN0 : N0 < 2 ^ 31) (C : kOk G E cX3_placeIn RX3 4 rmfX3_placeIn) {z : Int32} (Zd : kEnd G E (0, 0) (some .int) (some (.int z)) ws) (hq0 : ws[q0]? = some (a0, .inl (G.2.1, N0, .inl f0))) (x1 : Int32) (x2 : Int32) (h : fX3_placeIn N0 f0 x1 x2 = some z) : kX G E (0, 0) ws 0 [(0, .ref a0), (1, .int x1), (2, .int x2)] [] := by
  unfold fX3_placeIn at h
  refine x_iconst (pc := 0) C 0 dX3_placeIn_0 (by decide) ?_
  refine x_istore_n (pc := 1) C (lv' := [(3, .int 0), (0, .ref a0), (1, .int x1), (2, .int x2)]) dX3_placeIn_1 rfl (by decide) rfl ?_
  refine kX.pick [1, 2, 3, 0] (lv' := [(0, .ref a0), (1, .int x1), (2, .int x2), (3, .int 0)]) rfl ?_
  refine wX3_placeIn_L2 hN0 C Zd hq0 x1 x2 (fun v3_3 h => ?_) kFU 0 h
  refine x_iconst (pc := 24) C (-1) dX3_placeIn_24 (by decide) ?_
  obtain rfl := Option.some.inj h
  exact x_iret (pc := 25) C Zd dX3_placeIn_25
set_option maxRecDepth 100000 in
theorem mX3_placeIn (G : kG) {ws : va_W} {a0 : Nat} {N : Nat} {f : Nat → Int32} (q0 : Nat) (hq0 : ws[q0]? = some (a0, .inl (G.2.1, N, .inl f))) (hN0 : N < 2 ^ 31) (x1 : Int32) (x2 : Int32) {z : Int32} (h : fX3_placeIn N f x1 x2 = some z) : kMet G yX3_placeIn cX3_placeIn 4 (some .int) rmfX3_placeIn (0, 0) [.ref a0, .int x1, .int x2] ws (some (.int z)) ws := kMet.mk (by decide +kernel) (Nat.le_of_ble_eq_true rfl) (fun E C Zd => wX3_placeIn hN0 C Zd hq0 x1 x2 h)
theorem yvX3_placeOf : kYV yX3_placeOf RX3 cX3_placeOf 3 (some .int) 2 := ⟨q14_21, q14_22, q2_1, q14_23, by decide +kernel⟩
abbrev rmfX3_placeOf_3 : Room := { frames := 2, cells := 0, slots := 0, locals := 44 }
def fX3_placeOf_3 (st : kS) (x1 : Int32) (x2 : Int32) : Option (Int32) := (fX3_placeIn 6 (gA st 13) x1 x2).bind (fun z_1 => some z_1)
set_option maxRecDepth 100000 in
set_option maxHeartbeats 4000000 in
theorem wX3_placeOf_3 {G : kG} {E : kE} {a : Nat → Nat} {st0 : kS} (C : kOk G E cX3_placeOf RX3 3 rmfX3_placeOf_3) {z : Int32} (Zd : kEnd G E (0, 0) (some .int) (some (.int z)) (wX G a st0)) (x1 : Int32) (x2 : Int32) (h : fX3_placeOf_3 st0 x1 x2 = some z) : kX G E (0, 0) (wX G a st0) 0 [(0, .ref (a 3)), (1, .int x1), (2, .int x2)] [] := by
  unfold fX3_placeOf_3 at h
  refine x_aload_n (pc := 0) C 0 dX3_placeOf_0 rfl rfl ?_
  refine x_get (pc := 1) C inlX3 3 rfl rfl 0 (by decide) q3_13 (v := .ref (a 13)) rfl dX3_placeOf_1 ?_
  refine x_iload_n (pc := 4) C 1 dX3_placeOf_4 rfl rfl ?_
  refine x_iload_n (pc := 5) C 2 dX3_placeOf_5 rfl rfl ?_
  obtain ⟨z_1, hz_1, h⟩ := kB h
  refine x_callS (pc := 6) C [.ref (a 13), .int x1, .int x2] (mX3_placeIn G (N := 6) (f := (gA st0 13)) 13 (lwX_A13 G a rfl) (by decide) x1 x2 hz_1) ysX3_placeIn q15_0 ⟨Nat.le_of_ble_eq_true rfl, Nat.le_of_ble_eq_true rfl, rfl, rfl⟩ ⟨Nat.zero_le _, Nat.zero_le _⟩ rfl rfl (Nat.le_of_ble_eq_true rfl) rfl dX3_placeOf_6 ?_
  obtain rfl := Option.some.inj h
  exact x_iret (pc := 9) C Zd dX3_placeOf_9
set_option maxRecDepth 100000 in
theorem mX3_placeOf_3 (G : kG) (a : Nat → Nat) (st : kS) (x1 : Int32) (x2 : Int32) {z : Int32} (h : fX3_placeOf_3 st x1 x2 = some z) : kMet G yX3_placeOf cX3_placeOf 3 (some .int) rmfX3_placeOf_3 (0, 0) [.ref (a 3), .int x1, .int x2] (wX G a st) (some (.int z)) (wX G a st) := kMet.mk (by decide +kernel) (Nat.le_of_ble_eq_true rfl) (fun E C Zd => wX3_placeOf_3  C Zd  x1 x2 h)
theorem yvX3_placeAhead : kYV yX3_placeAhead RX3 cX3_placeAhead 3 (some .int) 2 := ⟨q15_4, q15_5, q2_1, q15_6, by decide +kernel⟩
abbrev rmfX3_placeAhead_3 : Room := { frames := 2, cells := 0, slots := 0, locals := 44 }
def fX3_placeAhead_3 (st : kS) (x1 : Int32) (x2 : Int32) : Option (Int32) := (fX3_placeIn 6 (gA st 14) x1 x2).bind (fun z_1 => some z_1)
set_option maxRecDepth 100000 in
set_option maxHeartbeats 4000000 in
theorem wX3_placeAhead_3 {G : kG} {E : kE} {a : Nat → Nat} {st0 : kS} (C : kOk G E cX3_placeAhead RX3 3 rmfX3_placeAhead_3) {z : Int32} (Zd : kEnd G E (0, 0) (some .int) (some (.int z)) (wX G a st0)) (x1 : Int32) (x2 : Int32) (h : fX3_placeAhead_3 st0 x1 x2 = some z) : kX G E (0, 0) (wX G a st0) 0 [(0, .ref (a 3)), (1, .int x1), (2, .int x2)] [] := by
  unfold fX3_placeAhead_3 at h
  refine x_aload_n (pc := 0) C 0 dX3_placeAhead_0 rfl rfl ?_
  refine x_get (pc := 1) C inlX3 3 rfl rfl 1 (by decide) q3_14 (v := .ref (a 14)) rfl dX3_placeAhead_1 ?_
  refine x_iload_n (pc := 4) C 1 dX3_placeAhead_4 rfl rfl ?_
  refine x_iload_n (pc := 5) C 2 dX3_placeAhead_5 rfl rfl ?_
  obtain ⟨z_1, hz_1, h⟩ := kB h
  refine x_callS (pc := 6) C [.ref (a 14), .int x1, .int x2] (mX3_placeIn G (N := 6) (f := (gA st0 14)) 14 (lwX_A14 G a rfl) (by decide) x1 x2 hz_1) ysX3_placeIn q15_0 ⟨Nat.le_of_ble_eq_true rfl, Nat.le_of_ble_eq_true rfl, rfl, rfl⟩ ⟨Nat.zero_le _, Nat.zero_le _⟩ rfl rfl (Nat.le_of_ble_eq_true rfl) rfl dX3_placeAhead_6 ?_
  obtain rfl := Option.some.inj h
  exact x_iret (pc := 9) C Zd dX3_placeAhead_9
set_option maxRecDepth 100000 in
theorem mX3_placeAhead_3 (G : kG) (a : Nat → Nat) (st : kS) (x1 : Int32) (x2 : Int32) {z : Int32} (h : fX3_placeAhead_3 st x1 x2 = some z) : kMet G yX3_placeAhead cX3_placeAhead 3 (some .int) rmfX3_placeAhead_3 (0, 0) [.ref (a 3), .int x1, .int x2] (wX G a st) (some (.int z)) (wX G a st) := kMet.mk (by decide +kernel) (Nat.le_of_ble_eq_true rfl) (fun E C Zd => wX3_placeAhead_3  C Zd  x1 x2 h)
theorem yvX1_placeOf : kYV yX1_placeOf RX1 cX1_placeOf 2 (some .int) 1 := ⟨q15_8, q15_9, q2_10, q15_10, by decide +kernel⟩
abbrev rmfX1_placeOf : Room := { frames := 2, cells := 0, slots := 0, locals := 44 }
def fX1_placeOf (st : kS) (x1 : Int32) : Option (Int32) := if (gI st 13) = 0 then (some (-1)) else ((fX3_placeIn 6 (gA st 21) x1 (gI st 3)).bind (fun z_2 => some z_2))
set_option maxRecDepth 100000 in
set_option maxHeartbeats 4000000 in
theorem wX1_placeOf {G : kG} {E : kE} {a : Nat → Nat} {st0 : kS} (C : kOk G E cX1_placeOf RX1 2 rmfX1_placeOf) {z : Int32} (Zd : kEnd G E (0, 0) (some .int) (some (.int z)) (wX G a st0)) (x1 : Int32) (h : fX1_placeOf st0 x1 = some z) : kX G E (0, 0) (wX G a st0) 0 [(0, .ref (a 7)), (1, .int x1)] [] := by
  unfold fX1_placeOf at h
  refine x_aload_n (pc := 0) C 0 dX1_placeOf_0 rfl rfl ?_
  refine x_get (pc := 1) C inlX1 7 rfl rfl 6 (by decide) q11_23 (v := .int (gI st0 13)) rfl dX1_placeOf_1 ?_
  refine x_if_eq (pc := 4) C 25 dX1_placeOf_4 (by decide) (fun c_1 => ?_) (fun c_1 => ?_)
  · have h := kIp c_1 h
    refine x_iconst (pc := 25) C (-1) dX1_placeOf_25 (by decide) ?_
    obtain rfl := Option.some.inj h
    exact x_iret (pc := 26) C Zd dX1_placeOf_26
  · have h := kIn c_1 h
    refine x_aload_n (pc := 7) C 0 dX1_placeOf_7 rfl rfl ?_
    refine x_get (pc := 8) C inlX1 7 rfl rfl 2 (by decide) q4_4 (v := .ref (a 21)) rfl dX1_placeOf_8 ?_
    refine x_iload_n (pc := 11) C 1 dX1_placeOf_11 rfl rfl ?_
    refine x_aload_n (pc := 12) C 0 dX1_placeOf_12 rfl rfl ?_
    refine x_get (pc := 13) C inlX1 7 rfl rfl 0 (by decide) q4_8 (v := .ref (a 2)) rfl dX1_placeOf_13 ?_
    refine x_getN (pc := 16) C inlX8 2 rfl rfl 2 (by decide) nn3 (v := .int (gI st0 3)) rfl dX1_placeOf_16 ?_
    obtain ⟨z_2, hz_2, h⟩ := kB h
    refine x_callS (pc := 19) C [.ref (a 21), .int x1, .int (gI st0 3)] (mX3_placeIn G (N := 6) (f := (gA st0 21)) 21 (lwX_A21 G a rfl) (by decide) x1 (gI st0 3) hz_2) ysX3_placeIn q15_11 ⟨Nat.le_of_ble_eq_true rfl, Nat.le_of_ble_eq_true rfl, rfl, rfl⟩ ⟨Nat.zero_le _, Nat.zero_le _⟩ rfl rfl (Nat.le_of_ble_eq_true rfl) rfl dX1_placeOf_19 ?_
    refine x_goto (pc := 22) C 26 dX1_placeOf_22 (by decide) ?_
    obtain rfl := Option.some.inj h
    exact x_iret (pc := 26) C Zd dX1_placeOf_26
set_option maxRecDepth 100000 in
theorem mX1_placeOf (G : kG) (a : Nat → Nat) (st : kS) (x1 : Int32) {z : Int32} (h : fX1_placeOf st x1 = some z) : kMet G yX1_placeOf cX1_placeOf 2 (some .int) rmfX1_placeOf (0, 0) [.ref (a 7), .int x1] (wX G a st) (some (.int z)) (wX G a st) := kMet.mk (by decide +kernel) (Nat.le_of_ble_eq_true rfl) (fun E C Zd => wX1_placeOf  C Zd  x1 h)
theorem yvX9_house : kYV yX9_house RX9 cX9_house 3 (some .int) 2 := ⟨q14_13, q14_14, q1_2, q14_15, by decide +kernel⟩
abbrev rmfX9_house : Room := { frames := 3, cells := 0, slots := 0, locals := 66 }
def fX9_house (st : kS) (x1 : Int32) (x2 : Int32) : Option (Int32) := if (fX8_has st x1) = 0 then (some (-101)) else (if x2 = 0 then (some (fX8_kind st x1)) else (if x2 = 1 then ((fX3_placeOf_3 st x1 (gI st 3)).bind (fun z_4 => some z_4)) else (if x2 = 2 then ((fX3_placeAhead_3 st x1 (gI st 3)).bind (fun z_6 => some z_6)) else (if x2 = 3 then ((fX1_placeOf st x1).bind (fun z_8 => some z_8)) else (some (-102))))))
set_option maxRecDepth 100000 in
set_option maxHeartbeats 4000000 in
theorem wX9_house {G : kG} {E : kE} {a : Nat → Nat} {st0 : kS} (C : kOk G E cX9_house RX9 3 rmfX9_house) {z : Int32} (Zd : kEnd G E (0, 0) (some .int) (some (.int z)) (wX G a st0)) (x1 : Int32) (x2 : Int32) (h : fX9_house st0 x1 x2 = some z) : kX G E (0, 0) (wX G a st0) 0 [(0, .ref (a 0)), (1, .int x1), (2, .int x2)] [] := by
  unfold fX9_house at h
  refine x_aload_n (pc := 0) C 0 dX9_house_0 rfl rfl ?_
  refine x_get (pc := 1) C inlX9 0 rfl rfl 1 (by decide) q1_21 (v := .ref (a 2)) rfl dX9_house_1 ?_
  refine x_iload_n (pc := 4) C 1 dX9_house_4 rfl rfl ?_
  refine x_callV (pc := 5) C 2 [.int x1] rfl rfl (mX8_has G a st0 x1) yvX8_has q12_7 ⟨Nat.le_of_ble_eq_true rfl, Nat.le_of_ble_eq_true rfl, rfl, rfl⟩ ⟨Nat.zero_le _, Nat.zero_le _⟩ rfl rfl (Nat.le_of_ble_eq_true rfl) rfl dX9_house_5 ?_
  refine x_if_ne (pc := 8) C 14 dX9_house_8 (by decide) (fun c_1 => ?_) (fun c_1 => ?_)
  · have h := kIn c_1 h
    refine x_iload_n (pc := 14) C 2 dX9_house_14 rfl rfl ?_
    rcases Decidable.em (x2 = 0) with c_2 | c_2
    · have h := kIp c_2 h
      refine x_tsIn (pc := 15) C 44 dX9_house_15 (by rw [c_2]; decide) (by rw [c_2]; decide) (by rw [c_2]; rfl) (by decide) ?_
      refine x_aload_n (pc := 44) C 0 dX9_house_44 rfl rfl ?_
      refine x_get (pc := 45) C inlX9 0 rfl rfl 1 (by decide) q1_21 (v := .ref (a 2)) rfl dX9_house_45 ?_
      refine x_iload_n (pc := 48) C 1 dX9_house_48 rfl rfl ?_
      refine x_callV (pc := 49) C 2 [.int x1] rfl rfl (mX8_kind G a st0 x1) yvX8_kind q14_16 ⟨Nat.le_of_ble_eq_true rfl, Nat.le_of_ble_eq_true rfl, rfl, rfl⟩ ⟨Nat.zero_le _, Nat.zero_le _⟩ rfl rfl (Nat.le_of_ble_eq_true rfl) rfl dX9_house_49 ?_
      obtain rfl := Option.some.inj h
      exact x_iret (pc := 52) C Zd dX9_house_52
    have h := kIn c_2 h
    rcases Decidable.em (x2 = 1) with c_3 | c_3
    · have h := kIp c_3 h
      refine x_tsIn (pc := 15) C 53 dX9_house_15 (by rw [c_3]; decide) (by rw [c_3]; decide) (by rw [c_3]; rfl) (by decide) ?_
      refine x_aload_n (pc := 53) C 0 dX9_house_53 rfl rfl ?_
      refine x_get (pc := 54) C inlX9 0 rfl rfl 2 (by decide) q2_2 (v := .ref (a 3)) rfl dX9_house_54 ?_
      refine x_iload_n (pc := 57) C 1 dX9_house_57 rfl rfl ?_
      refine x_aload_n (pc := 58) C 0 dX9_house_58 rfl rfl ?_
      refine x_get (pc := 59) C inlX9 0 rfl rfl 1 (by decide) q1_21 (v := .ref (a 2)) rfl dX9_house_59 ?_
      refine x_getN (pc := 62) C inlX8 2 rfl rfl 2 (by decide) nn5 (v := .int (gI st0 3)) rfl dX9_house_62 ?_
      obtain ⟨z_4, hz_4, h⟩ := kB h
      refine x_callV (pc := 65) C 3 [.int x1, .int (gI st0 3)] rfl rfl (mX3_placeOf_3 G a st0 x1 (gI st0 3) hz_4) yvX3_placeOf q14_20 ⟨Nat.le_of_ble_eq_true rfl, Nat.le_of_ble_eq_true rfl, rfl, rfl⟩ ⟨Nat.zero_le _, Nat.zero_le _⟩ rfl rfl (Nat.le_of_ble_eq_true rfl) rfl dX9_house_65 ?_
      obtain rfl := Option.some.inj h
      exact x_iret (pc := 68) C Zd dX9_house_68
    have h := kIn c_3 h
    rcases Decidable.em (x2 = 2) with c_5 | c_5
    · have h := kIp c_5 h
      refine x_tsIn (pc := 15) C 69 dX9_house_15 (by rw [c_5]; decide) (by rw [c_5]; decide) (by rw [c_5]; rfl) (by decide) ?_
      refine x_aload_n (pc := 69) C 0 dX9_house_69 rfl rfl ?_
      refine x_get (pc := 70) C inlX9 0 rfl rfl 2 (by decide) q2_2 (v := .ref (a 3)) rfl dX9_house_70 ?_
      refine x_iload_n (pc := 73) C 1 dX9_house_73 rfl rfl ?_
      refine x_aload_n (pc := 74) C 0 dX9_house_74 rfl rfl ?_
      refine x_get (pc := 75) C inlX9 0 rfl rfl 1 (by decide) q1_21 (v := .ref (a 2)) rfl dX9_house_75 ?_
      refine x_getN (pc := 78) C inlX8 2 rfl rfl 2 (by decide) nn5 (v := .int (gI st0 3)) rfl dX9_house_78 ?_
      obtain ⟨z_6, hz_6, h⟩ := kB h
      refine x_callV (pc := 81) C 3 [.int x1, .int (gI st0 3)] rfl rfl (mX3_placeAhead_3 G a st0 x1 (gI st0 3) hz_6) yvX3_placeAhead q15_3 ⟨Nat.le_of_ble_eq_true rfl, Nat.le_of_ble_eq_true rfl, rfl, rfl⟩ ⟨Nat.zero_le _, Nat.zero_le _⟩ rfl rfl (Nat.le_of_ble_eq_true rfl) rfl dX9_house_81 ?_
      obtain rfl := Option.some.inj h
      exact x_iret (pc := 84) C Zd dX9_house_84
    have h := kIn c_5 h
    rcases Decidable.em (x2 = 3) with c_7 | c_7
    · have h := kIp c_7 h
      refine x_tsIn (pc := 15) C 85 dX9_house_15 (by rw [c_7]; decide) (by rw [c_7]; decide) (by rw [c_7]; rfl) (by decide) ?_
      refine x_aload_n (pc := 85) C 0 dX9_house_85 rfl rfl ?_
      refine x_get (pc := 86) C inlX9 0 rfl rfl 6 (by decide) q2_11 (v := .ref (a 7)) rfl dX9_house_86 ?_
      refine x_iload_n (pc := 89) C 1 dX9_house_89 rfl rfl ?_
      obtain ⟨z_8, hz_8, h⟩ := kB h
      refine x_callV (pc := 90) C 7 [.int x1] rfl rfl (mX1_placeOf G a st0 x1 hz_8) yvX1_placeOf q15_7 ⟨Nat.le_of_ble_eq_true rfl, Nat.le_of_ble_eq_true rfl, rfl, rfl⟩ ⟨Nat.zero_le _, Nat.zero_le _⟩ rfl rfl (Nat.le_of_ble_eq_true rfl) rfl dX9_house_90 ?_
      obtain rfl := Option.some.inj h
      exact x_iret (pc := 93) C Zd dX9_house_93
    have h := kIn c_7 h
    refine x_tsOut (pc := 15) C 94 dX9_house_15 (k_out (fun i hi1 hi2 => by
        have hq : i = 0 ∨ i = 1 ∨ i = 2 ∨ i = 3 := by omega
        rcases hq with rfl | rfl | rfl | rfl
        · exact lv_neT c_2 rfl
        · exact lv_neT c_3 rfl
        · exact lv_neT c_5 rfl
        · exact lv_neT c_7 rfl)) (by decide) ?_
    refine x_bipush (pc := 94) C (-102) dX9_house_94 (by decide) ?_
    obtain rfl := Option.some.inj h
    exact x_iret (pc := 96) C Zd dX9_house_96
  · have h := kIp c_1 h
    refine x_bipush (pc := 11) C (-101) dX9_house_11 (by decide) ?_
    obtain rfl := Option.some.inj h
    exact x_iret (pc := 13) C Zd dX9_house_13
set_option maxRecDepth 100000 in
theorem mX9_house (G : kG) (a : Nat → Nat) (st : kS) (x1 : Int32) (x2 : Int32) {z : Int32} (h : fX9_house st x1 x2 = some z) : kMet G yX9_house cX9_house 3 (some .int) rmfX9_house (0, 0) [.ref (a 0), .int x1, .int x2] (wX G a st) (some (.int z)) (wX G a st) := kMet.mk (by decide +kernel) (Nat.le_of_ble_eq_true rfl) (fun E C Zd => wX9_house  C Zd  x1 x2 h)
theorem yvX9_as : kYV yX9_as RX9 cX9_as 3 (some .int) 2 := ⟨q12_13, q12_14, q1_2, q12_15, by decide +kernel⟩
abbrev rmfX9_as : Room := { frames := 2, cells := 0, slots := 0, locals := 44 }
def fX9_as (st : kS) (x1 : Int32) (x2 : Int32) : Int32 := if (fX8_has st x1) = 0 then ((-101)) else (if x2 < 0 then ((-102)) else (if x2 ≤ 3 then (if (fX8_is st x1 x2) = 0 then ((-1)) else (x1)) else ((-102))))
set_option maxRecDepth 100000 in
set_option maxHeartbeats 4000000 in
theorem wX9_as {G : kG} {E : kE} {a : Nat → Nat} {st0 : kS} (C : kOk G E cX9_as RX9 3 rmfX9_as) {z : Int32} (Zd : kEnd G E (0, 0) (some .int) (some (.int z)) (wX G a st0)) (x1 : Int32) (x2 : Int32) (h : fX9_as st0 x1 x2 = z) : kX G E (0, 0) (wX G a st0) 0 [(0, .ref (a 0)), (1, .int x1), (2, .int x2)] [] := by
  unfold fX9_as at h
  refine x_aload_n (pc := 0) C 0 dX9_as_0 rfl rfl ?_
  refine x_get (pc := 1) C inlX9 0 rfl rfl 1 (by decide) q1_21 (v := .ref (a 2)) rfl dX9_as_1 ?_
  refine x_iload_n (pc := 4) C 1 dX9_as_4 rfl rfl ?_
  refine x_callV (pc := 5) C 2 [.int x1] rfl rfl (mX8_has G a st0 x1) yvX8_has q12_7 ⟨Nat.le_of_ble_eq_true rfl, Nat.le_of_ble_eq_true rfl, rfl, rfl⟩ ⟨Nat.zero_le _, Nat.zero_le _⟩ rfl rfl (Nat.le_of_ble_eq_true rfl) rfl dX9_as_5 ?_
  refine x_if_ne (pc := 8) C 14 dX9_as_8 (by decide) (fun c_1 => ?_) (fun c_1 => ?_)
  · have h := kIn c_1 h
    refine x_iload_n (pc := 14) C 2 dX9_as_14 rfl rfl ?_
    refine x_if_lt (pc := 15) C 23 dX9_as_15 (by decide) (fun c_2 => ?_) (fun c_2 => ?_)
    · have h := kIp c_2 h
      refine x_bipush (pc := 23) C (-102) dX9_as_23 (by decide) ?_
      subst h
      exact x_iret (pc := 25) C Zd dX9_as_25
    · have h := kIn c_2 h
      refine x_iload_n (pc := 18) C 2 dX9_as_18 rfl rfl ?_
      refine x_iconst (pc := 19) C 3 dX9_as_19 (by decide) ?_
      refine x_icmp_le (pc := 20) C 26 dX9_as_20 (by decide) (fun c_3 => ?_) (fun c_3 => ?_)
      · have h := kIp c_3 h
        refine x_aload_n (pc := 26) C 0 dX9_as_26 rfl rfl ?_
        refine x_get (pc := 27) C inlX9 0 rfl rfl 1 (by decide) q1_21 (v := .ref (a 2)) rfl dX9_as_27 ?_
        refine x_iload_n (pc := 30) C 1 dX9_as_30 rfl rfl ?_
        refine x_iload_n (pc := 31) C 2 dX9_as_31 rfl rfl ?_
        refine x_callV (pc := 32) C 2 [.int x1, .int x2] rfl rfl (mX8_is G a st0 x1 x2) yvX8_is q12_16 ⟨Nat.le_of_ble_eq_true rfl, Nat.le_of_ble_eq_true rfl, rfl, rfl⟩ ⟨Nat.zero_le _, Nat.zero_le _⟩ rfl rfl (Nat.le_of_ble_eq_true rfl) rfl dX9_as_32 ?_
        refine x_if_eq (pc := 35) C 42 dX9_as_35 (by decide) (fun c_4 => ?_) (fun c_4 => ?_)
        · have h := kIp c_4 h
          refine x_iconst (pc := 42) C (-1) dX9_as_42 (by decide) ?_
          subst h
          exact x_iret (pc := 43) C Zd dX9_as_43
        · have h := kIn c_4 h
          refine x_iload_n (pc := 38) C 1 dX9_as_38 rfl rfl ?_
          refine x_goto (pc := 39) C 43 dX9_as_39 (by decide) ?_
          subst h
          exact x_iret (pc := 43) C Zd dX9_as_43
      · have h := kIn c_3 h
        refine x_bipush (pc := 23) C (-102) dX9_as_23 (by decide) ?_
        subst h
        exact x_iret (pc := 25) C Zd dX9_as_25
  · have h := kIp c_1 h
    refine x_bipush (pc := 11) C (-101) dX9_as_11 (by decide) ?_
    subst h
    exact x_iret (pc := 13) C Zd dX9_as_13
set_option maxRecDepth 100000 in
theorem mX9_as (G : kG) (a : Nat → Nat) (st : kS) (x1 : Int32) (x2 : Int32) : kMet G yX9_as cX9_as 3 (some .int) rmfX9_as (0, 0) [.ref (a 0), .int x1, .int x2] (wX G a st) (some (.int (fX9_as st x1 x2))) (wX G a st) := kMet.mk (by decide +kernel) (Nat.le_of_ble_eq_true rfl) (fun E C Zd => wX9_as  C Zd  x1 x2 rfl)
theorem yvX3_houseIn : kYV yX3_houseIn RX3 cX3_houseIn 2 (some .int) 1 := ⟨q14_6, q14_7, q2_1, q14_8, by decide +kernel⟩
abbrev rmfX3_houseIn_3 : Room := { frames := 1, cells := 0, slots := 0, locals := 21 }
def fX3_houseIn_3 (st : kS) (x1 : Int32) : Int32 := (kg 6 (gA st 13) x1)
set_option maxRecDepth 100000 in
set_option maxHeartbeats 4000000 in
theorem wX3_houseIn_3 {G : kG} {E : kE} {a : Nat → Nat} {st0 : kS} (C : kOk G E cX3_houseIn RX3 2 rmfX3_houseIn_3) {z : Int32} (Zd : kEnd G E (0, 0) (some .int) (some (.int z)) (wX G a st0)) (x1 : Int32) (h : fX3_houseIn_3 st0 x1 = z) : kX G E (0, 0) (wX G a st0) 0 [(0, .ref (a 3)), (1, .int x1)] [] := by
  unfold fX3_houseIn_3 at h
  refine x_aload_n (pc := 0) C 0 dX3_houseIn_0 rfl rfl ?_
  refine x_get (pc := 1) C inlX3 3 rfl rfl 0 (by decide) q3_13 (v := .ref (a 13)) rfl dX3_houseIn_1 ?_
  refine x_iload_n (pc := 4) C 1 dX3_houseIn_4 rfl rfl ?_
  refine x_callS (pc := 5) C [.ref (a 13), .int x1] (mX0_get G (N := 6) (f := (gA st0 13)) 13 (lwX_A13 G a rfl) (by decide) x1) ysX0_get q13_19 ⟨Nat.le_of_ble_eq_true rfl, Nat.le_of_ble_eq_true rfl, rfl, rfl⟩ ⟨Nat.zero_le _, Nat.zero_le _⟩ rfl rfl (Nat.le_of_ble_eq_true rfl) rfl dX3_houseIn_5 ?_
  subst h
  exact x_iret (pc := 8) C Zd dX3_houseIn_8
set_option maxRecDepth 100000 in
theorem mX3_houseIn_3 (G : kG) (a : Nat → Nat) (st : kS) (x1 : Int32) : kMet G yX3_houseIn cX3_houseIn 2 (some .int) rmfX3_houseIn_3 (0, 0) [.ref (a 3), .int x1] (wX G a st) (some (.int (fX3_houseIn_3 st x1))) (wX G a st) := kMet.mk (by decide +kernel) (Nat.le_of_ble_eq_true rfl) (fun E C Zd => wX3_houseIn_3  C Zd  x1 rfl)
theorem yvX9_at : kYV yX9_at RX9 cX9_at 2 (some .int) 1 := ⟨q15_13, q15_14, q1_2, q15_15, by decide +kernel⟩
abbrev rmfX9_at : Room := { frames := 2, cells := 0, slots := 0, locals := 42 }
def fX9_at (st : kS) (x1 : Int32) : Int32 := if (fX8_has st x1) = 0 then ((-101)) else ((fX3_houseIn_3 st x1))
set_option maxRecDepth 100000 in
set_option maxHeartbeats 4000000 in
theorem wX9_at {G : kG} {E : kE} {a : Nat → Nat} {st0 : kS} (C : kOk G E cX9_at RX9 2 rmfX9_at) {z : Int32} (Zd : kEnd G E (0, 0) (some .int) (some (.int z)) (wX G a st0)) (x1 : Int32) (h : fX9_at st0 x1 = z) : kX G E (0, 0) (wX G a st0) 0 [(0, .ref (a 0)), (1, .int x1)] [] := by
  unfold fX9_at at h
  refine x_aload_n (pc := 0) C 0 dX9_at_0 rfl rfl ?_
  refine x_get (pc := 1) C inlX9 0 rfl rfl 1 (by decide) q1_21 (v := .ref (a 2)) rfl dX9_at_1 ?_
  refine x_iload_n (pc := 4) C 1 dX9_at_4 rfl rfl ?_
  refine x_callV (pc := 5) C 2 [.int x1] rfl rfl (mX8_has G a st0 x1) yvX8_has q12_7 ⟨Nat.le_of_ble_eq_true rfl, Nat.le_of_ble_eq_true rfl, rfl, rfl⟩ ⟨Nat.zero_le _, Nat.zero_le _⟩ rfl rfl (Nat.le_of_ble_eq_true rfl) rfl dX9_at_5 ?_
  refine x_if_eq (pc := 8) C 22 dX9_at_8 (by decide) (fun c_1 => ?_) (fun c_1 => ?_)
  · have h := kIp c_1 h
    refine x_bipush (pc := 22) C (-101) dX9_at_22 (by decide) ?_
    subst h
    exact x_iret (pc := 24) C Zd dX9_at_24
  · have h := kIn c_1 h
    refine x_aload_n (pc := 11) C 0 dX9_at_11 rfl rfl ?_
    refine x_get (pc := 12) C inlX9 0 rfl rfl 2 (by decide) q2_2 (v := .ref (a 3)) rfl dX9_at_12 ?_
    refine x_iload_n (pc := 15) C 1 dX9_at_15 rfl rfl ?_
    refine x_callV (pc := 16) C 3 [.int x1] rfl rfl (mX3_houseIn_3 G a st0 x1) yvX3_houseIn q15_16 ⟨Nat.le_of_ble_eq_true rfl, Nat.le_of_ble_eq_true rfl, rfl, rfl⟩ ⟨Nat.zero_le _, Nat.zero_le _⟩ rfl rfl (Nat.le_of_ble_eq_true rfl) rfl dX9_at_16 ?_
    refine x_goto (pc := 19) C 24 dX9_at_19 (by decide) ?_
    subst h
    exact x_iret (pc := 24) C Zd dX9_at_24
set_option maxRecDepth 100000 in
theorem mX9_at (G : kG) (a : Nat → Nat) (st : kS) (x1 : Int32) : kMet G yX9_at cX9_at 2 (some .int) rmfX9_at (0, 0) [.ref (a 0), .int x1] (wX G a st) (some (.int (fX9_at st x1))) (wX G a st) := kMet.mk (by decide +kernel) (Nat.le_of_ble_eq_true rfl) (fun E C Zd => wX9_at  C Zd  x1 rfl)
