theorem yvX9_feud : kYV yX9_feud RX9 cX9_feud 3 (some .int) 2 := ⟨q12_4, q12_5, q1_2, q12_6, by decide +kernel⟩
abbrev rmfX9_feud : Room := { frames := 2, cells := 0, slots := 0, locals := 43 }
def fX9_feud (st : kS) (x1 : Int32) (x2 : Int32) : Int32 := if (fX8_has st x1) = 0 then ((-101)) else (if (fX8_has st x2) = 0 then ((-101)) else (if (fX8_hate st x1 x2) = 0 then (0) else (1)))
set_option maxRecDepth 100000 in
set_option maxHeartbeats 4000000 in
theorem wX9_feud {G : kG} {E : kE} {a : Nat → Nat} {st0 : kS} (C : kOk G E cX9_feud RX9 3 rmfX9_feud) {z : Int32} (Zd : kEnd G E (0, 0) (some .int) (some (.int z)) (wX G a st0)) (x1 : Int32) (x2 : Int32) (h : fX9_feud st0 x1 x2 = z) : kX G E (0, 0) (wX G a st0) 0 [(0, .ref (a 0)), (1, .int x1), (2, .int x2)] [] := by
  unfold fX9_feud at h
  refine x_aload_n (pc := 0) C 0 dX9_feud_0 rfl rfl ?_
  refine x_get (pc := 1) C inlX9 0 rfl rfl 1 (by decide) q1_21 (v := .ref (a 2)) rfl dX9_feud_1 ?_
  refine x_iload_n (pc := 4) C 1 dX9_feud_4 rfl rfl ?_
  refine x_callV (pc := 5) C 2 [.int x1] rfl rfl (mX8_has G a st0 x1) yvX8_has q12_7 ⟨Nat.le_of_ble_eq_true rfl, Nat.le_of_ble_eq_true rfl, rfl, rfl⟩ ⟨Nat.zero_le _, Nat.zero_le _⟩ rfl rfl (Nat.le_of_ble_eq_true rfl) rfl dX9_feud_5 ?_
  refine x_if_eq (pc := 8) C 22 dX9_feud_8 (by decide) (fun c_1 => ?_) (fun c_1 => ?_)
  · have h := kIp c_1 h
    refine x_bipush (pc := 22) C (-101) dX9_feud_22 (by decide) ?_
    subst h
    exact x_iret (pc := 24) C Zd dX9_feud_24
  · have h := kIn c_1 h
    refine x_aload_n (pc := 11) C 0 dX9_feud_11 rfl rfl ?_
    refine x_get (pc := 12) C inlX9 0 rfl rfl 1 (by decide) q1_21 (v := .ref (a 2)) rfl dX9_feud_12 ?_
    refine x_iload_n (pc := 15) C 2 dX9_feud_15 rfl rfl ?_
    refine x_callV (pc := 16) C 2 [.int x2] rfl rfl (mX8_has G a st0 x2) yvX8_has q12_7 ⟨Nat.le_of_ble_eq_true rfl, Nat.le_of_ble_eq_true rfl, rfl, rfl⟩ ⟨Nat.zero_le _, Nat.zero_le _⟩ rfl rfl (Nat.le_of_ble_eq_true rfl) rfl dX9_feud_16 ?_
    refine x_if_ne (pc := 19) C 25 dX9_feud_19 (by decide) (fun c_2 => ?_) (fun c_2 => ?_)
    · have h := kIn c_2 h
      refine x_aload_n (pc := 25) C 0 dX9_feud_25 rfl rfl ?_
      refine x_get (pc := 26) C inlX9 0 rfl rfl 1 (by decide) q1_21 (v := .ref (a 2)) rfl dX9_feud_26 ?_
      refine x_iload_n (pc := 29) C 1 dX9_feud_29 rfl rfl ?_
      refine x_iload_n (pc := 30) C 2 dX9_feud_30 rfl rfl ?_
      refine x_callV (pc := 31) C 2 [.int x1, .int x2] rfl rfl (mX8_hate G a st0 x1 x2) yvX8_hate q12_11 ⟨Nat.le_of_ble_eq_true rfl, Nat.le_of_ble_eq_true rfl, rfl, rfl⟩ ⟨Nat.zero_le _, Nat.zero_le _⟩ rfl rfl (Nat.le_of_ble_eq_true rfl) rfl dX9_feud_31 ?_
      refine x_if_eq (pc := 34) C 41 dX9_feud_34 (by decide) (fun c_3 => ?_) (fun c_3 => ?_)
      · have h := kIp c_3 h
        refine x_iconst (pc := 41) C 0 dX9_feud_41 (by decide) ?_
        subst h
        exact x_iret (pc := 42) C Zd dX9_feud_42
      · have h := kIn c_3 h
        refine x_iconst (pc := 37) C 1 dX9_feud_37 (by decide) ?_
        refine x_goto (pc := 38) C 42 dX9_feud_38 (by decide) ?_
        subst h
        exact x_iret (pc := 42) C Zd dX9_feud_42
    · have h := kIp c_2 h
      refine x_bipush (pc := 22) C (-101) dX9_feud_22 (by decide) ?_
      subst h
      exact x_iret (pc := 24) C Zd dX9_feud_24
set_option maxRecDepth 100000 in
theorem mX9_feud (G : kG) (a : Nat → Nat) (st : kS) (x1 : Int32) (x2 : Int32) : kMet G yX9_feud cX9_feud 3 (some .int) rmfX9_feud (0, 0) [.ref (a 0), .int x1, .int x2] (wX G a st) (some (.int (fX9_feud st x1 x2))) (wX G a st) := kMet.mk (by decide +kernel) (Nat.le_of_ble_eq_true rfl) (fun E C Zd => wX9_feud  C Zd  x1 x2 rfl)
theorem yvX8_stands : kYV yX8_stands RX8 cX8_stands 1 (some .boolean) 0 := ⟨q16_19, q16_20, q1_13, q16_21, by decide +kernel⟩
abbrev rmfX8_stands : Room := { frames := 0, cells := 0, slots := 0, locals := 0 }
def fX8_stands (st : kS) : Int32 := if (gI st 3) ≤ 0 then (0) else (1)
set_option maxRecDepth 100000 in
set_option maxHeartbeats 4000000 in
theorem wX8_stands {G : kG} {E : kE} {a : Nat → Nat} {st0 : kS} (C : kOk G E cX8_stands RX8 1 rmfX8_stands) {z : Int32} (Zd : kEnd G E (0, 0) (some .boolean) (some (.int z)) (wX G a st0)) (h : fX8_stands st0 = z) : kX G E (0, 0) (wX G a st0) 0 [(0, .ref (a 2))] [] := by
  unfold fX8_stands at h
  refine x_aload_n (pc := 0) C 0 dX8_stands_0 rfl rfl ?_
  refine x_get (pc := 1) C inlX8 2 rfl rfl 2 (by decide) q8_23 (v := .int (gI st0 3)) rfl dX8_stands_1 ?_
  refine x_if_le (pc := 4) C 11 dX8_stands_4 (by decide) (fun c_1 => ?_) (fun c_1 => ?_)
  · have h := kIp c_1 h
    refine x_iconst (pc := 11) C 0 dX8_stands_11 (by decide) ?_
    subst h
    exact x_zret (pc := 12) C rfl Zd dX8_stands_12
  · have h := kIn c_1 h
    refine x_iconst (pc := 7) C 1 dX8_stands_7 (by decide) ?_
    refine x_goto (pc := 8) C 12 dX8_stands_8 (by decide) ?_
    subst h
    exact x_zret (pc := 12) C rfl Zd dX8_stands_12
set_option maxRecDepth 100000 in
theorem mX8_stands (G : kG) (a : Nat → Nat) (st : kS)  : kMet G yX8_stands cX8_stands 1 (some .boolean) rmfX8_stands (0, 0) [.ref (a 2)] (wX G a st) (some (.int (fX8_stands st))) (wX G a st) := kMet.mk (by decide +kernel) (Nat.le_of_ble_eq_true rfl) (fun E C Zd => wX8_stands  C Zd   rfl)
theorem yvX8_touching : kYV yX8_touching RX8 cX8_touching 6 (some .int) 1 := ⟨q16_23, q17_0, q1_13, q17_1, by decide +kernel⟩
abbrev rmfX8_touching : Room := { frames := 2, cells := 0, slots := 0, locals := 44 }
def fX8_touching_L4_B (K : Int32 → Int32 → Option (Int32)) (Gc : Int32 → Int32 → Option (Int32)) (N1 : Nat) (f1 : Nat → Int32) (st : kS) (v2 : Int32) (v3 : Int32) : Option (Int32) := if (gI st 3) ≤ v3 then (K v2 v3) else (if (fX8_hate st (kg N1 f1 v3) (kg N1 f1 (fX8_next st v3))) = 0 then (Gc v2 (v3 + 1)) else (if (fX8_is st (kg N1 f1 v3) 2) = 0 then (if (fX8_is st (kg N1 f1 (fX8_next st v3)) 2) = 0 then (Gc (v2 + 1) (v3 + 1)) else (Gc v2 (v3 + 1))) else (Gc v2 (v3 + 1))))
set_option maxRecDepth 100000 in
set_option maxHeartbeats 4000000 in
theorem wX8_touching_L4_B {G : kG} {E : kE} {a : Nat → Nat} {st0 : kS} {q1 a1 N1 : Nat} {f1 : Nat → Int32} (hN1 : N1 < 2 ^ 31) (C : kOk G E cX8_touching RX8 6 rmfX8_touching) {z : Int32} (Zd : kEnd G E (0, 0) (some .int) (some (.int z)) (wX G a st0)) (hq1 : (wX G a st0)[q1]? = some (a1, .inl (G.2.1, N1, .inl f1))) {K Gc : Int32 → Int32 → Option (Int32)} (v2 : Int32) (v3 : Int32) (hK : ∀ (u2 : Int32) (u3 : Int32), K u2 u3 = some z → kX G E (0, 0) (wX G a st0) 70 [(2, .int u2)] []) (hG : ∀ (u2 : Int32) (u3 : Int32), Gc u2 u3 = some z → kX G E (0, 0) (wX G a st0) 4 [(0, .ref (a 2)), (1, .ref a1), (2, .int u2), (3, .int u3)] []) (h : fX8_touching_L4_B K Gc N1 f1 st0 v2 v3 = some z) : kX G E (0, 0) (wX G a st0) 4 [(0, .ref (a 2)), (1, .ref a1), (2, .int v2), (3, .int v3)] [] := by
  unfold fX8_touching_L4_B at h
  refine x_iload_n (pc := 4) C 3 dX8_touching_4 rfl rfl ?_
  refine x_aload_n (pc := 5) C 0 dX8_touching_5 rfl rfl ?_
  refine x_get (pc := 6) C inlX8 2 rfl rfl 2 (by decide) q8_23 (v := .int (gI st0 3)) rfl dX8_touching_6 ?_
  refine x_icmp_ge (pc := 9) C 70 dX8_touching_9 (by decide) (fun c_1 => ?_) (fun c_1 => ?_)
  · have h := kIp c_1 h
    refine kX.pick [2] (lv' := [(2, .int v2)]) rfl ?_
    exact hK v2 v3 h
  · have h := kIn c_1 h
    refine x_aload_n (pc := 12) C 1 dX8_touching_12 rfl rfl ?_
    refine x_iload_n (pc := 13) C 3 dX8_touching_13 rfl rfl ?_
    refine x_callS (pc := 14) C [.ref a1, .int v3] (mX0_get G (N := N1) (f := f1) q1 hq1 hN1 v3) ysX0_get q9_14 ⟨Nat.le_of_ble_eq_true rfl, Nat.le_of_ble_eq_true rfl, rfl, rfl⟩ ⟨Nat.zero_le _, Nat.zero_le _⟩ rfl rfl (Nat.le_of_ble_eq_true rfl) rfl dX8_touching_14 ?_
    refine x_istore (pc := 17) C (lv' := [(4, .int (kg N1 f1 v3)), (0, .ref (a 2)), (1, .ref a1), (2, .int v2), (3, .int v3)]) dX8_touching_17 (by decide) rfl ?_
    refine x_aload_n (pc := 19) C 2 dX8_touching_19 rfl rfl ?_
    refine x_aload_n (pc := 20) C 1 dX8_touching_20 rfl rfl ?_
    refine x_iload_n (pc := 21) C 4 dX8_touching_21 rfl rfl ?_
    refine x_callV (pc := 22) C 2 [.int v3] rfl rfl (mX8_next G a st0 v3) yvX8_next q9_15 ⟨Nat.le_of_ble_eq_true rfl, Nat.le_of_ble_eq_true rfl, rfl, rfl⟩ ⟨Nat.zero_le _, Nat.zero_le _⟩ rfl rfl (Nat.le_of_ble_eq_true rfl) rfl dX8_touching_22 ?_
    refine x_callS (pc := 25) C [.ref a1, .int (fX8_next st0 v3)] (mX0_get G (N := N1) (f := f1) q1 hq1 hN1 (fX8_next st0 v3)) ysX0_get q9_14 ⟨Nat.le_of_ble_eq_true rfl, Nat.le_of_ble_eq_true rfl, rfl, rfl⟩ ⟨Nat.zero_le _, Nat.zero_le _⟩ rfl rfl (Nat.le_of_ble_eq_true rfl) rfl dX8_touching_25 ?_
    refine x_istore (pc := 28) C (lv' := [(5, .int (kg N1 f1 (fX8_next st0 v3))), (4, .int (kg N1 f1 v3)), (0, .ref (a 2)), (1, .ref a1), (2, .int v2), (3, .int v3)]) dX8_touching_28 (by decide) rfl ?_
    refine x_aload_n (pc := 30) C 2 dX8_touching_30 rfl rfl ?_
    refine x_iload (pc := 31) C 1 dX8_touching_31 rfl ?_
    refine x_iload (pc := 33) C 0 dX8_touching_33 rfl ?_
    refine x_callV (pc := 35) C 2 [.int (kg N1 f1 v3), .int (kg N1 f1 (fX8_next st0 v3))] rfl rfl (mX8_hate G a st0 (kg N1 f1 v3) (kg N1 f1 (fX8_next st0 v3))) yvX8_hate q10_4 ⟨Nat.le_of_ble_eq_true rfl, Nat.le_of_ble_eq_true rfl, rfl, rfl⟩ ⟨Nat.zero_le _, Nat.zero_le _⟩ rfl rfl (Nat.le_of_ble_eq_true rfl) rfl dX8_touching_35 ?_
    refine x_if_eq (pc := 38) C 64 dX8_touching_38 (by decide) (fun c_2 => ?_) (fun c_2 => ?_)
    · have h := kIp c_2 h
      refine x_iinc (pc := 64) C 5 (v := v3 + 1) (lv' := [(3, .int (v3 + 1)), (5, .int (kg N1 f1 (fX8_next st0 v3))), (4, .int (kg N1 f1 v3)), (0, .ref (a 2)), (1, .ref a1), (2, .int v2)]) dX8_touching_64 rfl rfl (by decide) rfl ?_
      refine x_goto (pc := 67) C 4 dX8_touching_67 (by decide) ?_
      refine kX.pick [3, 4, 5, 0] (lv' := [(0, .ref (a 2)), (1, .ref a1), (2, .int v2), (3, .int (v3 + 1))]) rfl ?_
      exact hG v2 (v3 + 1) h
    · have h := kIn c_2 h
      refine x_aload_n (pc := 41) C 2 dX8_touching_41 rfl rfl ?_
      refine x_iload (pc := 42) C 1 dX8_touching_42 rfl ?_
      refine x_iconst (pc := 44) C 2 dX8_touching_44 (by decide) ?_
      refine x_callV (pc := 45) C 2 [.int (kg N1 f1 v3), .int 2] rfl rfl (mX8_is G a st0 (kg N1 f1 v3) 2) yvX8_is q9_10 ⟨Nat.le_of_ble_eq_true rfl, Nat.le_of_ble_eq_true rfl, rfl, rfl⟩ ⟨Nat.zero_le _, Nat.zero_le _⟩ rfl rfl (Nat.le_of_ble_eq_true rfl) rfl dX8_touching_45 ?_
      refine x_if_ne (pc := 48) C 64 dX8_touching_48 (by decide) (fun c_3 => ?_) (fun c_3 => ?_)
      · have h := kIn c_3 h
        refine x_iinc (pc := 64) C 5 (v := v3 + 1) (lv' := [(3, .int (v3 + 1)), (5, .int (kg N1 f1 (fX8_next st0 v3))), (4, .int (kg N1 f1 v3)), (0, .ref (a 2)), (1, .ref a1), (2, .int v2)]) dX8_touching_64 rfl rfl (by decide) rfl ?_
        refine x_goto (pc := 67) C 4 dX8_touching_67 (by decide) ?_
        refine kX.pick [3, 4, 5, 0] (lv' := [(0, .ref (a 2)), (1, .ref a1), (2, .int v2), (3, .int (v3 + 1))]) rfl ?_
        exact hG v2 (v3 + 1) h
      · have h := kIp c_3 h
        refine x_aload_n (pc := 51) C 2 dX8_touching_51 rfl rfl ?_
        refine x_iload (pc := 52) C 0 dX8_touching_52 rfl ?_
        refine x_iconst (pc := 54) C 2 dX8_touching_54 (by decide) ?_
        refine x_callV (pc := 55) C 2 [.int (kg N1 f1 (fX8_next st0 v3)), .int 2] rfl rfl (mX8_is G a st0 (kg N1 f1 (fX8_next st0 v3)) 2) yvX8_is q9_10 ⟨Nat.le_of_ble_eq_true rfl, Nat.le_of_ble_eq_true rfl, rfl, rfl⟩ ⟨Nat.zero_le _, Nat.zero_le _⟩ rfl rfl (Nat.le_of_ble_eq_true rfl) rfl dX8_touching_55 ?_
        refine x_if_ne (pc := 58) C 64 dX8_touching_58 (by decide) (fun c_4 => ?_) (fun c_4 => ?_)
        · have h := kIn c_4 h
          refine x_iinc (pc := 64) C 5 (v := v3 + 1) (lv' := [(3, .int (v3 + 1)), (5, .int (kg N1 f1 (fX8_next st0 v3))), (4, .int (kg N1 f1 v3)), (0, .ref (a 2)), (1, .ref a1), (2, .int v2)]) dX8_touching_64 rfl rfl (by decide) rfl ?_
          refine x_goto (pc := 67) C 4 dX8_touching_67 (by decide) ?_
          refine kX.pick [3, 4, 5, 0] (lv' := [(0, .ref (a 2)), (1, .ref a1), (2, .int v2), (3, .int (v3 + 1))]) rfl ?_
          exact hG v2 (v3 + 1) h
        · have h := kIp c_4 h
          refine x_iinc (pc := 61) C 4 (v := v2 + 1) (lv' := [(2, .int (v2 + 1)), (5, .int (kg N1 f1 (fX8_next st0 v3))), (4, .int (kg N1 f1 v3)), (0, .ref (a 2)), (1, .ref a1), (3, .int v3)]) dX8_touching_61 rfl rfl (by decide) rfl ?_
          refine x_iinc (pc := 64) C 5 (v := v3 + 1) (lv' := [(3, .int (v3 + 1)), (2, .int (v2 + 1)), (5, .int (kg N1 f1 (fX8_next st0 v3))), (4, .int (kg N1 f1 v3)), (0, .ref (a 2)), (1, .ref a1)]) dX8_touching_64 rfl rfl (by decide) rfl ?_
          refine x_goto (pc := 67) C 4 dX8_touching_67 (by decide) ?_
          refine kX.pick [4, 5, 1, 0] (lv' := [(0, .ref (a 2)), (1, .ref a1), (2, .int (v2 + 1)), (3, .int (v3 + 1))]) rfl ?_
          exact hG (v2 + 1) (v3 + 1) h
def fX8_touching_L4 (K : Int32 → Int32 → Option (Int32)) (N1 : Nat) (f1 : Nat → Int32) (st : kS) : Nat → Int32 → Int32 → Option (Int32)
  | 0, _, _ => none
  | F + 1, v2, v3 => fX8_touching_L4_B K (fX8_touching_L4 K N1 f1 st F) N1 f1 st v2 v3
set_option maxRecDepth 100000 in
set_option maxHeartbeats 4000000 in
theorem wX8_touching_L4 {G : kG} {E : kE} {a : Nat → Nat} {st0 : kS} {q1 a1 N1 : Nat} {f1 : Nat → Int32} (hN1 : N1 < 2 ^ 31) (C : kOk G E cX8_touching RX8 6 rmfX8_touching) {z : Int32} (Zd : kEnd G E (0, 0) (some .int) (some (.int z)) (wX G a st0)) (hq1 : (wX G a st0)[q1]? = some (a1, .inl (G.2.1, N1, .inl f1))) {K : Int32 → Int32 → Option (Int32)} (hK : ∀ (u2 : Int32) (u3 : Int32), K u2 u3 = some z → kX G E (0, 0) (wX G a st0) 70 [(2, .int u2)] []) : ∀ (F : Nat) (v2 : Int32) (v3 : Int32), fX8_touching_L4 K N1 f1 st0 F v2 v3 = some z → kX G E (0, 0) (wX G a st0) 4 [(0, .ref (a 2)), (1, .ref a1), (2, .int v2), (3, .int v3)] [] := by
  intro F
  induction F with
  | zero =>
    intro v2 v3 h
    exact absurd (show none = some z from h) (fun q => by cases q)
  | succ F ih =>
    intro v2 v3 h
    exact wX8_touching_L4_B hN1 C Zd hq1 v2 v3 hK (fun v2 v3 h => ih v2 v3 h) h
def fX8_touching (N1 : Nat) (f1 : Nat → Int32) (st : kS) : Option (Int32) := fX8_touching_L4 (fun v2_5 v3_6 => some v2_5) N1 f1 st kFU 0 0
set_option maxRecDepth 100000 in
set_option maxHeartbeats 4000000 in
theorem wX8_touching {G : kG} {E : kE} {a : Nat → Nat} {st0 : kS} {q1 a1 N1 : Nat} {f1 : Nat → Int32} (hN1 : N1 < 2 ^ 31) (C : kOk G E cX8_touching RX8 6 rmfX8_touching) {z : Int32} (Zd : kEnd G E (0, 0) (some .int) (some (.int z)) (wX G a st0)) (hq1 : (wX G a st0)[q1]? = some (a1, .inl (G.2.1, N1, .inl f1))) (h : fX8_touching N1 f1 st0 = some z) : kX G E (0, 0) (wX G a st0) 0 [(0, .ref (a 2)), (1, .ref a1)] [] := by
  unfold fX8_touching at h
  refine x_iconst (pc := 0) C 0 dX8_touching_0 (by decide) ?_
  refine x_istore_n (pc := 1) C (lv' := [(2, .int 0), (0, .ref (a 2)), (1, .ref a1)]) dX8_touching_1 rfl (by decide) rfl ?_
  refine x_iconst (pc := 2) C 0 dX8_touching_2 (by decide) ?_
  refine x_istore_n (pc := 3) C (lv' := [(3, .int 0), (2, .int 0), (0, .ref (a 2)), (1, .ref a1)]) dX8_touching_3 rfl (by decide) rfl ?_
  refine kX.pick [2, 3, 1, 0] (lv' := [(0, .ref (a 2)), (1, .ref a1), (2, .int 0), (3, .int 0)]) rfl ?_
  refine wX8_touching_L4 hN1 C Zd hq1  (fun v2_5 v3_6 h => ?_) kFU 0 0 h
  refine x_iload_n (pc := 70) C 0 dX8_touching_70 rfl rfl ?_
  obtain rfl := Option.some.inj h
  exact x_iret (pc := 71) C Zd dX8_touching_71
set_option maxRecDepth 100000 in
theorem mX8_touching (G : kG) (a : Nat → Nat) {st : kS} {a1 : Nat} {N : Nat} {f : Nat → Int32} (q1 : Nat) (hq1 : (wX G a st)[q1]? = some (a1, .inl (G.2.1, N, .inl f))) (hN1 : N < 2 ^ 31) (_ : kS)  {z : Int32} (h : fX8_touching N f st = some z) : kMet G yX8_touching cX8_touching 6 (some .int) rmfX8_touching (0, 0) [.ref (a 2), .ref a1] (wX G a st) (some (.int z)) (wX G a st) := kMet.mk (by decide +kernel) (Nat.le_of_ble_eq_true rfl) (fun E C Zd => wX8_touching hN1 C Zd hq1  h)
theorem yvX9_touch : kYV yX9_touch RX9 cX9_touch 1 (some .int) 0 := ⟨q16_15, q16_16, q1_2, q16_17, by decide +kernel⟩
abbrev rmfX9_touch : Room := { frames := 3, cells := 0, slots := 0, locals := 69 }
def fX9_touch (st : kS) : Option (Int32) := if (fX8_stands st) = 0 then (some (-103)) else ((fX8_touching 6 (gA st 13) st).bind (fun z_2 => some z_2))
set_option maxRecDepth 100000 in
set_option maxHeartbeats 4000000 in
theorem wX9_touch {G : kG} {E : kE} {a : Nat → Nat} {st0 : kS} (C : kOk G E cX9_touch RX9 1 rmfX9_touch) {z : Int32} (Zd : kEnd G E (0, 0) (some .int) (some (.int z)) (wX G a st0)) (h : fX9_touch st0 = some z) : kX G E (0, 0) (wX G a st0) 0 [(0, .ref (a 0))] [] := by
  unfold fX9_touch at h
  refine x_aload_n (pc := 0) C 0 dX9_touch_0 rfl rfl ?_
  refine x_get (pc := 1) C inlX9 0 rfl rfl 1 (by decide) q1_21 (v := .ref (a 2)) rfl dX9_touch_1 ?_
  refine x_callV (pc := 4) C 2 [] rfl rfl (mX8_stands G a st0) yvX8_stands q16_18 ⟨Nat.le_of_ble_eq_true rfl, Nat.le_of_ble_eq_true rfl, rfl, rfl⟩ ⟨Nat.zero_le _, Nat.zero_le _⟩ rfl rfl (Nat.le_of_ble_eq_true rfl) rfl dX9_touch_4 ?_
  refine x_if_eq (pc := 7) C 27 dX9_touch_7 (by decide) (fun c_1 => ?_) (fun c_1 => ?_)
  · have h := kIp c_1 h
    refine x_bipush (pc := 27) C (-103) dX9_touch_27 (by decide) ?_
    obtain rfl := Option.some.inj h
    exact x_iret (pc := 29) C Zd dX9_touch_29
  · have h := kIn c_1 h
    refine x_aload_n (pc := 10) C 0 dX9_touch_10 rfl rfl ?_
    refine x_get (pc := 11) C inlX9 0 rfl rfl 1 (by decide) q1_21 (v := .ref (a 2)) rfl dX9_touch_11 ?_
    refine x_aload_n (pc := 14) C 0 dX9_touch_14 rfl rfl ?_
    refine x_get (pc := 15) C inlX9 0 rfl rfl 2 (by decide) q2_2 (v := .ref (a 3)) rfl dX9_touch_15 ?_
    refine x_getN (pc := 18) C inlX3 3 rfl rfl 0 (by decide) nn15 (v := .ref (a 13)) rfl dX9_touch_18 ?_
    obtain ⟨z_2, hz_2, h⟩ := kB h
    refine x_callV (pc := 21) C 2 [.ref (a 13)] rfl rfl (mX8_touching G a (N := 6) (f := (gA st0 13)) 13 (lwX_A13 G a rfl) (by decide) st0 hz_2) yvX8_touching q16_22 ⟨Nat.le_of_ble_eq_true rfl, Nat.le_of_ble_eq_true rfl, rfl, rfl⟩ ⟨Nat.zero_le _, Nat.zero_le _⟩ rfl rfl (Nat.le_of_ble_eq_true rfl) rfl dX9_touch_21 ?_
    refine x_goto (pc := 24) C 29 dX9_touch_24 (by decide) ?_
    obtain rfl := Option.some.inj h
    exact x_iret (pc := 29) C Zd dX9_touch_29
set_option maxRecDepth 100000 in
theorem mX9_touch (G : kG) (a : Nat → Nat) (st : kS)  {z : Int32} (h : fX9_touch st = some z) : kMet G yX9_touch cX9_touch 1 (some .int) rmfX9_touch (0, 0) [.ref (a 0)] (wX G a st) (some (.int z)) (wX G a st) := kMet.mk (by decide +kernel) (Nat.le_of_ble_eq_true rfl) (fun E C Zd => wX9_touch  C Zd   h)
theorem yvX8_beside : kYV yX8_beside RX8 cX8_beside 3 (some .boolean) 2 := ⟨q17_10, q17_11, q1_13, q17_12, by decide +kernel⟩
abbrev rmfX8_beside : Room := { frames := 1, cells := 0, slots := 0, locals := 21 }
def fX8_beside (st : kS) (x1 : Int32) (x2 : Int32) : Int32 := if (fX8_next st x1) = x2 then (1) else (if (fX8_next st x2) = x1 then (1) else (0))
set_option maxRecDepth 100000 in
set_option maxHeartbeats 4000000 in
theorem wX8_beside {G : kG} {E : kE} {a : Nat → Nat} {st0 : kS} (C : kOk G E cX8_beside RX8 3 rmfX8_beside) {z : Int32} (Zd : kEnd G E (0, 0) (some .boolean) (some (.int z)) (wX G a st0)) (x1 : Int32) (x2 : Int32) (h : fX8_beside st0 x1 x2 = z) : kX G E (0, 0) (wX G a st0) 0 [(0, .ref (a 2)), (1, .int x1), (2, .int x2)] [] := by
  unfold fX8_beside at h
  refine x_aload_n (pc := 0) C 0 dX8_beside_0 rfl rfl ?_
  refine x_iload_n (pc := 1) C 1 dX8_beside_1 rfl rfl ?_
  refine x_callV (pc := 2) C 2 [.int x1] rfl rfl (mX8_next G a st0 x1) yvX8_next q9_15 ⟨Nat.le_of_ble_eq_true rfl, Nat.le_of_ble_eq_true rfl, rfl, rfl⟩ ⟨Nat.zero_le _, Nat.zero_le _⟩ rfl rfl (Nat.le_of_ble_eq_true rfl) rfl dX8_beside_2 ?_
  refine x_iload_n (pc := 5) C 2 dX8_beside_5 rfl rfl ?_
  refine x_icmp_eq (pc := 6) C 18 dX8_beside_6 (by decide) (fun c_1 => ?_) (fun c_1 => ?_)
  · have h := kIp c_1 h
    refine x_iconst (pc := 18) C 1 dX8_beside_18 (by decide) ?_
    refine x_goto (pc := 19) C 23 dX8_beside_19 (by decide) ?_
    subst h
    exact x_zret (pc := 23) C rfl Zd dX8_beside_23
  · have h := kIn c_1 h
    refine x_aload_n (pc := 9) C 0 dX8_beside_9 rfl rfl ?_
    refine x_iload_n (pc := 10) C 2 dX8_beside_10 rfl rfl ?_
    refine x_callV (pc := 11) C 2 [.int x2] rfl rfl (mX8_next G a st0 x2) yvX8_next q9_15 ⟨Nat.le_of_ble_eq_true rfl, Nat.le_of_ble_eq_true rfl, rfl, rfl⟩ ⟨Nat.zero_le _, Nat.zero_le _⟩ rfl rfl (Nat.le_of_ble_eq_true rfl) rfl dX8_beside_11 ?_
    refine x_iload_n (pc := 14) C 1 dX8_beside_14 rfl rfl ?_
    refine x_icmp_ne (pc := 15) C 22 dX8_beside_15 (by decide) (fun c_2 => ?_) (fun c_2 => ?_)
    · have h := kIn c_2 h
      refine x_iconst (pc := 22) C 0 dX8_beside_22 (by decide) ?_
      subst h
      exact x_zret (pc := 23) C rfl Zd dX8_beside_23
    · have h := kIp c_2 h
      refine x_iconst (pc := 18) C 1 dX8_beside_18 (by decide) ?_
      refine x_goto (pc := 19) C 23 dX8_beside_19 (by decide) ?_
      subst h
      exact x_zret (pc := 23) C rfl Zd dX8_beside_23
set_option maxRecDepth 100000 in
theorem mX8_beside (G : kG) (a : Nat → Nat) (st : kS) (x1 : Int32) (x2 : Int32) : kMet G yX8_beside cX8_beside 3 (some .boolean) rmfX8_beside (0, 0) [.ref (a 2), .int x1, .int x2] (wX G a st) (some (.int (fX8_beside st x1 x2))) (wX G a st) := kMet.mk (by decide +kernel) (Nat.le_of_ble_eq_true rfl) (fun E C Zd => wX8_beside  C Zd  x1 x2 rfl)
theorem yvX9_joins : kYV yX9_joins RX9 cX9_joins 5 (some .int) 0 := ⟨q17_6, q17_7, q1_2, q17_8, by decide +kernel⟩
abbrev rmfX9_joins : Room := { frames := 3, cells := 0, slots := 0, locals := 66 }
def fX9_joins_L17_B (K : Int32 → Int32 → Option (Int32)) (Gc : Int32 → Int32 → Option (Int32)) (st : kS) (v1 : Int32) (v2 : Int32) : Option (Int32) := if (gI st 3) ≤ v2 then (K v1 v2) else ((fX3_placeAhead_3 st (fX3_houseIn_3 st v2) (gI st 3)).bind (fun z_3 => (fX3_placeAhead_3 st (fX3_houseIn_3 st (fX8_next st v2)) (gI st 3)).bind (fun z_4 => if (fX8_beside st z_3 z_4) = 0 then (Gc (v1 + 1) (v2 + 1)) else (Gc v1 (v2 + 1)))))
set_option maxRecDepth 100000 in
set_option maxHeartbeats 4000000 in
theorem wX9_joins_L17_B {G : kG} {E : kE} {a : Nat → Nat} {st0 : kS} (C : kOk G E cX9_joins RX9 5 rmfX9_joins) {z : Int32} (Zd : kEnd G E (0, 0) (some .int) (some (.int z)) (wX G a st0)) {K Gc : Int32 → Int32 → Option (Int32)} (v1 : Int32) (v2 : Int32) (hK : ∀ (u1 : Int32) (u2 : Int32), K u1 u2 = some z → kX G E (0, 0) (wX G a st0) 104 [(1, .int u1)] []) (hG : ∀ (u1 : Int32) (u2 : Int32), Gc u1 u2 = some z → kX G E (0, 0) (wX G a st0) 17 [(0, .ref (a 0)), (1, .int u1), (2, .int u2)] []) (h : fX9_joins_L17_B K Gc st0 v1 v2 = some z) : kX G E (0, 0) (wX G a st0) 17 [(0, .ref (a 0)), (1, .int v1), (2, .int v2)] [] := by
  unfold fX9_joins_L17_B at h
  refine x_iload_n (pc := 17) C 2 dX9_joins_17 rfl rfl ?_
  refine x_aload_n (pc := 18) C 0 dX9_joins_18 rfl rfl ?_
  refine x_get (pc := 19) C inlX9 0 rfl rfl 1 (by decide) q1_21 (v := .ref (a 2)) rfl dX9_joins_19 ?_
  refine x_getN (pc := 22) C inlX8 2 rfl rfl 2 (by decide) nn5 (v := .int (gI st0 3)) rfl dX9_joins_22 ?_
  refine x_icmp_ge (pc := 25) C 104 dX9_joins_25 (by decide) (fun c_2 => ?_) (fun c_2 => ?_)
  · have h := kIp c_2 h
    refine kX.pick [1] (lv' := [(1, .int v1)]) rfl ?_
    exact hK v1 v2 h
  · have h := kIn c_2 h
    refine x_aload_n (pc := 28) C 0 dX9_joins_28 rfl rfl ?_
    refine x_get (pc := 29) C inlX9 0 rfl rfl 2 (by decide) q2_2 (v := .ref (a 3)) rfl dX9_joins_29 ?_
    refine x_aload_n (pc := 32) C 0 dX9_joins_32 rfl rfl ?_
    refine x_get (pc := 33) C inlX9 0 rfl rfl 2 (by decide) q2_2 (v := .ref (a 3)) rfl dX9_joins_33 ?_
    refine x_iload_n (pc := 36) C 2 dX9_joins_36 rfl rfl ?_
    refine x_callV (pc := 37) C 3 [.int v2] rfl rfl (mX3_houseIn_3 G a st0 v2) yvX3_houseIn q15_16 ⟨Nat.le_of_ble_eq_true rfl, Nat.le_of_ble_eq_true rfl, rfl, rfl⟩ ⟨Nat.zero_le _, Nat.zero_le _⟩ rfl rfl (Nat.le_of_ble_eq_true rfl) rfl dX9_joins_37 ?_
    refine x_aload_n (pc := 40) C 0 dX9_joins_40 rfl rfl ?_
    refine x_get (pc := 41) C inlX9 0 rfl rfl 1 (by decide) q1_21 (v := .ref (a 2)) rfl dX9_joins_41 ?_
    refine x_getN (pc := 44) C inlX8 2 rfl rfl 2 (by decide) nn5 (v := .int (gI st0 3)) rfl dX9_joins_44 ?_
    obtain ⟨z_3, hz_3, h⟩ := kB h
    refine x_callV (pc := 47) C 3 [.int (fX3_houseIn_3 st0 v2), .int (gI st0 3)] rfl rfl (mX3_placeAhead_3 G a st0 (fX3_houseIn_3 st0 v2) (gI st0 3) hz_3) yvX3_placeAhead q15_3 ⟨Nat.le_of_ble_eq_true rfl, Nat.le_of_ble_eq_true rfl, rfl, rfl⟩ ⟨Nat.zero_le _, Nat.zero_le _⟩ rfl rfl (Nat.le_of_ble_eq_true rfl) rfl dX9_joins_47 ?_
    refine x_istore_n (pc := 50) C (lv' := [(3, .int z_3), (0, .ref (a 0)), (1, .int v1), (2, .int v2)]) dX9_joins_50 rfl (by decide) rfl ?_
    refine x_aload_n (pc := 51) C 1 dX9_joins_51 rfl rfl ?_
    refine x_get (pc := 52) C inlX9 0 rfl rfl 2 (by decide) q2_2 (v := .ref (a 3)) rfl dX9_joins_52 ?_
    refine x_aload_n (pc := 55) C 1 dX9_joins_55 rfl rfl ?_
    refine x_get (pc := 56) C inlX9 0 rfl rfl 2 (by decide) q2_2 (v := .ref (a 3)) rfl dX9_joins_56 ?_
    refine x_aload_n (pc := 59) C 1 dX9_joins_59 rfl rfl ?_
    refine x_get (pc := 60) C inlX9 0 rfl rfl 1 (by decide) q1_21 (v := .ref (a 2)) rfl dX9_joins_60 ?_
    refine x_iload_n (pc := 63) C 3 dX9_joins_63 rfl rfl ?_
    refine x_callV (pc := 64) C 2 [.int v2] rfl rfl (mX8_next G a st0 v2) yvX8_next q14_0 ⟨Nat.le_of_ble_eq_true rfl, Nat.le_of_ble_eq_true rfl, rfl, rfl⟩ ⟨Nat.zero_le _, Nat.zero_le _⟩ rfl rfl (Nat.le_of_ble_eq_true rfl) rfl dX9_joins_64 ?_
    refine x_callV (pc := 67) C 3 [.int (fX8_next st0 v2)] rfl rfl (mX3_houseIn_3 G a st0 (fX8_next st0 v2)) yvX3_houseIn q15_16 ⟨Nat.le_of_ble_eq_true rfl, Nat.le_of_ble_eq_true rfl, rfl, rfl⟩ ⟨Nat.zero_le _, Nat.zero_le _⟩ rfl rfl (Nat.le_of_ble_eq_true rfl) rfl dX9_joins_67 ?_
    refine x_aload_n (pc := 70) C 1 dX9_joins_70 rfl rfl ?_
    refine x_get (pc := 71) C inlX9 0 rfl rfl 1 (by decide) q1_21 (v := .ref (a 2)) rfl dX9_joins_71 ?_
    refine x_getN (pc := 74) C inlX8 2 rfl rfl 2 (by decide) nn5 (v := .int (gI st0 3)) rfl dX9_joins_74 ?_
    obtain ⟨z_4, hz_4, h⟩ := kB h
    refine x_callV (pc := 77) C 3 [.int (fX3_houseIn_3 st0 (fX8_next st0 v2)), .int (gI st0 3)] rfl rfl (mX3_placeAhead_3 G a st0 (fX3_houseIn_3 st0 (fX8_next st0 v2)) (gI st0 3) hz_4) yvX3_placeAhead q15_3 ⟨Nat.le_of_ble_eq_true rfl, Nat.le_of_ble_eq_true rfl, rfl, rfl⟩ ⟨Nat.zero_le _, Nat.zero_le _⟩ rfl rfl (Nat.le_of_ble_eq_true rfl) rfl dX9_joins_77 ?_
    refine x_istore (pc := 80) C (lv' := [(4, .int z_4), (3, .int z_3), (0, .ref (a 0)), (1, .int v1), (2, .int v2)]) dX9_joins_80 (by decide) rfl ?_
    refine x_aload_n (pc := 82) C 2 dX9_joins_82 rfl rfl ?_
    refine x_get (pc := 83) C inlX9 0 rfl rfl 1 (by decide) q1_21 (v := .ref (a 2)) rfl dX9_joins_83 ?_
    refine x_iload_n (pc := 86) C 1 dX9_joins_86 rfl rfl ?_
    refine x_iload (pc := 87) C 0 dX9_joins_87 rfl ?_
    refine x_callV (pc := 89) C 2 [.int z_3, .int z_4] rfl rfl (mX8_beside G a st0 z_3 z_4) yvX8_beside q17_9 ⟨Nat.le_of_ble_eq_true rfl, Nat.le_of_ble_eq_true rfl, rfl, rfl⟩ ⟨Nat.zero_le _, Nat.zero_le _⟩ rfl rfl (Nat.le_of_ble_eq_true rfl) rfl dX9_joins_89 ?_
    refine x_if_ne (pc := 92) C 98 dX9_joins_92 (by decide) (fun c_5 => ?_) (fun c_5 => ?_)
    · have h := kIn c_5 h
      refine x_iinc (pc := 98) C 4 (v := v2 + 1) (lv' := [(2, .int (v2 + 1)), (4, .int z_4), (3, .int z_3), (0, .ref (a 0)), (1, .int v1)]) dX9_joins_98 rfl rfl (by decide) rfl ?_
      refine x_goto (pc := 101) C 17 dX9_joins_101 (by decide) ?_
      refine kX.pick [3, 4, 0] (lv' := [(0, .ref (a 0)), (1, .int v1), (2, .int (v2 + 1))]) rfl ?_
      exact hG v1 (v2 + 1) h
    · have h := kIp c_5 h
      refine x_iinc (pc := 95) C 3 (v := v1 + 1) (lv' := [(1, .int (v1 + 1)), (4, .int z_4), (3, .int z_3), (0, .ref (a 0)), (2, .int v2)]) dX9_joins_95 rfl rfl (by decide) rfl ?_
      refine x_iinc (pc := 98) C 4 (v := v2 + 1) (lv' := [(2, .int (v2 + 1)), (1, .int (v1 + 1)), (4, .int z_4), (3, .int z_3), (0, .ref (a 0))]) dX9_joins_98 rfl rfl (by decide) rfl ?_
      refine x_goto (pc := 101) C 17 dX9_joins_101 (by decide) ?_
      refine kX.pick [4, 1, 0] (lv' := [(0, .ref (a 0)), (1, .int (v1 + 1)), (2, .int (v2 + 1))]) rfl ?_
      exact hG (v1 + 1) (v2 + 1) h
def fX9_joins_L17 (K : Int32 → Int32 → Option (Int32)) (st : kS) : Nat → Int32 → Int32 → Option (Int32)
  | 0, _, _ => none
  | F + 1, v1, v2 => fX9_joins_L17_B K (fX9_joins_L17 K st F) st v1 v2
set_option maxRecDepth 100000 in
set_option maxHeartbeats 4000000 in
theorem wX9_joins_L17 {G : kG} {E : kE} {a : Nat → Nat} {st0 : kS} (C : kOk G E cX9_joins RX9 5 rmfX9_joins) {z : Int32} (Zd : kEnd G E (0, 0) (some .int) (some (.int z)) (wX G a st0)) {K : Int32 → Int32 → Option (Int32)} (hK : ∀ (u1 : Int32) (u2 : Int32), K u1 u2 = some z → kX G E (0, 0) (wX G a st0) 104 [(1, .int u1)] []) : ∀ (F : Nat) (v1 : Int32) (v2 : Int32), fX9_joins_L17 K st0 F v1 v2 = some z → kX G E (0, 0) (wX G a st0) 17 [(0, .ref (a 0)), (1, .int v1), (2, .int v2)] [] := by
  intro F
  induction F with
  | zero =>
    intro v1 v2 h
    exact absurd (show none = some z from h) (fun q => by cases q)
  | succ F ih =>
    intro v1 v2 h
    exact wX9_joins_L17_B  C Zd  v1 v2 hK (fun v1 v2 h => ih v1 v2 h) h
def fX9_joins (st : kS) : Option (Int32) := if (fX8_stands st) = 0 then (some (-103)) else (fX9_joins_L17 (fun v1_6 v2_7 => some v1_6) st kFU 0 0)
set_option maxRecDepth 100000 in
set_option maxHeartbeats 4000000 in
theorem wX9_joins {G : kG} {E : kE} {a : Nat → Nat} {st0 : kS} (C : kOk G E cX9_joins RX9 5 rmfX9_joins) {z : Int32} (Zd : kEnd G E (0, 0) (some .int) (some (.int z)) (wX G a st0)) (h : fX9_joins st0 = some z) : kX G E (0, 0) (wX G a st0) 0 [(0, .ref (a 0))] [] := by
  unfold fX9_joins at h
  refine x_aload_n (pc := 0) C 0 dX9_joins_0 rfl rfl ?_
  refine x_get (pc := 1) C inlX9 0 rfl rfl 1 (by decide) q1_21 (v := .ref (a 2)) rfl dX9_joins_1 ?_
  refine x_callV (pc := 4) C 2 [] rfl rfl (mX8_stands G a st0) yvX8_stands q16_18 ⟨Nat.le_of_ble_eq_true rfl, Nat.le_of_ble_eq_true rfl, rfl, rfl⟩ ⟨Nat.zero_le _, Nat.zero_le _⟩ rfl rfl (Nat.le_of_ble_eq_true rfl) rfl dX9_joins_4 ?_
  refine x_if_ne (pc := 7) C 13 dX9_joins_7 (by decide) (fun c_1 => ?_) (fun c_1 => ?_)
  · have h := kIn c_1 h
    refine x_iconst (pc := 13) C 0 dX9_joins_13 (by decide) ?_
    refine x_istore_n (pc := 14) C (lv' := [(1, .int 0), (0, .ref (a 0))]) dX9_joins_14 rfl (by decide) rfl ?_
    refine x_iconst (pc := 15) C 0 dX9_joins_15 (by decide) ?_
    refine x_istore_n (pc := 16) C (lv' := [(2, .int 0), (1, .int 0), (0, .ref (a 0))]) dX9_joins_16 rfl (by decide) rfl ?_
    refine kX.pick [2, 1, 0] (lv' := [(0, .ref (a 0)), (1, .int 0), (2, .int 0)]) rfl ?_
    refine wX9_joins_L17  C Zd   (fun v1_6 v2_7 h => ?_) kFU 0 0 h
    refine x_iload_n (pc := 104) C 0 dX9_joins_104 rfl rfl ?_
    obtain rfl := Option.some.inj h
    exact x_iret (pc := 105) C Zd dX9_joins_105
  · have h := kIp c_1 h
    refine x_bipush (pc := 10) C (-103) dX9_joins_10 (by decide) ?_
    obtain rfl := Option.some.inj h
    exact x_iret (pc := 12) C Zd dX9_joins_12
set_option maxRecDepth 100000 in
theorem mX9_joins (G : kG) (a : Nat → Nat) (st : kS)  {z : Int32} (h : fX9_joins st = some z) : kMet G yX9_joins cX9_joins 5 (some .int) rmfX9_joins (0, 0) [.ref (a 0)] (wX G a st) (some (.int z)) (wX G a st) := kMet.mk (by decide +kernel) (Nat.le_of_ble_eq_true rfl) (fun E C Zd => wX9_joins  C Zd   h)
theorem yvX8_way : kYV yX8_way RX8 cX8_way 4 (some .int) 2 := ⟨q15_22, q15_23, q1_13, q16_0, by decide +kernel⟩
abbrev rmfX8_way : Room := { frames := 1, cells := 0, slots := 0, locals := 21 }
def fX8_way (st : kS) (x1 : Int32) (x2 : Int32) : Int32 := (kmin (kabs (x1 - x2)) ((gI st 3) - (kabs (x1 - x2))))
set_option maxRecDepth 100000 in
set_option maxHeartbeats 4000000 in
theorem wX8_way {G : kG} {E : kE} {a : Nat → Nat} {st0 : kS} (C : kOk G E cX8_way RX8 4 rmfX8_way) {z : Int32} (Zd : kEnd G E (0, 0) (some .int) (some (.int z)) (wX G a st0)) (x1 : Int32) (x2 : Int32) (h : fX8_way st0 x1 x2 = z) : kX G E (0, 0) (wX G a st0) 0 [(0, .ref (a 2)), (1, .int x1), (2, .int x2)] [] := by
  unfold fX8_way at h
  refine x_iload_n (pc := 0) C 1 dX8_way_0 rfl rfl ?_
  refine x_iload_n (pc := 1) C 2 dX8_way_1 rfl rfl ?_
  refine x_isub (pc := 2) C dX8_way_2 ?_
  refine y_mabs (pc := 3) C q16_1 q16_2 q16_3 q16_4 ⟨Nat.le_of_ble_eq_true rfl, Nat.le_of_ble_eq_true rfl⟩ ⟨Nat.zero_le _, Nat.zero_le _⟩ (Nat.le_of_ble_eq_true rfl) dX8_way_3 ?_
  refine x_istore_n (pc := 6) C (lv' := [(3, .int (kabs (x1 - x2))), (0, .ref (a 2)), (1, .int x1), (2, .int x2)]) dX8_way_6 rfl (by decide) rfl ?_
  refine x_iload_n (pc := 7) C 0 dX8_way_7 rfl rfl ?_
  refine x_aload_n (pc := 8) C 1 dX8_way_8 rfl rfl ?_
  refine x_get (pc := 9) C inlX8 2 rfl rfl 2 (by decide) q8_23 (v := .int (gI st0 3)) rfl dX8_way_9 ?_
  refine x_iload_n (pc := 12) C 0 dX8_way_12 rfl rfl ?_
  refine x_isub (pc := 13) C dX8_way_13 ?_
  refine y_mmin (pc := 14) C q16_5 q16_6 q16_3 q16_7 ⟨Nat.le_of_ble_eq_true rfl, Nat.le_of_ble_eq_true rfl⟩ ⟨Nat.zero_le _, Nat.zero_le _⟩ (Nat.le_of_ble_eq_true rfl) dX8_way_14 ?_
  subst h
  exact x_iret (pc := 17) C Zd dX8_way_17
set_option maxRecDepth 100000 in
theorem mX8_way (G : kG) (a : Nat → Nat) (st : kS) (x1 : Int32) (x2 : Int32) : kMet G yX8_way cX8_way 4 (some .int) rmfX8_way (0, 0) [.ref (a 2), .int x1, .int x2] (wX G a st) (some (.int (fX8_way st x1 x2))) (wX G a st) := kMet.mk (by decide +kernel) (Nat.le_of_ble_eq_true rfl) (fun E C Zd => wX8_way  C Zd  x1 x2 rfl)
theorem yvX9_walk : kYV yX9_walk RX9 cX9_walk 3 (some .int) 1 := ⟨q15_18, q15_19, q1_2, q15_20, by decide +kernel⟩
abbrev rmfX9_walk : Room := { frames := 3, cells := 0, slots := 0, locals := 66 }
def fX9_walk (st : kS) (x1 : Int32) : Option (Int32) := if (fX8_has st x1) = 0 then (some (-101)) else ((fX3_placeAhead_3 st x1 (gI st 3)).bind (fun z_2 => (fX3_placeOf_3 st x1 (gI st 3)).bind (fun z_3 => some ((fX8_way st 0 z_2) + (fX8_way st z_2 z_3)))))
set_option maxRecDepth 100000 in
set_option maxHeartbeats 4000000 in
theorem wX9_walk {G : kG} {E : kE} {a : Nat → Nat} {st0 : kS} (C : kOk G E cX9_walk RX9 3 rmfX9_walk) {z : Int32} (Zd : kEnd G E (0, 0) (some .int) (some (.int z)) (wX G a st0)) (x1 : Int32) (h : fX9_walk st0 x1 = some z) : kX G E (0, 0) (wX G a st0) 0 [(0, .ref (a 0)), (1, .int x1)] [] := by
  unfold fX9_walk at h
  refine x_aload_n (pc := 0) C 0 dX9_walk_0 rfl rfl ?_
  refine x_get (pc := 1) C inlX9 0 rfl rfl 1 (by decide) q1_21 (v := .ref (a 2)) rfl dX9_walk_1 ?_
  refine x_iload_n (pc := 4) C 1 dX9_walk_4 rfl rfl ?_
  refine x_callV (pc := 5) C 2 [.int x1] rfl rfl (mX8_has G a st0 x1) yvX8_has q12_7 ⟨Nat.le_of_ble_eq_true rfl, Nat.le_of_ble_eq_true rfl, rfl, rfl⟩ ⟨Nat.zero_le _, Nat.zero_le _⟩ rfl rfl (Nat.le_of_ble_eq_true rfl) rfl dX9_walk_5 ?_
  refine x_if_ne (pc := 8) C 14 dX9_walk_8 (by decide) (fun c_1 => ?_) (fun c_1 => ?_)
  · have h := kIn c_1 h
    refine x_aload_n (pc := 14) C 0 dX9_walk_14 rfl rfl ?_
    refine x_get (pc := 15) C inlX9 0 rfl rfl 2 (by decide) q2_2 (v := .ref (a 3)) rfl dX9_walk_15 ?_
    refine x_iload_n (pc := 18) C 1 dX9_walk_18 rfl rfl ?_
    refine x_aload_n (pc := 19) C 0 dX9_walk_19 rfl rfl ?_
    refine x_get (pc := 20) C inlX9 0 rfl rfl 1 (by decide) q1_21 (v := .ref (a 2)) rfl dX9_walk_20 ?_
    refine x_getN (pc := 23) C inlX8 2 rfl rfl 2 (by decide) nn5 (v := .int (gI st0 3)) rfl dX9_walk_23 ?_
    obtain ⟨z_2, hz_2, h⟩ := kB h
    refine x_callV (pc := 26) C 3 [.int x1, .int (gI st0 3)] rfl rfl (mX3_placeAhead_3 G a st0 x1 (gI st0 3) hz_2) yvX3_placeAhead q15_3 ⟨Nat.le_of_ble_eq_true rfl, Nat.le_of_ble_eq_true rfl, rfl, rfl⟩ ⟨Nat.zero_le _, Nat.zero_le _⟩ rfl rfl (Nat.le_of_ble_eq_true rfl) rfl dX9_walk_26 ?_
    refine x_istore_n (pc := 29) C (lv' := [(2, .int z_2), (0, .ref (a 0)), (1, .int x1)]) dX9_walk_29 rfl (by decide) rfl ?_
    refine x_aload_n (pc := 30) C 1 dX9_walk_30 rfl rfl ?_
    refine x_get (pc := 31) C inlX9 0 rfl rfl 1 (by decide) q1_21 (v := .ref (a 2)) rfl dX9_walk_31 ?_
    refine x_iconst (pc := 34) C 0 dX9_walk_34 (by decide) ?_
    refine x_iload_n (pc := 35) C 0 dX9_walk_35 rfl rfl ?_
    refine x_callV (pc := 36) C 2 [.int 0, .int z_2] rfl rfl (mX8_way G a st0 0 z_2) yvX8_way q15_21 ⟨Nat.le_of_ble_eq_true rfl, Nat.le_of_ble_eq_true rfl, rfl, rfl⟩ ⟨Nat.zero_le _, Nat.zero_le _⟩ rfl rfl (Nat.le_of_ble_eq_true rfl) rfl dX9_walk_36 ?_
    refine x_aload_n (pc := 39) C 1 dX9_walk_39 rfl rfl ?_
    refine x_get (pc := 40) C inlX9 0 rfl rfl 1 (by decide) q1_21 (v := .ref (a 2)) rfl dX9_walk_40 ?_
    refine x_iload_n (pc := 43) C 0 dX9_walk_43 rfl rfl ?_
    refine x_aload_n (pc := 44) C 1 dX9_walk_44 rfl rfl ?_
    refine x_get (pc := 45) C inlX9 0 rfl rfl 2 (by decide) q2_2 (v := .ref (a 3)) rfl dX9_walk_45 ?_
    refine x_iload_n (pc := 48) C 2 dX9_walk_48 rfl rfl ?_
    refine x_aload_n (pc := 49) C 1 dX9_walk_49 rfl rfl ?_
    refine x_get (pc := 50) C inlX9 0 rfl rfl 1 (by decide) q1_21 (v := .ref (a 2)) rfl dX9_walk_50 ?_
    refine x_getN (pc := 53) C inlX8 2 rfl rfl 2 (by decide) nn5 (v := .int (gI st0 3)) rfl dX9_walk_53 ?_
    obtain ⟨z_3, hz_3, h⟩ := kB h
    refine x_callV (pc := 56) C 3 [.int x1, .int (gI st0 3)] rfl rfl (mX3_placeOf_3 G a st0 x1 (gI st0 3) hz_3) yvX3_placeOf q14_20 ⟨Nat.le_of_ble_eq_true rfl, Nat.le_of_ble_eq_true rfl, rfl, rfl⟩ ⟨Nat.zero_le _, Nat.zero_le _⟩ rfl rfl (Nat.le_of_ble_eq_true rfl) rfl dX9_walk_56 ?_
    refine x_callV (pc := 59) C 2 [.int z_2, .int z_3] rfl rfl (mX8_way G a st0 z_2 z_3) yvX8_way q15_21 ⟨Nat.le_of_ble_eq_true rfl, Nat.le_of_ble_eq_true rfl, rfl, rfl⟩ ⟨Nat.zero_le _, Nat.zero_le _⟩ rfl rfl (Nat.le_of_ble_eq_true rfl) rfl dX9_walk_59 ?_
    refine x_iadd (pc := 62) C dX9_walk_62 ?_
    obtain rfl := Option.some.inj h
    exact x_iret (pc := 63) C Zd dX9_walk_63
  · have h := kIp c_1 h
    refine x_bipush (pc := 11) C (-101) dX9_walk_11 (by decide) ?_
    obtain rfl := Option.some.inj h
    exact x_iret (pc := 13) C Zd dX9_walk_13
set_option maxRecDepth 100000 in
theorem mX9_walk (G : kG) (a : Nat → Nat) (st : kS) (x1 : Int32) {z : Int32} (h : fX9_walk st x1 = some z) : kMet G yX9_walk cX9_walk 3 (some .int) rmfX9_walk (0, 0) [.ref (a 0), .int x1] (wX G a st) (some (.int z)) (wX G a st) := kMet.mk (by decide +kernel) (Nat.le_of_ble_eq_true rfl) (fun E C Zd => wX9_walk  C Zd  x1 h)
theorem yvX8_around : kYV yX8_around RX8 cX8_around 2 (some .int) 1 := ⟨q13_4, q13_5, q1_13, q13_6, by decide +kernel⟩
abbrev rmfX8_around : Room := { frames := 1, cells := 0, slots := 0, locals := 22 }
def fX8_around (st : kS) (x1 : Int32) : Int32 := if (gI st 3) ≤ 0 then (0) else ((kfm x1 (gI st 3)))
set_option maxRecDepth 100000 in
set_option maxHeartbeats 4000000 in
theorem wX8_around {G : kG} {E : kE} {a : Nat → Nat} {st0 : kS} (C : kOk G E cX8_around RX8 2 rmfX8_around) {z : Int32} (Zd : kEnd G E (0, 0) (some .int) (some (.int z)) (wX G a st0)) (x1 : Int32) (h : fX8_around st0 x1 = z) : kX G E (0, 0) (wX G a st0) 0 [(0, .ref (a 2)), (1, .int x1)] [] := by
  unfold fX8_around at h
  refine x_aload_n (pc := 0) C 0 dX8_around_0 rfl rfl ?_
  refine x_get (pc := 1) C inlX8 2 rfl rfl 2 (by decide) q8_23 (v := .int (gI st0 3)) rfl dX8_around_1 ?_
  refine x_if_le (pc := 4) C 18 dX8_around_4 (by decide) (fun c_1 => ?_) (fun c_1 => ?_)
  · have h := kIp c_1 h
    refine x_iconst (pc := 18) C 0 dX8_around_18 (by decide) ?_
    subst h
    exact x_iret (pc := 19) C Zd dX8_around_19
  · have h := kIn c_1 h
    refine x_iload_n (pc := 7) C 1 dX8_around_7 rfl rfl ?_
    refine x_aload_n (pc := 8) C 0 dX8_around_8 rfl rfl ?_
    refine x_get (pc := 9) C inlX8 2 rfl rfl 2 (by decide) q8_23 (v := .int (gI st0 3)) rfl dX8_around_9 ?_
    refine x_callS (pc := 12) C [.int x1, .int (gI st0 3)] (mJ9_floorMod_7cf53 G x1 (gI st0 3) (k_nle0 c_1)) ysJ9_floorMod_7cf53 q13_7 ⟨Nat.le_of_ble_eq_true rfl, Nat.le_of_ble_eq_true rfl, rfl, rfl⟩ ⟨Nat.zero_le _, Nat.zero_le _⟩ rfl rfl (Nat.le_of_ble_eq_true rfl) rfl dX8_around_12 ?_
    refine x_goto (pc := 15) C 19 dX8_around_15 (by decide) ?_
    subst h
    exact x_iret (pc := 19) C Zd dX8_around_19
set_option maxRecDepth 100000 in
theorem mX8_around (G : kG) (a : Nat → Nat) (st : kS) (x1 : Int32) : kMet G yX8_around cX8_around 2 (some .int) rmfX8_around (0, 0) [.ref (a 2), .int x1] (wX G a st) (some (.int (fX8_around st x1))) (wX G a st) := kMet.mk (by decide +kernel) (Nat.le_of_ble_eq_true rfl) (fun E C Zd => wX8_around  C Zd  x1 rfl)
theorem yvX3_remember : kYV yX3_remember RX3 cX3_remember 2 none 0 := ⟨q13_16, q13_17, q2_1, q13_18, by decide +kernel⟩
abbrev rmfX3_remember_3 : Room := { frames := 1, cells := 0, slots := 0, locals := 22 }
def fX3_remember_3_L2_B (K : Int32 → kS → Option (kS)) (Gc : Int32 → kS → Option (kS)) (st : kS) (v1 : Int32) : Option (kS) := if 6 ≤ v1 then (K v1 st) else (Gc (v1 + 1) (sA st 14 (kp 6 (gA st 14) v1 (kg 6 (gA st 13) v1))))
set_option maxRecDepth 100000 in
set_option maxHeartbeats 4000000 in
theorem wX3_remember_3_L2_B {G : kG} {E : kE} {a : Nat → Nat} (C : kOk G E cX3_remember RX3 2 rmfX3_remember_3) {z : kS} (Zd : kEnd G E (0, 0) none none (wX G a z)) {K Gc : Int32 → kS → Option (kS)} (st : kS) (v1 : Int32) (hK : ∀ (u1 : Int32) (su : kS), K u1 su = some z → kX G E (0, 0) (wX G a su) 30 [(0, .ref (a 3))] []) (hG : ∀ (u1 : Int32) (su : kS), Gc u1 su = some z → kX G E (0, 0) (wX G a su) 2 [(0, .ref (a 3)), (1, .int u1)] []) (h : fX3_remember_3_L2_B K Gc st v1 = some z) : kX G E (0, 0) (wX G a st) 2 [(0, .ref (a 3)), (1, .int v1)] [] := by
  unfold fX3_remember_3_L2_B at h
  refine x_iload_n (pc := 2) C 1 dX3_remember_2 rfl rfl ?_
  refine x_bipush (pc := 3) C 6 dX3_remember_3 (by decide) ?_
  refine x_icmp_ge (pc := 5) C 30 dX3_remember_5 (by decide) (fun c_1 => ?_) (fun c_1 => ?_)
  · have h := kIp c_1 h
    refine kX.pick [0] (lv' := [(0, .ref (a 3))]) rfl ?_
    exact hK v1 st h
  · have h := kIn c_1 h
    refine x_aload_n (pc := 8) C 0 dX3_remember_8 rfl rfl ?_
    refine x_get (pc := 9) C inlX3 3 rfl rfl 1 (by decide) q3_14 (v := .ref (a 14)) rfl dX3_remember_9 ?_
    refine x_iload_n (pc := 12) C 1 dX3_remember_12 rfl rfl ?_
    refine x_aload_n (pc := 13) C 0 dX3_remember_13 rfl rfl ?_
    refine x_get (pc := 14) C inlX3 3 rfl rfl 0 (by decide) q3_13 (v := .ref (a 13)) rfl dX3_remember_14 ?_
    refine x_iload_n (pc := 17) C 1 dX3_remember_17 rfl rfl ?_
    refine x_callS (pc := 18) C [.ref (a 13), .int v1] (mX0_get G (N := 6) (f := (gA st 13)) 13 (lwX_A13 G a rfl) (by decide) v1) ysX0_get q13_19 ⟨Nat.le_of_ble_eq_true rfl, Nat.le_of_ble_eq_true rfl, rfl, rfl⟩ ⟨Nat.zero_le _, Nat.zero_le _⟩ rfl rfl (Nat.le_of_ble_eq_true rfl) rfl dX3_remember_18 ?_
    refine x_callS (pc := 21) C [.ref (a 14), .int v1, .int (kg 6 (gA st 13) v1)] (mX0_put G (N := 6) (f := (gA st 14)) 14 (lwX_A14 G a rfl) (by decide) v1 (kg 6 (gA st 13) v1) (swX_A14 G a _ _)) ysX0_put q10_17 ⟨Nat.le_of_ble_eq_true rfl, Nat.le_of_ble_eq_true rfl, rfl, rfl⟩ ⟨Nat.zero_le _, Nat.zero_le _⟩ rfl rfl (Nat.le_of_ble_eq_true rfl) rfl dX3_remember_21 ?_
    refine x_iinc (pc := 24) C 1 (v := v1 + 1) (lv' := [(1, .int (v1 + 1)), (0, .ref (a 3))]) dX3_remember_24 rfl rfl (by decide) rfl ?_
    refine x_goto (pc := 27) C 2 dX3_remember_27 (by decide) ?_
    refine kX.pick [1, 0] (lv' := [(0, .ref (a 3)), (1, .int (v1 + 1))]) rfl ?_
    exact hG (v1 + 1) (sA st 14 (kp 6 (gA st 14) v1 (kg 6 (gA st 13) v1))) h
def fX3_remember_3_L2 (K : Int32 → kS → Option (kS)) : Nat → Int32 → kS → Option (kS)
  | 0, _, _ => none
  | F + 1, v1, st => fX3_remember_3_L2_B K (fX3_remember_3_L2 K F) st v1
set_option maxRecDepth 100000 in
set_option maxHeartbeats 4000000 in
theorem wX3_remember_3_L2 {G : kG} {E : kE} {a : Nat → Nat} (C : kOk G E cX3_remember RX3 2 rmfX3_remember_3) {z : kS} (Zd : kEnd G E (0, 0) none none (wX G a z)) {K : Int32 → kS → Option (kS)} (hK : ∀ (u1 : Int32) (su : kS), K u1 su = some z → kX G E (0, 0) (wX G a su) 30 [(0, .ref (a 3))] []) : ∀ (F : Nat) (v1 : Int32) (st : kS), fX3_remember_3_L2 K F v1 st = some z → kX G E (0, 0) (wX G a st) 2 [(0, .ref (a 3)), (1, .int v1)] [] := by
  intro F
  induction F with
  | zero =>
    intro v1 st h
    exact absurd (show none = some z from h) (fun q => by cases q)
  | succ F ih =>
    intro v1 st h
    exact wX3_remember_3_L2_B  C Zd  st v1 hK (fun v1 st h => ih v1 st h) h
def fX3_remember_3 (st : kS) : Option (kS) := fX3_remember_3_L2 (fun v1_2 st_3 => some (sI st_3 7 ((gI st_3 7) + 1))) kFU 0 st
set_option maxRecDepth 100000 in
set_option maxHeartbeats 4000000 in
theorem wX3_remember_3 {G : kG} {E : kE} {a : Nat → Nat} (C : kOk G E cX3_remember RX3 2 rmfX3_remember_3) {z : kS} (Zd : kEnd G E (0, 0) none none (wX G a z)) (st : kS) (h : fX3_remember_3 st = some z) : kX G E (0, 0) (wX G a st) 0 [(0, .ref (a 3))] [] := by
  unfold fX3_remember_3 at h
  refine x_iconst (pc := 0) C 0 dX3_remember_0 (by decide) ?_
  refine x_istore_n (pc := 1) C (lv' := [(1, .int 0), (0, .ref (a 3))]) dX3_remember_1 rfl (by decide) rfl ?_
  refine kX.pick [1, 0] (lv' := [(0, .ref (a 3)), (1, .int 0)]) rfl ?_
  refine wX3_remember_3_L2  C Zd   (fun v1_2 st_3 h => ?_) kFU 0 st h
  refine x_aload_n (pc := 30) C 0 dX3_remember_30 rfl rfl ?_
  refine x_dup (pc := 31) C dX3_remember_31 rfl ?_
  refine x_get (pc := 32) C inlX3 3 rfl rfl 3 (by decide) q10_16 (v := .int (gI st_3 7)) rfl dX3_remember_32 ?_
  refine x_iconst (pc := 35) C 1 dX3_remember_35 (by decide) ?_
  refine x_iadd (pc := 36) C dX3_remember_36 ?_
  refine x_put (pc := 37) C inlX3 tyX3 tyX3_ok nmX3 3 rfl rfl 3 (by decide) q10_16 rfl .int (v := .int ((gI st_3 7) + 1)) (by decide +kernel) rfl rfl (Nat.le_of_ble_eq_true rfl) (swX_I7 G a _ _) dX3_remember_37 ?_
  obtain rfl := Option.some.inj h
  exact x_vret (pc := 40) C Zd dX3_remember_40
set_option maxRecDepth 100000 in
theorem mX3_remember_3 (G : kG) (a : Nat → Nat) (st : kS)  {z : kS} (h : fX3_remember_3 st = some z) : kMet G yX3_remember cX3_remember 2 none rmfX3_remember_3 (0, 0) [.ref (a 3)] (wX G a st) none (wX G a z) := kMet.mk (by decide +kernel) (Nat.le_of_ble_eq_true rfl) (fun E C Zd => wX3_remember_3  C Zd  st  h)
theorem yvX8_barred : kYV yX8_barred RX8 cX8_barred 2 (some .boolean) 1 := ⟨q13_21, q13_22, q1_13, q13_23, by decide +kernel⟩
abbrev rmfX8_barred : Room := { frames := 0, cells := 0, slots := 0, locals := 0 }
def fX8_barred (st : kS) (x1 : Int32) : Int32 := if ((kushr (gI st 5) x1) &&& 1) = 0 then (0) else (1)
set_option maxRecDepth 100000 in
set_option maxHeartbeats 4000000 in
theorem wX8_barred {G : kG} {E : kE} {a : Nat → Nat} {st0 : kS} (C : kOk G E cX8_barred RX8 2 rmfX8_barred) {z : Int32} (Zd : kEnd G E (0, 0) (some .boolean) (some (.int z)) (wX G a st0)) (x1 : Int32) (h : fX8_barred st0 x1 = z) : kX G E (0, 0) (wX G a st0) 0 [(0, .ref (a 2)), (1, .int x1)] [] := by
  unfold fX8_barred at h
  refine x_aload_n (pc := 0) C 0 dX8_barred_0 rfl rfl ?_
  refine x_get (pc := 1) C inlX8 2 rfl rfl 4 (by decide) q9_9 (v := .int (gI st0 5)) rfl dX8_barred_1 ?_
  refine x_iload_n (pc := 4) C 1 dX8_barred_4 rfl rfl ?_
  refine y_iushr (pc := 5) C dX8_barred_5 ?_
  refine x_iconst (pc := 6) C 1 dX8_barred_6 (by decide) ?_
  refine x_iand (pc := 7) C dX8_barred_7 ?_
  refine x_if_eq (pc := 8) C 15 dX8_barred_8 (by decide) (fun c_1 => ?_) (fun c_1 => ?_)
  · have h := kIp c_1 h
    refine x_iconst (pc := 15) C 0 dX8_barred_15 (by decide) ?_
    subst h
    exact x_zret (pc := 16) C rfl Zd dX8_barred_16
  · have h := kIn c_1 h
    refine x_iconst (pc := 11) C 1 dX8_barred_11 (by decide) ?_
    refine x_goto (pc := 12) C 16 dX8_barred_12 (by decide) ?_
    subst h
    exact x_zret (pc := 16) C rfl Zd dX8_barred_16
set_option maxRecDepth 100000 in
theorem mX8_barred (G : kG) (a : Nat → Nat) (st : kS) (x1 : Int32) : kMet G yX8_barred cX8_barred 2 (some .boolean) rmfX8_barred (0, 0) [.ref (a 2), .int x1] (wX G a st) (some (.int (fX8_barred st x1))) (wX G a st) := kMet.mk (by decide +kernel) (Nat.le_of_ble_eq_true rfl) (fun E C Zd => wX8_barred  C Zd  x1 rfl)
theorem yvX3_change : kYV yX3_change RX3 cX3_change 4 none 2 := ⟨q14_2, q14_3, q2_1, q14_4, by decide +kernel⟩
abbrev rmfX3_change_3 : Room := { frames := 2, cells := 0, slots := 0, locals := 42 }
def fX3_change_3 (st : kS) (x1 : Int32) (x2 : Int32) : kS := (sA (sA st 13 (kp 6 (gA st 13) x1 (fX3_houseIn_3 st x2))) 13 (kp 6 (kp 6 (gA st 13) x1 (fX3_houseIn_3 st x2)) x2 (fX3_houseIn_3 st x1)))
set_option maxRecDepth 100000 in
set_option maxHeartbeats 4000000 in
theorem wX3_change_3 {G : kG} {E : kE} {a : Nat → Nat} (C : kOk G E cX3_change RX3 4 rmfX3_change_3) {z : kS} (Zd : kEnd G E (0, 0) none none (wX G a z)) (st : kS) (x1 : Int32) (x2 : Int32) (h : fX3_change_3 st x1 x2 = z) : kX G E (0, 0) (wX G a st) 0 [(0, .ref (a 3)), (1, .int x1), (2, .int x2)] [] := by
  unfold fX3_change_3 at h
  refine x_aload_n (pc := 0) C 0 dX3_change_0 rfl rfl ?_
  refine x_iload_n (pc := 1) C 1 dX3_change_1 rfl rfl ?_
  refine x_callV (pc := 2) C 3 [.int x1] rfl rfl (mX3_houseIn_3 G a st x1) yvX3_houseIn q14_5 ⟨Nat.le_of_ble_eq_true rfl, Nat.le_of_ble_eq_true rfl, rfl, rfl⟩ ⟨Nat.zero_le _, Nat.zero_le _⟩ rfl rfl (Nat.le_of_ble_eq_true rfl) rfl dX3_change_2 ?_
  refine x_istore_n (pc := 5) C (lv' := [(3, .int (fX3_houseIn_3 st x1)), (0, .ref (a 3)), (1, .int x1), (2, .int x2)]) dX3_change_5 rfl (by decide) rfl ?_
  refine x_aload_n (pc := 6) C 1 dX3_change_6 rfl rfl ?_
  refine x_get (pc := 7) C inlX3 3 rfl rfl 0 (by decide) q3_13 (v := .ref (a 13)) rfl dX3_change_7 ?_
  refine x_iload_n (pc := 10) C 2 dX3_change_10 rfl rfl ?_
  refine x_aload_n (pc := 11) C 1 dX3_change_11 rfl rfl ?_
  refine x_iload_n (pc := 12) C 3 dX3_change_12 rfl rfl ?_
  refine x_callV (pc := 13) C 3 [.int x2] rfl rfl (mX3_houseIn_3 G a st x2) yvX3_houseIn q14_5 ⟨Nat.le_of_ble_eq_true rfl, Nat.le_of_ble_eq_true rfl, rfl, rfl⟩ ⟨Nat.zero_le _, Nat.zero_le _⟩ rfl rfl (Nat.le_of_ble_eq_true rfl) rfl dX3_change_13 ?_
  refine x_callS (pc := 16) C [.ref (a 13), .int x1, .int (fX3_houseIn_3 st x2)] (mX0_put G (N := 6) (f := (gA st 13)) 13 (lwX_A13 G a rfl) (by decide) x1 (fX3_houseIn_3 st x2) (swX_A13 G a _ _)) ysX0_put q10_17 ⟨Nat.le_of_ble_eq_true rfl, Nat.le_of_ble_eq_true rfl, rfl, rfl⟩ ⟨Nat.zero_le _, Nat.zero_le _⟩ rfl rfl (Nat.le_of_ble_eq_true rfl) rfl dX3_change_16 ?_
  refine x_aload_n (pc := 19) C 1 dX3_change_19 rfl rfl ?_
  refine x_get (pc := 20) C inlX3 3 rfl rfl 0 (by decide) q3_13 (v := .ref (a 13)) rfl dX3_change_20 ?_
  refine x_iload_n (pc := 23) C 3 dX3_change_23 rfl rfl ?_
  refine x_iload_n (pc := 24) C 0 dX3_change_24 rfl rfl ?_
  refine x_callS (pc := 25) C [.ref (a 13), .int x2, .int (fX3_houseIn_3 st x1)] (mX0_put G (N := 6) (f := (kp 6 (gA st 13) x1 (fX3_houseIn_3 st x2))) 13 (lwX_A13 G a (gA_e _ _ _)) (by decide) x2 (fX3_houseIn_3 st x1) (swX_A13 G a _ _)) ysX0_put q10_17 ⟨Nat.le_of_ble_eq_true rfl, Nat.le_of_ble_eq_true rfl, rfl, rfl⟩ ⟨Nat.zero_le _, Nat.zero_le _⟩ rfl rfl (Nat.le_of_ble_eq_true rfl) rfl dX3_change_25 ?_
  subst h
  exact x_vret (pc := 28) C Zd dX3_change_28
set_option maxRecDepth 100000 in
theorem mX3_change_3 (G : kG) (a : Nat → Nat) (st : kS) (x1 : Int32) (x2 : Int32) : kMet G yX3_change cX3_change 4 none rmfX3_change_3 (0, 0) [.ref (a 3), .int x1, .int x2] (wX G a st) none (wX G a (fX3_change_3 st x1 x2)) := kMet.mk (by decide +kernel) (Nat.le_of_ble_eq_true rfl) (fun E C Zd => wX3_change_3  C Zd  st x1 x2 rfl)
theorem yvX9_midnight : kYV yX9_midnight RX9 cX9_midnight 2 (some .boolean) 1 := ⟨q13_12, q13_13, q1_2, q13_14, by decide +kernel⟩
abbrev rmfX9_midnight : Room := { frames := 3, cells := 0, slots := 0, locals := 65 }
def fX9_midnight (st : kS) (x1 : Int32) : Option (Int32 × kS) := (fX3_remember_3 st).bind (fun z_1 => if (fX8_barred z_1 x1) = 0 then (some (1, (fX3_change_3 z_1 x1 (fX8_next z_1 x1)))) else (some (0, z_1)))
set_option maxRecDepth 100000 in
set_option maxHeartbeats 4000000 in
theorem wX9_midnight {G : kG} {E : kE} {a : Nat → Nat} (C : kOk G E cX9_midnight RX9 2 rmfX9_midnight) {z : Int32 × kS} (Zd : kEnd G E (0, 0) (some .boolean) (some (.int z.1)) (wX G a z.2)) (st : kS) (x1 : Int32) (h : fX9_midnight st x1 = some z) : kX G E (0, 0) (wX G a st) 0 [(0, .ref (a 0)), (1, .int x1)] [] := by
  unfold fX9_midnight at h
  refine x_aload_n (pc := 0) C 0 dX9_midnight_0 rfl rfl ?_
  refine x_get (pc := 1) C inlX9 0 rfl rfl 2 (by decide) q2_2 (v := .ref (a 3)) rfl dX9_midnight_1 ?_
  obtain ⟨z_1, hz_1, h⟩ := kB h
  refine x_callV (pc := 4) C 3 [] rfl rfl (mX3_remember_3 G a st hz_1) yvX3_remember q13_15 ⟨Nat.le_of_ble_eq_true rfl, Nat.le_of_ble_eq_true rfl, rfl, rfl⟩ ⟨Nat.zero_le _, Nat.zero_le _⟩ rfl rfl (Nat.le_of_ble_eq_true rfl) rfl dX9_midnight_4 ?_
  refine x_aload_n (pc := 7) C 0 dX9_midnight_7 rfl rfl ?_
  refine x_get (pc := 8) C inlX9 0 rfl rfl 1 (by decide) q1_21 (v := .ref (a 2)) rfl dX9_midnight_8 ?_
  refine x_iload_n (pc := 11) C 1 dX9_midnight_11 rfl rfl ?_
  refine x_callV (pc := 12) C 2 [.int x1] rfl rfl (mX8_barred G a z_1 x1) yvX8_barred q13_20 ⟨Nat.le_of_ble_eq_true rfl, Nat.le_of_ble_eq_true rfl, rfl, rfl⟩ ⟨Nat.zero_le _, Nat.zero_le _⟩ rfl rfl (Nat.le_of_ble_eq_true rfl) rfl dX9_midnight_12 ?_
  refine x_if_eq (pc := 15) C 20 dX9_midnight_15 (by decide) (fun c_2 => ?_) (fun c_2 => ?_)
  · have h := kIp c_2 h
    refine x_aload_n (pc := 20) C 0 dX9_midnight_20 rfl rfl ?_
    refine x_get (pc := 21) C inlX9 0 rfl rfl 2 (by decide) q2_2 (v := .ref (a 3)) rfl dX9_midnight_21 ?_
    refine x_iload_n (pc := 24) C 1 dX9_midnight_24 rfl rfl ?_
    refine x_aload_n (pc := 25) C 0 dX9_midnight_25 rfl rfl ?_
    refine x_get (pc := 26) C inlX9 0 rfl rfl 1 (by decide) q1_21 (v := .ref (a 2)) rfl dX9_midnight_26 ?_
    refine x_iload_n (pc := 29) C 1 dX9_midnight_29 rfl rfl ?_
    refine x_callV (pc := 30) C 2 [.int x1] rfl rfl (mX8_next G a z_1 x1) yvX8_next q14_0 ⟨Nat.le_of_ble_eq_true rfl, Nat.le_of_ble_eq_true rfl, rfl, rfl⟩ ⟨Nat.zero_le _, Nat.zero_le _⟩ rfl rfl (Nat.le_of_ble_eq_true rfl) rfl dX9_midnight_30 ?_
    refine x_callV (pc := 33) C 3 [.int x1, .int (fX8_next z_1 x1)] rfl rfl (mX3_change_3 G a z_1 x1 (fX8_next z_1 x1)) yvX3_change q14_1 ⟨Nat.le_of_ble_eq_true rfl, Nat.le_of_ble_eq_true rfl, rfl, rfl⟩ ⟨Nat.zero_le _, Nat.zero_le _⟩ rfl rfl (Nat.le_of_ble_eq_true rfl) rfl dX9_midnight_33 ?_
    refine x_iconst (pc := 36) C 1 dX9_midnight_36 (by decide) ?_
    obtain rfl := Option.some.inj h
    exact x_zret (pc := 37) C rfl Zd dX9_midnight_37
  · have h := kIn c_2 h
    refine x_iconst (pc := 18) C 0 dX9_midnight_18 (by decide) ?_
    obtain rfl := Option.some.inj h
    exact x_zret (pc := 19) C rfl Zd dX9_midnight_19
set_option maxRecDepth 100000 in
theorem mX9_midnight (G : kG) (a : Nat → Nat) (st : kS) (x1 : Int32) {z : Int32 × kS} (h : fX9_midnight st x1 = some z) : kMet G yX9_midnight cX9_midnight 2 (some .boolean) rmfX9_midnight (0, 0) [.ref (a 0), .int x1] (wX G a st) (some (.int z.1)) (wX G a z.2) := kMet.mk (by decide +kernel) (Nat.le_of_ble_eq_true rfl) (fun E C Zd => wX9_midnight  C Zd  st x1 h)
theorem yvX9_night : kYV yX9_night RX9 cX9_night 3 (some .int) 2 := ⟨q13_0, q13_1, q1_2, q13_2, by decide +kernel⟩
abbrev rmfX9_night : Room := { frames := 4, cells := 0, slots := 0, locals := 86 }
def fX9_night (st : kS) (x1 : Int32) (x2 : Int32) : Option (Int32 × kS) := if (fX8_has st x1) = 0 then (some ((-101), st)) else (if x2 < (-1) then (some ((-102), st)) else (if x2 ≤ 1 then ((fX9_midnight st (fX8_around st (x1 + x2))).bind (fun z_4 => if z_4.1 = 0 then (some (0, z_4.2)) else (some (1, z_4.2)))) else (some ((-102), st))))
set_option maxRecDepth 100000 in
set_option maxHeartbeats 4000000 in
theorem wX9_night {G : kG} {E : kE} {a : Nat → Nat} (C : kOk G E cX9_night RX9 3 rmfX9_night) {z : Int32 × kS} (Zd : kEnd G E (0, 0) (some .int) (some (.int z.1)) (wX G a z.2)) (st : kS) (x1 : Int32) (x2 : Int32) (h : fX9_night st x1 x2 = some z) : kX G E (0, 0) (wX G a st) 0 [(0, .ref (a 0)), (1, .int x1), (2, .int x2)] [] := by
  unfold fX9_night at h
  refine x_aload_n (pc := 0) C 0 dX9_night_0 rfl rfl ?_
  refine x_get (pc := 1) C inlX9 0 rfl rfl 1 (by decide) q1_21 (v := .ref (a 2)) rfl dX9_night_1 ?_
  refine x_iload_n (pc := 4) C 1 dX9_night_4 rfl rfl ?_
  refine x_callV (pc := 5) C 2 [.int x1] rfl rfl (mX8_has G a st x1) yvX8_has q12_7 ⟨Nat.le_of_ble_eq_true rfl, Nat.le_of_ble_eq_true rfl, rfl, rfl⟩ ⟨Nat.zero_le _, Nat.zero_le _⟩ rfl rfl (Nat.le_of_ble_eq_true rfl) rfl dX9_night_5 ?_
  refine x_if_ne (pc := 8) C 14 dX9_night_8 (by decide) (fun c_1 => ?_) (fun c_1 => ?_)
  · have h := kIn c_1 h
    refine x_iload_n (pc := 14) C 2 dX9_night_14 rfl rfl ?_
    refine x_iconst (pc := 15) C (-1) dX9_night_15 (by decide) ?_
    refine x_icmp_lt (pc := 16) C 24 dX9_night_16 (by decide) (fun c_2 => ?_) (fun c_2 => ?_)
    · have h := kIp c_2 h
      refine x_bipush (pc := 24) C (-102) dX9_night_24 (by decide) ?_
      obtain rfl := Option.some.inj h
      exact x_iret (pc := 26) C Zd dX9_night_26
    · have h := kIn c_2 h
      refine x_iload_n (pc := 19) C 2 dX9_night_19 rfl rfl ?_
      refine x_iconst (pc := 20) C 1 dX9_night_20 (by decide) ?_
      refine x_icmp_le (pc := 21) C 27 dX9_night_21 (by decide) (fun c_3 => ?_) (fun c_3 => ?_)
      · have h := kIp c_3 h
        refine x_aload_n (pc := 27) C 0 dX9_night_27 rfl rfl ?_
        refine x_aload_n (pc := 28) C 0 dX9_night_28 rfl rfl ?_
        refine x_get (pc := 29) C inlX9 0 rfl rfl 1 (by decide) q1_21 (v := .ref (a 2)) rfl dX9_night_29 ?_
        refine x_iload_n (pc := 32) C 1 dX9_night_32 rfl rfl ?_
        refine x_iload_n (pc := 33) C 2 dX9_night_33 rfl rfl ?_
        refine x_iadd (pc := 34) C dX9_night_34 ?_
        refine x_callV (pc := 35) C 2 [.int (x1 + x2)] rfl rfl (mX8_around G a st (x1 + x2)) yvX8_around q13_3 ⟨Nat.le_of_ble_eq_true rfl, Nat.le_of_ble_eq_true rfl, rfl, rfl⟩ ⟨Nat.zero_le _, Nat.zero_le _⟩ rfl rfl (Nat.le_of_ble_eq_true rfl) rfl dX9_night_35 ?_
        obtain ⟨z_4, hz_4, h⟩ := kB h
        refine x_callV (pc := 38) C 0 [.int (fX8_around st (x1 + x2))] rfl rfl (mX9_midnight G a st (fX8_around st (x1 + x2)) hz_4) yvX9_midnight q13_11 ⟨Nat.le_of_ble_eq_true rfl, Nat.le_of_ble_eq_true rfl, rfl, rfl⟩ ⟨Nat.zero_le _, Nat.zero_le _⟩ rfl rfl (Nat.le_of_ble_eq_true rfl) rfl dX9_night_38 ?_
        refine x_if_eq (pc := 41) C 48 dX9_night_41 (by decide) (fun c_5 => ?_) (fun c_5 => ?_)
        · have h := kIp c_5 h
          refine x_iconst (pc := 48) C 0 dX9_night_48 (by decide) ?_
          obtain rfl := Option.some.inj h
          exact x_iret (pc := 49) C Zd dX9_night_49
        · have h := kIn c_5 h
          refine x_iconst (pc := 44) C 1 dX9_night_44 (by decide) ?_
          refine x_goto (pc := 45) C 49 dX9_night_45 (by decide) ?_
          obtain rfl := Option.some.inj h
          exact x_iret (pc := 49) C Zd dX9_night_49
      · have h := kIn c_3 h
        refine x_bipush (pc := 24) C (-102) dX9_night_24 (by decide) ?_
        obtain rfl := Option.some.inj h
        exact x_iret (pc := 26) C Zd dX9_night_26
  · have h := kIp c_1 h
    refine x_bipush (pc := 11) C (-101) dX9_night_11 (by decide) ?_
    obtain rfl := Option.some.inj h
    exact x_iret (pc := 13) C Zd dX9_night_13
set_option maxRecDepth 100000 in
theorem mX9_night (G : kG) (a : Nat → Nat) (st : kS) (x1 : Int32) (x2 : Int32) {z : Int32 × kS} (h : fX9_night st x1 x2 = some z) : kMet G yX9_night cX9_night 3 (some .int) rmfX9_night (0, 0) [.ref (a 0), .int x1, .int x2] (wX G a st) (some (.int z.1)) (wX G a z.2) := kMet.mk (by decide +kernel) (Nat.le_of_ble_eq_true rfl) (fun E C Zd => wX9_night  C Zd  st x1 x2 h)
theorem yvX4_after : kYV yX4_after RX4 cX4_after 3 (some .int) 2 := ⟨q19_22, q19_23, q1_16, q20_0, by decide +kernel⟩
abbrev rmfX4_after : Room := { frames := 1, cells := 0, slots := 0, locals := 21 }
def fX4_after (st : kS) (x1 : Int32) (x2 : Int32) : Int32 := (kg 4320 (gA st 17) ((x1 * 6) + x2))
set_option maxRecDepth 100000 in
set_option maxHeartbeats 4000000 in
theorem wX4_after {G : kG} {E : kE} {a : Nat → Nat} {st0 : kS} (C : kOk G E cX4_after RX4 3 rmfX4_after) {z : Int32} (Zd : kEnd G E (0, 0) (some .int) (some (.int z)) (wX G a st0)) (x1 : Int32) (x2 : Int32) (h : fX4_after st0 x1 x2 = z) : kX G E (0, 0) (wX G a st0) 0 [(0, .ref (a 5)), (1, .int x1), (2, .int x2)] [] := by
  unfold fX4_after at h
  refine x_aload_n (pc := 0) C 0 dX4_after_0 rfl rfl ?_
  refine x_get (pc := 1) C inlX4 5 rfl rfl 0 (by decide) q3_4 (v := .ref (a 17)) rfl dX4_after_1 ?_
  refine x_iload_n (pc := 4) C 1 dX4_after_4 rfl rfl ?_
  refine x_bipush (pc := 5) C 6 dX4_after_5 (by decide) ?_
  refine x_imul (pc := 7) C dX4_after_7 ?_
  refine x_iload_n (pc := 8) C 2 dX4_after_8 rfl rfl ?_
  refine x_iadd (pc := 9) C dX4_after_9 ?_
  refine x_callS (pc := 10) C [.ref (a 17), .int ((x1 * 6) + x2)] (mX0_get G (N := 4320) (f := (gA st0 17)) 17 (lwX_A17 G a rfl) (by decide) ((x1 * 6) + x2)) ysX0_get q11_5 ⟨Nat.le_of_ble_eq_true rfl, Nat.le_of_ble_eq_true rfl, rfl, rfl⟩ ⟨Nat.zero_le _, Nat.zero_le _⟩ rfl rfl (Nat.le_of_ble_eq_true rfl) rfl dX4_after_10 ?_
  subst h
  exact x_iret (pc := 13) C Zd dX4_after_13
set_option maxRecDepth 100000 in
theorem mX4_after (G : kG) (a : Nat → Nat) (st : kS) (x1 : Int32) (x2 : Int32) : kMet G yX4_after cX4_after 3 (some .int) rmfX4_after (0, 0) [.ref (a 5), .int x1, .int x2] (wX G a st) (some (.int (fX4_after st x1 x2))) (wX G a st) := kMet.mk (by decide +kernel) (Nat.le_of_ble_eq_true rfl) (fun E C Zd => wX4_after  C Zd  x1 x2 rfl)
theorem yvX2_lookAhead : kYV yX2_lookAhead RX2 cX2_lookAhead 5 none 2 := ⟨q21_15, q21_16, q2_6, q21_17, by decide +kernel⟩
abbrev rmfX2_lookAhead : Room := { frames := 2, cells := 0, slots := 0, locals := 43 }
def fX2_lookAhead_J37 (K : Int32 → kS → Option (kS)) (Gc : Int32 → kS → Option (kS)) (st : kS) (v1 : Int32) (v2 : Int32) (v3 : Int32) (s0 : Int32) : Option (kS) := Gc (v3 + 1) (sA st 20 (kp 6 (gA st 20) v3 (kg 3600 (gA st 19) (((v2 - 1) * 720) + s0))))
set_option maxRecDepth 100000 in
set_option maxHeartbeats 4000000 in
theorem wX2_lookAhead_J37 {G : kG} {E : kE} {a : Nat → Nat} (C : kOk G E cX2_lookAhead RX2 5 rmfX2_lookAhead) {z : kS} (Zd : kEnd G E (0, 0) none none (wX G a z)) {K Gc : Int32 → kS → Option (kS)} (st : kS) (v1 : Int32) (v2 : Int32) (v3 : Int32) (s0 : Int32) (hK : ∀ (u3 : Int32) (su : kS), K u3 su = some z → kX G E (0, 0) (wX G a su) 70 [] []) (hG : ∀ (u3 : Int32) (su : kS), Gc u3 su = some z → kX G E (0, 0) (wX G a su) 2 [(0, .ref (a 6)), (1, .int v1), (2, .int v2), (3, .int u3)] []) (h : fX2_lookAhead_J37 K Gc st v1 v2 v3 s0 = some z) : kX G E (0, 0) (wX G a st) 37 [(0, .ref (a 6)), (1, .int v1), (2, .int v2), (3, .int v3)] [.int s0] := by
  unfold fX2_lookAhead_J37 at h
  refine x_istore (pc := 37) C (lv' := [(4, .int s0), (0, .ref (a 6)), (1, .int v1), (2, .int v2), (3, .int v3)]) dX2_lookAhead_37 (by decide) rfl ?_
  refine x_aload_n (pc := 39) C 1 dX2_lookAhead_39 rfl rfl ?_
  refine x_get (pc := 40) C inlX2 6 rfl rfl 3 (by decide) q3_21 (v := .ref (a 20)) rfl dX2_lookAhead_40 ?_
  refine x_iload_n (pc := 43) C 4 dX2_lookAhead_43 rfl rfl ?_
  refine x_aload_n (pc := 44) C 1 dX2_lookAhead_44 rfl rfl ?_
  refine x_get (pc := 45) C inlX2 6 rfl rfl 2 (by decide) q3_20 (v := .ref (a 19)) rfl dX2_lookAhead_45 ?_
  refine x_iload_n (pc := 48) C 3 dX2_lookAhead_48 rfl rfl ?_
  refine x_iconst (pc := 49) C 1 dX2_lookAhead_49 (by decide) ?_
  refine x_isub (pc := 50) C dX2_lookAhead_50 ?_
  refine x_sipush (pc := 51) C 720 dX2_lookAhead_51 (by decide) ?_
  refine x_imul (pc := 54) C dX2_lookAhead_54 ?_
  refine x_iload (pc := 55) C 0 dX2_lookAhead_55 rfl ?_
  refine x_iadd (pc := 57) C dX2_lookAhead_57 ?_
  refine x_callS (pc := 58) C [.ref (a 19), .int (((v2 - 1) * 720) + s0)] (mX0_get G (N := 3600) (f := (gA st 19)) 19 (lwX_A19 G a rfl) (by decide) (((v2 - 1) * 720) + s0)) ysX0_get q21_13 ⟨Nat.le_of_ble_eq_true rfl, Nat.le_of_ble_eq_true rfl, rfl, rfl⟩ ⟨Nat.zero_le _, Nat.zero_le _⟩ rfl rfl (Nat.le_of_ble_eq_true rfl) rfl dX2_lookAhead_58 ?_
  refine x_callS (pc := 61) C [.ref (a 20), .int v3, .int (kg 3600 (gA st 19) (((v2 - 1) * 720) + s0))] (mX0_put G (N := 6) (f := (gA st 20)) 20 (lwX_A20 G a rfl) (by decide) v3 (kg 3600 (gA st 19) (((v2 - 1) * 720) + s0)) (swX_A20 G a _ _)) ysX0_put q21_20 ⟨Nat.le_of_ble_eq_true rfl, Nat.le_of_ble_eq_true rfl, rfl, rfl⟩ ⟨Nat.zero_le _, Nat.zero_le _⟩ rfl rfl (Nat.le_of_ble_eq_true rfl) rfl dX2_lookAhead_61 ?_
  refine x_iinc (pc := 64) C 4 (v := v3 + 1) (lv' := [(3, .int (v3 + 1)), (4, .int s0), (0, .ref (a 6)), (1, .int v1), (2, .int v2)]) dX2_lookAhead_64 rfl rfl (by decide) rfl ?_
  refine x_goto (pc := 67) C 2 dX2_lookAhead_67 (by decide) ?_
  refine kX.pick [2, 3, 4, 0] (lv' := [(0, .ref (a 6)), (1, .int v1), (2, .int v2), (3, .int (v3 + 1))]) rfl ?_
  exact hG (v3 + 1) (sA st 20 (kp 6 (gA st 20) v3 (kg 3600 (gA st 19) (((v2 - 1) * 720) + s0)))) h
def fX2_lookAhead_L2_B (K : Int32 → kS → Option (kS)) (Gc : Int32 → kS → Option (kS)) (st : kS) (v1 : Int32) (v2 : Int32) (v3 : Int32) : Option (kS) := if (gI st 3) ≤ v3 then (K v3 st) else (if (fX8_barred st v3) = 0 then (fX2_lookAhead_J37 K Gc st v1 v2 v3 (fX4_after st v1 v3)) else (fX2_lookAhead_J37 K Gc st v1 v2 v3 v1))
set_option maxRecDepth 100000 in
set_option maxHeartbeats 4000000 in
theorem wX2_lookAhead_L2_B {G : kG} {E : kE} {a : Nat → Nat} (C : kOk G E cX2_lookAhead RX2 5 rmfX2_lookAhead) {z : kS} (Zd : kEnd G E (0, 0) none none (wX G a z)) {K Gc : Int32 → kS → Option (kS)} (st : kS) (v1 : Int32) (v2 : Int32) (v3 : Int32) (hK : ∀ (u3 : Int32) (su : kS), K u3 su = some z → kX G E (0, 0) (wX G a su) 70 [] []) (hG : ∀ (u3 : Int32) (su : kS), Gc u3 su = some z → kX G E (0, 0) (wX G a su) 2 [(0, .ref (a 6)), (1, .int v1), (2, .int v2), (3, .int u3)] []) (h : fX2_lookAhead_L2_B K Gc st v1 v2 v3 = some z) : kX G E (0, 0) (wX G a st) 2 [(0, .ref (a 6)), (1, .int v1), (2, .int v2), (3, .int v3)] [] := by
  unfold fX2_lookAhead_L2_B at h
  refine x_iload_n (pc := 2) C 3 dX2_lookAhead_2 rfl rfl ?_
  refine x_aload_n (pc := 3) C 0 dX2_lookAhead_3 rfl rfl ?_
  refine x_get (pc := 4) C inlX2 6 rfl rfl 0 (by decide) q3_22 (v := .ref (a 2)) rfl dX2_lookAhead_4 ?_
  refine x_getN (pc := 7) C inlX8 2 rfl rfl 2 (by decide) nn4 (v := .int (gI st 3)) rfl dX2_lookAhead_7 ?_
  refine x_icmp_ge (pc := 10) C 70 dX2_lookAhead_10 (by decide) (fun c_1 => ?_) (fun c_1 => ?_)
  · have h := kIp c_1 h
    refine kX.pick [] (lv' := []) rfl ?_
    exact hK v3 st h
  · have h := kIn c_1 h
    refine x_aload_n (pc := 13) C 0 dX2_lookAhead_13 rfl rfl ?_
    refine x_get (pc := 14) C inlX2 6 rfl rfl 0 (by decide) q3_22 (v := .ref (a 2)) rfl dX2_lookAhead_14 ?_
    refine x_iload_n (pc := 17) C 3 dX2_lookAhead_17 rfl rfl ?_
    refine x_callV (pc := 18) C 2 [.int v3] rfl rfl (mX8_barred G a st v3) yvX8_barred q21_18 ⟨Nat.le_of_ble_eq_true rfl, Nat.le_of_ble_eq_true rfl, rfl, rfl⟩ ⟨Nat.zero_le _, Nat.zero_le _⟩ rfl rfl (Nat.le_of_ble_eq_true rfl) rfl dX2_lookAhead_18 ?_
    refine x_if_eq (pc := 21) C 28 dX2_lookAhead_21 (by decide) (fun c_2 => ?_) (fun c_2 => ?_)
    · have h := kIp c_2 h
      refine x_aload_n (pc := 28) C 0 dX2_lookAhead_28 rfl rfl ?_
      refine x_get (pc := 29) C inlX2 6 rfl rfl 1 (by decide) q3_23 (v := .ref (a 5)) rfl dX2_lookAhead_29 ?_
      refine x_iload_n (pc := 32) C 1 dX2_lookAhead_32 rfl rfl ?_
      refine x_iload_n (pc := 33) C 3 dX2_lookAhead_33 rfl rfl ?_
      refine x_callV (pc := 34) C 5 [.int v1, .int v3] rfl rfl (mX4_after G a st v1 v3) yvX4_after q21_19 ⟨Nat.le_of_ble_eq_true rfl, Nat.le_of_ble_eq_true rfl, rfl, rfl⟩ ⟨Nat.zero_le _, Nat.zero_le _⟩ rfl rfl (Nat.le_of_ble_eq_true rfl) rfl dX2_lookAhead_34 ?_
      exact wX2_lookAhead_J37  C Zd  st v1 v2 v3 (fX4_after st v1 v3) hK hG h
    · have h := kIn c_2 h
      refine x_iload_n (pc := 24) C 1 dX2_lookAhead_24 rfl rfl ?_
      refine x_goto (pc := 25) C 37 dX2_lookAhead_25 (by decide) ?_
      exact wX2_lookAhead_J37  C Zd  st v1 v2 v3 v1 hK hG h
def fX2_lookAhead_L2 (K : Int32 → kS → Option (kS)) (v1 : Int32) (v2 : Int32) : Nat → Int32 → kS → Option (kS)
  | 0, _, _ => none
  | F + 1, v3, st => fX2_lookAhead_L2_B K (fX2_lookAhead_L2 K v1 v2 F) st v1 v2 v3
set_option maxRecDepth 100000 in
set_option maxHeartbeats 4000000 in
theorem wX2_lookAhead_L2 {G : kG} {E : kE} {a : Nat → Nat} (C : kOk G E cX2_lookAhead RX2 5 rmfX2_lookAhead) {z : kS} (Zd : kEnd G E (0, 0) none none (wX G a z)) {K : Int32 → kS → Option (kS)} (v1 : Int32) (v2 : Int32) (hK : ∀ (u3 : Int32) (su : kS), K u3 su = some z → kX G E (0, 0) (wX G a su) 70 [] []) : ∀ (F : Nat) (v3 : Int32) (st : kS), fX2_lookAhead_L2 K v1 v2 F v3 st = some z → kX G E (0, 0) (wX G a st) 2 [(0, .ref (a 6)), (1, .int v1), (2, .int v2), (3, .int v3)] [] := by
  intro F
  induction F with
  | zero =>
    intro v3 st h
    exact absurd (show none = some z from h) (fun q => by cases q)
  | succ F ih =>
    intro v3 st h
    exact wX2_lookAhead_L2_B  C Zd  st v1 v2 v3 hK (fun v3 st h => ih v3 st h) h
def fX2_lookAhead (st : kS) (x1 : Int32) (x2 : Int32) : Option (kS) := fX2_lookAhead_L2 (fun v3_3 st_4 => some st_4) x1 x2 kFU 0 st
set_option maxRecDepth 100000 in
set_option maxHeartbeats 4000000 in
theorem wX2_lookAhead {G : kG} {E : kE} {a : Nat → Nat} (C : kOk G E cX2_lookAhead RX2 5 rmfX2_lookAhead) {z : kS} (Zd : kEnd G E (0, 0) none none (wX G a z)) (st : kS) (x1 : Int32) (x2 : Int32) (h : fX2_lookAhead st x1 x2 = some z) : kX G E (0, 0) (wX G a st) 0 [(0, .ref (a 6)), (1, .int x1), (2, .int x2)] [] := by
  unfold fX2_lookAhead at h
  refine x_iconst (pc := 0) C 0 dX2_lookAhead_0 (by decide) ?_
  refine x_istore_n (pc := 1) C (lv' := [(3, .int 0), (0, .ref (a 6)), (1, .int x1), (2, .int x2)]) dX2_lookAhead_1 rfl (by decide) rfl ?_
  refine kX.pick [1, 2, 3, 0] (lv' := [(0, .ref (a 6)), (1, .int x1), (2, .int x2), (3, .int 0)]) rfl ?_
  refine wX2_lookAhead_L2  C Zd  x1 x2 (fun v3_3 st_4 h => ?_) kFU 0 st h
  obtain rfl := Option.some.inj h
  exact x_vret (pc := 70) C Zd dX2_lookAhead_70
set_option maxRecDepth 100000 in
theorem mX2_lookAhead (G : kG) (a : Nat → Nat) (st : kS) (x1 : Int32) (x2 : Int32) {z : kS} (h : fX2_lookAhead st x1 x2 = some z) : kMet G yX2_lookAhead cX2_lookAhead 5 none rmfX2_lookAhead (0, 0) [.ref (a 6), .int x1, .int x2] (wX G a st) none (wX G a z) := kMet.mk (by decide +kernel) (Nat.le_of_ble_eq_true rfl) (fun E C Zd => wX2_lookAhead  C Zd  st x1 x2 h)
