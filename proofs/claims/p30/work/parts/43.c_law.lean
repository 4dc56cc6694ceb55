def fL_law_L1070_B (K : Int32 → Int32 → Option (Int32 × kS)) (Gc : Int32 → Int32 → Option (Int32 × kS)) (L : Nat) (xs : Nat → Int32) (st : kS) (v4 : Int32) (v5 : Int32) (v6 : Int32) (v7 : Int32) (v8 : Int32) (v10 : Int32) (v23 : Int32) (v24 : Int32) (v25 : Int32) (v26 : Int32) (v27 : Int32) (v28 : Int32) (v29 : Int32) (v30 : Int32) (v31 : Int32) (v32 : Int32) (v33 : Int32) (v34 : Int32) (v35 : Int32) : Option (Int32 × kS) := if 2 ≤ v35 then (K v34 v35) else (if v34 = 0 then ((fL_change st v4 v30 (v33 + v35)).bind (fun z_121 => (fL_touch st v4 z_121).bind (fun z_122 => if z_122 = 0 then (Gc 1 (v35 + 1)) else (Gc 0 (v35 + 1))))) else (Gc 1 (v35 + 1)))
set_option maxRecDepth 100000 in
set_option maxHeartbeats 4000000 in
theorem wL_law_L1070_B {G : kG} {E : kE} {a : Nat → Nat} {cs : Nat × Nat} {b L : Nat} {xs : Nat → Int32} (C : kOk G E cL_law RL 36 room_1) {z : Int32 × kS} (Zd : kLawZ E b cs z.1) (X : kScr E b L xs) {K Gc : Int32 → Int32 → Option (Int32 × kS)} (st : kS) (v4 : Int32) (v5 : Int32) (v6 : Int32) (v7 : Int32) (v8 : Int32) (v10 : Int32) (v23 : Int32) (v24 : Int32) (v25 : Int32) (v26 : Int32) (v27 : Int32) (v28 : Int32) (v29 : Int32) (v30 : Int32) (v31 : Int32) (v32 : Int32) (v33 : Int32) (v34 : Int32) (v35 : Int32) (hK : ∀ (u34 : Int32) (u35 : Int32), K u34 u35 = some z → kX G E cs (wL G a st) 1117 [(0, .ref b), (1, .ref (a 0)), (2, .ref (a 31)), (3, .ref (a 32)), (4, .int v4), (5, .int v5), (6, .int v6), (7, .int v7), (8, .int v8), (10, .int v10), (23, .int v23), (24, .int v24), (25, .int v25), (26, .int v26), (27, .int v27), (28, .int v28), (29, .int v29), (30, .int v30), (31, .int v31), (32, .int v32), (33, .int v33), (34, .int u34)] []) (hG : ∀ (u34 : Int32) (u35 : Int32), Gc u34 u35 = some z → kX G E cs (wL G a st) 1070 [(0, .ref b), (1, .ref (a 0)), (2, .ref (a 31)), (3, .ref (a 32)), (4, .int v4), (5, .int v5), (6, .int v6), (7, .int v7), (8, .int v8), (10, .int v10), (23, .int v23), (24, .int v24), (25, .int v25), (26, .int v26), (27, .int v27), (28, .int v28), (29, .int v29), (30, .int v30), (31, .int v31), (32, .int v32), (33, .int v33), (34, .int u34), (35, .int u35)] []) (h : fL_law_L1070_B K Gc L xs st v4 v5 v6 v7 v8 v10 v23 v24 v25 v26 v27 v28 v29 v30 v31 v32 v33 v34 v35 = some z) : kX G E cs (wL G a st) 1070 [(0, .ref b), (1, .ref (a 0)), (2, .ref (a 31)), (3, .ref (a 32)), (4, .int v4), (5, .int v5), (6, .int v6), (7, .int v7), (8, .int v8), (10, .int v10), (23, .int v23), (24, .int v24), (25, .int v25), (26, .int v26), (27, .int v27), (28, .int v28), (29, .int v29), (30, .int v30), (31, .int v31), (32, .int v32), (33, .int v33), (34, .int v34), (35, .int v35)] [] := by
  unfold fL_law_L1070_B at h
  refine x_iload (pc := 1070) C 22 dL_law_1070 rfl ?_
  refine x_iconst (pc := 1072) C 2 dL_law_1072 (by decide) ?_
  refine x_icmp_ge (pc := 1073) C 1117 dL_law_1073 (by decide) (fun c_119 => ?_) (fun c_119 => ?_)
  · have h := kIp c_119 h
    refine kX.pick [0, 1, 2, 3, 4, 5, 6, 7, 8, 9, 10, 11, 12, 13, 14, 15, 16, 17, 18, 19, 20, 21] (lv' := [(0, .ref b), (1, .ref (a 0)), (2, .ref (a 31)), (3, .ref (a 32)), (4, .int v4), (5, .int v5), (6, .int v6), (7, .int v7), (8, .int v8), (10, .int v10), (23, .int v23), (24, .int v24), (25, .int v25), (26, .int v26), (27, .int v27), (28, .int v28), (29, .int v29), (30, .int v30), (31, .int v31), (32, .int v32), (33, .int v33), (34, .int v34)]) rfl ?_
    exact hK v34 v35 h
  · have h := kIn c_119 h
    refine x_iload (pc := 1076) C 21 dL_law_1076 rfl ?_
    refine x_if_ne (pc := 1078) C 1104 dL_law_1078 (by decide) (fun c_120 => ?_) (fun c_120 => ?_)
    · have h := kIn c_120 h
      refine x_iconst (pc := 1104) C 1 dL_law_1104 (by decide) ?_
      refine x_goto (pc := 1105) C 1109 dL_law_1105 (by decide) ?_
      refine x_istore (pc := 1109) C (lv' := [(34, .int 1), (0, .ref b), (1, .ref (a 0)), (2, .ref (a 31)), (3, .ref (a 32)), (4, .int v4), (5, .int v5), (6, .int v6), (7, .int v7), (8, .int v8), (10, .int v10), (23, .int v23), (24, .int v24), (25, .int v25), (26, .int v26), (27, .int v27), (28, .int v28), (29, .int v29), (30, .int v30), (31, .int v31), (32, .int v32), (33, .int v33), (35, .int v35)]) dL_law_1109 (by decide) rfl ?_
      refine x_iinc (pc := 1111) C 22 (v := v35 + 1) (lv' := [(35, .int (v35 + 1)), (34, .int 1), (0, .ref b), (1, .ref (a 0)), (2, .ref (a 31)), (3, .ref (a 32)), (4, .int v4), (5, .int v5), (6, .int v6), (7, .int v7), (8, .int v8), (10, .int v10), (23, .int v23), (24, .int v24), (25, .int v25), (26, .int v26), (27, .int v27), (28, .int v28), (29, .int v29), (30, .int v30), (31, .int v31), (32, .int v32), (33, .int v33)]) dL_law_1111 rfl rfl (by decide) rfl ?_
      refine x_goto (pc := 1114) C 1070 dL_law_1114 (by decide) ?_
      refine kX.pick [2, 3, 4, 5, 6, 7, 8, 9, 10, 11, 12, 13, 14, 15, 16, 17, 18, 19, 20, 21, 22, 1, 0] (lv' := [(0, .ref b), (1, .ref (a 0)), (2, .ref (a 31)), (3, .ref (a 32)), (4, .int v4), (5, .int v5), (6, .int v6), (7, .int v7), (8, .int v8), (10, .int v10), (23, .int v23), (24, .int v24), (25, .int v25), (26, .int v26), (27, .int v27), (28, .int v28), (29, .int v29), (30, .int v30), (31, .int v31), (32, .int v32), (33, .int v33), (34, .int 1), (35, .int (v35 + 1))]) rfl ?_
      exact hG 1 (v35 + 1) h
    · have h := kIp c_120 h
      refine x_iload (pc := 1081) C 4 dL_law_1081 rfl ?_
      refine x_aload_n (pc := 1083) C 2 dL_law_1083 rfl rfl ?_
      refine x_aload_n (pc := 1084) C 3 dL_law_1084 rfl rfl ?_
      refine x_iload (pc := 1085) C 4 dL_law_1085 rfl ?_
      refine x_aload_n (pc := 1087) C 2 dL_law_1087 rfl rfl ?_
      refine x_iload (pc := 1088) C 17 dL_law_1088 rfl ?_
      refine x_iload (pc := 1090) C 20 dL_law_1090 rfl ?_
      refine x_iload (pc := 1092) C 22 dL_law_1092 rfl ?_
      refine x_iadd (pc := 1094) C dL_law_1094 ?_
      obtain ⟨z_121, hz_121, h⟩ := kB h
      refine x_callS (pc := 1095) C [.int v4, .ref (a 31), .int v30, .int (v33 + v35)] (mL_change G a st v4 v30 (v33 + v35) hz_121) ysL_change q12_17 ⟨Nat.le_of_ble_eq_true rfl, Nat.le_of_ble_eq_true rfl, rfl, rfl⟩ Zd.2.1 rfl rfl (Nat.le_of_ble_eq_true rfl) rfl dL_law_1095 ?_
      obtain ⟨z_122, hz_122, h⟩ := kB h
      refine x_callS (pc := 1098) C [.int v4, .ref (a 31), .ref (a 32), .int z_121] (mL_touch G a st v4 z_121 hz_122) ysL_touch q17_2 ⟨Nat.le_of_ble_eq_true rfl, Nat.le_of_ble_eq_true rfl, rfl, rfl⟩ Zd.2.1 rfl rfl (Nat.le_of_ble_eq_true rfl) rfl dL_law_1098 ?_
      refine x_if_ne (pc := 1101) C 1108 dL_law_1101 (by decide) (fun c_123 => ?_) (fun c_123 => ?_)
      · have h := kIn c_123 h
        refine x_iconst (pc := 1108) C 0 dL_law_1108 (by decide) ?_
        refine x_istore (pc := 1109) C (lv' := [(34, .int 0), (0, .ref b), (1, .ref (a 0)), (2, .ref (a 31)), (3, .ref (a 32)), (4, .int v4), (5, .int v5), (6, .int v6), (7, .int v7), (8, .int v8), (10, .int v10), (23, .int v23), (24, .int v24), (25, .int v25), (26, .int v26), (27, .int v27), (28, .int v28), (29, .int v29), (30, .int v30), (31, .int v31), (32, .int v32), (33, .int v33), (35, .int v35)]) dL_law_1109 (by decide) rfl ?_
        refine x_iinc (pc := 1111) C 22 (v := v35 + 1) (lv' := [(35, .int (v35 + 1)), (34, .int 0), (0, .ref b), (1, .ref (a 0)), (2, .ref (a 31)), (3, .ref (a 32)), (4, .int v4), (5, .int v5), (6, .int v6), (7, .int v7), (8, .int v8), (10, .int v10), (23, .int v23), (24, .int v24), (25, .int v25), (26, .int v26), (27, .int v27), (28, .int v28), (29, .int v29), (30, .int v30), (31, .int v31), (32, .int v32), (33, .int v33)]) dL_law_1111 rfl rfl (by decide) rfl ?_
        refine x_goto (pc := 1114) C 1070 dL_law_1114 (by decide) ?_
        refine kX.pick [2, 3, 4, 5, 6, 7, 8, 9, 10, 11, 12, 13, 14, 15, 16, 17, 18, 19, 20, 21, 22, 1, 0] (lv' := [(0, .ref b), (1, .ref (a 0)), (2, .ref (a 31)), (3, .ref (a 32)), (4, .int v4), (5, .int v5), (6, .int v6), (7, .int v7), (8, .int v8), (10, .int v10), (23, .int v23), (24, .int v24), (25, .int v25), (26, .int v26), (27, .int v27), (28, .int v28), (29, .int v29), (30, .int v30), (31, .int v31), (32, .int v32), (33, .int v33), (34, .int 0), (35, .int (v35 + 1))]) rfl ?_
        exact hG 0 (v35 + 1) h
      · have h := kIp c_123 h
        refine x_iconst (pc := 1104) C 1 dL_law_1104 (by decide) ?_
        refine x_goto (pc := 1105) C 1109 dL_law_1105 (by decide) ?_
        refine x_istore (pc := 1109) C (lv' := [(34, .int 1), (0, .ref b), (1, .ref (a 0)), (2, .ref (a 31)), (3, .ref (a 32)), (4, .int v4), (5, .int v5), (6, .int v6), (7, .int v7), (8, .int v8), (10, .int v10), (23, .int v23), (24, .int v24), (25, .int v25), (26, .int v26), (27, .int v27), (28, .int v28), (29, .int v29), (30, .int v30), (31, .int v31), (32, .int v32), (33, .int v33), (35, .int v35)]) dL_law_1109 (by decide) rfl ?_
        refine x_iinc (pc := 1111) C 22 (v := v35 + 1) (lv' := [(35, .int (v35 + 1)), (34, .int 1), (0, .ref b), (1, .ref (a 0)), (2, .ref (a 31)), (3, .ref (a 32)), (4, .int v4), (5, .int v5), (6, .int v6), (7, .int v7), (8, .int v8), (10, .int v10), (23, .int v23), (24, .int v24), (25, .int v25), (26, .int v26), (27, .int v27), (28, .int v28), (29, .int v29), (30, .int v30), (31, .int v31), (32, .int v32), (33, .int v33)]) dL_law_1111 rfl rfl (by decide) rfl ?_
        refine x_goto (pc := 1114) C 1070 dL_law_1114 (by decide) ?_
        refine kX.pick [2, 3, 4, 5, 6, 7, 8, 9, 10, 11, 12, 13, 14, 15, 16, 17, 18, 19, 20, 21, 22, 1, 0] (lv' := [(0, .ref b), (1, .ref (a 0)), (2, .ref (a 31)), (3, .ref (a 32)), (4, .int v4), (5, .int v5), (6, .int v6), (7, .int v7), (8, .int v8), (10, .int v10), (23, .int v23), (24, .int v24), (25, .int v25), (26, .int v26), (27, .int v27), (28, .int v28), (29, .int v29), (30, .int v30), (31, .int v31), (32, .int v32), (33, .int v33), (34, .int 1), (35, .int (v35 + 1))]) rfl ?_
        exact hG 1 (v35 + 1) h
def fL_law_L1070 (K : Int32 → Int32 → Option (Int32 × kS)) (L : Nat) (xs : Nat → Int32) (st : kS) (v4 : Int32) (v5 : Int32) (v6 : Int32) (v7 : Int32) (v8 : Int32) (v10 : Int32) (v23 : Int32) (v24 : Int32) (v25 : Int32) (v26 : Int32) (v27 : Int32) (v28 : Int32) (v29 : Int32) (v30 : Int32) (v31 : Int32) (v32 : Int32) (v33 : Int32) : Nat → Int32 → Int32 → Option (Int32 × kS)
  | 0, _, _ => none
  | F + 1, v34, v35 => fL_law_L1070_B K (fL_law_L1070 K L xs st v4 v5 v6 v7 v8 v10 v23 v24 v25 v26 v27 v28 v29 v30 v31 v32 v33 F) L xs st v4 v5 v6 v7 v8 v10 v23 v24 v25 v26 v27 v28 v29 v30 v31 v32 v33 v34 v35
set_option maxRecDepth 100000 in
set_option maxHeartbeats 4000000 in
theorem wL_law_L1070 {G : kG} {E : kE} {a : Nat → Nat} {cs : Nat × Nat} {b L : Nat} {xs : Nat → Int32} (C : kOk G E cL_law RL 36 room_1) {z : Int32 × kS} (Zd : kLawZ E b cs z.1) (X : kScr E b L xs) {K : Int32 → Int32 → Option (Int32 × kS)} (st : kS) (v4 : Int32) (v5 : Int32) (v6 : Int32) (v7 : Int32) (v8 : Int32) (v10 : Int32) (v23 : Int32) (v24 : Int32) (v25 : Int32) (v26 : Int32) (v27 : Int32) (v28 : Int32) (v29 : Int32) (v30 : Int32) (v31 : Int32) (v32 : Int32) (v33 : Int32) (hK : ∀ (u34 : Int32) (u35 : Int32), K u34 u35 = some z → kX G E cs (wL G a st) 1117 [(0, .ref b), (1, .ref (a 0)), (2, .ref (a 31)), (3, .ref (a 32)), (4, .int v4), (5, .int v5), (6, .int v6), (7, .int v7), (8, .int v8), (10, .int v10), (23, .int v23), (24, .int v24), (25, .int v25), (26, .int v26), (27, .int v27), (28, .int v28), (29, .int v29), (30, .int v30), (31, .int v31), (32, .int v32), (33, .int v33), (34, .int u34)] []) : ∀ (F : Nat) (v34 : Int32) (v35 : Int32), fL_law_L1070 K L xs st v4 v5 v6 v7 v8 v10 v23 v24 v25 v26 v27 v28 v29 v30 v31 v32 v33 F v34 v35 = some z → kX G E cs (wL G a st) 1070 [(0, .ref b), (1, .ref (a 0)), (2, .ref (a 31)), (3, .ref (a 32)), (4, .int v4), (5, .int v5), (6, .int v6), (7, .int v7), (8, .int v8), (10, .int v10), (23, .int v23), (24, .int v24), (25, .int v25), (26, .int v26), (27, .int v27), (28, .int v28), (29, .int v29), (30, .int v30), (31, .int v31), (32, .int v32), (33, .int v33), (34, .int v34), (35, .int v35)] [] := by
  intro F
  induction F with
  | zero =>
    intro v34 v35 h
    exact absurd (show none = some z from h) (fun q => by cases q)
  | succ F ih =>
    intro v34 v35 h
    exact wL_law_L1070_B  C Zd X  st v4 v5 v6 v7 v8 v10 v23 v24 v25 v26 v27 v28 v29 v30 v31 v32 v33 v34 v35 hK (fun v34 v35 h => ih v34 v35 h) h
def fL_law_L1052_B (K : Int32 → Int32 → Option (Int32 × kS)) (Gc : Int32 → Int32 → Option (Int32 × kS)) (L : Nat) (xs : Nat → Int32) (st : kS) (v4 : Int32) (v5 : Int32) (v6 : Int32) (v7 : Int32) (v8 : Int32) (v10 : Int32) (v23 : Int32) (v24 : Int32) (v25 : Int32) (v26 : Int32) (v27 : Int32) (v28 : Int32) (v29 : Int32) (v30 : Int32) (v31 : Int32) (v32 : Int32) (v33 : Int32) : Option (Int32 × kS) := if v4 ≤ v33 then (K v32 v33) else (if v31 = 0 then (K v32 v33) else (fL_law_L1070 (fun v34_124 v35_125 => if v34_124 = 0 then (Gc (v32 + 0) (v33 + 1)) else (Gc (v32 + 1) (v33 + 1))) L xs st v4 v5 v6 v7 v8 v10 v23 v24 v25 v26 v27 v28 v29 v30 v31 v32 v33 kFU 0 (-1)))
set_option maxRecDepth 100000 in
set_option maxHeartbeats 4000000 in
theorem wL_law_L1052_B {G : kG} {E : kE} {a : Nat → Nat} {cs : Nat × Nat} {b L : Nat} {xs : Nat → Int32} (C : kOk G E cL_law RL 36 room_1) {z : Int32 × kS} (Zd : kLawZ E b cs z.1) (X : kScr E b L xs) {K Gc : Int32 → Int32 → Option (Int32 × kS)} (st : kS) (v4 : Int32) (v5 : Int32) (v6 : Int32) (v7 : Int32) (v8 : Int32) (v10 : Int32) (v23 : Int32) (v24 : Int32) (v25 : Int32) (v26 : Int32) (v27 : Int32) (v28 : Int32) (v29 : Int32) (v30 : Int32) (v31 : Int32) (v32 : Int32) (v33 : Int32) (hK : ∀ (u32 : Int32) (u33 : Int32), K u32 u33 = some z → kX G E cs (wL G a st) 1138 [(0, .ref b), (1, .ref (a 0)), (2, .ref (a 31)), (3, .ref (a 32)), (4, .int v4), (5, .int v5), (6, .int v6), (7, .int v7), (8, .int v8), (10, .int v10), (23, .int v23), (24, .int v24), (25, .int v25), (26, .int v26), (27, .int v27), (28, .int v28), (29, .int v29), (32, .int u32)] []) (hG : ∀ (u32 : Int32) (u33 : Int32), Gc u32 u33 = some z → kX G E cs (wL G a st) 1052 [(0, .ref b), (1, .ref (a 0)), (2, .ref (a 31)), (3, .ref (a 32)), (4, .int v4), (5, .int v5), (6, .int v6), (7, .int v7), (8, .int v8), (10, .int v10), (23, .int v23), (24, .int v24), (25, .int v25), (26, .int v26), (27, .int v27), (28, .int v28), (29, .int v29), (30, .int v30), (31, .int v31), (32, .int u32), (33, .int u33)] []) (h : fL_law_L1052_B K Gc L xs st v4 v5 v6 v7 v8 v10 v23 v24 v25 v26 v27 v28 v29 v30 v31 v32 v33 = some z) : kX G E cs (wL G a st) 1052 [(0, .ref b), (1, .ref (a 0)), (2, .ref (a 31)), (3, .ref (a 32)), (4, .int v4), (5, .int v5), (6, .int v6), (7, .int v7), (8, .int v8), (10, .int v10), (23, .int v23), (24, .int v24), (25, .int v25), (26, .int v26), (27, .int v27), (28, .int v28), (29, .int v29), (30, .int v30), (31, .int v31), (32, .int v32), (33, .int v33)] [] := by
  unfold fL_law_L1052_B at h
  refine x_iload (pc := 1052) C 20 dL_law_1052 rfl ?_
  refine x_iload (pc := 1054) C 4 dL_law_1054 rfl ?_
  refine x_icmp_ge (pc := 1056) C 1138 dL_law_1056 (by decide) (fun c_117 => ?_) (fun c_117 => ?_)
  · have h := kIp c_117 h
    refine kX.pick [0, 1, 2, 3, 4, 5, 6, 7, 8, 9, 10, 11, 12, 13, 14, 15, 16, 19] (lv' := [(0, .ref b), (1, .ref (a 0)), (2, .ref (a 31)), (3, .ref (a 32)), (4, .int v4), (5, .int v5), (6, .int v6), (7, .int v7), (8, .int v8), (10, .int v10), (23, .int v23), (24, .int v24), (25, .int v25), (26, .int v26), (27, .int v27), (28, .int v28), (29, .int v29), (32, .int v32)]) rfl ?_
    exact hK v32 v33 h
  · have h := kIn c_117 h
    refine x_iload (pc := 1059) C 18 dL_law_1059 rfl ?_
    refine x_if_eq (pc := 1061) C 1138 dL_law_1061 (by decide) (fun c_118 => ?_) (fun c_118 => ?_)
    · have h := kIp c_118 h
      refine kX.pick [0, 1, 2, 3, 4, 5, 6, 7, 8, 9, 10, 11, 12, 13, 14, 15, 16, 19] (lv' := [(0, .ref b), (1, .ref (a 0)), (2, .ref (a 31)), (3, .ref (a 32)), (4, .int v4), (5, .int v5), (6, .int v6), (7, .int v7), (8, .int v8), (10, .int v10), (23, .int v23), (24, .int v24), (25, .int v25), (26, .int v26), (27, .int v27), (28, .int v28), (29, .int v29), (32, .int v32)]) rfl ?_
      exact hK v32 v33 h
    · have h := kIn c_118 h
      refine x_iconst (pc := 1064) C 0 dL_law_1064 (by decide) ?_
      refine x_istore (pc := 1065) C (lv' := [(34, .int 0), (0, .ref b), (1, .ref (a 0)), (2, .ref (a 31)), (3, .ref (a 32)), (4, .int v4), (5, .int v5), (6, .int v6), (7, .int v7), (8, .int v8), (10, .int v10), (23, .int v23), (24, .int v24), (25, .int v25), (26, .int v26), (27, .int v27), (28, .int v28), (29, .int v29), (30, .int v30), (31, .int v31), (32, .int v32), (33, .int v33)]) dL_law_1065 (by decide) rfl ?_
      refine x_iconst (pc := 1067) C (-1) dL_law_1067 (by decide) ?_
      refine x_istore (pc := 1068) C (lv' := [(35, .int (-1)), (34, .int 0), (0, .ref b), (1, .ref (a 0)), (2, .ref (a 31)), (3, .ref (a 32)), (4, .int v4), (5, .int v5), (6, .int v6), (7, .int v7), (8, .int v8), (10, .int v10), (23, .int v23), (24, .int v24), (25, .int v25), (26, .int v26), (27, .int v27), (28, .int v28), (29, .int v29), (30, .int v30), (31, .int v31), (32, .int v32), (33, .int v33)]) dL_law_1068 (by decide) rfl ?_
      refine kX.pick [2, 3, 4, 5, 6, 7, 8, 9, 10, 11, 12, 13, 14, 15, 16, 17, 18, 19, 20, 21, 22, 1, 0] (lv' := [(0, .ref b), (1, .ref (a 0)), (2, .ref (a 31)), (3, .ref (a 32)), (4, .int v4), (5, .int v5), (6, .int v6), (7, .int v7), (8, .int v8), (10, .int v10), (23, .int v23), (24, .int v24), (25, .int v25), (26, .int v26), (27, .int v27), (28, .int v28), (29, .int v29), (30, .int v30), (31, .int v31), (32, .int v32), (33, .int v33), (34, .int 0), (35, .int (-1))]) rfl ?_
      refine wL_law_L1070  C Zd X  st v4 v5 v6 v7 v8 v10 v23 v24 v25 v26 v27 v28 v29 v30 v31 v32 v33 (fun v34_124 v35_125 h => ?_) kFU 0 (-1) h
      refine x_iload (pc := 1117) C 19 dL_law_1117 rfl ?_
      refine x_iload (pc := 1119) C 21 dL_law_1119 rfl ?_
      refine x_if_eq (pc := 1121) C 1128 dL_law_1121 (by decide) (fun c_126 => ?_) (fun c_126 => ?_)
      · have h := kIp c_126 h
        refine x_iconst (pc := 1128) C 0 dL_law_1128 (by decide) ?_
        refine x_iadd (pc := 1129) C dL_law_1129 ?_
        refine x_istore (pc := 1130) C (lv' := [(32, .int (v32 + 0)), (0, .ref b), (1, .ref (a 0)), (2, .ref (a 31)), (3, .ref (a 32)), (4, .int v4), (5, .int v5), (6, .int v6), (7, .int v7), (8, .int v8), (10, .int v10), (23, .int v23), (24, .int v24), (25, .int v25), (26, .int v26), (27, .int v27), (28, .int v28), (29, .int v29), (30, .int v30), (31, .int v31), (33, .int v33), (34, .int v34_124)]) dL_law_1130 (by decide) rfl ?_
        refine x_iinc (pc := 1132) C 20 (v := v33 + 1) (lv' := [(33, .int (v33 + 1)), (32, .int (v32 + 0)), (0, .ref b), (1, .ref (a 0)), (2, .ref (a 31)), (3, .ref (a 32)), (4, .int v4), (5, .int v5), (6, .int v6), (7, .int v7), (8, .int v8), (10, .int v10), (23, .int v23), (24, .int v24), (25, .int v25), (26, .int v26), (27, .int v27), (28, .int v28), (29, .int v29), (30, .int v30), (31, .int v31), (34, .int v34_124)]) dL_law_1132 rfl rfl (by decide) rfl ?_
        refine x_goto (pc := 1135) C 1052 dL_law_1135 (by decide) ?_
        refine kX.pick [2, 3, 4, 5, 6, 7, 8, 9, 10, 11, 12, 13, 14, 15, 16, 17, 18, 19, 20, 1, 0] (lv' := [(0, .ref b), (1, .ref (a 0)), (2, .ref (a 31)), (3, .ref (a 32)), (4, .int v4), (5, .int v5), (6, .int v6), (7, .int v7), (8, .int v8), (10, .int v10), (23, .int v23), (24, .int v24), (25, .int v25), (26, .int v26), (27, .int v27), (28, .int v28), (29, .int v29), (30, .int v30), (31, .int v31), (32, .int (v32 + 0)), (33, .int (v33 + 1))]) rfl ?_
        exact hG (v32 + 0) (v33 + 1) h
      · have h := kIn c_126 h
        refine x_iconst (pc := 1124) C 1 dL_law_1124 (by decide) ?_
        refine x_goto (pc := 1125) C 1129 dL_law_1125 (by decide) ?_
        refine x_iadd (pc := 1129) C dL_law_1129 ?_
        refine x_istore (pc := 1130) C (lv' := [(32, .int (v32 + 1)), (0, .ref b), (1, .ref (a 0)), (2, .ref (a 31)), (3, .ref (a 32)), (4, .int v4), (5, .int v5), (6, .int v6), (7, .int v7), (8, .int v8), (10, .int v10), (23, .int v23), (24, .int v24), (25, .int v25), (26, .int v26), (27, .int v27), (28, .int v28), (29, .int v29), (30, .int v30), (31, .int v31), (33, .int v33), (34, .int v34_124)]) dL_law_1130 (by decide) rfl ?_
        refine x_iinc (pc := 1132) C 20 (v := v33 + 1) (lv' := [(33, .int (v33 + 1)), (32, .int (v32 + 1)), (0, .ref b), (1, .ref (a 0)), (2, .ref (a 31)), (3, .ref (a 32)), (4, .int v4), (5, .int v5), (6, .int v6), (7, .int v7), (8, .int v8), (10, .int v10), (23, .int v23), (24, .int v24), (25, .int v25), (26, .int v26), (27, .int v27), (28, .int v28), (29, .int v29), (30, .int v30), (31, .int v31), (34, .int v34_124)]) dL_law_1132 rfl rfl (by decide) rfl ?_
        refine x_goto (pc := 1135) C 1052 dL_law_1135 (by decide) ?_
        refine kX.pick [2, 3, 4, 5, 6, 7, 8, 9, 10, 11, 12, 13, 14, 15, 16, 17, 18, 19, 20, 1, 0] (lv' := [(0, .ref b), (1, .ref (a 0)), (2, .ref (a 31)), (3, .ref (a 32)), (4, .int v4), (5, .int v5), (6, .int v6), (7, .int v7), (8, .int v8), (10, .int v10), (23, .int v23), (24, .int v24), (25, .int v25), (26, .int v26), (27, .int v27), (28, .int v28), (29, .int v29), (30, .int v30), (31, .int v31), (32, .int (v32 + 1)), (33, .int (v33 + 1))]) rfl ?_
        exact hG (v32 + 1) (v33 + 1) h
def fL_law_L1052 (K : Int32 → Int32 → Option (Int32 × kS)) (L : Nat) (xs : Nat → Int32) (st : kS) (v4 : Int32) (v5 : Int32) (v6 : Int32) (v7 : Int32) (v8 : Int32) (v10 : Int32) (v23 : Int32) (v24 : Int32) (v25 : Int32) (v26 : Int32) (v27 : Int32) (v28 : Int32) (v29 : Int32) (v30 : Int32) (v31 : Int32) : Nat → Int32 → Int32 → Option (Int32 × kS)
  | 0, _, _ => none
  | F + 1, v32, v33 => fL_law_L1052_B K (fL_law_L1052 K L xs st v4 v5 v6 v7 v8 v10 v23 v24 v25 v26 v27 v28 v29 v30 v31 F) L xs st v4 v5 v6 v7 v8 v10 v23 v24 v25 v26 v27 v28 v29 v30 v31 v32 v33
set_option maxRecDepth 100000 in
set_option maxHeartbeats 4000000 in
theorem wL_law_L1052 {G : kG} {E : kE} {a : Nat → Nat} {cs : Nat × Nat} {b L : Nat} {xs : Nat → Int32} (C : kOk G E cL_law RL 36 room_1) {z : Int32 × kS} (Zd : kLawZ E b cs z.1) (X : kScr E b L xs) {K : Int32 → Int32 → Option (Int32 × kS)} (st : kS) (v4 : Int32) (v5 : Int32) (v6 : Int32) (v7 : Int32) (v8 : Int32) (v10 : Int32) (v23 : Int32) (v24 : Int32) (v25 : Int32) (v26 : Int32) (v27 : Int32) (v28 : Int32) (v29 : Int32) (v30 : Int32) (v31 : Int32) (hK : ∀ (u32 : Int32) (u33 : Int32), K u32 u33 = some z → kX G E cs (wL G a st) 1138 [(0, .ref b), (1, .ref (a 0)), (2, .ref (a 31)), (3, .ref (a 32)), (4, .int v4), (5, .int v5), (6, .int v6), (7, .int v7), (8, .int v8), (10, .int v10), (23, .int v23), (24, .int v24), (25, .int v25), (26, .int v26), (27, .int v27), (28, .int v28), (29, .int v29), (32, .int u32)] []) : ∀ (F : Nat) (v32 : Int32) (v33 : Int32), fL_law_L1052 K L xs st v4 v5 v6 v7 v8 v10 v23 v24 v25 v26 v27 v28 v29 v30 v31 F v32 v33 = some z → kX G E cs (wL G a st) 1052 [(0, .ref b), (1, .ref (a 0)), (2, .ref (a 31)), (3, .ref (a 32)), (4, .int v4), (5, .int v5), (6, .int v6), (7, .int v7), (8, .int v8), (10, .int v10), (23, .int v23), (24, .int v24), (25, .int v25), (26, .int v26), (27, .int v27), (28, .int v28), (29, .int v29), (30, .int v30), (31, .int v31), (32, .int v32), (33, .int v33)] [] := by
  intro F
  induction F with
  | zero =>
    intro v32 v33 h
    exact absurd (show none = some z from h) (fun q => by cases q)
  | succ F ih =>
    intro v32 v33 h
    exact wL_law_L1052_B  C Zd X  st v4 v5 v6 v7 v8 v10 v23 v24 v25 v26 v27 v28 v29 v30 v31 v32 v33 hK (fun v32 v33 h => ih v32 v33 h) h
def fL_law_J1138 (K : Int32 → Int32 → Int32 → Option (Int32 × kS)) (Gc : Int32 → Int32 → Int32 → Option (Int32 × kS)) (L : Nat) (xs : Nat → Int32) (st : kS) (v4 : Int32) (v5 : Int32) (v6 : Int32) (v7 : Int32) (v8 : Int32) (v10 : Int32) (v23 : Int32) (v24 : Int32) (v25 : Int32) (v26 : Int32) (v27 : Int32) (v28 : Int32) (v29 : Int32) (v32 : Int32) : Option (Int32 × kS) := if v32 ≤ v28 then (Gc v27 v28 (v29 + 1)) else (Gc v27 v32 (v29 + 1))
set_option maxRecDepth 100000 in
set_option maxHeartbeats 4000000 in
theorem wL_law_J1138 {G : kG} {E : kE} {a : Nat → Nat} {cs : Nat × Nat} {b L : Nat} {xs : Nat → Int32} (C : kOk G E cL_law RL 36 room_1) {z : Int32 × kS} (Zd : kLawZ E b cs z.1) (X : kScr E b L xs) {K Gc : Int32 → Int32 → Int32 → Option (Int32 × kS)} (st : kS) (v4 : Int32) (v5 : Int32) (v6 : Int32) (v7 : Int32) (v8 : Int32) (v10 : Int32) (v23 : Int32) (v24 : Int32) (v25 : Int32) (v26 : Int32) (v27 : Int32) (v28 : Int32) (v29 : Int32) (v32 : Int32) (hK : ∀ (u27 : Int32) (u28 : Int32) (u29 : Int32), K u27 u28 u29 = some z → kX G E cs (wL G a st) 1160 [(0, .ref b), (1, .ref (a 0)), (2, .ref (a 31)), (3, .ref (a 32)), (4, .int v4), (5, .int v5), (6, .int v6), (7, .int v7), (8, .int v8), (10, .int v10), (23, .int v23), (24, .int v24), (25, .int v25), (26, .int v26), (27, .int u27), (28, .int u28)] []) (hG : ∀ (u27 : Int32) (u28 : Int32) (u29 : Int32), Gc u27 u28 u29 = some z → kX G E cs (wL G a st) 993 [(0, .ref b), (1, .ref (a 0)), (2, .ref (a 31)), (3, .ref (a 32)), (4, .int v4), (5, .int v5), (6, .int v6), (7, .int v7), (8, .int v8), (10, .int v10), (23, .int v23), (24, .int v24), (25, .int v25), (26, .int v26), (27, .int u27), (28, .int u28), (29, .int u29)] []) (h : fL_law_J1138 K Gc L xs st v4 v5 v6 v7 v8 v10 v23 v24 v25 v26 v27 v28 v29 v32 = some z) : kX G E cs (wL G a st) 1138 [(0, .ref b), (1, .ref (a 0)), (2, .ref (a 31)), (3, .ref (a 32)), (4, .int v4), (5, .int v5), (6, .int v6), (7, .int v7), (8, .int v8), (10, .int v10), (23, .int v23), (24, .int v24), (25, .int v25), (26, .int v26), (27, .int v27), (28, .int v28), (29, .int v29), (32, .int v32)] [] := by
  unfold fL_law_J1138 at h
  refine x_iload (pc := 1138) C 17 dL_law_1138 rfl ?_
  refine x_iload (pc := 1140) C 15 dL_law_1140 rfl ?_
  refine x_icmp_le (pc := 1142) C 1150 dL_law_1142 (by decide) (fun c_129 => ?_) (fun c_129 => ?_)
  · have h := kIp c_129 h
    refine x_iload (pc := 1150) C 15 dL_law_1150 rfl ?_
    refine x_istore (pc := 1152) C (lv' := [(28, .int v28), (0, .ref b), (1, .ref (a 0)), (2, .ref (a 31)), (3, .ref (a 32)), (4, .int v4), (5, .int v5), (6, .int v6), (7, .int v7), (8, .int v8), (10, .int v10), (23, .int v23), (24, .int v24), (25, .int v25), (26, .int v26), (27, .int v27), (29, .int v29), (32, .int v32)]) dL_law_1152 (by decide) rfl ?_
    refine x_iinc (pc := 1154) C 16 (v := v29 + 1) (lv' := [(29, .int (v29 + 1)), (28, .int v28), (0, .ref b), (1, .ref (a 0)), (2, .ref (a 31)), (3, .ref (a 32)), (4, .int v4), (5, .int v5), (6, .int v6), (7, .int v7), (8, .int v8), (10, .int v10), (23, .int v23), (24, .int v24), (25, .int v25), (26, .int v26), (27, .int v27), (32, .int v32)]) dL_law_1154 rfl rfl (by decide) rfl ?_
    refine x_goto (pc := 1157) C 993 dL_law_1157 (by decide) ?_
    refine kX.pick [2, 3, 4, 5, 6, 7, 8, 9, 10, 11, 12, 13, 14, 15, 16, 1, 0] (lv' := [(0, .ref b), (1, .ref (a 0)), (2, .ref (a 31)), (3, .ref (a 32)), (4, .int v4), (5, .int v5), (6, .int v6), (7, .int v7), (8, .int v8), (10, .int v10), (23, .int v23), (24, .int v24), (25, .int v25), (26, .int v26), (27, .int v27), (28, .int v28), (29, .int (v29 + 1))]) rfl ?_
    exact hG v27 v28 (v29 + 1) h
  · have h := kIn c_129 h
    refine x_iload (pc := 1145) C 17 dL_law_1145 rfl ?_
    refine x_goto (pc := 1147) C 1152 dL_law_1147 (by decide) ?_
    refine x_istore (pc := 1152) C (lv' := [(28, .int v32), (0, .ref b), (1, .ref (a 0)), (2, .ref (a 31)), (3, .ref (a 32)), (4, .int v4), (5, .int v5), (6, .int v6), (7, .int v7), (8, .int v8), (10, .int v10), (23, .int v23), (24, .int v24), (25, .int v25), (26, .int v26), (27, .int v27), (29, .int v29), (32, .int v32)]) dL_law_1152 (by decide) rfl ?_
    refine x_iinc (pc := 1154) C 16 (v := v29 + 1) (lv' := [(29, .int (v29 + 1)), (28, .int v32), (0, .ref b), (1, .ref (a 0)), (2, .ref (a 31)), (3, .ref (a 32)), (4, .int v4), (5, .int v5), (6, .int v6), (7, .int v7), (8, .int v8), (10, .int v10), (23, .int v23), (24, .int v24), (25, .int v25), (26, .int v26), (27, .int v27), (32, .int v32)]) dL_law_1154 rfl rfl (by decide) rfl ?_
    refine x_goto (pc := 1157) C 993 dL_law_1157 (by decide) ?_
    refine kX.pick [2, 3, 4, 5, 6, 7, 8, 9, 10, 11, 12, 13, 14, 15, 16, 1, 0] (lv' := [(0, .ref b), (1, .ref (a 0)), (2, .ref (a 31)), (3, .ref (a 32)), (4, .int v4), (5, .int v5), (6, .int v6), (7, .int v7), (8, .int v8), (10, .int v10), (23, .int v23), (24, .int v24), (25, .int v25), (26, .int v26), (27, .int v27), (28, .int v32), (29, .int (v29 + 1))]) rfl ?_
    exact hG v27 v32 (v29 + 1) h
def fL_law_J1044 (K : Int32 → Int32 → Int32 → Option (Int32 × kS)) (Gc : Int32 → Int32 → Int32 → Option (Int32 × kS)) (L : Nat) (xs : Nat → Int32) (st : kS) (v4 : Int32) (v5 : Int32) (v6 : Int32) (v7 : Int32) (v8 : Int32) (v10 : Int32) (v23 : Int32) (v24 : Int32) (v25 : Int32) (v26 : Int32) (v28 : Int32) (v29 : Int32) (v30 : Int32) (v31 : Int32) (s0 : Int32) : Option (Int32 × kS) := fL_law_L1052 (fun v32_127 v33_128 => fL_law_J1138 K Gc L xs st v4 v5 v6 v7 v8 v10 v23 v24 v25 v26 s0 v28 v29 v32_127) L xs st v4 v5 v6 v7 v8 v10 v23 v24 v25 v26 s0 v28 v29 v30 v31 kFU 0 0
set_option maxRecDepth 100000 in
set_option maxHeartbeats 4000000 in
theorem wL_law_J1044 {G : kG} {E : kE} {a : Nat → Nat} {cs : Nat × Nat} {b L : Nat} {xs : Nat → Int32} (C : kOk G E cL_law RL 36 room_1) {z : Int32 × kS} (Zd : kLawZ E b cs z.1) (X : kScr E b L xs) {K Gc : Int32 → Int32 → Int32 → Option (Int32 × kS)} (st : kS) (v4 : Int32) (v5 : Int32) (v6 : Int32) (v7 : Int32) (v8 : Int32) (v10 : Int32) (v23 : Int32) (v24 : Int32) (v25 : Int32) (v26 : Int32) (v28 : Int32) (v29 : Int32) (v30 : Int32) (v31 : Int32) (s0 : Int32) (hK : ∀ (u27 : Int32) (u28 : Int32) (u29 : Int32), K u27 u28 u29 = some z → kX G E cs (wL G a st) 1160 [(0, .ref b), (1, .ref (a 0)), (2, .ref (a 31)), (3, .ref (a 32)), (4, .int v4), (5, .int v5), (6, .int v6), (7, .int v7), (8, .int v8), (10, .int v10), (23, .int v23), (24, .int v24), (25, .int v25), (26, .int v26), (27, .int u27), (28, .int u28)] []) (hG : ∀ (u27 : Int32) (u28 : Int32) (u29 : Int32), Gc u27 u28 u29 = some z → kX G E cs (wL G a st) 993 [(0, .ref b), (1, .ref (a 0)), (2, .ref (a 31)), (3, .ref (a 32)), (4, .int v4), (5, .int v5), (6, .int v6), (7, .int v7), (8, .int v8), (10, .int v10), (23, .int v23), (24, .int v24), (25, .int v25), (26, .int v26), (27, .int u27), (28, .int u28), (29, .int u29)] []) (h : fL_law_J1044 K Gc L xs st v4 v5 v6 v7 v8 v10 v23 v24 v25 v26 v28 v29 v30 v31 s0 = some z) : kX G E cs (wL G a st) 1044 [(0, .ref b), (1, .ref (a 0)), (2, .ref (a 31)), (3, .ref (a 32)), (4, .int v4), (5, .int v5), (6, .int v6), (7, .int v7), (8, .int v8), (10, .int v10), (23, .int v23), (24, .int v24), (25, .int v25), (26, .int v26), (28, .int v28), (29, .int v29), (30, .int v30), (31, .int v31)] [.int s0] := by
  unfold fL_law_J1044 at h
  refine x_istore (pc := 1044) C (lv' := [(27, .int s0), (0, .ref b), (1, .ref (a 0)), (2, .ref (a 31)), (3, .ref (a 32)), (4, .int v4), (5, .int v5), (6, .int v6), (7, .int v7), (8, .int v8), (10, .int v10), (23, .int v23), (24, .int v24), (25, .int v25), (26, .int v26), (28, .int v28), (29, .int v29), (30, .int v30), (31, .int v31)]) dL_law_1044 (by decide) rfl ?_
  refine x_iconst (pc := 1046) C 0 dL_law_1046 (by decide) ?_
  refine x_istore (pc := 1047) C (lv' := [(32, .int 0), (27, .int s0), (0, .ref b), (1, .ref (a 0)), (2, .ref (a 31)), (3, .ref (a 32)), (4, .int v4), (5, .int v5), (6, .int v6), (7, .int v7), (8, .int v8), (10, .int v10), (23, .int v23), (24, .int v24), (25, .int v25), (26, .int v26), (28, .int v28), (29, .int v29), (30, .int v30), (31, .int v31)]) dL_law_1047 (by decide) rfl ?_
  refine x_iconst (pc := 1049) C 0 dL_law_1049 (by decide) ?_
  refine x_istore (pc := 1050) C (lv' := [(33, .int 0), (32, .int 0), (27, .int s0), (0, .ref b), (1, .ref (a 0)), (2, .ref (a 31)), (3, .ref (a 32)), (4, .int v4), (5, .int v5), (6, .int v6), (7, .int v7), (8, .int v8), (10, .int v10), (23, .int v23), (24, .int v24), (25, .int v25), (26, .int v26), (28, .int v28), (29, .int v29), (30, .int v30), (31, .int v31)]) dL_law_1050 (by decide) rfl ?_
  refine kX.pick [3, 4, 5, 6, 7, 8, 9, 10, 11, 12, 13, 14, 15, 16, 2, 17, 18, 19, 20, 1, 0] (lv' := [(0, .ref b), (1, .ref (a 0)), (2, .ref (a 31)), (3, .ref (a 32)), (4, .int v4), (5, .int v5), (6, .int v6), (7, .int v7), (8, .int v8), (10, .int v10), (23, .int v23), (24, .int v24), (25, .int v25), (26, .int v26), (27, .int s0), (28, .int v28), (29, .int v29), (30, .int v30), (31, .int v31), (32, .int 0), (33, .int 0)]) rfl ?_
  refine wL_law_L1052  C Zd X  st v4 v5 v6 v7 v8 v10 v23 v24 v25 v26 s0 v28 v29 v30 v31 (fun v32_127 v33_128 h => ?_) kFU 0 0 h
  exact wL_law_J1138  C Zd X  st v4 v5 v6 v7 v8 v10 v23 v24 v25 v26 s0 v28 v29 v32_127 hK hG h
def fL_law_J1031 (K : Int32 → Int32 → Int32 → Option (Int32 × kS)) (Gc : Int32 → Int32 → Int32 → Option (Int32 × kS)) (L : Nat) (xs : Nat → Int32) (st : kS) (v4 : Int32) (v5 : Int32) (v6 : Int32) (v7 : Int32) (v8 : Int32) (v10 : Int32) (v23 : Int32) (v24 : Int32) (v25 : Int32) (v26 : Int32) (v27 : Int32) (v28 : Int32) (v29 : Int32) (v30 : Int32) (s0 : Int32) : Option (Int32 × kS) := if s0 = 0 then (fL_law_J1044 K Gc L xs st v4 v5 v6 v7 v8 v10 v23 v24 v25 v26 v28 v29 v30 s0 v27) else (fL_law_J1044 K Gc L xs st v4 v5 v6 v7 v8 v10 v23 v24 v25 v26 v28 v29 v30 s0 1)
set_option maxRecDepth 100000 in
set_option maxHeartbeats 4000000 in
theorem wL_law_J1031 {G : kG} {E : kE} {a : Nat → Nat} {cs : Nat × Nat} {b L : Nat} {xs : Nat → Int32} (C : kOk G E cL_law RL 36 room_1) {z : Int32 × kS} (Zd : kLawZ E b cs z.1) (X : kScr E b L xs) {K Gc : Int32 → Int32 → Int32 → Option (Int32 × kS)} (st : kS) (v4 : Int32) (v5 : Int32) (v6 : Int32) (v7 : Int32) (v8 : Int32) (v10 : Int32) (v23 : Int32) (v24 : Int32) (v25 : Int32) (v26 : Int32) (v27 : Int32) (v28 : Int32) (v29 : Int32) (v30 : Int32) (s0 : Int32) (hK : ∀ (u27 : Int32) (u28 : Int32) (u29 : Int32), K u27 u28 u29 = some z → kX G E cs (wL G a st) 1160 [(0, .ref b), (1, .ref (a 0)), (2, .ref (a 31)), (3, .ref (a 32)), (4, .int v4), (5, .int v5), (6, .int v6), (7, .int v7), (8, .int v8), (10, .int v10), (23, .int v23), (24, .int v24), (25, .int v25), (26, .int v26), (27, .int u27), (28, .int u28)] []) (hG : ∀ (u27 : Int32) (u28 : Int32) (u29 : Int32), Gc u27 u28 u29 = some z → kX G E cs (wL G a st) 993 [(0, .ref b), (1, .ref (a 0)), (2, .ref (a 31)), (3, .ref (a 32)), (4, .int v4), (5, .int v5), (6, .int v6), (7, .int v7), (8, .int v8), (10, .int v10), (23, .int v23), (24, .int v24), (25, .int v25), (26, .int v26), (27, .int u27), (28, .int u28), (29, .int u29)] []) (h : fL_law_J1031 K Gc L xs st v4 v5 v6 v7 v8 v10 v23 v24 v25 v26 v27 v28 v29 v30 s0 = some z) : kX G E cs (wL G a st) 1031 [(0, .ref b), (1, .ref (a 0)), (2, .ref (a 31)), (3, .ref (a 32)), (4, .int v4), (5, .int v5), (6, .int v6), (7, .int v7), (8, .int v8), (10, .int v10), (23, .int v23), (24, .int v24), (25, .int v25), (26, .int v26), (27, .int v27), (28, .int v28), (29, .int v29), (30, .int v30)] [.int s0] := by
  unfold fL_law_J1031 at h
  refine x_istore (pc := 1031) C (lv' := [(31, .int s0), (0, .ref b), (1, .ref (a 0)), (2, .ref (a 31)), (3, .ref (a 32)), (4, .int v4), (5, .int v5), (6, .int v6), (7, .int v7), (8, .int v8), (10, .int v10), (23, .int v23), (24, .int v24), (25, .int v25), (26, .int v26), (27, .int v27), (28, .int v28), (29, .int v29), (30, .int v30)]) dL_law_1031 (by decide) rfl ?_
  refine x_iload (pc := 1033) C 0 dL_law_1033 rfl ?_
  refine x_if_eq (pc := 1035) C 1042 dL_law_1035 (by decide) (fun c_116 => ?_) (fun c_116 => ?_)
  · have h := kIp c_116 h
    refine x_iload (pc := 1042) C 15 dL_law_1042 rfl ?_
    refine kX.pick [1, 2, 3, 4, 5, 6, 7, 8, 9, 10, 11, 12, 13, 14, 16, 17, 18, 0] (lv' := [(0, .ref b), (1, .ref (a 0)), (2, .ref (a 31)), (3, .ref (a 32)), (4, .int v4), (5, .int v5), (6, .int v6), (7, .int v7), (8, .int v8), (10, .int v10), (23, .int v23), (24, .int v24), (25, .int v25), (26, .int v26), (28, .int v28), (29, .int v29), (30, .int v30), (31, .int s0)]) rfl ?_
    exact wL_law_J1044  C Zd X  st v4 v5 v6 v7 v8 v10 v23 v24 v25 v26 v28 v29 v30 s0 v27 hK hG h
  · have h := kIn c_116 h
    refine x_iconst (pc := 1038) C 1 dL_law_1038 (by decide) ?_
    refine x_goto (pc := 1039) C 1044 dL_law_1039 (by decide) ?_
    refine kX.pick [1, 2, 3, 4, 5, 6, 7, 8, 9, 10, 11, 12, 13, 14, 16, 17, 18, 0] (lv' := [(0, .ref b), (1, .ref (a 0)), (2, .ref (a 31)), (3, .ref (a 32)), (4, .int v4), (5, .int v5), (6, .int v6), (7, .int v7), (8, .int v8), (10, .int v10), (23, .int v23), (24, .int v24), (25, .int v25), (26, .int v26), (28, .int v28), (29, .int v29), (30, .int v30), (31, .int s0)]) rfl ?_
    exact wL_law_J1044  C Zd X  st v4 v5 v6 v7 v8 v10 v23 v24 v25 v26 v28 v29 v30 s0 1 hK hG h
def fL_law_L993_B (K : Int32 → Int32 → Int32 → Option (Int32 × kS)) (Gc : Int32 → Int32 → Int32 → Option (Int32 × kS)) (L : Nat) (xs : Nat → Int32) (st : kS) (v4 : Int32) (v5 : Int32) (v6 : Int32) (v7 : Int32) (v8 : Int32) (v10 : Int32) (v23 : Int32) (v24 : Int32) (v25 : Int32) (v26 : Int32) (v27 : Int32) (v28 : Int32) (v29 : Int32) : Option (Int32 × kS) := if 2 ≤ v29 then (K v27 v28 v29) else ((fL_change st v4 v6 (v26 + v29)).bind (fun z_113 => (fL_touch st v4 z_113).bind (fun z_114 => if z_114 = 0 then (fL_law_J1031 K Gc L xs st v4 v5 v6 v7 v8 v10 v23 v24 v25 v26 v27 v28 v29 z_113 1) else (fL_law_J1031 K Gc L xs st v4 v5 v6 v7 v8 v10 v23 v24 v25 v26 v27 v28 v29 z_113 0))))
set_option maxRecDepth 100000 in
set_option maxHeartbeats 4000000 in
theorem wL_law_L993_B {G : kG} {E : kE} {a : Nat → Nat} {cs : Nat × Nat} {b L : Nat} {xs : Nat → Int32} (C : kOk G E cL_law RL 36 room_1) {z : Int32 × kS} (Zd : kLawZ E b cs z.1) (X : kScr E b L xs) {K Gc : Int32 → Int32 → Int32 → Option (Int32 × kS)} (st : kS) (v4 : Int32) (v5 : Int32) (v6 : Int32) (v7 : Int32) (v8 : Int32) (v10 : Int32) (v23 : Int32) (v24 : Int32) (v25 : Int32) (v26 : Int32) (v27 : Int32) (v28 : Int32) (v29 : Int32) (hK : ∀ (u27 : Int32) (u28 : Int32) (u29 : Int32), K u27 u28 u29 = some z → kX G E cs (wL G a st) 1160 [(0, .ref b), (1, .ref (a 0)), (2, .ref (a 31)), (3, .ref (a 32)), (4, .int v4), (5, .int v5), (6, .int v6), (7, .int v7), (8, .int v8), (10, .int v10), (23, .int v23), (24, .int v24), (25, .int v25), (26, .int v26), (27, .int u27), (28, .int u28)] []) (hG : ∀ (u27 : Int32) (u28 : Int32) (u29 : Int32), Gc u27 u28 u29 = some z → kX G E cs (wL G a st) 993 [(0, .ref b), (1, .ref (a 0)), (2, .ref (a 31)), (3, .ref (a 32)), (4, .int v4), (5, .int v5), (6, .int v6), (7, .int v7), (8, .int v8), (10, .int v10), (23, .int v23), (24, .int v24), (25, .int v25), (26, .int v26), (27, .int u27), (28, .int u28), (29, .int u29)] []) (h : fL_law_L993_B K Gc L xs st v4 v5 v6 v7 v8 v10 v23 v24 v25 v26 v27 v28 v29 = some z) : kX G E cs (wL G a st) 993 [(0, .ref b), (1, .ref (a 0)), (2, .ref (a 31)), (3, .ref (a 32)), (4, .int v4), (5, .int v5), (6, .int v6), (7, .int v7), (8, .int v8), (10, .int v10), (23, .int v23), (24, .int v24), (25, .int v25), (26, .int v26), (27, .int v27), (28, .int v28), (29, .int v29)] [] := by
  unfold fL_law_L993_B at h
  refine x_iload (pc := 993) C 16 dL_law_993 rfl ?_
  refine x_iconst (pc := 995) C 2 dL_law_995 (by decide) ?_
  refine x_icmp_ge (pc := 996) C 1160 dL_law_996 (by decide) (fun c_112 => ?_) (fun c_112 => ?_)
  · have h := kIp c_112 h
    refine kX.pick [0, 1, 2, 3, 4, 5, 6, 7, 8, 9, 10, 11, 12, 13, 14, 15] (lv' := [(0, .ref b), (1, .ref (a 0)), (2, .ref (a 31)), (3, .ref (a 32)), (4, .int v4), (5, .int v5), (6, .int v6), (7, .int v7), (8, .int v8), (10, .int v10), (23, .int v23), (24, .int v24), (25, .int v25), (26, .int v26), (27, .int v27), (28, .int v28)]) rfl ?_
    exact hK v27 v28 v29 h
  · have h := kIn c_112 h
    refine x_iload (pc := 999) C 4 dL_law_999 rfl ?_
    refine x_aload_n (pc := 1001) C 2 dL_law_1001 rfl rfl ?_
    refine x_iload (pc := 1002) C 6 dL_law_1002 rfl ?_
    refine x_iload (pc := 1004) C 13 dL_law_1004 rfl ?_
    refine x_iload (pc := 1006) C 16 dL_law_1006 rfl ?_
    refine x_iadd (pc := 1008) C dL_law_1008 ?_
    obtain ⟨z_113, hz_113, h⟩ := kB h
    refine x_callS (pc := 1009) C [.int v4, .ref (a 31), .int v6, .int (v26 + v29)] (mL_change G a st v4 v6 (v26 + v29) hz_113) ysL_change q12_17 ⟨Nat.le_of_ble_eq_true rfl, Nat.le_of_ble_eq_true rfl, rfl, rfl⟩ Zd.2.1 rfl rfl (Nat.le_of_ble_eq_true rfl) rfl dL_law_1009 ?_
    refine x_istore (pc := 1012) C (lv' := [(30, .int z_113), (0, .ref b), (1, .ref (a 0)), (2, .ref (a 31)), (3, .ref (a 32)), (4, .int v4), (5, .int v5), (6, .int v6), (7, .int v7), (8, .int v8), (10, .int v10), (23, .int v23), (24, .int v24), (25, .int v25), (26, .int v26), (27, .int v27), (28, .int v28), (29, .int v29)]) dL_law_1012 (by decide) rfl ?_
    refine x_iload (pc := 1014) C 5 dL_law_1014 rfl ?_
    refine x_aload_n (pc := 1016) C 3 dL_law_1016 rfl rfl ?_
    refine x_aload_n (pc := 1017) C 4 dL_law_1017 rfl rfl ?_
    refine x_iload (pc := 1018) C 0 dL_law_1018 rfl ?_
    obtain ⟨z_114, hz_114, h⟩ := kB h
    refine x_callS (pc := 1020) C [.int v4, .ref (a 31), .ref (a 32), .int z_113] (mL_touch G a st v4 z_113 hz_114) ysL_touch q17_2 ⟨Nat.le_of_ble_eq_true rfl, Nat.le_of_ble_eq_true rfl, rfl, rfl⟩ Zd.2.1 rfl rfl (Nat.le_of_ble_eq_true rfl) rfl dL_law_1020 ?_
    refine x_if_ne (pc := 1023) C 1030 dL_law_1023 (by decide) (fun c_115 => ?_) (fun c_115 => ?_)
    · have h := kIn c_115 h
      refine x_iconst (pc := 1030) C 0 dL_law_1030 (by decide) ?_
      refine kX.pick [1, 2, 3, 4, 5, 6, 7, 8, 9, 10, 11, 12, 13, 14, 15, 16, 17, 0] (lv' := [(0, .ref b), (1, .ref (a 0)), (2, .ref (a 31)), (3, .ref (a 32)), (4, .int v4), (5, .int v5), (6, .int v6), (7, .int v7), (8, .int v8), (10, .int v10), (23, .int v23), (24, .int v24), (25, .int v25), (26, .int v26), (27, .int v27), (28, .int v28), (29, .int v29), (30, .int z_113)]) rfl ?_
      exact wL_law_J1031  C Zd X  st v4 v5 v6 v7 v8 v10 v23 v24 v25 v26 v27 v28 v29 z_113 0 hK hG h
    · have h := kIp c_115 h
      refine x_iconst (pc := 1026) C 1 dL_law_1026 (by decide) ?_
      refine x_goto (pc := 1027) C 1031 dL_law_1027 (by decide) ?_
      refine kX.pick [1, 2, 3, 4, 5, 6, 7, 8, 9, 10, 11, 12, 13, 14, 15, 16, 17, 0] (lv' := [(0, .ref b), (1, .ref (a 0)), (2, .ref (a 31)), (3, .ref (a 32)), (4, .int v4), (5, .int v5), (6, .int v6), (7, .int v7), (8, .int v8), (10, .int v10), (23, .int v23), (24, .int v24), (25, .int v25), (26, .int v26), (27, .int v27), (28, .int v28), (29, .int v29), (30, .int z_113)]) rfl ?_
      exact wL_law_J1031  C Zd X  st v4 v5 v6 v7 v8 v10 v23 v24 v25 v26 v27 v28 v29 z_113 1 hK hG h
def fL_law_L993 (K : Int32 → Int32 → Int32 → Option (Int32 × kS)) (L : Nat) (xs : Nat → Int32) (st : kS) (v4 : Int32) (v5 : Int32) (v6 : Int32) (v7 : Int32) (v8 : Int32) (v10 : Int32) (v23 : Int32) (v24 : Int32) (v25 : Int32) (v26 : Int32) : Nat → Int32 → Int32 → Int32 → Option (Int32 × kS)
  | 0, _, _, _ => none
  | F + 1, v27, v28, v29 => fL_law_L993_B K (fL_law_L993 K L xs st v4 v5 v6 v7 v8 v10 v23 v24 v25 v26 F) L xs st v4 v5 v6 v7 v8 v10 v23 v24 v25 v26 v27 v28 v29
set_option maxRecDepth 100000 in
set_option maxHeartbeats 4000000 in
theorem wL_law_L993 {G : kG} {E : kE} {a : Nat → Nat} {cs : Nat × Nat} {b L : Nat} {xs : Nat → Int32} (C : kOk G E cL_law RL 36 room_1) {z : Int32 × kS} (Zd : kLawZ E b cs z.1) (X : kScr E b L xs) {K : Int32 → Int32 → Int32 → Option (Int32 × kS)} (st : kS) (v4 : Int32) (v5 : Int32) (v6 : Int32) (v7 : Int32) (v8 : Int32) (v10 : Int32) (v23 : Int32) (v24 : Int32) (v25 : Int32) (v26 : Int32) (hK : ∀ (u27 : Int32) (u28 : Int32) (u29 : Int32), K u27 u28 u29 = some z → kX G E cs (wL G a st) 1160 [(0, .ref b), (1, .ref (a 0)), (2, .ref (a 31)), (3, .ref (a 32)), (4, .int v4), (5, .int v5), (6, .int v6), (7, .int v7), (8, .int v8), (10, .int v10), (23, .int v23), (24, .int v24), (25, .int v25), (26, .int v26), (27, .int u27), (28, .int u28)] []) : ∀ (F : Nat) (v27 : Int32) (v28 : Int32) (v29 : Int32), fL_law_L993 K L xs st v4 v5 v6 v7 v8 v10 v23 v24 v25 v26 F v27 v28 v29 = some z → kX G E cs (wL G a st) 993 [(0, .ref b), (1, .ref (a 0)), (2, .ref (a 31)), (3, .ref (a 32)), (4, .int v4), (5, .int v5), (6, .int v6), (7, .int v7), (8, .int v8), (10, .int v10), (23, .int v23), (24, .int v24), (25, .int v25), (26, .int v26), (27, .int v27), (28, .int v28), (29, .int v29)] [] := by
  intro F
  induction F with
  | zero =>
    intro v27 v28 v29 h
    exact absurd (show none = some z from h) (fun q => by cases q)
  | succ F ih =>
    intro v27 v28 v29 h
    exact wL_law_L993_B  C Zd X  st v4 v5 v6 v7 v8 v10 v23 v24 v25 v26 v27 v28 v29 hK (fun v27 v28 v29 h => ih v27 v28 v29 h) h
def fL_law_L972_B (K : Int32 → Int32 → Int32 → Option (Int32 × kS)) (Gc : Int32 → Int32 → Int32 → Option (Int32 × kS)) (L : Nat) (xs : Nat → Int32) (st : kS) (v4 : Int32) (v5 : Int32) (v6 : Int32) (v7 : Int32) (v8 : Int32) (v10 : Int32) (v23 : Int32) (v24 : Int32) (v25 : Int32) (v26 : Int32) : Option (Int32 × kS) := if v4 ≤ v26 then (K v23 v24 v26) else (if v25 = 0 then (K v23 v24 v26) else (fL_law_L993 (fun v27_130 v28_131 v29_132 => Gc (v23 + v27_130) (v24 + v28_131) (v26 + 1)) L xs st v4 v5 v6 v7 v8 v10 v23 v24 v25 v26 kFU 0 0 (-1)))
set_option maxRecDepth 100000 in
set_option maxHeartbeats 4000000 in
theorem wL_law_L972_B {G : kG} {E : kE} {a : Nat → Nat} {cs : Nat × Nat} {b L : Nat} {xs : Nat → Int32} (C : kOk G E cL_law RL 36 room_1) {z : Int32 × kS} (Zd : kLawZ E b cs z.1) (X : kScr E b L xs) {K Gc : Int32 → Int32 → Int32 → Option (Int32 × kS)} (st : kS) (v4 : Int32) (v5 : Int32) (v6 : Int32) (v7 : Int32) (v8 : Int32) (v10 : Int32) (v23 : Int32) (v24 : Int32) (v25 : Int32) (v26 : Int32) (hK : ∀ (u23 : Int32) (u24 : Int32) (u26 : Int32), K u23 u24 u26 = some z → kX G E cs (wL G a st) 1180 [(0, .ref b), (1, .ref (a 0)), (2, .ref (a 31)), (3, .ref (a 32)), (4, .int v4), (5, .int v5), (6, .int v6), (7, .int v7), (8, .int v8), (10, .int v10), (23, .int u23), (24, .int u24), (25, .int v25)] []) (hG : ∀ (u23 : Int32) (u24 : Int32) (u26 : Int32), Gc u23 u24 u26 = some z → kX G E cs (wL G a st) 972 [(0, .ref b), (1, .ref (a 0)), (2, .ref (a 31)), (3, .ref (a 32)), (4, .int v4), (5, .int v5), (6, .int v6), (7, .int v7), (8, .int v8), (10, .int v10), (23, .int u23), (24, .int u24), (25, .int v25), (26, .int u26)] []) (h : fL_law_L972_B K Gc L xs st v4 v5 v6 v7 v8 v10 v23 v24 v25 v26 = some z) : kX G E cs (wL G a st) 972 [(0, .ref b), (1, .ref (a 0)), (2, .ref (a 31)), (3, .ref (a 32)), (4, .int v4), (5, .int v5), (6, .int v6), (7, .int v7), (8, .int v8), (10, .int v10), (23, .int v23), (24, .int v24), (25, .int v25), (26, .int v26)] [] := by
  unfold fL_law_L972_B at h
  refine x_iload (pc := 972) C 13 dL_law_972 rfl ?_
  refine x_iload (pc := 974) C 4 dL_law_974 rfl ?_
  refine x_icmp_ge (pc := 976) C 1180 dL_law_976 (by decide) (fun c_110 => ?_) (fun c_110 => ?_)
  · have h := kIp c_110 h
    refine kX.pick [0, 1, 2, 3, 4, 5, 6, 7, 8, 9, 10, 11, 12] (lv' := [(0, .ref b), (1, .ref (a 0)), (2, .ref (a 31)), (3, .ref (a 32)), (4, .int v4), (5, .int v5), (6, .int v6), (7, .int v7), (8, .int v8), (10, .int v10), (23, .int v23), (24, .int v24), (25, .int v25)]) rfl ?_
    exact hK v23 v24 v26 h
  · have h := kIn c_110 h
    refine x_iload (pc := 979) C 12 dL_law_979 rfl ?_
    refine x_if_eq (pc := 981) C 1180 dL_law_981 (by decide) (fun c_111 => ?_) (fun c_111 => ?_)
    · have h := kIp c_111 h
      refine kX.pick [0, 1, 2, 3, 4, 5, 6, 7, 8, 9, 10, 11, 12] (lv' := [(0, .ref b), (1, .ref (a 0)), (2, .ref (a 31)), (3, .ref (a 32)), (4, .int v4), (5, .int v5), (6, .int v6), (7, .int v7), (8, .int v8), (10, .int v10), (23, .int v23), (24, .int v24), (25, .int v25)]) rfl ?_
      exact hK v23 v24 v26 h
    · have h := kIn c_111 h
      refine x_iconst (pc := 984) C 0 dL_law_984 (by decide) ?_
      refine x_istore (pc := 985) C (lv' := [(27, .int 0), (0, .ref b), (1, .ref (a 0)), (2, .ref (a 31)), (3, .ref (a 32)), (4, .int v4), (5, .int v5), (6, .int v6), (7, .int v7), (8, .int v8), (10, .int v10), (23, .int v23), (24, .int v24), (25, .int v25), (26, .int v26)]) dL_law_985 (by decide) rfl ?_
      refine x_iconst (pc := 987) C 0 dL_law_987 (by decide) ?_
      refine x_istore (pc := 988) C (lv' := [(28, .int 0), (27, .int 0), (0, .ref b), (1, .ref (a 0)), (2, .ref (a 31)), (3, .ref (a 32)), (4, .int v4), (5, .int v5), (6, .int v6), (7, .int v7), (8, .int v8), (10, .int v10), (23, .int v23), (24, .int v24), (25, .int v25), (26, .int v26)]) dL_law_988 (by decide) rfl ?_
      refine x_iconst (pc := 990) C (-1) dL_law_990 (by decide) ?_
      refine x_istore (pc := 991) C (lv' := [(29, .int (-1)), (28, .int 0), (27, .int 0), (0, .ref b), (1, .ref (a 0)), (2, .ref (a 31)), (3, .ref (a 32)), (4, .int v4), (5, .int v5), (6, .int v6), (7, .int v7), (8, .int v8), (10, .int v10), (23, .int v23), (24, .int v24), (25, .int v25), (26, .int v26)]) dL_law_991 (by decide) rfl ?_
      refine kX.pick [3, 4, 5, 6, 7, 8, 9, 10, 11, 12, 13, 14, 15, 16, 2, 1, 0] (lv' := [(0, .ref b), (1, .ref (a 0)), (2, .ref (a 31)), (3, .ref (a 32)), (4, .int v4), (5, .int v5), (6, .int v6), (7, .int v7), (8, .int v8), (10, .int v10), (23, .int v23), (24, .int v24), (25, .int v25), (26, .int v26), (27, .int 0), (28, .int 0), (29, .int (-1))]) rfl ?_
      refine wL_law_L993  C Zd X  st v4 v5 v6 v7 v8 v10 v23 v24 v25 v26 (fun v27_130 v28_131 v29_132 h => ?_) kFU 0 0 (-1) h
      refine x_iload (pc := 1160) C 10 dL_law_1160 rfl ?_
      refine x_iload (pc := 1162) C 14 dL_law_1162 rfl ?_
      refine x_iadd (pc := 1164) C dL_law_1164 ?_
      refine x_istore (pc := 1165) C (lv' := [(23, .int (v23 + v27_130)), (0, .ref b), (1, .ref (a 0)), (2, .ref (a 31)), (3, .ref (a 32)), (4, .int v4), (5, .int v5), (6, .int v6), (7, .int v7), (8, .int v8), (10, .int v10), (24, .int v24), (25, .int v25), (26, .int v26), (27, .int v27_130), (28, .int v28_131)]) dL_law_1165 (by decide) rfl ?_
      refine x_iload (pc := 1167) C 11 dL_law_1167 rfl ?_
      refine x_iload (pc := 1169) C 15 dL_law_1169 rfl ?_
      refine x_iadd (pc := 1171) C dL_law_1171 ?_
      refine x_istore (pc := 1172) C (lv' := [(24, .int (v24 + v28_131)), (23, .int (v23 + v27_130)), (0, .ref b), (1, .ref (a 0)), (2, .ref (a 31)), (3, .ref (a 32)), (4, .int v4), (5, .int v5), (6, .int v6), (7, .int v7), (8, .int v8), (10, .int v10), (25, .int v25), (26, .int v26), (27, .int v27_130), (28, .int v28_131)]) dL_law_1172 (by decide) rfl ?_
      refine x_iinc (pc := 1174) C 13 (v := v26 + 1) (lv' := [(26, .int (v26 + 1)), (24, .int (v24 + v28_131)), (23, .int (v23 + v27_130)), (0, .ref b), (1, .ref (a 0)), (2, .ref (a 31)), (3, .ref (a 32)), (4, .int v4), (5, .int v5), (6, .int v6), (7, .int v7), (8, .int v8), (10, .int v10), (25, .int v25), (27, .int v27_130), (28, .int v28_131)]) dL_law_1174 rfl rfl (by decide) rfl ?_
      refine x_goto (pc := 1177) C 972 dL_law_1177 (by decide) ?_
      refine kX.pick [3, 4, 5, 6, 7, 8, 9, 10, 11, 12, 2, 1, 13, 0] (lv' := [(0, .ref b), (1, .ref (a 0)), (2, .ref (a 31)), (3, .ref (a 32)), (4, .int v4), (5, .int v5), (6, .int v6), (7, .int v7), (8, .int v8), (10, .int v10), (23, .int (v23 + v27_130)), (24, .int (v24 + v28_131)), (25, .int v25), (26, .int (v26 + 1))]) rfl ?_
      exact hG (v23 + v27_130) (v24 + v28_131) (v26 + 1) h
def fL_law_L972 (K : Int32 → Int32 → Int32 → Option (Int32 × kS)) (L : Nat) (xs : Nat → Int32) (st : kS) (v4 : Int32) (v5 : Int32) (v6 : Int32) (v7 : Int32) (v8 : Int32) (v10 : Int32) (v25 : Int32) : Nat → Int32 → Int32 → Int32 → Option (Int32 × kS)
  | 0, _, _, _ => none
  | F + 1, v23, v24, v26 => fL_law_L972_B K (fL_law_L972 K L xs st v4 v5 v6 v7 v8 v10 v25 F) L xs st v4 v5 v6 v7 v8 v10 v23 v24 v25 v26
set_option maxRecDepth 100000 in
set_option maxHeartbeats 4000000 in
theorem wL_law_L972 {G : kG} {E : kE} {a : Nat → Nat} {cs : Nat × Nat} {b L : Nat} {xs : Nat → Int32} (C : kOk G E cL_law RL 36 room_1) {z : Int32 × kS} (Zd : kLawZ E b cs z.1) (X : kScr E b L xs) {K : Int32 → Int32 → Int32 → Option (Int32 × kS)} (st : kS) (v4 : Int32) (v5 : Int32) (v6 : Int32) (v7 : Int32) (v8 : Int32) (v10 : Int32) (v25 : Int32) (hK : ∀ (u23 : Int32) (u24 : Int32) (u26 : Int32), K u23 u24 u26 = some z → kX G E cs (wL G a st) 1180 [(0, .ref b), (1, .ref (a 0)), (2, .ref (a 31)), (3, .ref (a 32)), (4, .int v4), (5, .int v5), (6, .int v6), (7, .int v7), (8, .int v8), (10, .int v10), (23, .int u23), (24, .int u24), (25, .int v25)] []) : ∀ (F : Nat) (v23 : Int32) (v24 : Int32) (v26 : Int32), fL_law_L972 K L xs st v4 v5 v6 v7 v8 v10 v25 F v23 v24 v26 = some z → kX G E cs (wL G a st) 972 [(0, .ref b), (1, .ref (a 0)), (2, .ref (a 31)), (3, .ref (a 32)), (4, .int v4), (5, .int v5), (6, .int v6), (7, .int v7), (8, .int v8), (10, .int v10), (23, .int v23), (24, .int v24), (25, .int v25), (26, .int v26)] [] := by
  intro F
  induction F with
  | zero =>
    intro v23 v24 v26 h
    exact absurd (show none = some z from h) (fun q => by cases q)
  | succ F ih =>
    intro v23 v24 v26 h
    exact wL_law_L972_B  C Zd X  st v4 v5 v6 v7 v8 v10 v23 v24 v25 v26 hK (fun v23 v24 v26 h => ih v23 v24 v26 h) h
