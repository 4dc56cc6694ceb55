theorem yvX1_countFew : kYV yX1_countFew RX1 cX1_countFew 7 none 0 := ⟨q22_22, q22_23, q2_10, q23_0, by decide +kernel⟩
abbrev rmfX1_countFew : Room := { frames := 2, cells := 0, slots := 0, locals := 46 }
def fX1_countFew_L67_B (K : Int32 → Int32 → kS → Option (kS)) (Gc : Int32 → Int32 → kS → Option (kS)) (st : kS) (v2 : Int32) (v3 : Int32) (v4 : Int32) (v5 : Int32) : Option (kS) := if (gI st 3) ≤ v5 then (K v2 v5 st) else (if (fX8_barred st v5) = 0 then (if (kg 720 (gA st 22) (fX4_after st v4 v5)) = (-1) then (Gc (v2 + 1) (v5 + 1) (sA (sA st 22 (kp 720 (gA st 22) (fX4_after st v4 v5) ((kg 720 (gA st 22) v4) + 1))) 24 (kp 720 (gA st 24) v2 (fX4_after st v4 v5)))) else (Gc v2 (v5 + 1) st)) else (Gc v2 (v5 + 1) st))
set_option maxRecDepth 100000 in
set_option maxHeartbeats 4000000 in
theorem wX1_countFew_L67_B {G : kG} {E : kE} {a : Nat → Nat} (C : kOk G E cX1_countFew RX1 7 rmfX1_countFew) {z : kS} (Zd : kEnd G E (0, 0) none none (wX G a z)) {K Gc : Int32 → Int32 → kS → Option (kS)} (st : kS) (v2 : Int32) (v3 : Int32) (v4 : Int32) (v5 : Int32) (hK : ∀ (u2 : Int32) (u5 : Int32) (su : kS), K u2 u5 su = some z → kX G E (0, 0) (wX G a su) 156 [(0, .ref (a 7)), (2, .int u2), (3, .int v3)] []) (hG : ∀ (u2 : Int32) (u5 : Int32) (su : kS), Gc u2 u5 su = some z → kX G E (0, 0) (wX G a su) 67 [(0, .ref (a 7)), (2, .int u2), (3, .int v3), (4, .int v4), (5, .int u5)] []) (h : fX1_countFew_L67_B K Gc st v2 v3 v4 v5 = some z) : kX G E (0, 0) (wX G a st) 67 [(0, .ref (a 7)), (2, .int v2), (3, .int v3), (4, .int v4), (5, .int v5)] [] := by
  unfold fX1_countFew_L67_B at h
  refine x_iload (pc := 67) C 4 dX1_countFew_67 rfl ?_
  refine x_aload_n (pc := 69) C 0 dX1_countFew_69 rfl rfl ?_
  refine x_get (pc := 70) C inlX1 7 rfl rfl 0 (by decide) q4_8 (v := .ref (a 2)) rfl dX1_countFew_70 ?_
  refine x_getN (pc := 73) C inlX8 2 rfl rfl 2 (by decide) nn3 (v := .int (gI st 3)) rfl dX1_countFew_73 ?_
  refine x_icmp_ge (pc := 76) C 156 dX1_countFew_76 (by decide) (fun c_4 => ?_) (fun c_4 => ?_)
  · have h := kIp c_4 h
    refine kX.pick [0, 1, 2] (lv' := [(0, .ref (a 7)), (2, .int v2), (3, .int v3)]) rfl ?_
    exact hK v2 v5 st h
  · have h := kIn c_4 h
    refine x_aload_n (pc := 79) C 0 dX1_countFew_79 rfl rfl ?_
    refine x_get (pc := 80) C inlX1 7 rfl rfl 1 (by decide) q4_9 (v := .ref (a 5)) rfl dX1_countFew_80 ?_
    refine x_iload (pc := 83) C 3 dX1_countFew_83 rfl ?_
    refine x_iload (pc := 85) C 4 dX1_countFew_85 rfl ?_
    refine x_callV (pc := 87) C 5 [.int v4, .int v5] rfl rfl (mX4_after G a st v4 v5) yvX4_after q23_5 ⟨Nat.le_of_ble_eq_true rfl, Nat.le_of_ble_eq_true rfl, rfl, rfl⟩ ⟨Nat.zero_le _, Nat.zero_le _⟩ rfl rfl (Nat.le_of_ble_eq_true rfl) rfl dX1_countFew_87 ?_
    refine x_istore (pc := 90) C (lv' := [(6, .int (fX4_after st v4 v5)), (0, .ref (a 7)), (2, .int v2), (3, .int v3), (4, .int v4), (5, .int v5)]) dX1_countFew_90 (by decide) rfl ?_
    refine x_aload_n (pc := 92) C 1 dX1_countFew_92 rfl rfl ?_
    refine x_get (pc := 93) C inlX1 7 rfl rfl 0 (by decide) q4_8 (v := .ref (a 2)) rfl dX1_countFew_93 ?_
    refine x_iload (pc := 96) C 5 dX1_countFew_96 rfl ?_
    refine x_callV (pc := 98) C 2 [.int v5] rfl rfl (mX8_barred G a st v5) yvX8_barred q23_6 ⟨Nat.le_of_ble_eq_true rfl, Nat.le_of_ble_eq_true rfl, rfl, rfl⟩ ⟨Nat.zero_le _, Nat.zero_le _⟩ rfl rfl (Nat.le_of_ble_eq_true rfl) rfl dX1_countFew_98 ?_
    refine x_if_ne (pc := 101) C 150 dX1_countFew_101 (by decide) (fun c_5 => ?_) (fun c_5 => ?_)
    · have h := kIn c_5 h
      refine x_iinc (pc := 150) C 5 (v := v5 + 1) (lv' := [(5, .int (v5 + 1)), (6, .int (fX4_after st v4 v5)), (0, .ref (a 7)), (2, .int v2), (3, .int v3), (4, .int v4)]) dX1_countFew_150 rfl rfl (by decide) rfl ?_
      refine x_goto (pc := 153) C 67 dX1_countFew_153 (by decide) ?_
      refine kX.pick [2, 3, 4, 5, 0] (lv' := [(0, .ref (a 7)), (2, .int v2), (3, .int v3), (4, .int v4), (5, .int (v5 + 1))]) rfl ?_
      exact hG v2 (v5 + 1) st h
    · have h := kIp c_5 h
      refine x_aload_n (pc := 104) C 1 dX1_countFew_104 rfl rfl ?_
      refine x_get (pc := 105) C inlX1 7 rfl rfl 3 (by decide) q4_5 (v := .ref (a 22)) rfl dX1_countFew_105 ?_
      refine x_iload (pc := 108) C 0 dX1_countFew_108 rfl ?_
      refine x_callS (pc := 110) C [.ref (a 22), .int (fX4_after st v4 v5)] (mX0_get G (N := 720) (f := (gA st 22)) 22 (lwX_A22 G a rfl) (by decide) (fX4_after st v4 v5)) ysX0_get q23_4 ⟨Nat.le_of_ble_eq_true rfl, Nat.le_of_ble_eq_true rfl, rfl, rfl⟩ ⟨Nat.zero_le _, Nat.zero_le _⟩ rfl rfl (Nat.le_of_ble_eq_true rfl) rfl dX1_countFew_110 ?_
      refine x_iconst (pc := 113) C (-1) dX1_countFew_113 (by decide) ?_
      refine x_icmp_ne (pc := 114) C 150 dX1_countFew_114 (by decide) (fun c_6 => ?_) (fun c_6 => ?_)
      · have h := kIn c_6 h
        refine x_iinc (pc := 150) C 5 (v := v5 + 1) (lv' := [(5, .int (v5 + 1)), (6, .int (fX4_after st v4 v5)), (0, .ref (a 7)), (2, .int v2), (3, .int v3), (4, .int v4)]) dX1_countFew_150 rfl rfl (by decide) rfl ?_
        refine x_goto (pc := 153) C 67 dX1_countFew_153 (by decide) ?_
        refine kX.pick [2, 3, 4, 5, 0] (lv' := [(0, .ref (a 7)), (2, .int v2), (3, .int v3), (4, .int v4), (5, .int (v5 + 1))]) rfl ?_
        exact hG v2 (v5 + 1) st h
      · have h := kIp c_6 h
        refine x_aload_n (pc := 117) C 1 dX1_countFew_117 rfl rfl ?_
        refine x_get (pc := 118) C inlX1 7 rfl rfl 3 (by decide) q4_5 (v := .ref (a 22)) rfl dX1_countFew_118 ?_
        refine x_iload (pc := 121) C 0 dX1_countFew_121 rfl ?_
        refine x_aload_n (pc := 123) C 1 dX1_countFew_123 rfl rfl ?_
        refine x_get (pc := 124) C inlX1 7 rfl rfl 3 (by decide) q4_5 (v := .ref (a 22)) rfl dX1_countFew_124 ?_
        refine x_iload (pc := 127) C 4 dX1_countFew_127 rfl ?_
        refine x_callS (pc := 129) C [.ref (a 22), .int v4] (mX0_get G (N := 720) (f := (gA st 22)) 22 (lwX_A22 G a rfl) (by decide) v4) ysX0_get q23_4 ⟨Nat.le_of_ble_eq_true rfl, Nat.le_of_ble_eq_true rfl, rfl, rfl⟩ ⟨Nat.zero_le _, Nat.zero_le _⟩ rfl rfl (Nat.le_of_ble_eq_true rfl) rfl dX1_countFew_129 ?_
        refine x_iconst (pc := 132) C 1 dX1_countFew_132 (by decide) ?_
        refine x_iadd (pc := 133) C dX1_countFew_133 ?_
        refine x_callS (pc := 134) C [.ref (a 22), .int (fX4_after st v4 v5), .int ((kg 720 (gA st 22) v4) + 1)] (mX0_put G (N := 720) (f := (gA st 22)) 22 (lwX_A22 G a rfl) (by decide) (fX4_after st v4 v5) ((kg 720 (gA st 22) v4) + 1) (swX_A22 G a _ _)) ysX0_put q23_3 ⟨Nat.le_of_ble_eq_true rfl, Nat.le_of_ble_eq_true rfl, rfl, rfl⟩ ⟨Nat.zero_le _, Nat.zero_le _⟩ rfl rfl (Nat.le_of_ble_eq_true rfl) rfl dX1_countFew_134 ?_
        refine x_aload_n (pc := 137) C 1 dX1_countFew_137 rfl rfl ?_
        refine x_get (pc := 138) C inlX1 7 rfl rfl 5 (by decide) q4_7 (v := .ref (a 24)) rfl dX1_countFew_138 ?_
        refine x_iload_n (pc := 141) C 2 dX1_countFew_141 rfl rfl ?_
        refine x_iload (pc := 142) C 0 dX1_countFew_142 rfl ?_
        refine x_callS (pc := 144) C [.ref (a 24), .int v2, .int (fX4_after st v4 v5)] (mX0_put G (N := 720) (f := (gA st 24)) 24 (lwX_A24 G a (gA_n (by decide))) (by decide) v2 (fX4_after st v4 v5) (swX_A24 G a _ _)) ysX0_put q23_3 ⟨Nat.le_of_ble_eq_true rfl, Nat.le_of_ble_eq_true rfl, rfl, rfl⟩ ⟨Nat.zero_le _, Nat.zero_le _⟩ rfl rfl (Nat.le_of_ble_eq_true rfl) rfl dX1_countFew_144 ?_
        refine x_iinc (pc := 147) C 2 (v := v2 + 1) (lv' := [(2, .int (v2 + 1)), (6, .int (fX4_after st v4 v5)), (0, .ref (a 7)), (3, .int v3), (4, .int v4), (5, .int v5)]) dX1_countFew_147 rfl rfl (by decide) rfl ?_
        refine x_iinc (pc := 150) C 5 (v := v5 + 1) (lv' := [(5, .int (v5 + 1)), (2, .int (v2 + 1)), (6, .int (fX4_after st v4 v5)), (0, .ref (a 7)), (3, .int v3), (4, .int v4)]) dX1_countFew_150 rfl rfl (by decide) rfl ?_
        refine x_goto (pc := 153) C 67 dX1_countFew_153 (by decide) ?_
        refine kX.pick [3, 1, 4, 5, 0] (lv' := [(0, .ref (a 7)), (2, .int (v2 + 1)), (3, .int v3), (4, .int v4), (5, .int (v5 + 1))]) rfl ?_
        exact hG (v2 + 1) (v5 + 1) (sA (sA st 22 (kp 720 (gA st 22) (fX4_after st v4 v5) ((kg 720 (gA st 22) v4) + 1))) 24 (kp 720 (gA st 24) v2 (fX4_after st v4 v5))) h
def fX1_countFew_L67 (K : Int32 → Int32 → kS → Option (kS)) (v3 : Int32) (v4 : Int32) : Nat → Int32 → Int32 → kS → Option (kS)
  | 0, _, _, _ => none
  | F + 1, v2, v5, st => fX1_countFew_L67_B K (fX1_countFew_L67 K v3 v4 F) st v2 v3 v4 v5
set_option maxRecDepth 100000 in
set_option maxHeartbeats 4000000 in
theorem wX1_countFew_L67 {G : kG} {E : kE} {a : Nat → Nat} (C : kOk G E cX1_countFew RX1 7 rmfX1_countFew) {z : kS} (Zd : kEnd G E (0, 0) none none (wX G a z)) {K : Int32 → Int32 → kS → Option (kS)} (v3 : Int32) (v4 : Int32) (hK : ∀ (u2 : Int32) (u5 : Int32) (su : kS), K u2 u5 su = some z → kX G E (0, 0) (wX G a su) 156 [(0, .ref (a 7)), (2, .int u2), (3, .int v3)] []) : ∀ (F : Nat) (v2 : Int32) (v5 : Int32) (st : kS), fX1_countFew_L67 K v3 v4 F v2 v5 st = some z → kX G E (0, 0) (wX G a st) 67 [(0, .ref (a 7)), (2, .int v2), (3, .int v3), (4, .int v4), (5, .int v5)] [] := by
  intro F
  induction F with
  | zero =>
    intro v2 v5 st h
    exact absurd (show none = some z from h) (fun q => by cases q)
  | succ F ih =>
    intro v2 v5 st h
    exact wX1_countFew_L67_B  C Zd  st v2 v3 v4 v5 hK (fun v2 v5 st h => ih v2 v5 st h) h
def fX1_countFew_L42_B (K : Int32 → Int32 → kS → Option (kS)) (Gc : Int32 → Int32 → kS → Option (kS)) (st : kS) (v2 : Int32) (v3 : Int32) : Option (kS) := if v2 ≤ v3 then (K v2 v3 st) else (if 720 ≤ v3 then (K v2 v3 st) else (fX1_countFew_L67 (fun v2_7 v5_8 st_9 => Gc v2_7 (v3 + 1) st_9) v3 (kg 720 (gA st 24) v3) kFU v2 0 st))
set_option maxRecDepth 100000 in
set_option maxHeartbeats 4000000 in
theorem wX1_countFew_L42_B {G : kG} {E : kE} {a : Nat → Nat} (C : kOk G E cX1_countFew RX1 7 rmfX1_countFew) {z : kS} (Zd : kEnd G E (0, 0) none none (wX G a z)) {K Gc : Int32 → Int32 → kS → Option (kS)} (st : kS) (v2 : Int32) (v3 : Int32) (hK : ∀ (u2 : Int32) (u3 : Int32) (su : kS), K u2 u3 su = some z → kX G E (0, 0) (wX G a su) 162 [] []) (hG : ∀ (u2 : Int32) (u3 : Int32) (su : kS), Gc u2 u3 su = some z → kX G E (0, 0) (wX G a su) 42 [(0, .ref (a 7)), (2, .int u2), (3, .int u3)] []) (h : fX1_countFew_L42_B K Gc st v2 v3 = some z) : kX G E (0, 0) (wX G a st) 42 [(0, .ref (a 7)), (2, .int v2), (3, .int v3)] [] := by
  unfold fX1_countFew_L42_B at h
  refine x_iload_n (pc := 42) C 2 dX1_countFew_42 rfl rfl ?_
  refine x_iload_n (pc := 43) C 1 dX1_countFew_43 rfl rfl ?_
  refine x_icmp_ge (pc := 44) C 162 dX1_countFew_44 (by decide) (fun c_2 => ?_) (fun c_2 => ?_)
  · have h := kIp c_2 h
    refine kX.pick [] (lv' := []) rfl ?_
    exact hK v2 v3 st h
  · have h := kIn c_2 h
    refine x_iload_n (pc := 47) C 2 dX1_countFew_47 rfl rfl ?_
    refine x_sipush (pc := 48) C 720 dX1_countFew_48 (by decide) ?_
    refine x_icmp_ge (pc := 51) C 162 dX1_countFew_51 (by decide) (fun c_3 => ?_) (fun c_3 => ?_)
    · have h := kIp c_3 h
      refine kX.pick [] (lv' := []) rfl ?_
      exact hK v2 v3 st h
    · have h := kIn c_3 h
      refine x_aload_n (pc := 54) C 0 dX1_countFew_54 rfl rfl ?_
      refine x_get (pc := 55) C inlX1 7 rfl rfl 5 (by decide) q4_7 (v := .ref (a 24)) rfl dX1_countFew_55 ?_
      refine x_iload_n (pc := 58) C 2 dX1_countFew_58 rfl rfl ?_
      refine x_callS (pc := 59) C [.ref (a 24), .int v3] (mX0_get G (N := 720) (f := (gA st 24)) 24 (lwX_A24 G a rfl) (by decide) v3) ysX0_get q23_4 ⟨Nat.le_of_ble_eq_true rfl, Nat.le_of_ble_eq_true rfl, rfl, rfl⟩ ⟨Nat.zero_le _, Nat.zero_le _⟩ rfl rfl (Nat.le_of_ble_eq_true rfl) rfl dX1_countFew_59 ?_
      refine x_istore (pc := 62) C (lv' := [(4, .int (kg 720 (gA st 24) v3)), (0, .ref (a 7)), (2, .int v2), (3, .int v3)]) dX1_countFew_62 (by decide) rfl ?_
      refine x_iconst (pc := 64) C 0 dX1_countFew_64 (by decide) ?_
      refine x_istore (pc := 65) C (lv' := [(5, .int 0), (4, .int (kg 720 (gA st 24) v3)), (0, .ref (a 7)), (2, .int v2), (3, .int v3)]) dX1_countFew_65 (by decide) rfl ?_
      refine kX.pick [2, 3, 4, 1, 0] (lv' := [(0, .ref (a 7)), (2, .int v2), (3, .int v3), (4, .int (kg 720 (gA st 24) v3)), (5, .int 0)]) rfl ?_
      refine wX1_countFew_L67  C Zd  v3 (kg 720 (gA st 24) v3) (fun v2_7 v5_8 st_9 h => ?_) kFU v2 0 st h
      refine x_iinc (pc := 156) C 2 (v := v3 + 1) (lv' := [(3, .int (v3 + 1)), (0, .ref (a 7)), (2, .int v2_7)]) dX1_countFew_156 rfl rfl (by decide) rfl ?_
      refine x_goto (pc := 159) C 42 dX1_countFew_159 (by decide) ?_
      refine kX.pick [1, 2, 0] (lv' := [(0, .ref (a 7)), (2, .int v2_7), (3, .int (v3 + 1))]) rfl ?_
      exact hG v2_7 (v3 + 1) st_9 h
def fX1_countFew_L42 (K : Int32 → Int32 → kS → Option (kS)) : Nat → Int32 → Int32 → kS → Option (kS)
  | 0, _, _, _ => none
  | F + 1, v2, v3, st => fX1_countFew_L42_B K (fX1_countFew_L42 K F) st v2 v3
set_option maxRecDepth 100000 in
set_option maxHeartbeats 4000000 in
theorem wX1_countFew_L42 {G : kG} {E : kE} {a : Nat → Nat} (C : kOk G E cX1_countFew RX1 7 rmfX1_countFew) {z : kS} (Zd : kEnd G E (0, 0) none none (wX G a z)) {K : Int32 → Int32 → kS → Option (kS)} (hK : ∀ (u2 : Int32) (u3 : Int32) (su : kS), K u2 u3 su = some z → kX G E (0, 0) (wX G a su) 162 [] []) : ∀ (F : Nat) (v2 : Int32) (v3 : Int32) (st : kS), fX1_countFew_L42 K F v2 v3 st = some z → kX G E (0, 0) (wX G a st) 42 [(0, .ref (a 7)), (2, .int v2), (3, .int v3)] [] := by
  intro F
  induction F with
  | zero =>
    intro v2 v3 st h
    exact absurd (show none = some z from h) (fun q => by cases q)
  | succ F ih =>
    intro v2 v3 st h
    exact wX1_countFew_L42_B  C Zd  st v2 v3 hK (fun v2 v3 st h => ih v2 v3 st h) h
def fX1_countFew (st : kS) : Option (kS) := (fX4_numberOf 6 (gA st 21) (sA st 22 (kfill 720 (gA st 22) (-1)))).bind (fun z_1 => fX1_countFew_L42 (fun v2_10 v3_11 st_12 => some st_12) kFU 1 0 (sA (sA (sA st 22 (kfill 720 (gA st 22) (-1))) 22 (kp 720 (kfill 720 (gA st 22) (-1)) z_1 0)) 24 (kp 720 (gA st 24) 0 z_1)))
set_option maxRecDepth 100000 in
set_option maxHeartbeats 4000000 in
theorem wX1_countFew {G : kG} {E : kE} {a : Nat → Nat} (C : kOk G E cX1_countFew RX1 7 rmfX1_countFew) {z : kS} (Zd : kEnd G E (0, 0) none none (wX G a z)) (st : kS) (h : fX1_countFew st = some z) : kX G E (0, 0) (wX G a st) 0 [(0, .ref (a 7))] [] := by
  unfold fX1_countFew at h
  refine x_aload_n (pc := 0) C 0 dX1_countFew_0 rfl rfl ?_
  refine x_get (pc := 1) C inlX1 7 rfl rfl 3 (by decide) q4_5 (v := .ref (a 22)) rfl dX1_countFew_1 ?_
  refine x_iconst (pc := 4) C (-1) dX1_countFew_4 (by decide) ?_
  refine x_callS (pc := 5) C [.ref (a 22), .int (-1)] (mJ7_fill_53178 G (N := 720) (f := (gA st 22)) 22 (lwX_A22 G a rfl) (by decide) (-1) (swX_A22 G a _ _)) ysJ7_fill_53178 q23_1 ⟨Nat.le_of_ble_eq_true rfl, Nat.le_of_ble_eq_true rfl, rfl, rfl⟩ ⟨Nat.zero_le _, Nat.zero_le _⟩ rfl rfl (Nat.le_of_ble_eq_true rfl) rfl dX1_countFew_5 ?_
  refine x_aload_n (pc := 8) C 0 dX1_countFew_8 rfl rfl ?_
  refine x_get (pc := 9) C inlX1 7 rfl rfl 1 (by decide) q4_9 (v := .ref (a 5)) rfl dX1_countFew_9 ?_
  refine x_aload_n (pc := 12) C 0 dX1_countFew_12 rfl rfl ?_
  refine x_get (pc := 13) C inlX1 7 rfl rfl 2 (by decide) q4_4 (v := .ref (a 21)) rfl dX1_countFew_13 ?_
  obtain ⟨z_1, hz_1, h⟩ := kB h
  refine x_callV (pc := 16) C 5 [.ref (a 21)] rfl rfl (mX4_numberOf G a (N := 6) (f := (gA st 21)) 21 (lwX_A21 G a (gA_n (by decide))) (by decide) (sA st 22 (kfill 720 (gA st 22) (-1))) hz_1) yvX4_numberOf q23_2 ⟨Nat.le_of_ble_eq_true rfl, Nat.le_of_ble_eq_true rfl, rfl, rfl⟩ ⟨Nat.zero_le _, Nat.zero_le _⟩ rfl rfl (Nat.le_of_ble_eq_true rfl) rfl dX1_countFew_16 ?_
  refine x_istore_n (pc := 19) C (lv' := [(1, .int z_1), (0, .ref (a 7))]) dX1_countFew_19 rfl (by decide) rfl ?_
  refine x_aload_n (pc := 20) C 1 dX1_countFew_20 rfl rfl ?_
  refine x_get (pc := 21) C inlX1 7 rfl rfl 3 (by decide) q4_5 (v := .ref (a 22)) rfl dX1_countFew_21 ?_
  refine x_iload_n (pc := 24) C 0 dX1_countFew_24 rfl rfl ?_
  refine x_iconst (pc := 25) C 0 dX1_countFew_25 (by decide) ?_
  refine x_callS (pc := 26) C [.ref (a 22), .int z_1, .int 0] (mX0_put G (N := 720) (f := (kfill 720 (gA st 22) (-1))) 22 (lwX_A22 G a (gA_e _ _ _)) (by decide) z_1 0 (swX_A22 G a _ _)) ysX0_put q23_3 ⟨Nat.le_of_ble_eq_true rfl, Nat.le_of_ble_eq_true rfl, rfl, rfl⟩ ⟨Nat.zero_le _, Nat.zero_le _⟩ rfl rfl (Nat.le_of_ble_eq_true rfl) rfl dX1_countFew_26 ?_
  refine x_aload_n (pc := 29) C 1 dX1_countFew_29 rfl rfl ?_
  refine x_get (pc := 30) C inlX1 7 rfl rfl 5 (by decide) q4_7 (v := .ref (a 24)) rfl dX1_countFew_30 ?_
  refine x_iconst (pc := 33) C 0 dX1_countFew_33 (by decide) ?_
  refine x_iload_n (pc := 34) C 0 dX1_countFew_34 rfl rfl ?_
  refine x_callS (pc := 35) C [.ref (a 24), .int 0, .int z_1] (mX0_put G (N := 720) (f := (gA st 24)) 24 (lwX_A24 G a (Eq.trans (gA_n (by decide)) (gA_n (by decide)))) (by decide) 0 z_1 (swX_A24 G a _ _)) ysX0_put q23_3 ⟨Nat.le_of_ble_eq_true rfl, Nat.le_of_ble_eq_true rfl, rfl, rfl⟩ ⟨Nat.zero_le _, Nat.zero_le _⟩ rfl rfl (Nat.le_of_ble_eq_true rfl) rfl dX1_countFew_35 ?_
  refine x_iconst (pc := 38) C 1 dX1_countFew_38 (by decide) ?_
  refine x_istore_n (pc := 39) C (lv' := [(2, .int 1), (1, .int z_1), (0, .ref (a 7))]) dX1_countFew_39 rfl (by decide) rfl ?_
  refine x_iconst (pc := 40) C 0 dX1_countFew_40 (by decide) ?_
  refine x_istore_n (pc := 41) C (lv' := [(3, .int 0), (2, .int 1), (1, .int z_1), (0, .ref (a 7))]) dX1_countFew_41 rfl (by decide) rfl ?_
  refine kX.pick [3, 1, 0] (lv' := [(0, .ref (a 7)), (2, .int 1), (3, .int 0)]) rfl ?_
  refine wX1_countFew_L42  C Zd   (fun v2_10 v3_11 st_12 h => ?_) kFU 1 0 (sA (sA (sA st 22 (kfill 720 (gA st 22) (-1))) 22 (kp 720 (kfill 720 (gA st 22) (-1)) z_1 0)) 24 (kp 720 (gA st 24) 0 z_1)) h
  obtain rfl := Option.some.inj h
  exact x_vret (pc := 162) C Zd dX1_countFew_162
set_option maxRecDepth 100000 in
theorem mX1_countFew (G : kG) (a : Nat → Nat) (st : kS)  {z : kS} (h : fX1_countFew st = some z) : kMet G yX1_countFew cX1_countFew 7 none rmfX1_countFew (0, 0) [.ref (a 7)] (wX G a st) none (wX G a z) := kMet.mk (by decide +kernel) (Nat.le_of_ble_eq_true rfl) (fun E C Zd => wX1_countFew  C Zd  st  h)
theorem yvX1_fewestFrom : kYV yX1_fewestFrom RX1 cX1_fewestFrom 2 (some .int) 1 := ⟨q22_17, q22_18, q2_10, q22_19, by decide +kernel⟩
abbrev rmfX1_fewestFrom : Room := { frames := 3, cells := 0, slots := 0, locals := 72 }
def fX1_fewestFrom_J16 (st : kS) (v1 : Int32) : Option (Int32 × kS) := some ((kg 720 (gA st 22) v1), st)
set_option maxRecDepth 100000 in
set_option maxHeartbeats 4000000 in
theorem wX1_fewestFrom_J16 {G : kG} {E : kE} {a : Nat → Nat} (C : kOk G E cX1_fewestFrom RX1 2 rmfX1_fewestFrom) {z : Int32 × kS} (Zd : kEnd G E (0, 0) (some .int) (some (.int z.1)) (wX G a z.2)) (st : kS) (v1 : Int32) (h : fX1_fewestFrom_J16 st v1 = some z) : kX G E (0, 0) (wX G a st) 16 [(0, .ref (a 7)), (1, .int v1)] [] := by
  unfold fX1_fewestFrom_J16 at h
  refine x_aload_n (pc := 16) C 0 dX1_fewestFrom_16 rfl rfl ?_
  refine x_get (pc := 17) C inlX1 7 rfl rfl 3 (by decide) q4_5 (v := .ref (a 22)) rfl dX1_fewestFrom_17 ?_
  refine x_iload_n (pc := 20) C 1 dX1_fewestFrom_20 rfl rfl ?_
  refine x_callS (pc := 21) C [.ref (a 22), .int v1] (mX0_get G (N := 720) (f := (gA st 22)) 22 (lwX_A22 G a rfl) (by decide) v1) ysX0_get q23_4 ⟨Nat.le_of_ble_eq_true rfl, Nat.le_of_ble_eq_true rfl, rfl, rfl⟩ ⟨Nat.zero_le _, Nat.zero_le _⟩ rfl rfl (Nat.le_of_ble_eq_true rfl) rfl dX1_fewestFrom_21 ?_
  obtain rfl := Option.some.inj h
  exact x_iret (pc := 24) C Zd dX1_fewestFrom_24
def fX1_fewestFrom (st : kS) (x1 : Int32) : Option (Int32 × kS) := if (gI st 14) = 0 then ((fX1_countFew st).bind (fun z_2 => fX1_fewestFrom_J16 (sI z_2 14 1) x1)) else (fX1_fewestFrom_J16 st x1)
set_option maxRecDepth 100000 in
set_option maxHeartbeats 4000000 in
theorem wX1_fewestFrom {G : kG} {E : kE} {a : Nat → Nat} (C : kOk G E cX1_fewestFrom RX1 2 rmfX1_fewestFrom) {z : Int32 × kS} (Zd : kEnd G E (0, 0) (some .int) (some (.int z.1)) (wX G a z.2)) (st : kS) (x1 : Int32) (h : fX1_fewestFrom st x1 = some z) : kX G E (0, 0) (wX G a st) 0 [(0, .ref (a 7)), (1, .int x1)] [] := by
  unfold fX1_fewestFrom at h
  refine x_aload_n (pc := 0) C 0 dX1_fewestFrom_0 rfl rfl ?_
  refine x_get (pc := 1) C inlX1 7 rfl rfl 7 (by decide) q22_20 (v := .int (gI st 14)) rfl dX1_fewestFrom_1 ?_
  refine x_if_ne (pc := 4) C 16 dX1_fewestFrom_4 (by decide) (fun c_1 => ?_) (fun c_1 => ?_)
  · have h := kIn c_1 h
    exact wX1_fewestFrom_J16  C Zd  st x1 h
  · have h := kIp c_1 h
    refine x_aload_n (pc := 7) C 0 dX1_fewestFrom_7 rfl rfl ?_
    obtain ⟨z_2, hz_2, h⟩ := kB h
    refine x_callV (pc := 8) C 7 [] rfl rfl (mX1_countFew G a st hz_2) yvX1_countFew q22_21 ⟨Nat.le_of_ble_eq_true rfl, Nat.le_of_ble_eq_true rfl, rfl, rfl⟩ ⟨Nat.zero_le _, Nat.zero_le _⟩ rfl rfl (Nat.le_of_ble_eq_true rfl) rfl dX1_fewestFrom_8 ?_
    refine x_aload_n (pc := 11) C 0 dX1_fewestFrom_11 rfl rfl ?_
    refine x_iconst (pc := 12) C 1 dX1_fewestFrom_12 (by decide) ?_
    refine x_put (pc := 13) C inlX1 tyX1 tyX1_ok nmX1 7 rfl rfl 7 (by decide) q22_20 rfl .boolean (v := .int 1) (by decide +kernel) rfl rfl (Nat.le_of_ble_eq_true rfl) (swX_I14 G a _ _) dX1_fewestFrom_13 ?_
    exact wX1_fewestFrom_J16  C Zd  (sI z_2 14 1) x1 h
set_option maxRecDepth 100000 in
theorem mX1_fewestFrom (G : kG) (a : Nat → Nat) (st : kS) (x1 : Int32) {z : Int32 × kS} (h : fX1_fewestFrom st x1 = some z) : kMet G yX1_fewestFrom cX1_fewestFrom 2 (some .int) rmfX1_fewestFrom (0, 0) [.ref (a 7), .int x1] (wX G a st) (some (.int z.1)) (wX G a z.2) := kMet.mk (by decide +kernel) (Nat.le_of_ble_eq_true rfl) (fun E C Zd => wX1_fewestFrom  C Zd  st x1 h)
theorem yvX9_fewest : kYV yX9_fewest RX9 cX9_fewest 1 (some .int) 0 := ⟨q22_13, q22_14, q1_2, q22_15, by decide +kernel⟩
abbrev rmfX9_fewest : Room := { frames := 4, cells := 0, slots := 0, locals := 93 }
def fX9_fewest (st : kS) : Option (Int32 × kS) := if (gI st 13) = 0 then (some ((-103), st)) else ((fX9_number st).bind (fun z_2 => (fX1_fewestFrom st z_2).bind (fun z_3 => some (z_3.1, z_3.2))))
set_option maxRecDepth 100000 in
set_option maxHeartbeats 4000000 in
theorem wX9_fewest {G : kG} {E : kE} {a : Nat → Nat} (C : kOk G E cX9_fewest RX9 1 rmfX9_fewest) {z : Int32 × kS} (Zd : kEnd G E (0, 0) (some .int) (some (.int z.1)) (wX G a z.2)) (st : kS) (h : fX9_fewest st = some z) : kX G E (0, 0) (wX G a st) 0 [(0, .ref (a 0))] [] := by
  unfold fX9_fewest at h
  refine x_aload_n (pc := 0) C 0 dX9_fewest_0 rfl rfl ?_
  refine x_get (pc := 1) C inlX9 0 rfl rfl 6 (by decide) q2_11 (v := .ref (a 7)) rfl dX9_fewest_1 ?_
  refine x_getN (pc := 4) C inlX1 7 rfl rfl 6 (by decide) nn18 (v := .int (gI st 13)) rfl dX9_fewest_4 ?_
  refine x_if_eq (pc := 7) C 24 dX9_fewest_7 (by decide) (fun c_1 => ?_) (fun c_1 => ?_)
  · have h := kIp c_1 h
    refine x_bipush (pc := 24) C (-103) dX9_fewest_24 (by decide) ?_
    obtain rfl := Option.some.inj h
    exact x_iret (pc := 26) C Zd dX9_fewest_26
  · have h := kIn c_1 h
    refine x_aload_n (pc := 10) C 0 dX9_fewest_10 rfl rfl ?_
    refine x_get (pc := 11) C inlX9 0 rfl rfl 6 (by decide) q2_11 (v := .ref (a 7)) rfl dX9_fewest_11 ?_
    refine x_aload_n (pc := 14) C 0 dX9_fewest_14 rfl rfl ?_
    obtain ⟨z_2, hz_2, h⟩ := kB h
    refine x_callV (pc := 15) C 0 [] rfl rfl (mX9_number G a st hz_2) yvX9_number q20_2 ⟨Nat.le_of_ble_eq_true rfl, Nat.le_of_ble_eq_true rfl, rfl, rfl⟩ ⟨Nat.zero_le _, Nat.zero_le _⟩ rfl rfl (Nat.le_of_ble_eq_true rfl) rfl dX9_fewest_15 ?_
    obtain ⟨z_3, hz_3, h⟩ := kB h
    refine x_callV (pc := 18) C 7 [.int z_2] rfl rfl (mX1_fewestFrom G a st z_2 hz_3) yvX1_fewestFrom q22_16 ⟨Nat.le_of_ble_eq_true rfl, Nat.le_of_ble_eq_true rfl, rfl, rfl⟩ ⟨Nat.zero_le _, Nat.zero_le _⟩ rfl rfl (Nat.le_of_ble_eq_true rfl) rfl dX9_fewest_18 ?_
    refine x_goto (pc := 21) C 26 dX9_fewest_21 (by decide) ?_
    obtain rfl := Option.some.inj h
    exact x_iret (pc := 26) C Zd dX9_fewest_26
set_option maxRecDepth 100000 in
theorem mX9_fewest (G : kG) (a : Nat → Nat) (st : kS)  {z : Int32 × kS} (h : fX9_fewest st = some z) : kMet G yX9_fewest cX9_fewest 1 (some .int) rmfX9_fewest (0, 0) [.ref (a 0)] (wX G a st) (some (.int z.1)) (wX G a z.2) := kMet.mk (by decide +kernel) (Nat.le_of_ble_eq_true rfl) (fun E C Zd => wX9_fewest  C Zd  st  h)
theorem yvX1_canForce : kYV yX1_canForce RX1 cX1_canForce 6 (some .boolean) 2 := ⟨q23_21, q23_22, q2_10, q23_23, by decide +kernel⟩
abbrev rmfX1_canForce : Room := { frames := 2, cells := 0, slots := 0, locals := 43 }
def fX1_canForce_J50 (K : Int32 → Int32 → Option (Int32)) (Gc : Int32 → Int32 → Option (Int32)) (st : kS) (v1 : Int32) (v2 : Int32) (v3 : Int32) (v4 : Int32) (s0 : Int32) : Option (Int32) := if s0 = (-1) then (Gc v3 (v4 + 1)) else (if v2 ≤ s0 then (Gc v3 (v4 + 1)) else (Gc (v3 ||| (kshl 1 v4)) (v4 + 1)))
set_option maxRecDepth 100000 in
set_option maxHeartbeats 4000000 in
theorem wX1_canForce_J50 {G : kG} {E : kE} {a : Nat → Nat} {st0 : kS} (C : kOk G E cX1_canForce RX1 6 rmfX1_canForce) {z : Int32} (Zd : kEnd G E (0, 0) (some .boolean) (some (.int z)) (wX G a st0)) {K Gc : Int32 → Int32 → Option (Int32)} (v1 : Int32) (v2 : Int32) (v3 : Int32) (v4 : Int32) (s0 : Int32) (hK : ∀ (u3 : Int32) (u4 : Int32), K u3 u4 = some z → kX G E (0, 0) (wX G a st0) 77 [(0, .ref (a 7)), (3, .int u3)] []) (hG : ∀ (u3 : Int32) (u4 : Int32), Gc u3 u4 = some z → kX G E (0, 0) (wX G a st0) 5 [(0, .ref (a 7)), (1, .int v1), (2, .int v2), (3, .int u3), (4, .int u4)] []) (h : fX1_canForce_J50 K Gc st0 v1 v2 v3 v4 s0 = some z) : kX G E (0, 0) (wX G a st0) 50 [(0, .ref (a 7)), (1, .int v1), (2, .int v2), (3, .int v3), (4, .int v4)] [.int s0] := by
  unfold fX1_canForce_J50 at h
  refine x_istore (pc := 50) C (lv' := [(5, .int s0), (0, .ref (a 7)), (1, .int v1), (2, .int v2), (3, .int v3), (4, .int v4)]) dX1_canForce_50 (by decide) rfl ?_
  refine x_iload (pc := 52) C 0 dX1_canForce_52 rfl ?_
  refine x_iconst (pc := 54) C (-1) dX1_canForce_54 (by decide) ?_
  refine x_icmp_eq (pc := 55) C 71 dX1_canForce_55 (by decide) (fun c_3 => ?_) (fun c_3 => ?_)
  · have h := kIp c_3 h
    refine x_iinc (pc := 71) C 5 (v := v4 + 1) (lv' := [(4, .int (v4 + 1)), (5, .int s0), (0, .ref (a 7)), (1, .int v1), (2, .int v2), (3, .int v3)]) dX1_canForce_71 rfl rfl (by decide) rfl ?_
    refine x_goto (pc := 74) C 5 dX1_canForce_74 (by decide) ?_
    refine kX.pick [2, 3, 4, 5, 0] (lv' := [(0, .ref (a 7)), (1, .int v1), (2, .int v2), (3, .int v3), (4, .int (v4 + 1))]) rfl ?_
    exact hG v3 (v4 + 1) h
  · have h := kIn c_3 h
    refine x_iload (pc := 58) C 0 dX1_canForce_58 rfl ?_
    refine x_iload_n (pc := 60) C 3 dX1_canForce_60 rfl rfl ?_
    refine x_icmp_ge (pc := 61) C 71 dX1_canForce_61 (by decide) (fun c_4 => ?_) (fun c_4 => ?_)
    · have h := kIp c_4 h
      refine x_iinc (pc := 71) C 5 (v := v4 + 1) (lv' := [(4, .int (v4 + 1)), (5, .int s0), (0, .ref (a 7)), (1, .int v1), (2, .int v2), (3, .int v3)]) dX1_canForce_71 rfl rfl (by decide) rfl ?_
      refine x_goto (pc := 74) C 5 dX1_canForce_74 (by decide) ?_
      refine kX.pick [2, 3, 4, 5, 0] (lv' := [(0, .ref (a 7)), (1, .int v1), (2, .int v2), (3, .int v3), (4, .int (v4 + 1))]) rfl ?_
      exact hG v3 (v4 + 1) h
    · have h := kIn c_4 h
      refine x_iload_n (pc := 64) C 4 dX1_canForce_64 rfl rfl ?_
      refine x_iconst (pc := 65) C 1 dX1_canForce_65 (by decide) ?_
      refine x_iload (pc := 66) C 5 dX1_canForce_66 rfl ?_
      refine y_ishl (pc := 68) C dX1_canForce_68 ?_
      refine x_ior (pc := 69) C dX1_canForce_69 ?_
      refine x_istore_n (pc := 70) C (lv' := [(3, .int (v3 ||| (kshl 1 v4))), (5, .int s0), (0, .ref (a 7)), (1, .int v1), (2, .int v2), (4, .int v4)]) dX1_canForce_70 rfl (by decide) rfl ?_
      refine x_iinc (pc := 71) C 5 (v := v4 + 1) (lv' := [(4, .int (v4 + 1)), (3, .int (v3 ||| (kshl 1 v4))), (5, .int s0), (0, .ref (a 7)), (1, .int v1), (2, .int v2)]) dX1_canForce_71 rfl rfl (by decide) rfl ?_
      refine x_goto (pc := 74) C 5 dX1_canForce_74 (by decide) ?_
      refine kX.pick [3, 4, 5, 1, 0] (lv' := [(0, .ref (a 7)), (1, .int v1), (2, .int v2), (3, .int (v3 ||| (kshl 1 v4))), (4, .int (v4 + 1))]) rfl ?_
      exact hG (v3 ||| (kshl 1 v4)) (v4 + 1) h
def fX1_canForce_L5_B (K : Int32 → Int32 → Option (Int32)) (Gc : Int32 → Int32 → Option (Int32)) (st : kS) (v1 : Int32) (v2 : Int32) (v3 : Int32) (v4 : Int32) : Option (Int32) := if (gI st 3) ≤ v4 then (K v3 v4) else (if (fX8_barred st v4) = 0 then (fX1_canForce_J50 K Gc st v1 v2 v3 v4 (kg 720 (gA st 23) (fX4_after st v1 v4))) else (fX1_canForce_J50 K Gc st v1 v2 v3 v4 (-1)))
set_option maxRecDepth 100000 in
set_option maxHeartbeats 4000000 in
theorem wX1_canForce_L5_B {G : kG} {E : kE} {a : Nat → Nat} {st0 : kS} (C : kOk G E cX1_canForce RX1 6 rmfX1_canForce) {z : Int32} (Zd : kEnd G E (0, 0) (some .boolean) (some (.int z)) (wX G a st0)) {K Gc : Int32 → Int32 → Option (Int32)} (v1 : Int32) (v2 : Int32) (v3 : Int32) (v4 : Int32) (hK : ∀ (u3 : Int32) (u4 : Int32), K u3 u4 = some z → kX G E (0, 0) (wX G a st0) 77 [(0, .ref (a 7)), (3, .int u3)] []) (hG : ∀ (u3 : Int32) (u4 : Int32), Gc u3 u4 = some z → kX G E (0, 0) (wX G a st0) 5 [(0, .ref (a 7)), (1, .int v1), (2, .int v2), (3, .int u3), (4, .int u4)] []) (h : fX1_canForce_L5_B K Gc st0 v1 v2 v3 v4 = some z) : kX G E (0, 0) (wX G a st0) 5 [(0, .ref (a 7)), (1, .int v1), (2, .int v2), (3, .int v3), (4, .int v4)] [] := by
  unfold fX1_canForce_L5_B at h
  refine x_iload (pc := 5) C 4 dX1_canForce_5 rfl ?_
  refine x_aload_n (pc := 7) C 0 dX1_canForce_7 rfl rfl ?_
  refine x_get (pc := 8) C inlX1 7 rfl rfl 0 (by decide) q4_8 (v := .ref (a 2)) rfl dX1_canForce_8 ?_
  refine x_getN (pc := 11) C inlX8 2 rfl rfl 2 (by decide) nn3 (v := .int (gI st0 3)) rfl dX1_canForce_11 ?_
  refine x_icmp_ge (pc := 14) C 77 dX1_canForce_14 (by decide) (fun c_1 => ?_) (fun c_1 => ?_)
  · have h := kIp c_1 h
    refine kX.pick [0, 3] (lv' := [(0, .ref (a 7)), (3, .int v3)]) rfl ?_
    exact hK v3 v4 h
  · have h := kIn c_1 h
    refine x_aload_n (pc := 17) C 0 dX1_canForce_17 rfl rfl ?_
    refine x_get (pc := 18) C inlX1 7 rfl rfl 0 (by decide) q4_8 (v := .ref (a 2)) rfl dX1_canForce_18 ?_
    refine x_iload (pc := 21) C 4 dX1_canForce_21 rfl ?_
    refine x_callV (pc := 23) C 2 [.int v4] rfl rfl (mX8_barred G a st0 v4) yvX8_barred q23_6 ⟨Nat.le_of_ble_eq_true rfl, Nat.le_of_ble_eq_true rfl, rfl, rfl⟩ ⟨Nat.zero_le _, Nat.zero_le _⟩ rfl rfl (Nat.le_of_ble_eq_true rfl) rfl dX1_canForce_23 ?_
    refine x_if_eq (pc := 26) C 33 dX1_canForce_26 (by decide) (fun c_2 => ?_) (fun c_2 => ?_)
    · have h := kIp c_2 h
      refine x_aload_n (pc := 33) C 0 dX1_canForce_33 rfl rfl ?_
      refine x_get (pc := 34) C inlX1 7 rfl rfl 4 (by decide) q4_6 (v := .ref (a 23)) rfl dX1_canForce_34 ?_
      refine x_aload_n (pc := 37) C 0 dX1_canForce_37 rfl rfl ?_
      refine x_get (pc := 38) C inlX1 7 rfl rfl 1 (by decide) q4_9 (v := .ref (a 5)) rfl dX1_canForce_38 ?_
      refine x_iload_n (pc := 41) C 1 dX1_canForce_41 rfl rfl ?_
      refine x_iload (pc := 42) C 4 dX1_canForce_42 rfl ?_
      refine x_callV (pc := 44) C 5 [.int v1, .int v4] rfl rfl (mX4_after G a st0 v1 v4) yvX4_after q23_5 ⟨Nat.le_of_ble_eq_true rfl, Nat.le_of_ble_eq_true rfl, rfl, rfl⟩ ⟨Nat.zero_le _, Nat.zero_le _⟩ rfl rfl (Nat.le_of_ble_eq_true rfl) rfl dX1_canForce_44 ?_
      refine x_callS (pc := 47) C [.ref (a 23), .int (fX4_after st0 v1 v4)] (mX0_get G (N := 720) (f := (gA st0 23)) 23 (lwX_A23 G a rfl) (by decide) (fX4_after st0 v1 v4)) ysX0_get q23_4 ⟨Nat.le_of_ble_eq_true rfl, Nat.le_of_ble_eq_true rfl, rfl, rfl⟩ ⟨Nat.zero_le _, Nat.zero_le _⟩ rfl rfl (Nat.le_of_ble_eq_true rfl) rfl dX1_canForce_47 ?_
      exact wX1_canForce_J50  C Zd  v1 v2 v3 v4 (kg 720 (gA st0 23) (fX4_after st0 v1 v4)) hK hG h
    · have h := kIn c_2 h
      refine x_iconst (pc := 29) C (-1) dX1_canForce_29 (by decide) ?_
      refine x_goto (pc := 30) C 50 dX1_canForce_30 (by decide) ?_
      exact wX1_canForce_J50  C Zd  v1 v2 v3 v4 (-1) hK hG h
def fX1_canForce_L5 (K : Int32 → Int32 → Option (Int32)) (st : kS) (v1 : Int32) (v2 : Int32) : Nat → Int32 → Int32 → Option (Int32)
  | 0, _, _ => none
  | F + 1, v3, v4 => fX1_canForce_L5_B K (fX1_canForce_L5 K st v1 v2 F) st v1 v2 v3 v4
set_option maxRecDepth 100000 in
set_option maxHeartbeats 4000000 in
theorem wX1_canForce_L5 {G : kG} {E : kE} {a : Nat → Nat} {st0 : kS} (C : kOk G E cX1_canForce RX1 6 rmfX1_canForce) {z : Int32} (Zd : kEnd G E (0, 0) (some .boolean) (some (.int z)) (wX G a st0)) {K : Int32 → Int32 → Option (Int32)} (v1 : Int32) (v2 : Int32) (hK : ∀ (u3 : Int32) (u4 : Int32), K u3 u4 = some z → kX G E (0, 0) (wX G a st0) 77 [(0, .ref (a 7)), (3, .int u3)] []) : ∀ (F : Nat) (v3 : Int32) (v4 : Int32), fX1_canForce_L5 K st0 v1 v2 F v3 v4 = some z → kX G E (0, 0) (wX G a st0) 5 [(0, .ref (a 7)), (1, .int v1), (2, .int v2), (3, .int v3), (4, .int v4)] [] := by
  intro F
  induction F with
  | zero =>
    intro v3 v4 h
    exact absurd (show none = some z from h) (fun q => by cases q)
  | succ F ih =>
    intro v3 v4 h
    exact wX1_canForce_L5_B  C Zd  v1 v2 v3 v4 hK (fun v3 v4 h => ih v3 v4 h) h
def fX1_canForce_L80_B (K : Int32 → Option (Int32)) (Gc : Int32 → Option (Int32)) (st : kS) (v3 : Int32) (v4 : Int32) : Option (Int32) := if (gI st 3) ≤ v4 then (K v4) else (if (v3 &&& (((kshl 1 v4) ||| (kshl 1 (fX8_next st v4))) ||| (kshl 1 (fX8_around st (v4 - 1))))) = 0 then (some 0) else (Gc (v4 + 1)))
set_option maxRecDepth 100000 in
set_option maxHeartbeats 4000000 in
theorem wX1_canForce_L80_B {G : kG} {E : kE} {a : Nat → Nat} {st0 : kS} (C : kOk G E cX1_canForce RX1 6 rmfX1_canForce) {z : Int32} (Zd : kEnd G E (0, 0) (some .boolean) (some (.int z)) (wX G a st0)) {K Gc : Int32 → Option (Int32)} (v3 : Int32) (v4 : Int32) (hK : ∀ (u4 : Int32), K u4 = some z → kX G E (0, 0) (wX G a st0) 139 [] []) (hG : ∀ (u4 : Int32), Gc u4 = some z → kX G E (0, 0) (wX G a st0) 80 [(0, .ref (a 7)), (3, .int v3), (4, .int u4)] []) (h : fX1_canForce_L80_B K Gc st0 v3 v4 = some z) : kX G E (0, 0) (wX G a st0) 80 [(0, .ref (a 7)), (3, .int v3), (4, .int v4)] [] := by
  unfold fX1_canForce_L80_B at h
  refine x_iload (pc := 80) C 2 dX1_canForce_80 rfl ?_
  refine x_aload_n (pc := 82) C 0 dX1_canForce_82 rfl rfl ?_
  refine x_get (pc := 83) C inlX1 7 rfl rfl 0 (by decide) q4_8 (v := .ref (a 2)) rfl dX1_canForce_83 ?_
  refine x_getN (pc := 86) C inlX8 2 rfl rfl 2 (by decide) nn3 (v := .int (gI st0 3)) rfl dX1_canForce_86 ?_
  refine x_icmp_ge (pc := 89) C 139 dX1_canForce_89 (by decide) (fun c_7 => ?_) (fun c_7 => ?_)
  · have h := kIp c_7 h
    refine kX.pick [] (lv' := []) rfl ?_
    exact hK v4 h
  · have h := kIn c_7 h
    refine x_iconst (pc := 92) C 1 dX1_canForce_92 (by decide) ?_
    refine x_iload (pc := 93) C 2 dX1_canForce_93 rfl ?_
    refine y_ishl (pc := 95) C dX1_canForce_95 ?_
    refine x_iconst (pc := 96) C 1 dX1_canForce_96 (by decide) ?_
    refine x_aload_n (pc := 97) C 0 dX1_canForce_97 rfl rfl ?_
    refine x_get (pc := 98) C inlX1 7 rfl rfl 0 (by decide) q4_8 (v := .ref (a 2)) rfl dX1_canForce_98 ?_
    refine x_iload (pc := 101) C 2 dX1_canForce_101 rfl ?_
    refine x_callV (pc := 103) C 2 [.int v4] rfl rfl (mX8_next G a st0 v4) yvX8_next q24_0 ⟨Nat.le_of_ble_eq_true rfl, Nat.le_of_ble_eq_true rfl, rfl, rfl⟩ ⟨Nat.zero_le _, Nat.zero_le _⟩ rfl rfl (Nat.le_of_ble_eq_true rfl) rfl dX1_canForce_103 ?_
    refine y_ishl (pc := 106) C dX1_canForce_106 ?_
    refine x_ior (pc := 107) C dX1_canForce_107 ?_
    refine x_iconst (pc := 108) C 1 dX1_canForce_108 (by decide) ?_
    refine x_aload_n (pc := 109) C 0 dX1_canForce_109 rfl rfl ?_
    refine x_get (pc := 110) C inlX1 7 rfl rfl 0 (by decide) q4_8 (v := .ref (a 2)) rfl dX1_canForce_110 ?_
    refine x_iload (pc := 113) C 2 dX1_canForce_113 rfl ?_
    refine x_iconst (pc := 115) C 1 dX1_canForce_115 (by decide) ?_
    refine x_isub (pc := 116) C dX1_canForce_116 ?_
    refine x_callV (pc := 117) C 2 [.int (v4 - 1)] rfl rfl (mX8_around G a st0 (v4 - 1)) yvX8_around q24_1 ⟨Nat.le_of_ble_eq_true rfl, Nat.le_of_ble_eq_true rfl, rfl, rfl⟩ ⟨Nat.zero_le _, Nat.zero_le _⟩ rfl rfl (Nat.le_of_ble_eq_true rfl) rfl dX1_canForce_117 ?_
    refine y_ishl (pc := 120) C dX1_canForce_120 ?_
    refine x_ior (pc := 121) C dX1_canForce_121 ?_
    refine x_istore (pc := 122) C (lv' := [(5, .int (((kshl 1 v4) ||| (kshl 1 (fX8_next st0 v4))) ||| (kshl 1 (fX8_around st0 (v4 - 1))))), (0, .ref (a 7)), (3, .int v3), (4, .int v4)]) dX1_canForce_122 (by decide) rfl ?_
    refine x_iload_n (pc := 124) C 2 dX1_canForce_124 rfl rfl ?_
    refine x_iload (pc := 125) C 0 dX1_canForce_125 rfl ?_
    refine x_iand (pc := 127) C dX1_canForce_127 ?_
    refine x_if_ne (pc := 128) C 133 dX1_canForce_128 (by decide) (fun c_8 => ?_) (fun c_8 => ?_)
    · have h := kIn c_8 h
      refine x_iinc (pc := 133) C 3 (v := v4 + 1) (lv' := [(4, .int (v4 + 1)), (5, .int (((kshl 1 v4) ||| (kshl 1 (fX8_next st0 v4))) ||| (kshl 1 (fX8_around st0 (v4 - 1))))), (0, .ref (a 7)), (3, .int v3)]) dX1_canForce_133 rfl rfl (by decide) rfl ?_
      refine x_goto (pc := 136) C 80 dX1_canForce_136 (by decide) ?_
      refine kX.pick [2, 3, 0] (lv' := [(0, .ref (a 7)), (3, .int v3), (4, .int (v4 + 1))]) rfl ?_
      exact hG (v4 + 1) h
    · have h := kIp c_8 h
      refine x_iconst (pc := 131) C 0 dX1_canForce_131 (by decide) ?_
      obtain rfl := Option.some.inj h
      exact x_zret (pc := 132) C rfl Zd dX1_canForce_132
def fX1_canForce_L80 (K : Int32 → Option (Int32)) (st : kS) (v3 : Int32) : Nat → Int32 → Option (Int32)
  | 0, _ => none
  | F + 1, v4 => fX1_canForce_L80_B K (fX1_canForce_L80 K st v3 F) st v3 v4
set_option maxRecDepth 100000 in
set_option maxHeartbeats 4000000 in
theorem wX1_canForce_L80 {G : kG} {E : kE} {a : Nat → Nat} {st0 : kS} (C : kOk G E cX1_canForce RX1 6 rmfX1_canForce) {z : Int32} (Zd : kEnd G E (0, 0) (some .boolean) (some (.int z)) (wX G a st0)) {K : Int32 → Option (Int32)} (v3 : Int32) (hK : ∀ (u4 : Int32), K u4 = some z → kX G E (0, 0) (wX G a st0) 139 [] []) : ∀ (F : Nat) (v4 : Int32), fX1_canForce_L80 K st0 v3 F v4 = some z → kX G E (0, 0) (wX G a st0) 80 [(0, .ref (a 7)), (3, .int v3), (4, .int v4)] [] := by
  intro F
  induction F with
  | zero =>
    intro v4 h
    exact absurd (show none = some z from h) (fun q => by cases q)
  | succ F ih =>
    intro v4 h
    exact wX1_canForce_L80_B  C Zd  v3 v4 hK (fun v4 h => ih v4 h) h
def fX1_canForce (st : kS) (x1 : Int32) (x2 : Int32) : Option (Int32) := fX1_canForce_L5 (fun v3_5 v4_6 => fX1_canForce_L80 (fun v4_9 => some 1) st v3_5 kFU 0) st x1 x2 kFU 0 0
set_option maxRecDepth 100000 in
set_option maxHeartbeats 4000000 in
theorem wX1_canForce {G : kG} {E : kE} {a : Nat → Nat} {st0 : kS} (C : kOk G E cX1_canForce RX1 6 rmfX1_canForce) {z : Int32} (Zd : kEnd G E (0, 0) (some .boolean) (some (.int z)) (wX G a st0)) (x1 : Int32) (x2 : Int32) (h : fX1_canForce st0 x1 x2 = some z) : kX G E (0, 0) (wX G a st0) 0 [(0, .ref (a 7)), (1, .int x1), (2, .int x2)] [] := by
  unfold fX1_canForce at h
  refine x_iconst (pc := 0) C 0 dX1_canForce_0 (by decide) ?_
  refine x_istore_n (pc := 1) C (lv' := [(3, .int 0), (0, .ref (a 7)), (1, .int x1), (2, .int x2)]) dX1_canForce_1 rfl (by decide) rfl ?_
  refine x_iconst (pc := 2) C 0 dX1_canForce_2 (by decide) ?_
  refine x_istore (pc := 3) C (lv' := [(4, .int 0), (3, .int 0), (0, .ref (a 7)), (1, .int x1), (2, .int x2)]) dX1_canForce_3 (by decide) rfl ?_
  refine kX.pick [2, 3, 4, 1, 0] (lv' := [(0, .ref (a 7)), (1, .int x1), (2, .int x2), (3, .int 0), (4, .int 0)]) rfl ?_
  refine wX1_canForce_L5  C Zd  x1 x2 (fun v3_5 v4_6 h => ?_) kFU 0 0 h
  refine x_iconst (pc := 77) C 0 dX1_canForce_77 (by decide) ?_
  refine x_istore (pc := 78) C (lv' := [(4, .int 0), (0, .ref (a 7)), (3, .int v3_5)]) dX1_canForce_78 (by decide) rfl ?_
  refine kX.pick [1, 2, 0] (lv' := [(0, .ref (a 7)), (3, .int v3_5), (4, .int 0)]) rfl ?_
  refine wX1_canForce_L80  C Zd  v3_5 (fun v4_9 h => ?_) kFU 0 h
  refine x_iconst (pc := 139) C 1 dX1_canForce_139 (by decide) ?_
  obtain rfl := Option.some.inj h
  exact x_zret (pc := 140) C rfl Zd dX1_canForce_140
set_option maxRecDepth 100000 in
theorem mX1_canForce (G : kG) (a : Nat → Nat) (st : kS) (x1 : Int32) (x2 : Int32) {z : Int32} (h : fX1_canForce st x1 x2 = some z) : kMet G yX1_canForce cX1_canForce 6 (some .boolean) rmfX1_canForce (0, 0) [.ref (a 7), .int x1, .int x2] (wX G a st) (some (.int z)) (wX G a st) := kMet.mk (by decide +kernel) (Nat.le_of_ble_eq_true rfl) (fun E C Zd => wX1_canForce  C Zd  x1 x2 h)
theorem yvX1_countSure : kYV yX1_countSure RX1 cX1_countSure 4 none 0 := ⟨q23_17, q23_18, q2_10, q23_19, by decide +kernel⟩
abbrev rmfX1_countSure : Room := { frames := 3, cells := 0, slots := 0, locals := 68 }
def fX1_countSure_L46_B (K : Int32 → Int32 → kS → Option (kS)) (Gc : Int32 → Int32 → kS → Option (kS)) (st : kS) (v1 : Int32) (v2 : Int32) (v3 : Int32) : Option (kS) := if (gI st 11) ≤ v3 then (K v1 v3 st) else (if (kg 720 (gA st 23) v3) = (-1) then ((fX1_canForce st v3 v2).bind (fun z_6 => if z_6 = 0 then (Gc v1 (v3 + 1) st) else (Gc 1 (v3 + 1) (sA st 23 (kp 720 (gA st 23) v3 v2))))) else (Gc v1 (v3 + 1) st))
set_option maxRecDepth 100000 in
set_option maxHeartbeats 4000000 in
theorem wX1_countSure_L46_B {G : kG} {E : kE} {a : Nat → Nat} (C : kOk G E cX1_countSure RX1 4 rmfX1_countSure) {z : kS} (Zd : kEnd G E (0, 0) none none (wX G a z)) {K Gc : Int32 → Int32 → kS → Option (kS)} (st : kS) (v1 : Int32) (v2 : Int32) (v3 : Int32) (hK : ∀ (u1 : Int32) (u3 : Int32) (su : kS), K u1 u3 su = some z → kX G E (0, 0) (wX G a su) 95 [(0, .ref (a 7)), (1, .int u1), (2, .int v2)] []) (hG : ∀ (u1 : Int32) (u3 : Int32) (su : kS), Gc u1 u3 su = some z → kX G E (0, 0) (wX G a su) 46 [(0, .ref (a 7)), (1, .int u1), (2, .int v2), (3, .int u3)] []) (h : fX1_countSure_L46_B K Gc st v1 v2 v3 = some z) : kX G E (0, 0) (wX G a st) 46 [(0, .ref (a 7)), (1, .int v1), (2, .int v2), (3, .int v3)] [] := by
  unfold fX1_countSure_L46_B at h
  refine x_iload_n (pc := 46) C 3 dX1_countSure_46 rfl rfl ?_
  refine x_aload_n (pc := 47) C 0 dX1_countSure_47 rfl rfl ?_
  refine x_get (pc := 48) C inlX1 7 rfl rfl 1 (by decide) q4_9 (v := .ref (a 5)) rfl dX1_countSure_48 ?_
  refine x_getN (pc := 51) C inlX4 5 rfl rfl 3 (by decide) nn10 (v := .int (gI st 11)) rfl dX1_countSure_51 ?_
  refine x_icmp_ge (pc := 54) C 95 dX1_countSure_54 (by decide) (fun c_4 => ?_) (fun c_4 => ?_)
  · have h := kIp c_4 h
    refine kX.pick [0, 1, 2] (lv' := [(0, .ref (a 7)), (1, .int v1), (2, .int v2)]) rfl ?_
    exact hK v1 v3 st h
  · have h := kIn c_4 h
    refine x_aload_n (pc := 57) C 0 dX1_countSure_57 rfl rfl ?_
    refine x_get (pc := 58) C inlX1 7 rfl rfl 4 (by decide) q4_6 (v := .ref (a 23)) rfl dX1_countSure_58 ?_
    refine x_iload_n (pc := 61) C 3 dX1_countSure_61 rfl rfl ?_
    refine x_callS (pc := 62) C [.ref (a 23), .int v3] (mX0_get G (N := 720) (f := (gA st 23)) 23 (lwX_A23 G a rfl) (by decide) v3) ysX0_get q23_4 ⟨Nat.le_of_ble_eq_true rfl, Nat.le_of_ble_eq_true rfl, rfl, rfl⟩ ⟨Nat.zero_le _, Nat.zero_le _⟩ rfl rfl (Nat.le_of_ble_eq_true rfl) rfl dX1_countSure_62 ?_
    refine x_iconst (pc := 65) C (-1) dX1_countSure_65 (by decide) ?_
    refine x_icmp_ne (pc := 66) C 89 dX1_countSure_66 (by decide) (fun c_5 => ?_) (fun c_5 => ?_)
    · have h := kIn c_5 h
      refine x_iinc (pc := 89) C 3 (v := v3 + 1) (lv' := [(3, .int (v3 + 1)), (0, .ref (a 7)), (1, .int v1), (2, .int v2)]) dX1_countSure_89 rfl rfl (by decide) rfl ?_
      refine x_goto (pc := 92) C 46 dX1_countSure_92 (by decide) ?_
      refine kX.pick [1, 2, 3, 0] (lv' := [(0, .ref (a 7)), (1, .int v1), (2, .int v2), (3, .int (v3 + 1))]) rfl ?_
      exact hG v1 (v3 + 1) st h
    · have h := kIp c_5 h
      refine x_aload_n (pc := 69) C 0 dX1_countSure_69 rfl rfl ?_
      refine x_iload_n (pc := 70) C 3 dX1_countSure_70 rfl rfl ?_
      refine x_iload_n (pc := 71) C 2 dX1_countSure_71 rfl rfl ?_
      obtain ⟨z_6, hz_6, h⟩ := kB h
      refine x_callV (pc := 72) C 7 [.int v3, .int v2] rfl rfl (mX1_canForce G a st v3 v2 hz_6) yvX1_canForce q23_20 ⟨Nat.le_of_ble_eq_true rfl, Nat.le_of_ble_eq_true rfl, rfl, rfl⟩ ⟨Nat.zero_le _, Nat.zero_le _⟩ rfl rfl (Nat.le_of_ble_eq_true rfl) rfl dX1_countSure_72 ?_
      refine x_if_eq (pc := 75) C 89 dX1_countSure_75 (by decide) (fun c_7 => ?_) (fun c_7 => ?_)
      · have h := kIp c_7 h
        refine x_iinc (pc := 89) C 3 (v := v3 + 1) (lv' := [(3, .int (v3 + 1)), (0, .ref (a 7)), (1, .int v1), (2, .int v2)]) dX1_countSure_89 rfl rfl (by decide) rfl ?_
        refine x_goto (pc := 92) C 46 dX1_countSure_92 (by decide) ?_
        refine kX.pick [1, 2, 3, 0] (lv' := [(0, .ref (a 7)), (1, .int v1), (2, .int v2), (3, .int (v3 + 1))]) rfl ?_
        exact hG v1 (v3 + 1) st h
      · have h := kIn c_7 h
        refine x_aload_n (pc := 78) C 0 dX1_countSure_78 rfl rfl ?_
        refine x_get (pc := 79) C inlX1 7 rfl rfl 4 (by decide) q4_6 (v := .ref (a 23)) rfl dX1_countSure_79 ?_
        refine x_iload_n (pc := 82) C 3 dX1_countSure_82 rfl rfl ?_
        refine x_iload_n (pc := 83) C 2 dX1_countSure_83 rfl rfl ?_
        refine x_callS (pc := 84) C [.ref (a 23), .int v3, .int v2] (mX0_put G (N := 720) (f := (gA st 23)) 23 (lwX_A23 G a rfl) (by decide) v3 v2 (swX_A23 G a _ _)) ysX0_put q23_3 ⟨Nat.le_of_ble_eq_true rfl, Nat.le_of_ble_eq_true rfl, rfl, rfl⟩ ⟨Nat.zero_le _, Nat.zero_le _⟩ rfl rfl (Nat.le_of_ble_eq_true rfl) rfl dX1_countSure_84 ?_
        refine x_iconst (pc := 87) C 1 dX1_countSure_87 (by decide) ?_
        refine x_istore_n (pc := 88) C (lv' := [(1, .int 1), (0, .ref (a 7)), (2, .int v2), (3, .int v3)]) dX1_countSure_88 rfl (by decide) rfl ?_
        refine x_iinc (pc := 89) C 3 (v := v3 + 1) (lv' := [(3, .int (v3 + 1)), (1, .int 1), (0, .ref (a 7)), (2, .int v2)]) dX1_countSure_89 rfl rfl (by decide) rfl ?_
        refine x_goto (pc := 92) C 46 dX1_countSure_92 (by decide) ?_
        refine kX.pick [2, 1, 3, 0] (lv' := [(0, .ref (a 7)), (1, .int 1), (2, .int v2), (3, .int (v3 + 1))]) rfl ?_
        exact hG 1 (v3 + 1) (sA st 23 (kp 720 (gA st 23) v3 v2)) h
def fX1_countSure_L46 (K : Int32 → Int32 → kS → Option (kS)) (v2 : Int32) : Nat → Int32 → Int32 → kS → Option (kS)
  | 0, _, _, _ => none
  | F + 1, v1, v3, st => fX1_countSure_L46_B K (fX1_countSure_L46 K v2 F) st v1 v2 v3
set_option maxRecDepth 100000 in
set_option maxHeartbeats 4000000 in
theorem wX1_countSure_L46 {G : kG} {E : kE} {a : Nat → Nat} (C : kOk G E cX1_countSure RX1 4 rmfX1_countSure) {z : kS} (Zd : kEnd G E (0, 0) none none (wX G a z)) {K : Int32 → Int32 → kS → Option (kS)} (v2 : Int32) (hK : ∀ (u1 : Int32) (u3 : Int32) (su : kS), K u1 u3 su = some z → kX G E (0, 0) (wX G a su) 95 [(0, .ref (a 7)), (1, .int u1), (2, .int v2)] []) : ∀ (F : Nat) (v1 : Int32) (v3 : Int32) (st : kS), fX1_countSure_L46 K v2 F v1 v3 st = some z → kX G E (0, 0) (wX G a st) 46 [(0, .ref (a 7)), (1, .int v1), (2, .int v2), (3, .int v3)] [] := by
  intro F
  induction F with
  | zero =>
    intro v1 v3 st h
    exact absurd (show none = some z from h) (fun q => by cases q)
  | succ F ih =>
    intro v1 v3 st h
    exact wX1_countSure_L46_B  C Zd  st v1 v2 v3 hK (fun v1 v3 st h => ih v1 v3 st h) h
def fX1_countSure_L31_B (K : Int32 → Int32 → kS → Option (kS)) (Gc : Int32 → Int32 → kS → Option (kS)) (st : kS) (v1 : Int32) (v2 : Int32) : Option (kS) := if v1 = 0 then (K v1 v2 st) else (if 720 < v2 then (K v1 v2 st) else (fX1_countSure_L46 (fun v1_8 v3_9 st_10 => Gc v1_8 (v2 + 1) st_10) v2 kFU 0 0 st))
set_option maxRecDepth 100000 in
set_option maxHeartbeats 4000000 in
theorem wX1_countSure_L31_B {G : kG} {E : kE} {a : Nat → Nat} (C : kOk G E cX1_countSure RX1 4 rmfX1_countSure) {z : kS} (Zd : kEnd G E (0, 0) none none (wX G a z)) {K Gc : Int32 → Int32 → kS → Option (kS)} (st : kS) (v1 : Int32) (v2 : Int32) (hK : ∀ (u1 : Int32) (u2 : Int32) (su : kS), K u1 u2 su = some z → kX G E (0, 0) (wX G a su) 101 [] []) (hG : ∀ (u1 : Int32) (u2 : Int32) (su : kS), Gc u1 u2 su = some z → kX G E (0, 0) (wX G a su) 31 [(0, .ref (a 7)), (1, .int u1), (2, .int u2)] []) (h : fX1_countSure_L31_B K Gc st v1 v2 = some z) : kX G E (0, 0) (wX G a st) 31 [(0, .ref (a 7)), (1, .int v1), (2, .int v2)] [] := by
  unfold fX1_countSure_L31_B at h
  refine x_iload_n (pc := 31) C 1 dX1_countSure_31 rfl rfl ?_
  refine x_if_eq (pc := 32) C 101 dX1_countSure_32 (by decide) (fun c_2 => ?_) (fun c_2 => ?_)
  · have h := kIp c_2 h
    refine kX.pick [] (lv' := []) rfl ?_
    exact hK v1 v2 st h
  · have h := kIn c_2 h
    refine x_iload_n (pc := 35) C 2 dX1_countSure_35 rfl rfl ?_
    refine x_sipush (pc := 36) C 720 dX1_countSure_36 (by decide) ?_
    refine x_icmp_gt (pc := 39) C 101 dX1_countSure_39 (by decide) (fun c_3 => ?_) (fun c_3 => ?_)
    · have h := kIp c_3 h
      refine kX.pick [] (lv' := []) rfl ?_
      exact hK v1 v2 st h
    · have h := kIn c_3 h
      refine x_iconst (pc := 42) C 0 dX1_countSure_42 (by decide) ?_
      refine x_istore_n (pc := 43) C (lv' := [(1, .int 0), (0, .ref (a 7)), (2, .int v2)]) dX1_countSure_43 rfl (by decide) rfl ?_
      refine x_iconst (pc := 44) C 0 dX1_countSure_44 (by decide) ?_
      refine x_istore_n (pc := 45) C (lv' := [(3, .int 0), (1, .int 0), (0, .ref (a 7)), (2, .int v2)]) dX1_countSure_45 rfl (by decide) rfl ?_
      refine kX.pick [2, 1, 3, 0] (lv' := [(0, .ref (a 7)), (1, .int 0), (2, .int v2), (3, .int 0)]) rfl ?_
      refine wX1_countSure_L46  C Zd  v2 (fun v1_8 v3_9 st_10 h => ?_) kFU 0 0 st h
      refine x_iinc (pc := 95) C 2 (v := v2 + 1) (lv' := [(2, .int (v2 + 1)), (0, .ref (a 7)), (1, .int v1_8)]) dX1_countSure_95 rfl rfl (by decide) rfl ?_
      refine x_goto (pc := 98) C 31 dX1_countSure_98 (by decide) ?_
      refine kX.pick [1, 2, 0] (lv' := [(0, .ref (a 7)), (1, .int v1_8), (2, .int (v2 + 1))]) rfl ?_
      exact hG v1_8 (v2 + 1) st_10 h
def fX1_countSure_L31 (K : Int32 → Int32 → kS → Option (kS)) : Nat → Int32 → Int32 → kS → Option (kS)
  | 0, _, _, _ => none
  | F + 1, v1, v2, st => fX1_countSure_L31_B K (fX1_countSure_L31 K F) st v1 v2
set_option maxRecDepth 100000 in
set_option maxHeartbeats 4000000 in
theorem wX1_countSure_L31 {G : kG} {E : kE} {a : Nat → Nat} (C : kOk G E cX1_countSure RX1 4 rmfX1_countSure) {z : kS} (Zd : kEnd G E (0, 0) none none (wX G a z)) {K : Int32 → Int32 → kS → Option (kS)} (hK : ∀ (u1 : Int32) (u2 : Int32) (su : kS), K u1 u2 su = some z → kX G E (0, 0) (wX G a su) 101 [] []) : ∀ (F : Nat) (v1 : Int32) (v2 : Int32) (st : kS), fX1_countSure_L31 K F v1 v2 st = some z → kX G E (0, 0) (wX G a st) 31 [(0, .ref (a 7)), (1, .int v1), (2, .int v2)] [] := by
  intro F
  induction F with
  | zero =>
    intro v1 v2 st h
    exact absurd (show none = some z from h) (fun q => by cases q)
  | succ F ih =>
    intro v1 v2 st h
    exact wX1_countSure_L31_B  C Zd  st v1 v2 hK (fun v1 v2 st h => ih v1 v2 st h) h
def fX1_countSure (st : kS) : Option (kS) := (fX4_numberOf 6 (gA st 21) (sA st 23 (kfill 720 (gA st 23) (-1)))).bind (fun z_1 => fX1_countSure_L31 (fun v1_11 v2_12 st_13 => some st_13) kFU 1 1 (sA (sA st 23 (kfill 720 (gA st 23) (-1))) 23 (kp 720 (kfill 720 (gA st 23) (-1)) z_1 0)))
set_option maxRecDepth 100000 in
set_option maxHeartbeats 4000000 in
theorem wX1_countSure {G : kG} {E : kE} {a : Nat → Nat} (C : kOk G E cX1_countSure RX1 4 rmfX1_countSure) {z : kS} (Zd : kEnd G E (0, 0) none none (wX G a z)) (st : kS) (h : fX1_countSure st = some z) : kX G E (0, 0) (wX G a st) 0 [(0, .ref (a 7))] [] := by
  unfold fX1_countSure at h
  refine x_aload_n (pc := 0) C 0 dX1_countSure_0 rfl rfl ?_
  refine x_get (pc := 1) C inlX1 7 rfl rfl 4 (by decide) q4_6 (v := .ref (a 23)) rfl dX1_countSure_1 ?_
  refine x_iconst (pc := 4) C (-1) dX1_countSure_4 (by decide) ?_
  refine x_callS (pc := 5) C [.ref (a 23), .int (-1)] (mJ7_fill_53178 G (N := 720) (f := (gA st 23)) 23 (lwX_A23 G a rfl) (by decide) (-1) (swX_A23 G a _ _)) ysJ7_fill_53178 q23_1 ⟨Nat.le_of_ble_eq_true rfl, Nat.le_of_ble_eq_true rfl, rfl, rfl⟩ ⟨Nat.zero_le _, Nat.zero_le _⟩ rfl rfl (Nat.le_of_ble_eq_true rfl) rfl dX1_countSure_5 ?_
  refine x_aload_n (pc := 8) C 0 dX1_countSure_8 rfl rfl ?_
  refine x_get (pc := 9) C inlX1 7 rfl rfl 4 (by decide) q4_6 (v := .ref (a 23)) rfl dX1_countSure_9 ?_
  refine x_aload_n (pc := 12) C 0 dX1_countSure_12 rfl rfl ?_
  refine x_get (pc := 13) C inlX1 7 rfl rfl 1 (by decide) q4_9 (v := .ref (a 5)) rfl dX1_countSure_13 ?_
  refine x_aload_n (pc := 16) C 0 dX1_countSure_16 rfl rfl ?_
  refine x_get (pc := 17) C inlX1 7 rfl rfl 2 (by decide) q4_4 (v := .ref (a 21)) rfl dX1_countSure_17 ?_
  obtain ⟨z_1, hz_1, h⟩ := kB h
  refine x_callV (pc := 20) C 5 [.ref (a 21)] rfl rfl (mX4_numberOf G a (N := 6) (f := (gA st 21)) 21 (lwX_A21 G a (gA_n (by decide))) (by decide) (sA st 23 (kfill 720 (gA st 23) (-1))) hz_1) yvX4_numberOf q23_2 ⟨Nat.le_of_ble_eq_true rfl, Nat.le_of_ble_eq_true rfl, rfl, rfl⟩ ⟨Nat.zero_le _, Nat.zero_le _⟩ rfl rfl (Nat.le_of_ble_eq_true rfl) rfl dX1_countSure_20 ?_
  refine x_iconst (pc := 23) C 0 dX1_countSure_23 (by decide) ?_
  refine x_callS (pc := 24) C [.ref (a 23), .int z_1, .int 0] (mX0_put G (N := 720) (f := (kfill 720 (gA st 23) (-1))) 23 (lwX_A23 G a (gA_e _ _ _)) (by decide) z_1 0 (swX_A23 G a _ _)) ysX0_put q23_3 ⟨Nat.le_of_ble_eq_true rfl, Nat.le_of_ble_eq_true rfl, rfl, rfl⟩ ⟨Nat.zero_le _, Nat.zero_le _⟩ rfl rfl (Nat.le_of_ble_eq_true rfl) rfl dX1_countSure_24 ?_
  refine x_iconst (pc := 27) C 1 dX1_countSure_27 (by decide) ?_
  refine x_istore_n (pc := 28) C (lv' := [(1, .int 1), (0, .ref (a 7))]) dX1_countSure_28 rfl (by decide) rfl ?_
  refine x_iconst (pc := 29) C 1 dX1_countSure_29 (by decide) ?_
  refine x_istore_n (pc := 30) C (lv' := [(2, .int 1), (1, .int 1), (0, .ref (a 7))]) dX1_countSure_30 rfl (by decide) rfl ?_
  refine kX.pick [2, 1, 0] (lv' := [(0, .ref (a 7)), (1, .int 1), (2, .int 1)]) rfl ?_
  refine wX1_countSure_L31  C Zd   (fun v1_11 v2_12 st_13 h => ?_) kFU 1 1 (sA (sA st 23 (kfill 720 (gA st 23) (-1))) 23 (kp 720 (kfill 720 (gA st 23) (-1)) z_1 0)) h
  obtain rfl := Option.some.inj h
  exact x_vret (pc := 101) C Zd dX1_countSure_101
set_option maxRecDepth 100000 in
theorem mX1_countSure (G : kG) (a : Nat → Nat) (st : kS)  {z : kS} (h : fX1_countSure st = some z) : kMet G yX1_countSure cX1_countSure 4 none rmfX1_countSure (0, 0) [.ref (a 7)] (wX G a st) none (wX G a z) := kMet.mk (by decide +kernel) (Nat.le_of_ble_eq_true rfl) (fun E C Zd => wX1_countSure  C Zd  st  h)
theorem yvX1_surelyFrom : kYV yX1_surelyFrom RX1 cX1_surelyFrom 2 (some .int) 1 := ⟨q23_12, q23_13, q2_10, q23_14, by decide +kernel⟩
abbrev rmfX1_surelyFrom : Room := { frames := 4, cells := 0, slots := 0, locals := 91 }
def fX1_surelyFrom_J16 (st : kS) (v1 : Int32) : Option (Int32 × kS) := some ((kg 720 (gA st 23) v1), st)
set_option maxRecDepth 100000 in
set_option maxHeartbeats 4000000 in
theorem wX1_surelyFrom_J16 {G : kG} {E : kE} {a : Nat → Nat} (C : kOk G E cX1_surelyFrom RX1 2 rmfX1_surelyFrom) {z : Int32 × kS} (Zd : kEnd G E (0, 0) (some .int) (some (.int z.1)) (wX G a z.2)) (st : kS) (v1 : Int32) (h : fX1_surelyFrom_J16 st v1 = some z) : kX G E (0, 0) (wX G a st) 16 [(0, .ref (a 7)), (1, .int v1)] [] := by
  unfold fX1_surelyFrom_J16 at h
  refine x_aload_n (pc := 16) C 0 dX1_surelyFrom_16 rfl rfl ?_
  refine x_get (pc := 17) C inlX1 7 rfl rfl 4 (by decide) q4_6 (v := .ref (a 23)) rfl dX1_surelyFrom_17 ?_
  refine x_iload_n (pc := 20) C 1 dX1_surelyFrom_20 rfl rfl ?_
  refine x_callS (pc := 21) C [.ref (a 23), .int v1] (mX0_get G (N := 720) (f := (gA st 23)) 23 (lwX_A23 G a rfl) (by decide) v1) ysX0_get q23_4 ⟨Nat.le_of_ble_eq_true rfl, Nat.le_of_ble_eq_true rfl, rfl, rfl⟩ ⟨Nat.zero_le _, Nat.zero_le _⟩ rfl rfl (Nat.le_of_ble_eq_true rfl) rfl dX1_surelyFrom_21 ?_
  obtain rfl := Option.some.inj h
  exact x_iret (pc := 24) C Zd dX1_surelyFrom_24
def fX1_surelyFrom (st : kS) (x1 : Int32) : Option (Int32 × kS) := if (gI st 15) = 0 then ((fX1_countSure st).bind (fun z_2 => fX1_surelyFrom_J16 (sI z_2 15 1) x1)) else (fX1_surelyFrom_J16 st x1)
set_option maxRecDepth 100000 in
set_option maxHeartbeats 4000000 in
theorem wX1_surelyFrom {G : kG} {E : kE} {a : Nat → Nat} (C : kOk G E cX1_surelyFrom RX1 2 rmfX1_surelyFrom) {z : Int32 × kS} (Zd : kEnd G E (0, 0) (some .int) (some (.int z.1)) (wX G a z.2)) (st : kS) (x1 : Int32) (h : fX1_surelyFrom st x1 = some z) : kX G E (0, 0) (wX G a st) 0 [(0, .ref (a 7)), (1, .int x1)] [] := by
  unfold fX1_surelyFrom at h
  refine x_aload_n (pc := 0) C 0 dX1_surelyFrom_0 rfl rfl ?_
  refine x_get (pc := 1) C inlX1 7 rfl rfl 8 (by decide) q23_15 (v := .int (gI st 15)) rfl dX1_surelyFrom_1 ?_
  refine x_if_ne (pc := 4) C 16 dX1_surelyFrom_4 (by decide) (fun c_1 => ?_) (fun c_1 => ?_)
  · have h := kIn c_1 h
    exact wX1_surelyFrom_J16  C Zd  st x1 h
  · have h := kIp c_1 h
    refine x_aload_n (pc := 7) C 0 dX1_surelyFrom_7 rfl rfl ?_
    obtain ⟨z_2, hz_2, h⟩ := kB h
    refine x_callV (pc := 8) C 7 [] rfl rfl (mX1_countSure G a st hz_2) yvX1_countSure q23_16 ⟨Nat.le_of_ble_eq_true rfl, Nat.le_of_ble_eq_true rfl, rfl, rfl⟩ ⟨Nat.zero_le _, Nat.zero_le _⟩ rfl rfl (Nat.le_of_ble_eq_true rfl) rfl dX1_surelyFrom_8 ?_
    refine x_aload_n (pc := 11) C 0 dX1_surelyFrom_11 rfl rfl ?_
    refine x_iconst (pc := 12) C 1 dX1_surelyFrom_12 (by decide) ?_
    refine x_put (pc := 13) C inlX1 tyX1 tyX1_ok nmX1 7 rfl rfl 8 (by decide) q23_15 rfl .boolean (v := .int 1) (by decide +kernel) rfl rfl (Nat.le_of_ble_eq_true rfl) (swX_I15 G a _ _) dX1_surelyFrom_13 ?_
    exact wX1_surelyFrom_J16  C Zd  (sI z_2 15 1) x1 h
set_option maxRecDepth 100000 in
theorem mX1_surelyFrom (G : kG) (a : Nat → Nat) (st : kS) (x1 : Int32) {z : Int32 × kS} (h : fX1_surelyFrom st x1 = some z) : kMet G yX1_surelyFrom cX1_surelyFrom 2 (some .int) rmfX1_surelyFrom (0, 0) [.ref (a 7), .int x1] (wX G a st) (some (.int z.1)) (wX G a z.2) := kMet.mk (by decide +kernel) (Nat.le_of_ble_eq_true rfl) (fun E C Zd => wX1_surelyFrom  C Zd  st x1 h)
theorem yvX9_surely : kYV yX9_surely RX9 cX9_surely 1 (some .int) 0 := ⟨q23_8, q23_9, q1_2, q23_10, by decide +kernel⟩
abbrev rmfX9_surely : Room := { frames := 5, cells := 0, slots := 0, locals := 112 }
def fX9_surely (st : kS) : Option (Int32 × kS) := if (gI st 13) = 0 then (some ((-103), st)) else ((fX9_number st).bind (fun z_2 => (fX1_surelyFrom st z_2).bind (fun z_3 => some (z_3.1, z_3.2))))
set_option maxRecDepth 100000 in
set_option maxHeartbeats 4000000 in
theorem wX9_surely {G : kG} {E : kE} {a : Nat → Nat} (C : kOk G E cX9_surely RX9 1 rmfX9_surely) {z : Int32 × kS} (Zd : kEnd G E (0, 0) (some .int) (some (.int z.1)) (wX G a z.2)) (st : kS) (h : fX9_surely st = some z) : kX G E (0, 0) (wX G a st) 0 [(0, .ref (a 0))] [] := by
  unfold fX9_surely at h
  refine x_aload_n (pc := 0) C 0 dX9_surely_0 rfl rfl ?_
  refine x_get (pc := 1) C inlX9 0 rfl rfl 6 (by decide) q2_11 (v := .ref (a 7)) rfl dX9_surely_1 ?_
  refine x_getN (pc := 4) C inlX1 7 rfl rfl 6 (by decide) nn18 (v := .int (gI st 13)) rfl dX9_surely_4 ?_
  refine x_if_eq (pc := 7) C 24 dX9_surely_7 (by decide) (fun c_1 => ?_) (fun c_1 => ?_)
  · have h := kIp c_1 h
    refine x_bipush (pc := 24) C (-103) dX9_surely_24 (by decide) ?_
    obtain rfl := Option.some.inj h
    exact x_iret (pc := 26) C Zd dX9_surely_26
  · have h := kIn c_1 h
    refine x_aload_n (pc := 10) C 0 dX9_surely_10 rfl rfl ?_
    refine x_get (pc := 11) C inlX9 0 rfl rfl 6 (by decide) q2_11 (v := .ref (a 7)) rfl dX9_surely_11 ?_
    refine x_aload_n (pc := 14) C 0 dX9_surely_14 rfl rfl ?_
    obtain ⟨z_2, hz_2, h⟩ := kB h
    refine x_callV (pc := 15) C 0 [] rfl rfl (mX9_number G a st hz_2) yvX9_number q20_2 ⟨Nat.le_of_ble_eq_true rfl, Nat.le_of_ble_eq_true rfl, rfl, rfl⟩ ⟨Nat.zero_le _, Nat.zero_le _⟩ rfl rfl (Nat.le_of_ble_eq_true rfl) rfl dX9_surely_15 ?_
    obtain ⟨z_3, hz_3, h⟩ := kB h
    refine x_callV (pc := 18) C 7 [.int z_2] rfl rfl (mX1_surelyFrom G a st z_2 hz_3) yvX1_surelyFrom q23_11 ⟨Nat.le_of_ble_eq_true rfl, Nat.le_of_ble_eq_true rfl, rfl, rfl⟩ ⟨Nat.zero_le _, Nat.zero_le _⟩ rfl rfl (Nat.le_of_ble_eq_true rfl) rfl dX9_surely_18 ?_
    refine x_goto (pc := 21) C 26 dX9_surely_21 (by decide) ?_
    obtain rfl := Option.some.inj h
    exact x_iret (pc := 26) C Zd dX9_surely_26
set_option maxRecDepth 100000 in
theorem mX9_surely (G : kG) (a : Nat → Nat) (st : kS)  {z : Int32 × kS} (h : fX9_surely st = some z) : kMet G yX9_surely cX9_surely 1 (some .int) rmfX9_surely (0, 0) [.ref (a 0)] (wX G a st) (some (.int z.1)) (wX G a z.2) := kMet.mk (by decide +kernel) (Nat.le_of_ble_eq_true rfl) (fun E C Zd => wX9_surely  C Zd  st  h)
theorem yvX7_placeAfter : kYV yX7_placeAfter RX7 cX7_placeAfter 3 (some .int) 2 := ⟨q18_0, q18_1, q2_18, q18_2, by decide +kernel⟩
abbrev rmfX7_placeAfter : Room := { frames := 1, cells := 0, slots := 0, locals := 21 }
def fX7_placeAfter (st : kS) (x1 : Int32) (x2 : Int32) : Int32 := if (fX8_barred st x2) = 0 then (if x1 = x2 then ((fX8_next st x2)) else (if x1 = (fX8_next st x2) then (x2) else (x1))) else (x1)
set_option maxRecDepth 100000 in
set_option maxHeartbeats 4000000 in
theorem wX7_placeAfter {G : kG} {E : kE} {a : Nat → Nat} {st0 : kS} (C : kOk G E cX7_placeAfter RX7 3 rmfX7_placeAfter) {z : Int32} (Zd : kEnd G E (0, 0) (some .int) (some (.int z)) (wX G a st0)) (x1 : Int32) (x2 : Int32) (h : fX7_placeAfter st0 x1 x2 = z) : kX G E (0, 0) (wX G a st0) 0 [(0, .ref (a 9)), (1, .int x1), (2, .int x2)] [] := by
  unfold fX7_placeAfter at h
  refine x_aload_n (pc := 0) C 0 dX7_placeAfter_0 rfl rfl ?_
  refine x_get (pc := 1) C inlX7 9 rfl rfl 0 (by decide) q5_3 (v := .ref (a 2)) rfl dX7_placeAfter_1 ?_
  refine x_iload_n (pc := 4) C 2 dX7_placeAfter_4 rfl rfl ?_
  refine x_callV (pc := 5) C 2 [.int x2] rfl rfl (mX8_barred G a st0 x2) yvX8_barred q18_3 ⟨Nat.le_of_ble_eq_true rfl, Nat.le_of_ble_eq_true rfl, rfl, rfl⟩ ⟨Nat.zero_le _, Nat.zero_le _⟩ rfl rfl (Nat.le_of_ble_eq_true rfl) rfl dX7_placeAfter_5 ?_
  refine x_if_eq (pc := 8) C 13 dX7_placeAfter_8 (by decide) (fun c_1 => ?_) (fun c_1 => ?_)
  · have h := kIp c_1 h
    refine x_iload_n (pc := 13) C 1 dX7_placeAfter_13 rfl rfl ?_
    refine x_iload_n (pc := 14) C 2 dX7_placeAfter_14 rfl rfl ?_
    refine x_icmp_ne (pc := 15) C 27 dX7_placeAfter_15 (by decide) (fun c_2 => ?_) (fun c_2 => ?_)
    · have h := kIn c_2 h
      refine x_iload_n (pc := 27) C 1 dX7_placeAfter_27 rfl rfl ?_
      refine x_aload_n (pc := 28) C 0 dX7_placeAfter_28 rfl rfl ?_
      refine x_get (pc := 29) C inlX7 9 rfl rfl 0 (by decide) q5_3 (v := .ref (a 2)) rfl dX7_placeAfter_29 ?_
      refine x_iload_n (pc := 32) C 2 dX7_placeAfter_32 rfl rfl ?_
      refine x_callV (pc := 33) C 2 [.int x2] rfl rfl (mX8_next G a st0 x2) yvX8_next q18_4 ⟨Nat.le_of_ble_eq_true rfl, Nat.le_of_ble_eq_true rfl, rfl, rfl⟩ ⟨Nat.zero_le _, Nat.zero_le _⟩ rfl rfl (Nat.le_of_ble_eq_true rfl) rfl dX7_placeAfter_33 ?_
      refine x_icmp_ne (pc := 36) C 43 dX7_placeAfter_36 (by decide) (fun c_3 => ?_) (fun c_3 => ?_)
      · have h := kIn c_3 h
        refine x_iload_n (pc := 43) C 1 dX7_placeAfter_43 rfl rfl ?_
        subst h
        exact x_iret (pc := 44) C Zd dX7_placeAfter_44
      · have h := kIp c_3 h
        refine x_iload_n (pc := 39) C 2 dX7_placeAfter_39 rfl rfl ?_
        refine x_goto (pc := 40) C 44 dX7_placeAfter_40 (by decide) ?_
        subst h
        exact x_iret (pc := 44) C Zd dX7_placeAfter_44
    · have h := kIp c_2 h
      refine x_aload_n (pc := 18) C 0 dX7_placeAfter_18 rfl rfl ?_
      refine x_get (pc := 19) C inlX7 9 rfl rfl 0 (by decide) q5_3 (v := .ref (a 2)) rfl dX7_placeAfter_19 ?_
      refine x_iload_n (pc := 22) C 2 dX7_placeAfter_22 rfl rfl ?_
      refine x_callV (pc := 23) C 2 [.int x2] rfl rfl (mX8_next G a st0 x2) yvX8_next q18_4 ⟨Nat.le_of_ble_eq_true rfl, Nat.le_of_ble_eq_true rfl, rfl, rfl⟩ ⟨Nat.zero_le _, Nat.zero_le _⟩ rfl rfl (Nat.le_of_ble_eq_true rfl) rfl dX7_placeAfter_23 ?_
      subst h
      exact x_iret (pc := 26) C Zd dX7_placeAfter_26
  · have h := kIn c_1 h
    refine x_iload_n (pc := 11) C 1 dX7_placeAfter_11 rfl rfl ?_
    subst h
    exact x_iret (pc := 12) C Zd dX7_placeAfter_12
set_option maxRecDepth 100000 in
theorem mX7_placeAfter (G : kG) (a : Nat → Nat) (st : kS) (x1 : Int32) (x2 : Int32) : kMet G yX7_placeAfter cX7_placeAfter 3 (some .int) rmfX7_placeAfter (0, 0) [.ref (a 9), .int x1, .int x2] (wX G a st) (some (.int (fX7_placeAfter st x1 x2))) (wX G a st) := kMet.mk (by decide +kernel) (Nat.le_of_ble_eq_true rfl) (fun E C Zd => wX7_placeAfter  C Zd  x1 x2 rfl)
theorem yvX7_add : kYV yX7_add RX7 cX7_add 3 none 2 := ⟨q18_7, q18_8, q2_18, q18_9, by decide +kernel⟩
abbrev rmfX7_add : Room := { frames := 1, cells := 0, slots := 0, locals := 22 }
def fX7_add (st : kS) (x1 : Int32) (x2 : Int32) : kS := (sA st 30 (kp 6 (gA st 30) x1 ((kg 6 (gA st 30) x1) + x2)))
set_option maxRecDepth 100000 in
set_option maxHeartbeats 4000000 in
theorem wX7_add {G : kG} {E : kE} {a : Nat → Nat} (C : kOk G E cX7_add RX7 3 rmfX7_add) {z : kS} (Zd : kEnd G E (0, 0) none none (wX G a z)) (st : kS) (x1 : Int32) (x2 : Int32) (h : fX7_add st x1 x2 = z) : kX G E (0, 0) (wX G a st) 0 [(0, .ref (a 9)), (1, .int x1), (2, .int x2)] [] := by
  unfold fX7_add at h
  refine x_aload_n (pc := 0) C 0 dX7_add_0 rfl rfl ?_
  refine x_get (pc := 1) C inlX7 9 rfl rfl 2 (by decide) q5_2 (v := .ref (a 30)) rfl dX7_add_1 ?_
  refine x_iload_n (pc := 4) C 1 dX7_add_4 rfl rfl ?_
  refine x_aload_n (pc := 5) C 0 dX7_add_5 rfl rfl ?_
  refine x_get (pc := 6) C inlX7 9 rfl rfl 2 (by decide) q5_2 (v := .ref (a 30)) rfl dX7_add_6 ?_
  refine x_iload_n (pc := 9) C 1 dX7_add_9 rfl rfl ?_
  refine x_callS (pc := 10) C [.ref (a 30), .int x1] (mX0_get G (N := 6) (f := (gA st 30)) 30 (lwX_A30 G a rfl) (by decide) x1) ysX0_get q18_5 ⟨Nat.le_of_ble_eq_true rfl, Nat.le_of_ble_eq_true rfl, rfl, rfl⟩ ⟨Nat.zero_le _, Nat.zero_le _⟩ rfl rfl (Nat.le_of_ble_eq_true rfl) rfl dX7_add_10 ?_
  refine x_iload_n (pc := 13) C 2 dX7_add_13 rfl rfl ?_
  refine x_iadd (pc := 14) C dX7_add_14 ?_
  refine x_callS (pc := 15) C [.ref (a 30), .int x1, .int ((kg 6 (gA st 30) x1) + x2)] (mX0_put G (N := 6) (f := (gA st 30)) 30 (lwX_A30 G a rfl) (by decide) x1 ((kg 6 (gA st 30) x1) + x2) (swX_A30 G a _ _)) ysX0_put q17_22 ⟨Nat.le_of_ble_eq_true rfl, Nat.le_of_ble_eq_true rfl, rfl, rfl⟩ ⟨Nat.zero_le _, Nat.zero_le _⟩ rfl rfl (Nat.le_of_ble_eq_true rfl) rfl dX7_add_15 ?_
  subst h
  exact x_vret (pc := 18) C Zd dX7_add_18
set_option maxRecDepth 100000 in
theorem mX7_add (G : kG) (a : Nat → Nat) (st : kS) (x1 : Int32) (x2 : Int32) : kMet G yX7_add cX7_add 3 none rmfX7_add (0, 0) [.ref (a 9), .int x1, .int x2] (wX G a st) none (wX G a (fX7_add st x1 x2)) := kMet.mk (by decide +kernel) (Nat.le_of_ble_eq_true rfl) (fun E C Zd => wX7_add  C Zd  st x1 x2 rfl)
