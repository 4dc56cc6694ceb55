theorem yvX7_rolls : kYV yX7_rolls RX7 cX7_rolls 7 (some .int) 3 := ⟨q17_18, q17_19, q2_18, q17_20, by decide +kernel⟩
abbrev rmfX7_rolls : Room := { frames := 2, cells := 0, slots := 0, locals := 44 }
def fX7_rolls_L52_B (K : Int32 → kS → Option (Int32 × kS)) (Gc : Int32 → kS → Option (Int32 × kS)) (st : kS) (v2 : Int32) (v3 : Int32) (v4 : Int32) (v5 : Int32) (v6 : Int32) : Option (Int32 × kS) := if (gI st 3) ≤ v6 then (K v6 st) else (Gc (v6 + 1) (fX7_add st (fX7_placeAfter st v5 v6) (kg 6 (gA st 29) v5)))
set_option maxRecDepth 100000 in
set_option maxHeartbeats 4000000 in
theorem wX7_rolls_L52_B {G : kG} {E : kE} {a : Nat → Nat} (C : kOk G E cX7_rolls RX7 7 rmfX7_rolls) {z : Int32 × kS} (Zd : kEnd G E (0, 0) (some .int) (some (.int z.1)) (wX G a z.2)) {K Gc : Int32 → kS → Option (Int32 × kS)} (st : kS) (v2 : Int32) (v3 : Int32) (v4 : Int32) (v5 : Int32) (v6 : Int32) (hK : ∀ (u6 : Int32) (su : kS), K u6 su = some z → kX G E (0, 0) (wX G a su) 91 [(0, .ref (a 9)), (2, .int v2), (3, .int v3), (4, .int v4), (5, .int v5)] []) (hG : ∀ (u6 : Int32) (su : kS), Gc u6 su = some z → kX G E (0, 0) (wX G a su) 52 [(0, .ref (a 9)), (2, .int v2), (3, .int v3), (4, .int v4), (5, .int v5), (6, .int u6)] []) (h : fX7_rolls_L52_B K Gc st v2 v3 v4 v5 v6 = some z) : kX G E (0, 0) (wX G a st) 52 [(0, .ref (a 9)), (2, .int v2), (3, .int v3), (4, .int v4), (5, .int v5), (6, .int v6)] [] := by
  unfold fX7_rolls_L52_B at h
  refine x_iload (pc := 52) C 5 dX7_rolls_52 rfl ?_
  refine x_aload_n (pc := 54) C 0 dX7_rolls_54 rfl rfl ?_
  refine x_get (pc := 55) C inlX7 9 rfl rfl 0 (by decide) q5_3 (v := .ref (a 2)) rfl dX7_rolls_55 ?_
  refine x_getN (pc := 58) C inlX8 2 rfl rfl 2 (by decide) nn1 (v := .int (gI st 3)) rfl dX7_rolls_58 ?_
  refine x_icmp_ge (pc := 61) C 91 dX7_rolls_61 (by decide) (fun c_3 => ?_) (fun c_3 => ?_)
  · have h := kIp c_3 h
    refine kX.pick [0, 1, 2, 3, 4] (lv' := [(0, .ref (a 9)), (2, .int v2), (3, .int v3), (4, .int v4), (5, .int v5)]) rfl ?_
    exact hK v6 st h
  · have h := kIn c_3 h
    refine x_aload_n (pc := 64) C 0 dX7_rolls_64 rfl rfl ?_
    refine x_aload_n (pc := 65) C 0 dX7_rolls_65 rfl rfl ?_
    refine x_iload (pc := 66) C 4 dX7_rolls_66 rfl ?_
    refine x_iload (pc := 68) C 5 dX7_rolls_68 rfl ?_
    refine x_callV (pc := 70) C 9 [.int v5, .int v6] rfl rfl (mX7_placeAfter G a st v5 v6) yvX7_placeAfter q17_23 ⟨Nat.le_of_ble_eq_true rfl, Nat.le_of_ble_eq_true rfl, rfl, rfl⟩ ⟨Nat.zero_le _, Nat.zero_le _⟩ rfl rfl (Nat.le_of_ble_eq_true rfl) rfl dX7_rolls_70 ?_
    refine x_aload_n (pc := 73) C 0 dX7_rolls_73 rfl rfl ?_
    refine x_get (pc := 74) C inlX7 9 rfl rfl 1 (by decide) q5_1 (v := .ref (a 29)) rfl dX7_rolls_74 ?_
    refine x_iload (pc := 77) C 4 dX7_rolls_77 rfl ?_
    refine x_callS (pc := 79) C [.ref (a 29), .int v5] (mX0_get G (N := 6) (f := (gA st 29)) 29 (lwX_A29 G a rfl) (by decide) v5) ysX0_get q18_5 ⟨Nat.le_of_ble_eq_true rfl, Nat.le_of_ble_eq_true rfl, rfl, rfl⟩ ⟨Nat.zero_le _, Nat.zero_le _⟩ rfl rfl (Nat.le_of_ble_eq_true rfl) rfl dX7_rolls_79 ?_
    refine x_callV (pc := 82) C 9 [.int (fX7_placeAfter st v5 v6), .int (kg 6 (gA st 29) v5)] rfl rfl (mX7_add G a st (fX7_placeAfter st v5 v6) (kg 6 (gA st 29) v5)) yvX7_add q18_6 ⟨Nat.le_of_ble_eq_true rfl, Nat.le_of_ble_eq_true rfl, rfl, rfl⟩ ⟨Nat.zero_le _, Nat.zero_le _⟩ rfl rfl (Nat.le_of_ble_eq_true rfl) rfl dX7_rolls_82 ?_
    refine x_iinc (pc := 85) C 5 (v := v6 + 1) (lv' := [(6, .int (v6 + 1)), (0, .ref (a 9)), (2, .int v2), (3, .int v3), (4, .int v4), (5, .int v5)]) dX7_rolls_85 rfl rfl (by decide) rfl ?_
    refine x_goto (pc := 88) C 52 dX7_rolls_88 (by decide) ?_
    refine kX.pick [1, 2, 3, 4, 5, 0] (lv' := [(0, .ref (a 9)), (2, .int v2), (3, .int v3), (4, .int v4), (5, .int v5), (6, .int (v6 + 1))]) rfl ?_
    exact hG (v6 + 1) (fX7_add st (fX7_placeAfter st v5 v6) (kg 6 (gA st 29) v5)) h
def fX7_rolls_L52 (K : Int32 → kS → Option (Int32 × kS)) (v2 : Int32) (v3 : Int32) (v4 : Int32) (v5 : Int32) : Nat → Int32 → kS → Option (Int32 × kS)
  | 0, _, _ => none
  | F + 1, v6, st => fX7_rolls_L52_B K (fX7_rolls_L52 K v2 v3 v4 v5 F) st v2 v3 v4 v5 v6
set_option maxRecDepth 100000 in
set_option maxHeartbeats 4000000 in
theorem wX7_rolls_L52 {G : kG} {E : kE} {a : Nat → Nat} (C : kOk G E cX7_rolls RX7 7 rmfX7_rolls) {z : Int32 × kS} (Zd : kEnd G E (0, 0) (some .int) (some (.int z.1)) (wX G a z.2)) {K : Int32 → kS → Option (Int32 × kS)} (v2 : Int32) (v3 : Int32) (v4 : Int32) (v5 : Int32) (hK : ∀ (u6 : Int32) (su : kS), K u6 su = some z → kX G E (0, 0) (wX G a su) 91 [(0, .ref (a 9)), (2, .int v2), (3, .int v3), (4, .int v4), (5, .int v5)] []) : ∀ (F : Nat) (v6 : Int32) (st : kS), fX7_rolls_L52 K v2 v3 v4 v5 F v6 st = some z → kX G E (0, 0) (wX G a st) 52 [(0, .ref (a 9)), (2, .int v2), (3, .int v3), (4, .int v4), (5, .int v5), (6, .int v6)] [] := by
  intro F
  induction F with
  | zero =>
    intro v6 st h
    exact absurd (show none = some z from h) (fun q => by cases q)
  | succ F ih =>
    intro v6 st h
    exact wX7_rolls_L52_B  C Zd  st v2 v3 v4 v5 v6 hK (fun v6 st h => ih v6 st h) h
def fX7_rolls_L37_B (K : Int32 → kS → Option (Int32 × kS)) (Gc : Int32 → kS → Option (Int32 × kS)) (st : kS) (v2 : Int32) (v3 : Int32) (v4 : Int32) (v5 : Int32) : Option (Int32 × kS) := if (gI st 3) ≤ v5 then (K v5 st) else (fX7_rolls_L52 (fun v6_4 st_5 => Gc (v5 + 1) st_5) v2 v3 v4 v5 kFU 0 st)
set_option maxRecDepth 100000 in
set_option maxHeartbeats 4000000 in
theorem wX7_rolls_L37_B {G : kG} {E : kE} {a : Nat → Nat} (C : kOk G E cX7_rolls RX7 7 rmfX7_rolls) {z : Int32 × kS} (Zd : kEnd G E (0, 0) (some .int) (some (.int z.1)) (wX G a z.2)) {K Gc : Int32 → kS → Option (Int32 × kS)} (st : kS) (v2 : Int32) (v3 : Int32) (v4 : Int32) (v5 : Int32) (hK : ∀ (u5 : Int32) (su : kS), K u5 su = some z → kX G E (0, 0) (wX G a su) 97 [(0, .ref (a 9)), (2, .int v2), (3, .int v3), (4, .int v4)] []) (hG : ∀ (u5 : Int32) (su : kS), Gc u5 su = some z → kX G E (0, 0) (wX G a su) 37 [(0, .ref (a 9)), (2, .int v2), (3, .int v3), (4, .int v4), (5, .int u5)] []) (h : fX7_rolls_L37_B K Gc st v2 v3 v4 v5 = some z) : kX G E (0, 0) (wX G a st) 37 [(0, .ref (a 9)), (2, .int v2), (3, .int v3), (4, .int v4), (5, .int v5)] [] := by
  unfold fX7_rolls_L37_B at h
  refine x_iload (pc := 37) C 4 dX7_rolls_37 rfl ?_
  refine x_aload_n (pc := 39) C 0 dX7_rolls_39 rfl rfl ?_
  refine x_get (pc := 40) C inlX7 9 rfl rfl 0 (by decide) q5_3 (v := .ref (a 2)) rfl dX7_rolls_40 ?_
  refine x_getN (pc := 43) C inlX8 2 rfl rfl 2 (by decide) nn1 (v := .int (gI st 3)) rfl dX7_rolls_43 ?_
  refine x_icmp_ge (pc := 46) C 97 dX7_rolls_46 (by decide) (fun c_2 => ?_) (fun c_2 => ?_)
  · have h := kIp c_2 h
    refine kX.pick [0, 1, 2, 3] (lv' := [(0, .ref (a 9)), (2, .int v2), (3, .int v3), (4, .int v4)]) rfl ?_
    exact hK v5 st h
  · have h := kIn c_2 h
    refine x_iconst (pc := 49) C 0 dX7_rolls_49 (by decide) ?_
    refine x_istore (pc := 50) C (lv' := [(6, .int 0), (0, .ref (a 9)), (2, .int v2), (3, .int v3), (4, .int v4), (5, .int v5)]) dX7_rolls_50 (by decide) rfl ?_
    refine kX.pick [1, 2, 3, 4, 5, 0] (lv' := [(0, .ref (a 9)), (2, .int v2), (3, .int v3), (4, .int v4), (5, .int v5), (6, .int 0)]) rfl ?_
    refine wX7_rolls_L52  C Zd  v2 v3 v4 v5 (fun v6_4 st_5 h => ?_) kFU 0 st h
    refine x_iinc (pc := 91) C 4 (v := v5 + 1) (lv' := [(5, .int (v5 + 1)), (0, .ref (a 9)), (2, .int v2), (3, .int v3), (4, .int v4)]) dX7_rolls_91 rfl rfl (by decide) rfl ?_
    refine x_goto (pc := 94) C 37 dX7_rolls_94 (by decide) ?_
    refine kX.pick [1, 2, 3, 4, 0] (lv' := [(0, .ref (a 9)), (2, .int v2), (3, .int v3), (4, .int v4), (5, .int (v5 + 1))]) rfl ?_
    exact hG (v5 + 1) st_5 h
def fX7_rolls_L37 (K : Int32 → kS → Option (Int32 × kS)) (v2 : Int32) (v3 : Int32) (v4 : Int32) : Nat → Int32 → kS → Option (Int32 × kS)
  | 0, _, _ => none
  | F + 1, v5, st => fX7_rolls_L37_B K (fX7_rolls_L37 K v2 v3 v4 F) st v2 v3 v4 v5
set_option maxRecDepth 100000 in
set_option maxHeartbeats 4000000 in
theorem wX7_rolls_L37 {G : kG} {E : kE} {a : Nat → Nat} (C : kOk G E cX7_rolls RX7 7 rmfX7_rolls) {z : Int32 × kS} (Zd : kEnd G E (0, 0) (some .int) (some (.int z.1)) (wX G a z.2)) {K : Int32 → kS → Option (Int32 × kS)} (v2 : Int32) (v3 : Int32) (v4 : Int32) (hK : ∀ (u5 : Int32) (su : kS), K u5 su = some z → kX G E (0, 0) (wX G a su) 97 [(0, .ref (a 9)), (2, .int v2), (3, .int v3), (4, .int v4)] []) : ∀ (F : Nat) (v5 : Int32) (st : kS), fX7_rolls_L37 K v2 v3 v4 F v5 st = some z → kX G E (0, 0) (wX G a st) 37 [(0, .ref (a 9)), (2, .int v2), (3, .int v3), (4, .int v4), (5, .int v5)] [] := by
  intro F
  induction F with
  | zero =>
    intro v5 st h
    exact absurd (show none = some z from h) (fun q => by cases q)
  | succ F ih =>
    intro v5 st h
    exact wX7_rolls_L37_B  C Zd  st v2 v3 v4 v5 hK (fun v5 st h => ih v5 st h) h
def fX7_rolls_L100_B (K : Int32 → kS → Option (Int32 × kS)) (Gc : Int32 → kS → Option (Int32 × kS)) (st : kS) (v2 : Int32) (v3 : Int32) (v4 : Int32) (v5 : Int32) : Option (Int32 × kS) := if (gI st 3) ≤ v5 then (K v5 st) else (Gc (v5 + 1) (sA st 29 (kp 6 (gA st 29) v5 (kg 6 (gA st 30) v5))))
set_option maxRecDepth 100000 in
set_option maxHeartbeats 4000000 in
theorem wX7_rolls_L100_B {G : kG} {E : kE} {a : Nat → Nat} (C : kOk G E cX7_rolls RX7 7 rmfX7_rolls) {z : Int32 × kS} (Zd : kEnd G E (0, 0) (some .int) (some (.int z.1)) (wX G a z.2)) {K Gc : Int32 → kS → Option (Int32 × kS)} (st : kS) (v2 : Int32) (v3 : Int32) (v4 : Int32) (v5 : Int32) (hK : ∀ (u5 : Int32) (su : kS), K u5 su = some z → kX G E (0, 0) (wX G a su) 136 [(0, .ref (a 9)), (2, .int v2), (3, .int v3), (4, .int v4)] []) (hG : ∀ (u5 : Int32) (su : kS), Gc u5 su = some z → kX G E (0, 0) (wX G a su) 100 [(0, .ref (a 9)), (2, .int v2), (3, .int v3), (4, .int v4), (5, .int u5)] []) (h : fX7_rolls_L100_B K Gc st v2 v3 v4 v5 = some z) : kX G E (0, 0) (wX G a st) 100 [(0, .ref (a 9)), (2, .int v2), (3, .int v3), (4, .int v4), (5, .int v5)] [] := by
  unfold fX7_rolls_L100_B at h
  refine x_iload (pc := 100) C 4 dX7_rolls_100 rfl ?_
  refine x_aload_n (pc := 102) C 0 dX7_rolls_102 rfl rfl ?_
  refine x_get (pc := 103) C inlX7 9 rfl rfl 0 (by decide) q5_3 (v := .ref (a 2)) rfl dX7_rolls_103 ?_
  refine x_getN (pc := 106) C inlX8 2 rfl rfl 2 (by decide) nn1 (v := .int (gI st 3)) rfl dX7_rolls_106 ?_
  refine x_icmp_ge (pc := 109) C 136 dX7_rolls_109 (by decide) (fun c_8 => ?_) (fun c_8 => ?_)
  · have h := kIp c_8 h
    refine kX.pick [0, 1, 2, 3] (lv' := [(0, .ref (a 9)), (2, .int v2), (3, .int v3), (4, .int v4)]) rfl ?_
    exact hK v5 st h
  · have h := kIn c_8 h
    refine x_aload_n (pc := 112) C 0 dX7_rolls_112 rfl rfl ?_
    refine x_get (pc := 113) C inlX7 9 rfl rfl 1 (by decide) q5_1 (v := .ref (a 29)) rfl dX7_rolls_113 ?_
    refine x_iload (pc := 116) C 4 dX7_rolls_116 rfl ?_
    refine x_aload_n (pc := 118) C 0 dX7_rolls_118 rfl rfl ?_
    refine x_get (pc := 119) C inlX7 9 rfl rfl 2 (by decide) q5_2 (v := .ref (a 30)) rfl dX7_rolls_119 ?_
    refine x_iload (pc := 122) C 4 dX7_rolls_122 rfl ?_
    refine x_callS (pc := 124) C [.ref (a 30), .int v5] (mX0_get G (N := 6) (f := (gA st 30)) 30 (lwX_A30 G a rfl) (by decide) v5) ysX0_get q18_5 ⟨Nat.le_of_ble_eq_true rfl, Nat.le_of_ble_eq_true rfl, rfl, rfl⟩ ⟨Nat.zero_le _, Nat.zero_le _⟩ rfl rfl (Nat.le_of_ble_eq_true rfl) rfl dX7_rolls_124 ?_
    refine x_callS (pc := 127) C [.ref (a 29), .int v5, .int (kg 6 (gA st 30) v5)] (mX0_put G (N := 6) (f := (gA st 29)) 29 (lwX_A29 G a rfl) (by decide) v5 (kg 6 (gA st 30) v5) (swX_A29 G a _ _)) ysX0_put q17_22 ⟨Nat.le_of_ble_eq_true rfl, Nat.le_of_ble_eq_true rfl, rfl, rfl⟩ ⟨Nat.zero_le _, Nat.zero_le _⟩ rfl rfl (Nat.le_of_ble_eq_true rfl) rfl dX7_rolls_127 ?_
    refine x_iinc (pc := 130) C 4 (v := v5 + 1) (lv' := [(5, .int (v5 + 1)), (0, .ref (a 9)), (2, .int v2), (3, .int v3), (4, .int v4)]) dX7_rolls_130 rfl rfl (by decide) rfl ?_
    refine x_goto (pc := 133) C 100 dX7_rolls_133 (by decide) ?_
    refine kX.pick [1, 2, 3, 4, 0] (lv' := [(0, .ref (a 9)), (2, .int v2), (3, .int v3), (4, .int v4), (5, .int (v5 + 1))]) rfl ?_
    exact hG (v5 + 1) (sA st 29 (kp 6 (gA st 29) v5 (kg 6 (gA st 30) v5))) h
def fX7_rolls_L100 (K : Int32 → kS → Option (Int32 × kS)) (v2 : Int32) (v3 : Int32) (v4 : Int32) : Nat → Int32 → kS → Option (Int32 × kS)
  | 0, _, _ => none
  | F + 1, v5, st => fX7_rolls_L100_B K (fX7_rolls_L100 K v2 v3 v4 F) st v2 v3 v4 v5
set_option maxRecDepth 100000 in
set_option maxHeartbeats 4000000 in
theorem wX7_rolls_L100 {G : kG} {E : kE} {a : Nat → Nat} (C : kOk G E cX7_rolls RX7 7 rmfX7_rolls) {z : Int32 × kS} (Zd : kEnd G E (0, 0) (some .int) (some (.int z.1)) (wX G a z.2)) {K : Int32 → kS → Option (Int32 × kS)} (v2 : Int32) (v3 : Int32) (v4 : Int32) (hK : ∀ (u5 : Int32) (su : kS), K u5 su = some z → kX G E (0, 0) (wX G a su) 136 [(0, .ref (a 9)), (2, .int v2), (3, .int v3), (4, .int v4)] []) : ∀ (F : Nat) (v5 : Int32) (st : kS), fX7_rolls_L100 K v2 v3 v4 F v5 st = some z → kX G E (0, 0) (wX G a st) 100 [(0, .ref (a 9)), (2, .int v2), (3, .int v3), (4, .int v4), (5, .int v5)] [] := by
  intro F
  induction F with
  | zero =>
    intro v5 st h
    exact absurd (show none = some z from h) (fun q => by cases q)
  | succ F ih =>
    intro v5 st h
    exact wX7_rolls_L100_B  C Zd  st v2 v3 v4 v5 hK (fun v5 st h => ih v5 st h) h
def fX7_rolls_L20_B (K : Int32 → kS → Option (Int32 × kS)) (Gc : Int32 → kS → Option (Int32 × kS)) (st : kS) (v2 : Int32) (v3 : Int32) (v4 : Int32) : Option (Int32 × kS) := if v3 ≤ v4 then (K v4 st) else (fX7_rolls_L37 (fun v5_6 st_7 => fX7_rolls_L100 (fun v5_9 st_10 => Gc (v4 + 1) st_10) v2 v3 v4 kFU 0 st_7) v2 v3 v4 kFU 0 (sA st 30 (kfill 6 (gA st 30) 0)))
set_option maxRecDepth 100000 in
set_option maxHeartbeats 4000000 in
theorem wX7_rolls_L20_B {G : kG} {E : kE} {a : Nat → Nat} (C : kOk G E cX7_rolls RX7 7 rmfX7_rolls) {z : Int32 × kS} (Zd : kEnd G E (0, 0) (some .int) (some (.int z.1)) (wX G a z.2)) {K Gc : Int32 → kS → Option (Int32 × kS)} (st : kS) (v2 : Int32) (v3 : Int32) (v4 : Int32) (hK : ∀ (u4 : Int32) (su : kS), K u4 su = some z → kX G E (0, 0) (wX G a su) 142 [(0, .ref (a 9)), (2, .int v2)] []) (hG : ∀ (u4 : Int32) (su : kS), Gc u4 su = some z → kX G E (0, 0) (wX G a su) 20 [(0, .ref (a 9)), (2, .int v2), (3, .int v3), (4, .int u4)] []) (h : fX7_rolls_L20_B K Gc st v2 v3 v4 = some z) : kX G E (0, 0) (wX G a st) 20 [(0, .ref (a 9)), (2, .int v2), (3, .int v3), (4, .int v4)] [] := by
  unfold fX7_rolls_L20_B at h
  refine x_iload (pc := 20) C 3 dX7_rolls_20 rfl ?_
  refine x_iload_n (pc := 22) C 2 dX7_rolls_22 rfl rfl ?_
  refine x_icmp_ge (pc := 23) C 142 dX7_rolls_23 (by decide) (fun c_1 => ?_) (fun c_1 => ?_)
  · have h := kIp c_1 h
    refine kX.pick [0, 1] (lv' := [(0, .ref (a 9)), (2, .int v2)]) rfl ?_
    exact hK v4 st h
  · have h := kIn c_1 h
    refine x_aload_n (pc := 26) C 0 dX7_rolls_26 rfl rfl ?_
    refine x_get (pc := 27) C inlX7 9 rfl rfl 2 (by decide) q5_2 (v := .ref (a 30)) rfl dX7_rolls_27 ?_
    refine x_iconst (pc := 30) C 0 dX7_rolls_30 (by decide) ?_
    refine x_callS (pc := 31) C [.ref (a 30), .int 0] (mJ7_fill_53178 G (N := 6) (f := (gA st 30)) 30 (lwX_A30 G a rfl) (by decide) 0 (swX_A30 G a _ _)) ysJ7_fill_53178 q17_21 ⟨Nat.le_of_ble_eq_true rfl, Nat.le_of_ble_eq_true rfl, rfl, rfl⟩ ⟨Nat.zero_le _, Nat.zero_le _⟩ rfl rfl (Nat.le_of_ble_eq_true rfl) rfl dX7_rolls_31 ?_
    refine x_iconst (pc := 34) C 0 dX7_rolls_34 (by decide) ?_
    refine x_istore (pc := 35) C (lv' := [(5, .int 0), (0, .ref (a 9)), (2, .int v2), (3, .int v3), (4, .int v4)]) dX7_rolls_35 (by decide) rfl ?_
    refine kX.pick [1, 2, 3, 4, 0] (lv' := [(0, .ref (a 9)), (2, .int v2), (3, .int v3), (4, .int v4), (5, .int 0)]) rfl ?_
    refine wX7_rolls_L37  C Zd  v2 v3 v4 (fun v5_6 st_7 h => ?_) kFU 0 (sA st 30 (kfill 6 (gA st 30) 0)) h
    refine x_iconst (pc := 97) C 0 dX7_rolls_97 (by decide) ?_
    refine x_istore (pc := 98) C (lv' := [(5, .int 0), (0, .ref (a 9)), (2, .int v2), (3, .int v3), (4, .int v4)]) dX7_rolls_98 (by decide) rfl ?_
    refine kX.pick [1, 2, 3, 4, 0] (lv' := [(0, .ref (a 9)), (2, .int v2), (3, .int v3), (4, .int v4), (5, .int 0)]) rfl ?_
    refine wX7_rolls_L100  C Zd  v2 v3 v4 (fun v5_9 st_10 h => ?_) kFU 0 st_7 h
    refine x_iinc (pc := 136) C 3 (v := v4 + 1) (lv' := [(4, .int (v4 + 1)), (0, .ref (a 9)), (2, .int v2), (3, .int v3)]) dX7_rolls_136 rfl rfl (by decide) rfl ?_
    refine x_goto (pc := 139) C 20 dX7_rolls_139 (by decide) ?_
    refine kX.pick [1, 2, 3, 0] (lv' := [(0, .ref (a 9)), (2, .int v2), (3, .int v3), (4, .int (v4 + 1))]) rfl ?_
    exact hG (v4 + 1) st_10 h
def fX7_rolls_L20 (K : Int32 → kS → Option (Int32 × kS)) (v2 : Int32) (v3 : Int32) : Nat → Int32 → kS → Option (Int32 × kS)
  | 0, _, _ => none
  | F + 1, v4, st => fX7_rolls_L20_B K (fX7_rolls_L20 K v2 v3 F) st v2 v3 v4
set_option maxRecDepth 100000 in
set_option maxHeartbeats 4000000 in
theorem wX7_rolls_L20 {G : kG} {E : kE} {a : Nat → Nat} (C : kOk G E cX7_rolls RX7 7 rmfX7_rolls) {z : Int32 × kS} (Zd : kEnd G E (0, 0) (some .int) (some (.int z.1)) (wX G a z.2)) {K : Int32 → kS → Option (Int32 × kS)} (v2 : Int32) (v3 : Int32) (hK : ∀ (u4 : Int32) (su : kS), K u4 su = some z → kX G E (0, 0) (wX G a su) 142 [(0, .ref (a 9)), (2, .int v2)] []) : ∀ (F : Nat) (v4 : Int32) (st : kS), fX7_rolls_L20 K v2 v3 F v4 st = some z → kX G E (0, 0) (wX G a st) 20 [(0, .ref (a 9)), (2, .int v2), (3, .int v3), (4, .int v4)] [] := by
  intro F
  induction F with
  | zero =>
    intro v4 st h
    exact absurd (show none = some z from h) (fun q => by cases q)
  | succ F ih =>
    intro v4 st h
    exact wX7_rolls_L20_B  C Zd  st v2 v3 v4 hK (fun v4 st h => ih v4 st h) h
def fX7_rolls (st : kS) (x1 : Int32) (x2 : Int32) (x3 : Int32) : Option (Int32 × kS) := fX7_rolls_L20 (fun v4_11 st_12 => some ((kg 6 (gA st_12 29) x2), st_12)) x2 x3 kFU 0 (sA (sA st 29 (kfill 6 (gA st 29) 0)) 29 (kp 6 (kfill 6 (gA st 29) 0) x1 1))
set_option maxRecDepth 100000 in
set_option maxHeartbeats 4000000 in
theorem wX7_rolls {G : kG} {E : kE} {a : Nat → Nat} (C : kOk G E cX7_rolls RX7 7 rmfX7_rolls) {z : Int32 × kS} (Zd : kEnd G E (0, 0) (some .int) (some (.int z.1)) (wX G a z.2)) (st : kS) (x1 : Int32) (x2 : Int32) (x3 : Int32) (h : fX7_rolls st x1 x2 x3 = some z) : kX G E (0, 0) (wX G a st) 0 [(0, .ref (a 9)), (1, .int x1), (2, .int x2), (3, .int x3)] [] := by
  unfold fX7_rolls at h
  refine x_aload_n (pc := 0) C 0 dX7_rolls_0 rfl rfl ?_
  refine x_get (pc := 1) C inlX7 9 rfl rfl 1 (by decide) q5_1 (v := .ref (a 29)) rfl dX7_rolls_1 ?_
  refine x_iconst (pc := 4) C 0 dX7_rolls_4 (by decide) ?_
  refine x_callS (pc := 5) C [.ref (a 29), .int 0] (mJ7_fill_53178 G (N := 6) (f := (gA st 29)) 29 (lwX_A29 G a rfl) (by decide) 0 (swX_A29 G a _ _)) ysJ7_fill_53178 q17_21 ⟨Nat.le_of_ble_eq_true rfl, Nat.le_of_ble_eq_true rfl, rfl, rfl⟩ ⟨Nat.zero_le _, Nat.zero_le _⟩ rfl rfl (Nat.le_of_ble_eq_true rfl) rfl dX7_rolls_5 ?_
  refine x_aload_n (pc := 8) C 0 dX7_rolls_8 rfl rfl ?_
  refine x_get (pc := 9) C inlX7 9 rfl rfl 1 (by decide) q5_1 (v := .ref (a 29)) rfl dX7_rolls_9 ?_
  refine x_iload_n (pc := 12) C 1 dX7_rolls_12 rfl rfl ?_
  refine x_iconst (pc := 13) C 1 dX7_rolls_13 (by decide) ?_
  refine x_callS (pc := 14) C [.ref (a 29), .int x1, .int 1] (mX0_put G (N := 6) (f := (kfill 6 (gA st 29) 0)) 29 (lwX_A29 G a (gA_e _ _ _)) (by decide) x1 1 (swX_A29 G a _ _)) ysX0_put q17_22 ⟨Nat.le_of_ble_eq_true rfl, Nat.le_of_ble_eq_true rfl, rfl, rfl⟩ ⟨Nat.zero_le _, Nat.zero_le _⟩ rfl rfl (Nat.le_of_ble_eq_true rfl) rfl dX7_rolls_14 ?_
  refine x_iconst (pc := 17) C 0 dX7_rolls_17 (by decide) ?_
  refine x_istore (pc := 18) C (lv' := [(4, .int 0), (0, .ref (a 9)), (1, .int x1), (2, .int x2), (3, .int x3)]) dX7_rolls_18 (by decide) rfl ?_
  refine kX.pick [1, 3, 4, 0] (lv' := [(0, .ref (a 9)), (2, .int x2), (3, .int x3), (4, .int 0)]) rfl ?_
  refine wX7_rolls_L20  C Zd  x2 x3 (fun v4_11 st_12 h => ?_) kFU 0 (sA (sA st 29 (kfill 6 (gA st 29) 0)) 29 (kp 6 (kfill 6 (gA st 29) 0) x1 1)) h
  refine x_aload_n (pc := 142) C 0 dX7_rolls_142 rfl rfl ?_
  refine x_get (pc := 143) C inlX7 9 rfl rfl 1 (by decide) q5_1 (v := .ref (a 29)) rfl dX7_rolls_143 ?_
  refine x_iload_n (pc := 146) C 1 dX7_rolls_146 rfl rfl ?_
  refine x_callS (pc := 147) C [.ref (a 29), .int x2] (mX0_get G (N := 6) (f := (gA st_12 29)) 29 (lwX_A29 G a rfl) (by decide) x2) ysX0_get q18_5 ⟨Nat.le_of_ble_eq_true rfl, Nat.le_of_ble_eq_true rfl, rfl, rfl⟩ ⟨Nat.zero_le _, Nat.zero_le _⟩ rfl rfl (Nat.le_of_ble_eq_true rfl) rfl dX7_rolls_147 ?_
  obtain rfl := Option.some.inj h
  exact x_iret (pc := 150) C Zd dX7_rolls_150
set_option maxRecDepth 100000 in
theorem mX7_rolls (G : kG) (a : Nat → Nat) (st : kS) (x1 : Int32) (x2 : Int32) (x3 : Int32) {z : Int32 × kS} (h : fX7_rolls st x1 x2 x3 = some z) : kMet G yX7_rolls cX7_rolls 7 (some .int) rmfX7_rolls (0, 0) [.ref (a 9), .int x1, .int x2, .int x3] (wX G a st) (some (.int z.1)) (wX G a z.2) := kMet.mk (by decide +kernel) (Nat.le_of_ble_eq_true rfl) (fun E C Zd => wX7_rolls  C Zd  st x1 x2 x3 h)
theorem yvX9_odds : kYV yX9_odds RX9 cX9_odds 6 (some .int) 4 := ⟨q17_14, q17_15, q1_2, q17_16, by decide +kernel⟩
abbrev rmfX9_odds : Room := { frames := 3, cells := 0, slots := 0, locals := 70 }
def fX9_odds (st : kS) (x1 : Int32) (x2 : Int32) (x3 : Int32) (x4 : Int32) : Option (Int32 × kS) := if (fX8_has st x1) = 0 then (some ((-101), st)) else (if (fX8_has st x2) = 0 then (some ((-101), st)) else (if x3 < 0 then (some ((-102), st)) else (if 8 < x3 then (some ((-102), st)) else (if x4 < 0 then (some ((-102), st)) else (if x4 ≤ 1 then ((fX3_placeOf_3 st x1 (gI st 3)).bind (fun z_7 => (fX7_rolls st z_7 x2 x3).bind (fun z_8 => (fX8_rolls z_8.2 x3).bind (fun z_9 => (fX9_lowest z_8.1 z_9 x4).bind (fun z_10 => some (z_10, z_8.2)))))) else (some ((-102), st)))))))
set_option maxRecDepth 100000 in
set_option maxHeartbeats 4000000 in
theorem wX9_odds {G : kG} {E : kE} {a : Nat → Nat} (C : kOk G E cX9_odds RX9 6 rmfX9_odds) {z : Int32 × kS} (Zd : kEnd G E (0, 0) (some .int) (some (.int z.1)) (wX G a z.2)) (st : kS) (x1 : Int32) (x2 : Int32) (x3 : Int32) (x4 : Int32) (h : fX9_odds st x1 x2 x3 x4 = some z) : kX G E (0, 0) (wX G a st) 0 [(0, .ref (a 0)), (1, .int x1), (2, .int x2), (3, .int x3), (4, .int x4)] [] := by
  unfold fX9_odds at h
  refine x_aload_n (pc := 0) C 0 dX9_odds_0 rfl rfl ?_
  refine x_get (pc := 1) C inlX9 0 rfl rfl 1 (by decide) q1_21 (v := .ref (a 2)) rfl dX9_odds_1 ?_
  refine x_iload_n (pc := 4) C 1 dX9_odds_4 rfl rfl ?_
  refine x_callV (pc := 5) C 2 [.int x1] rfl rfl (mX8_has G a st x1) yvX8_has q12_7 ⟨Nat.le_of_ble_eq_true rfl, Nat.le_of_ble_eq_true rfl, rfl, rfl⟩ ⟨Nat.zero_le _, Nat.zero_le _⟩ rfl rfl (Nat.le_of_ble_eq_true rfl) rfl dX9_odds_5 ?_
  refine x_if_eq (pc := 8) C 22 dX9_odds_8 (by decide) (fun c_1 => ?_) (fun c_1 => ?_)
  · have h := kIp c_1 h
    refine x_bipush (pc := 22) C (-101) dX9_odds_22 (by decide) ?_
    obtain rfl := Option.some.inj h
    exact x_iret (pc := 24) C Zd dX9_odds_24
  · have h := kIn c_1 h
    refine x_aload_n (pc := 11) C 0 dX9_odds_11 rfl rfl ?_
    refine x_get (pc := 12) C inlX9 0 rfl rfl 1 (by decide) q1_21 (v := .ref (a 2)) rfl dX9_odds_12 ?_
    refine x_iload_n (pc := 15) C 2 dX9_odds_15 rfl rfl ?_
    refine x_callV (pc := 16) C 2 [.int x2] rfl rfl (mX8_has G a st x2) yvX8_has q12_7 ⟨Nat.le_of_ble_eq_true rfl, Nat.le_of_ble_eq_true rfl, rfl, rfl⟩ ⟨Nat.zero_le _, Nat.zero_le _⟩ rfl rfl (Nat.le_of_ble_eq_true rfl) rfl dX9_odds_16 ?_
    refine x_if_ne (pc := 19) C 25 dX9_odds_19 (by decide) (fun c_2 => ?_) (fun c_2 => ?_)
    · have h := kIn c_2 h
      refine x_iload_n (pc := 25) C 3 dX9_odds_25 rfl rfl ?_
      refine x_if_lt (pc := 26) C 46 dX9_odds_26 (by decide) (fun c_3 => ?_) (fun c_3 => ?_)
      · have h := kIp c_3 h
        refine x_bipush (pc := 46) C (-102) dX9_odds_46 (by decide) ?_
        obtain rfl := Option.some.inj h
        exact x_iret (pc := 48) C Zd dX9_odds_48
      · have h := kIn c_3 h
        refine x_iload_n (pc := 29) C 3 dX9_odds_29 rfl rfl ?_
        refine x_bipush (pc := 30) C 8 dX9_odds_30 (by decide) ?_
        refine x_icmp_gt (pc := 32) C 46 dX9_odds_32 (by decide) (fun c_4 => ?_) (fun c_4 => ?_)
        · have h := kIp c_4 h
          refine x_bipush (pc := 46) C (-102) dX9_odds_46 (by decide) ?_
          obtain rfl := Option.some.inj h
          exact x_iret (pc := 48) C Zd dX9_odds_48
        · have h := kIn c_4 h
          refine x_iload (pc := 35) C 4 dX9_odds_35 rfl ?_
          refine x_if_lt (pc := 37) C 46 dX9_odds_37 (by decide) (fun c_5 => ?_) (fun c_5 => ?_)
          · have h := kIp c_5 h
            refine x_bipush (pc := 46) C (-102) dX9_odds_46 (by decide) ?_
            obtain rfl := Option.some.inj h
            exact x_iret (pc := 48) C Zd dX9_odds_48
          · have h := kIn c_5 h
            refine x_iload (pc := 40) C 4 dX9_odds_40 rfl ?_
            refine x_iconst (pc := 42) C 1 dX9_odds_42 (by decide) ?_
            refine x_icmp_le (pc := 43) C 49 dX9_odds_43 (by decide) (fun c_6 => ?_) (fun c_6 => ?_)
            · have h := kIp c_6 h
              refine x_aload_n (pc := 49) C 0 dX9_odds_49 rfl rfl ?_
              refine x_get (pc := 50) C inlX9 0 rfl rfl 8 (by decide) q2_19 (v := .ref (a 9)) rfl dX9_odds_50 ?_
              refine x_aload_n (pc := 53) C 0 dX9_odds_53 rfl rfl ?_
              refine x_get (pc := 54) C inlX9 0 rfl rfl 2 (by decide) q2_2 (v := .ref (a 3)) rfl dX9_odds_54 ?_
              refine x_iload_n (pc := 57) C 1 dX9_odds_57 rfl rfl ?_
              refine x_aload_n (pc := 58) C 0 dX9_odds_58 rfl rfl ?_
              refine x_get (pc := 59) C inlX9 0 rfl rfl 1 (by decide) q1_21 (v := .ref (a 2)) rfl dX9_odds_59 ?_
              refine x_getN (pc := 62) C inlX8 2 rfl rfl 2 (by decide) nn5 (v := .int (gI st 3)) rfl dX9_odds_62 ?_
              obtain ⟨z_7, hz_7, h⟩ := kB h
              refine x_callV (pc := 65) C 3 [.int x1, .int (gI st 3)] rfl rfl (mX3_placeOf_3 G a st x1 (gI st 3) hz_7) yvX3_placeOf q14_20 ⟨Nat.le_of_ble_eq_true rfl, Nat.le_of_ble_eq_true rfl, rfl, rfl⟩ ⟨Nat.zero_le _, Nat.zero_le _⟩ rfl rfl (Nat.le_of_ble_eq_true rfl) rfl dX9_odds_65 ?_
              refine x_iload_n (pc := 68) C 2 dX9_odds_68 rfl rfl ?_
              refine x_iload_n (pc := 69) C 3 dX9_odds_69 rfl rfl ?_
              obtain ⟨z_8, hz_8, h⟩ := kB h
              refine x_callV (pc := 70) C 9 [.int z_7, .int x2, .int x3] rfl rfl (mX7_rolls G a st z_7 x2 x3 hz_8) yvX7_rolls q17_17 ⟨Nat.le_of_ble_eq_true rfl, Nat.le_of_ble_eq_true rfl, rfl, rfl⟩ ⟨Nat.zero_le _, Nat.zero_le _⟩ rfl rfl (Nat.le_of_ble_eq_true rfl) rfl dX9_odds_70 ?_
              refine x_istore (pc := 73) C (lv' := [(5, .int z_8.1), (0, .ref (a 0)), (1, .int x1), (2, .int x2), (3, .int x3), (4, .int x4)]) dX9_odds_73 (by decide) rfl ?_
              refine x_iload (pc := 75) C 0 dX9_odds_75 rfl ?_
              refine x_aload_n (pc := 77) C 1 dX9_odds_77 rfl rfl ?_
              refine x_get (pc := 78) C inlX9 0 rfl rfl 1 (by decide) q1_21 (v := .ref (a 2)) rfl dX9_odds_78 ?_
              refine x_iload_n (pc := 81) C 4 dX9_odds_81 rfl rfl ?_
              obtain ⟨z_9, hz_9, h⟩ := kB h
              refine x_callV (pc := 82) C 2 [.int x3] rfl rfl (mX8_rolls G a z_8.2 x3 hz_9) yvX8_rolls q18_10 ⟨Nat.le_of_ble_eq_true rfl, Nat.le_of_ble_eq_true rfl, rfl, rfl⟩ ⟨Nat.zero_le _, Nat.zero_le _⟩ rfl rfl (Nat.le_of_ble_eq_true rfl) rfl dX9_odds_82 ?_
              refine x_iload (pc := 85) C 5 dX9_odds_85 rfl ?_
              obtain ⟨z_10, hz_10, h⟩ := kB h
              refine x_callS (pc := 87) C [.int z_8.1, .int z_9, .int x4] (mX9_lowest G z_8.1 z_9 x4 hz_10) ysX9_lowest q18_14 ⟨Nat.le_of_ble_eq_true rfl, Nat.le_of_ble_eq_true rfl, rfl, rfl⟩ ⟨Nat.zero_le _, Nat.zero_le _⟩ rfl rfl (Nat.le_of_ble_eq_true rfl) rfl dX9_odds_87 ?_
              obtain rfl := Option.some.inj h
              exact x_iret (pc := 90) C Zd dX9_odds_90
            · have h := kIn c_6 h
              refine x_bipush (pc := 46) C (-102) dX9_odds_46 (by decide) ?_
              obtain rfl := Option.some.inj h
              exact x_iret (pc := 48) C Zd dX9_odds_48
    · have h := kIp c_2 h
      refine x_bipush (pc := 22) C (-101) dX9_odds_22 (by decide) ?_
      obtain rfl := Option.some.inj h
      exact x_iret (pc := 24) C Zd dX9_odds_24
set_option maxRecDepth 100000 in
theorem mX9_odds (G : kG) (a : Nat → Nat) (st : kS) (x1 : Int32) (x2 : Int32) (x3 : Int32) (x4 : Int32) {z : Int32 × kS} (h : fX9_odds st x1 x2 x3 x4 = some z) : kMet G yX9_odds cX9_odds 6 (some .int) rmfX9_odds (0, 0) [.ref (a 0), .int x1, .int x2, .int x3, .int x4] (wX G a st) (some (.int z.1)) (wX G a z.2) := kMet.mk (by decide +kernel) (Nat.le_of_ble_eq_true rfl) (fun E C Zd => wX9_odds  C Zd  st x1 x2 x3 x4 h)
theorem yvX6_spread : kYV yX6_spread RX6 cX6_spread 6 none 1 := ⟨q19_17, q19_18, q2_14, q19_19, by decide +kernel⟩
abbrev rmfX6_spread : Room := { frames := 2, cells := 0, slots := 0, locals := 43 }
def fX6_spread_J94 (K : Int32 → kS → Option (kS)) (Gc : Int32 → kS → Option (kS)) (st : kS) (v1 : Int32) (v2 : Int32) (v3 : Int32) (s0 : Int32) (s1 : Int32) : Option (kS) := Gc (v2 + 1) (sL (sA st 28 (kp 720 (gA st 28) s1 s0)) 26 (kpl 720 (gL st 26) v3 ((kgl 720 (gL st 26) v3) + (kgl 720 (gL st 25) v1))))
set_option maxRecDepth 100000 in
set_option maxHeartbeats 4000000 in
theorem wX6_spread_J94 {G : kG} {E : kE} {a : Nat → Nat} (C : kOk G E cX6_spread RX6 6 rmfX6_spread) {z : kS} (Zd : kEnd G E (0, 0) none none (wX G a z)) {K Gc : Int32 → kS → Option (kS)} (st : kS) (v1 : Int32) (v2 : Int32) (v3 : Int32) (s0 : Int32) (s1 : Int32) (hK : ∀ (u2 : Int32) (su : kS), K u2 su = some z → kX G E (0, 0) (wX G a su) 128 [] []) (hG : ∀ (u2 : Int32) (su : kS), Gc u2 su = some z → kX G E (0, 0) (wX G a su) 2 [(0, .ref (a 8)), (1, .int v1), (2, .int u2)] []) (h : fX6_spread_J94 K Gc st v1 v2 v3 s0 s1 = some z) : kX G E (0, 0) (wX G a st) 94 [(0, .ref (a 8)), (1, .int v1), (2, .int v2), (3, .int v3)] [.int s0, .int s1, .ref (a 28)] := by
  unfold fX6_spread_J94 at h
  refine x_callS (pc := 94) C [.ref (a 28), .int s1, .int s0] (mX0_put G (N := 720) (f := (gA st 28)) 28 (lwX_A28 G a rfl) (by decide) s1 s0 (swX_A28 G a _ _)) ysX0_put q19_12 ⟨Nat.le_of_ble_eq_true rfl, Nat.le_of_ble_eq_true rfl, rfl, rfl⟩ ⟨Nat.zero_le _, Nat.zero_le _⟩ rfl rfl (Nat.le_of_ble_eq_true rfl) rfl dX6_spread_94 ?_
  refine x_aload_n (pc := 97) C 0 dX6_spread_97 rfl rfl ?_
  refine x_get (pc := 98) C inlX6 8 rfl rfl 3 (by decide) q4_16 (v := .ref (a 26)) rfl dX6_spread_98 ?_
  refine x_iload_n (pc := 101) C 3 dX6_spread_101 rfl rfl ?_
  refine x_aload_n (pc := 102) C 0 dX6_spread_102 rfl rfl ?_
  refine x_get (pc := 103) C inlX6 8 rfl rfl 3 (by decide) q4_16 (v := .ref (a 26)) rfl dX6_spread_103 ?_
  refine x_iload_n (pc := 106) C 3 dX6_spread_106 rfl rfl ?_
  refine x_callS (pc := 107) C [.ref (a 26), .int v3] (mX0_get_ G (N := 720) (f := (gL st 26)) 26 (lwX_A26 G a (gL_sA _ _ _ _)) (by decide) v3) ysX0_get_ q19_13 ⟨Nat.le_of_ble_eq_true rfl, Nat.le_of_ble_eq_true rfl, rfl, rfl⟩ ⟨Nat.zero_le _, Nat.zero_le _⟩ rfl rfl (Nat.le_of_ble_eq_true rfl) rfl dX6_spread_107 ?_
  refine x_aload_n (pc := 110) C 0 dX6_spread_110 rfl rfl ?_
  refine x_get (pc := 111) C inlX6 8 rfl rfl 2 (by decide) q4_15 (v := .ref (a 25)) rfl dX6_spread_111 ?_
  refine x_iload_n (pc := 114) C 1 dX6_spread_114 rfl rfl ?_
  refine x_callS (pc := 115) C [.ref (a 25), .int v1] (mX0_get_ G (N := 720) (f := (gL st 25)) 25 (lwX_A25 G a (gL_sA _ _ _ _)) (by decide) v1) ysX0_get_ q19_13 ⟨Nat.le_of_ble_eq_true rfl, Nat.le_of_ble_eq_true rfl, rfl, rfl⟩ ⟨Nat.zero_le _, Nat.zero_le _⟩ rfl rfl (Nat.le_of_ble_eq_true rfl) rfl dX6_spread_115 ?_
  refine x_ladd (pc := 118) C dX6_spread_118 ?_
  refine x_callS (pc := 119) C [.ref (a 26), .int v3, .long ((kgl 720 (gL st 26) v3) + (kgl 720 (gL st 25) v1))] (mX0_put_ G (N := 720) (f := (gL st 26)) 26 (lwX_A26 G a (gL_sA _ _ _ _)) (by decide) v3 ((kgl 720 (gL st 26) v3) + (kgl 720 (gL st 25) v1)) (swX_A26 G a _ _)) ysX0_put_ q19_9 ⟨Nat.le_of_ble_eq_true rfl, Nat.le_of_ble_eq_true rfl, rfl, rfl⟩ ⟨Nat.zero_le _, Nat.zero_le _⟩ rfl rfl (Nat.le_of_ble_eq_true rfl) rfl dX6_spread_119 ?_
  refine x_iinc (pc := 122) C 2 (v := v2 + 1) (lv' := [(2, .int (v2 + 1)), (0, .ref (a 8)), (1, .int v1), (3, .int v3)]) dX6_spread_122 rfl rfl (by decide) rfl ?_
  refine x_goto (pc := 125) C 2 dX6_spread_125 (by decide) ?_
  refine kX.pick [1, 2, 0] (lv' := [(0, .ref (a 8)), (1, .int v1), (2, .int (v2 + 1))]) rfl ?_
  exact hG (v2 + 1) (sL (sA st 28 (kp 720 (gA st 28) s1 s0)) 26 (kpl 720 (gL st 26) v3 ((kgl 720 (gL st 26) v3) + (kgl 720 (gL st 25) v1)))) h
def fX6_spread_J66 (K : Int32 → kS → Option (kS)) (Gc : Int32 → kS → Option (kS)) (st : kS) (v1 : Int32) (v2 : Int32) (v3 : Int32) (v4 : Int32) (s0 : Int32) : Option (kS) := if s0 = 0 then (fX6_spread_J94 K Gc st v1 v2 v3 (v4 &&& (kg 720 (gA st 28) v3)) v3) else (fX6_spread_J94 K Gc st v1 v2 v3 v4 v3)
set_option maxRecDepth 100000 in
set_option maxHeartbeats 4000000 in
theorem wX6_spread_J66 {G : kG} {E : kE} {a : Nat → Nat} (C : kOk G E cX6_spread RX6 6 rmfX6_spread) {z : kS} (Zd : kEnd G E (0, 0) none none (wX G a z)) {K Gc : Int32 → kS → Option (kS)} (st : kS) (v1 : Int32) (v2 : Int32) (v3 : Int32) (v4 : Int32) (s0 : Int32) (hK : ∀ (u2 : Int32) (su : kS), K u2 su = some z → kX G E (0, 0) (wX G a su) 128 [] []) (hG : ∀ (u2 : Int32) (su : kS), Gc u2 su = some z → kX G E (0, 0) (wX G a su) 2 [(0, .ref (a 8)), (1, .int v1), (2, .int u2)] []) (h : fX6_spread_J66 K Gc st v1 v2 v3 v4 s0 = some z) : kX G E (0, 0) (wX G a st) 66 [(0, .ref (a 8)), (1, .int v1), (2, .int v2), (3, .int v3), (4, .int v4)] [.int s0] := by
  unfold fX6_spread_J66 at h
  refine x_istore (pc := 66) C (lv' := [(5, .int s0), (0, .ref (a 8)), (1, .int v1), (2, .int v2), (3, .int v3), (4, .int v4)]) dX6_spread_66 (by decide) rfl ?_
  refine x_aload_n (pc := 68) C 1 dX6_spread_68 rfl rfl ?_
  refine x_get (pc := 69) C inlX6 8 rfl rfl 5 (by decide) q4_18 (v := .ref (a 28)) rfl dX6_spread_69 ?_
  refine x_iload_n (pc := 72) C 4 dX6_spread_72 rfl rfl ?_
  refine x_iload (pc := 73) C 0 dX6_spread_73 rfl ?_
  refine x_if_eq (pc := 75) C 83 dX6_spread_75 (by decide) (fun c_4 => ?_) (fun c_4 => ?_)
  · have h := kIp c_4 h
    refine x_iload (pc := 83) C 5 dX6_spread_83 rfl ?_
    refine x_aload_n (pc := 85) C 1 dX6_spread_85 rfl rfl ?_
    refine x_get (pc := 86) C inlX6 8 rfl rfl 5 (by decide) q4_18 (v := .ref (a 28)) rfl dX6_spread_86 ?_
    refine x_iload_n (pc := 89) C 4 dX6_spread_89 rfl rfl ?_
    refine x_callS (pc := 90) C [.ref (a 28), .int v3] (mX0_get G (N := 720) (f := (gA st 28)) 28 (lwX_A28 G a rfl) (by decide) v3) ysX0_get q20_1 ⟨Nat.le_of_ble_eq_true rfl, Nat.le_of_ble_eq_true rfl, rfl, rfl⟩ ⟨Nat.zero_le _, Nat.zero_le _⟩ rfl rfl (Nat.le_of_ble_eq_true rfl) rfl dX6_spread_90 ?_
    refine x_iand (pc := 93) C dX6_spread_93 ?_
    refine kX.pick [1, 2, 3, 4] (lv' := [(0, .ref (a 8)), (1, .int v1), (2, .int v2), (3, .int v3)]) rfl ?_
    exact wX6_spread_J94  C Zd  st v1 v2 v3 (v4 &&& (kg 720 (gA st 28) v3)) v3 hK hG h
  · have h := kIn c_4 h
    refine x_iload (pc := 78) C 5 dX6_spread_78 rfl ?_
    refine x_goto (pc := 80) C 94 dX6_spread_80 (by decide) ?_
    refine kX.pick [1, 2, 3, 4] (lv' := [(0, .ref (a 8)), (1, .int v1), (2, .int v2), (3, .int v3)]) rfl ?_
    exact wX6_spread_J94  C Zd  st v1 v2 v3 v4 v3 hK hG h
def fX6_spread_L2_B (K : Int32 → kS → Option (kS)) (Gc : Int32 → kS → Option (kS)) (st : kS) (v1 : Int32) (v2 : Int32) : Option (kS) := if (gI st 3) ≤ v2 then (K v2 st) else (if (fX8_barred st v2) = 0 then (if (lg_cmp (kgl 720 (gL st 26) (fX4_after st v1 v2)) 0) = 0 then (fX6_spread_J66 K Gc st v1 v2 (fX4_after st v1 v2) ((kg 720 (gA st 27) v1) ||| (kshl 1 v2)) 1) else (fX6_spread_J66 K Gc st v1 v2 (fX4_after st v1 v2) ((kg 720 (gA st 27) v1) ||| (kshl 1 v2)) 0)) else (Gc (v2 + 1) st))
set_option maxRecDepth 100000 in
set_option maxHeartbeats 4000000 in
theorem wX6_spread_L2_B {G : kG} {E : kE} {a : Nat → Nat} (C : kOk G E cX6_spread RX6 6 rmfX6_spread) {z : kS} (Zd : kEnd G E (0, 0) none none (wX G a z)) {K Gc : Int32 → kS → Option (kS)} (st : kS) (v1 : Int32) (v2 : Int32) (hK : ∀ (u2 : Int32) (su : kS), K u2 su = some z → kX G E (0, 0) (wX G a su) 128 [] []) (hG : ∀ (u2 : Int32) (su : kS), Gc u2 su = some z → kX G E (0, 0) (wX G a su) 2 [(0, .ref (a 8)), (1, .int v1), (2, .int u2)] []) (h : fX6_spread_L2_B K Gc st v1 v2 = some z) : kX G E (0, 0) (wX G a st) 2 [(0, .ref (a 8)), (1, .int v1), (2, .int v2)] [] := by
  unfold fX6_spread_L2_B at h
  refine x_iload_n (pc := 2) C 2 dX6_spread_2 rfl rfl ?_
  refine x_aload_n (pc := 3) C 0 dX6_spread_3 rfl rfl ?_
  refine x_get (pc := 4) C inlX6 8 rfl rfl 0 (by decide) q4_19 (v := .ref (a 2)) rfl dX6_spread_4 ?_
  refine x_getN (pc := 7) C inlX8 2 rfl rfl 2 (by decide) nn2 (v := .int (gI st 3)) rfl dX6_spread_7 ?_
  refine x_icmp_ge (pc := 10) C 128 dX6_spread_10 (by decide) (fun c_1 => ?_) (fun c_1 => ?_)
  · have h := kIp c_1 h
    refine kX.pick [] (lv' := []) rfl ?_
    exact hK v2 st h
  · have h := kIn c_1 h
    refine x_aload_n (pc := 13) C 0 dX6_spread_13 rfl rfl ?_
    refine x_get (pc := 14) C inlX6 8 rfl rfl 0 (by decide) q4_19 (v := .ref (a 2)) rfl dX6_spread_14 ?_
    refine x_iload_n (pc := 17) C 2 dX6_spread_17 rfl rfl ?_
    refine x_callV (pc := 18) C 2 [.int v2] rfl rfl (mX8_barred G a st v2) yvX8_barred q19_20 ⟨Nat.le_of_ble_eq_true rfl, Nat.le_of_ble_eq_true rfl, rfl, rfl⟩ ⟨Nat.zero_le _, Nat.zero_le _⟩ rfl rfl (Nat.le_of_ble_eq_true rfl) rfl dX6_spread_18 ?_
    refine x_if_ne (pc := 21) C 122 dX6_spread_21 (by decide) (fun c_2 => ?_) (fun c_2 => ?_)
    · have h := kIn c_2 h
      refine x_iinc (pc := 122) C 2 (v := v2 + 1) (lv' := [(2, .int (v2 + 1)), (0, .ref (a 8)), (1, .int v1)]) dX6_spread_122 rfl rfl (by decide) rfl ?_
      refine x_goto (pc := 125) C 2 dX6_spread_125 (by decide) ?_
      refine kX.pick [1, 2, 0] (lv' := [(0, .ref (a 8)), (1, .int v1), (2, .int (v2 + 1))]) rfl ?_
      exact hG (v2 + 1) st h
    · have h := kIp c_2 h
      refine x_aload_n (pc := 24) C 0 dX6_spread_24 rfl rfl ?_
      refine x_get (pc := 25) C inlX6 8 rfl rfl 1 (by decide) q4_20 (v := .ref (a 5)) rfl dX6_spread_25 ?_
      refine x_iload_n (pc := 28) C 1 dX6_spread_28 rfl rfl ?_
      refine x_iload_n (pc := 29) C 2 dX6_spread_29 rfl rfl ?_
      refine x_callV (pc := 30) C 5 [.int v1, .int v2] rfl rfl (mX4_after G a st v1 v2) yvX4_after q19_21 ⟨Nat.le_of_ble_eq_true rfl, Nat.le_of_ble_eq_true rfl, rfl, rfl⟩ ⟨Nat.zero_le _, Nat.zero_le _⟩ rfl rfl (Nat.le_of_ble_eq_true rfl) rfl dX6_spread_30 ?_
      refine x_istore_n (pc := 33) C (lv' := [(3, .int (fX4_after st v1 v2)), (0, .ref (a 8)), (1, .int v1), (2, .int v2)]) dX6_spread_33 rfl (by decide) rfl ?_
      refine x_aload_n (pc := 34) C 1 dX6_spread_34 rfl rfl ?_
      refine x_get (pc := 35) C inlX6 8 rfl rfl 4 (by decide) q4_17 (v := .ref (a 27)) rfl dX6_spread_35 ?_
      refine x_iload_n (pc := 38) C 2 dX6_spread_38 rfl rfl ?_
      refine x_callS (pc := 39) C [.ref (a 27), .int v1] (mX0_get G (N := 720) (f := (gA st 27)) 27 (lwX_A27 G a rfl) (by decide) v1) ysX0_get q20_1 ⟨Nat.le_of_ble_eq_true rfl, Nat.le_of_ble_eq_true rfl, rfl, rfl⟩ ⟨Nat.zero_le _, Nat.zero_le _⟩ rfl rfl (Nat.le_of_ble_eq_true rfl) rfl dX6_spread_39 ?_
      refine x_iconst (pc := 42) C 1 dX6_spread_42 (by decide) ?_
      refine x_iload_n (pc := 43) C 3 dX6_spread_43 rfl rfl ?_
      refine y_ishl (pc := 44) C dX6_spread_44 ?_
      refine x_ior (pc := 45) C dX6_spread_45 ?_
      refine x_istore (pc := 46) C (lv' := [(4, .int ((kg 720 (gA st 27) v1) ||| (kshl 1 v2))), (3, .int (fX4_after st v1 v2)), (0, .ref (a 8)), (1, .int v1), (2, .int v2)]) dX6_spread_46 (by decide) rfl ?_
      refine x_aload_n (pc := 48) C 2 dX6_spread_48 rfl rfl ?_
      refine x_get (pc := 49) C inlX6 8 rfl rfl 3 (by decide) q4_16 (v := .ref (a 26)) rfl dX6_spread_49 ?_
      refine x_iload_n (pc := 52) C 1 dX6_spread_52 rfl rfl ?_
      refine x_callS (pc := 53) C [.ref (a 26), .int (fX4_after st v1 v2)] (mX0_get_ G (N := 720) (f := (gL st 26)) 26 (lwX_A26 G a rfl) (by decide) (fX4_after st v1 v2)) ysX0_get_ q19_13 ⟨Nat.le_of_ble_eq_true rfl, Nat.le_of_ble_eq_true rfl, rfl, rfl⟩ ⟨Nat.zero_le _, Nat.zero_le _⟩ rfl rfl (Nat.le_of_ble_eq_true rfl) rfl dX6_spread_53 ?_
      refine x_lconst (pc := 56) C 0 dX6_spread_56 (by decide) ?_
      refine x_lcmp (pc := 57) C dX6_spread_57 ?_
      refine x_if_ne (pc := 58) C 65 dX6_spread_58 (by decide) (fun c_3 => ?_) (fun c_3 => ?_)
      · have h := kIn c_3 h
        refine x_iconst (pc := 65) C 0 dX6_spread_65 (by decide) ?_
        refine kX.pick [2, 3, 4, 1, 0] (lv' := [(0, .ref (a 8)), (1, .int v1), (2, .int v2), (3, .int (fX4_after st v1 v2)), (4, .int ((kg 720 (gA st 27) v1) ||| (kshl 1 v2)))]) rfl ?_
        exact wX6_spread_J66  C Zd  st v1 v2 (fX4_after st v1 v2) ((kg 720 (gA st 27) v1) ||| (kshl 1 v2)) 0 hK hG h
      · have h := kIp c_3 h
        refine x_iconst (pc := 61) C 1 dX6_spread_61 (by decide) ?_
        refine x_goto (pc := 62) C 66 dX6_spread_62 (by decide) ?_
        refine kX.pick [2, 3, 4, 1, 0] (lv' := [(0, .ref (a 8)), (1, .int v1), (2, .int v2), (3, .int (fX4_after st v1 v2)), (4, .int ((kg 720 (gA st 27) v1) ||| (kshl 1 v2)))]) rfl ?_
        exact wX6_spread_J66  C Zd  st v1 v2 (fX4_after st v1 v2) ((kg 720 (gA st 27) v1) ||| (kshl 1 v2)) 1 hK hG h
def fX6_spread_L2 (K : Int32 → kS → Option (kS)) (v1 : Int32) : Nat → Int32 → kS → Option (kS)
  | 0, _, _ => none
  | F + 1, v2, st => fX6_spread_L2_B K (fX6_spread_L2 K v1 F) st v1 v2
set_option maxRecDepth 100000 in
set_option maxHeartbeats 4000000 in
theorem wX6_spread_L2 {G : kG} {E : kE} {a : Nat → Nat} (C : kOk G E cX6_spread RX6 6 rmfX6_spread) {z : kS} (Zd : kEnd G E (0, 0) none none (wX G a z)) {K : Int32 → kS → Option (kS)} (v1 : Int32) (hK : ∀ (u2 : Int32) (su : kS), K u2 su = some z → kX G E (0, 0) (wX G a su) 128 [] []) : ∀ (F : Nat) (v2 : Int32) (st : kS), fX6_spread_L2 K v1 F v2 st = some z → kX G E (0, 0) (wX G a st) 2 [(0, .ref (a 8)), (1, .int v1), (2, .int v2)] [] := by
  intro F
  induction F with
  | zero =>
    intro v2 st h
    exact absurd (show none = some z from h) (fun q => by cases q)
  | succ F ih =>
    intro v2 st h
    exact wX6_spread_L2_B  C Zd  st v1 v2 hK (fun v2 st h => ih v2 st h) h
def fX6_spread (st : kS) (x1 : Int32) : Option (kS) := fX6_spread_L2 (fun v2_5 st_6 => some st_6) x1 kFU 0 st
set_option maxRecDepth 100000 in
set_option maxHeartbeats 4000000 in
theorem wX6_spread {G : kG} {E : kE} {a : Nat → Nat} (C : kOk G E cX6_spread RX6 6 rmfX6_spread) {z : kS} (Zd : kEnd G E (0, 0) none none (wX G a z)) (st : kS) (x1 : Int32) (h : fX6_spread st x1 = some z) : kX G E (0, 0) (wX G a st) 0 [(0, .ref (a 8)), (1, .int x1)] [] := by
  unfold fX6_spread at h
  refine x_iconst (pc := 0) C 0 dX6_spread_0 (by decide) ?_
  refine x_istore_n (pc := 1) C (lv' := [(2, .int 0), (0, .ref (a 8)), (1, .int x1)]) dX6_spread_1 rfl (by decide) rfl ?_
  refine kX.pick [1, 2, 0] (lv' := [(0, .ref (a 8)), (1, .int x1), (2, .int 0)]) rfl ?_
  refine wX6_spread_L2  C Zd  x1 (fun v2_5 st_6 h => ?_) kFU 0 st h
  obtain rfl := Option.some.inj h
  exact x_vret (pc := 128) C Zd dX6_spread_128
set_option maxRecDepth 100000 in
theorem mX6_spread (G : kG) (a : Nat → Nat) (st : kS) (x1 : Int32) {z : kS} (h : fX6_spread st x1 = some z) : kMet G yX6_spread cX6_spread 6 none rmfX6_spread (0, 0) [.ref (a 8), .int x1] (wX G a st) none (wX G a z) := kMet.mk (by decide +kernel) (Nat.le_of_ble_eq_true rfl) (fun E C Zd => wX6_spread  C Zd  st x1 h)
theorem yvX6_goBy : kYV yX6_goBy RX6 cX6_goBy 4 none 1 := ⟨q19_3, q19_4, q2_14, q19_5, by decide +kernel⟩
abbrev rmfX6_goBy : Room := { frames := 3, cells := 0, slots := 0, locals := 68 }
def fX6_goBy_L43_B (K : Int32 → kS → Option (kS)) (Gc : Int32 → kS → Option (kS)) (st : kS) (v1 : Int32) (v2 : Int32) (v3 : Int32) : Option (kS) := if (gI st 11) ≤ v3 then (K v3 st) else (if (lg_cmp (kgl 720 (gL st 25) v3) 0) ≤ 0 then (Gc (v3 + 1) st) else ((fX6_spread st v3).bind (fun z_4 => Gc (v3 + 1) z_4)))
set_option maxRecDepth 100000 in
set_option maxHeartbeats 4000000 in
theorem wX6_goBy_L43_B {G : kG} {E : kE} {a : Nat → Nat} (C : kOk G E cX6_goBy RX6 4 rmfX6_goBy) {z : kS} (Zd : kEnd G E (0, 0) none none (wX G a z)) {K Gc : Int32 → kS → Option (kS)} (st : kS) (v1 : Int32) (v2 : Int32) (v3 : Int32) (hK : ∀ (u3 : Int32) (su : kS), K u3 su = some z → kX G E (0, 0) (wX G a su) 78 [(0, .ref (a 8)), (1, .int v1), (2, .int v2)] []) (hG : ∀ (u3 : Int32) (su : kS), Gc u3 su = some z → kX G E (0, 0) (wX G a su) 43 [(0, .ref (a 8)), (1, .int v1), (2, .int v2), (3, .int u3)] []) (h : fX6_goBy_L43_B K Gc st v1 v2 v3 = some z) : kX G E (0, 0) (wX G a st) 43 [(0, .ref (a 8)), (1, .int v1), (2, .int v2), (3, .int v3)] [] := by
  unfold fX6_goBy_L43_B at h
  refine x_iload_n (pc := 43) C 3 dX6_goBy_43 rfl rfl ?_
  refine x_aload_n (pc := 44) C 0 dX6_goBy_44 rfl rfl ?_
  refine x_get (pc := 45) C inlX6 8 rfl rfl 1 (by decide) q4_20 (v := .ref (a 5)) rfl dX6_goBy_45 ?_
  refine x_getN (pc := 48) C inlX4 5 rfl rfl 3 (by decide) nn8 (v := .int (gI st 11)) rfl dX6_goBy_48 ?_
  refine x_icmp_ge (pc := 51) C 78 dX6_goBy_51 (by decide) (fun c_2 => ?_) (fun c_2 => ?_)
  · have h := kIp c_2 h
    refine kX.pick [0, 1, 2] (lv' := [(0, .ref (a 8)), (1, .int v1), (2, .int v2)]) rfl ?_
    exact hK v3 st h
  · have h := kIn c_2 h
    refine x_aload_n (pc := 54) C 0 dX6_goBy_54 rfl rfl ?_
    refine x_get (pc := 55) C inlX6 8 rfl rfl 2 (by decide) q4_15 (v := .ref (a 25)) rfl dX6_goBy_55 ?_
    refine x_iload_n (pc := 58) C 3 dX6_goBy_58 rfl rfl ?_
    refine x_callS (pc := 59) C [.ref (a 25), .int v3] (mX0_get_ G (N := 720) (f := (gL st 25)) 25 (lwX_A25 G a rfl) (by decide) v3) ysX0_get_ q19_13 ⟨Nat.le_of_ble_eq_true rfl, Nat.le_of_ble_eq_true rfl, rfl, rfl⟩ ⟨Nat.zero_le _, Nat.zero_le _⟩ rfl rfl (Nat.le_of_ble_eq_true rfl) rfl dX6_goBy_59 ?_
    refine x_lconst (pc := 62) C 0 dX6_goBy_62 (by decide) ?_
    refine x_lcmp (pc := 63) C dX6_goBy_63 ?_
    refine x_if_le (pc := 64) C 72 dX6_goBy_64 (by decide) (fun c_3 => ?_) (fun c_3 => ?_)
    · have h := kIp c_3 h
      refine x_iinc (pc := 72) C 3 (v := v3 + 1) (lv' := [(3, .int (v3 + 1)), (0, .ref (a 8)), (1, .int v1), (2, .int v2)]) dX6_goBy_72 rfl rfl (by decide) rfl ?_
      refine x_goto (pc := 75) C 43 dX6_goBy_75 (by decide) ?_
      refine kX.pick [1, 2, 3, 0] (lv' := [(0, .ref (a 8)), (1, .int v1), (2, .int v2), (3, .int (v3 + 1))]) rfl ?_
      exact hG (v3 + 1) st h
    · have h := kIn c_3 h
      refine x_aload_n (pc := 67) C 0 dX6_goBy_67 rfl rfl ?_
      refine x_iload_n (pc := 68) C 3 dX6_goBy_68 rfl rfl ?_
      obtain ⟨z_4, hz_4, h⟩ := kB h
      refine x_callV (pc := 69) C 8 [.int v3] rfl rfl (mX6_spread G a st v3 hz_4) yvX6_spread q19_16 ⟨Nat.le_of_ble_eq_true rfl, Nat.le_of_ble_eq_true rfl, rfl, rfl⟩ ⟨Nat.zero_le _, Nat.zero_le _⟩ rfl rfl (Nat.le_of_ble_eq_true rfl) rfl dX6_goBy_69 ?_
      refine x_iinc (pc := 72) C 3 (v := v3 + 1) (lv' := [(3, .int (v3 + 1)), (0, .ref (a 8)), (1, .int v1), (2, .int v2)]) dX6_goBy_72 rfl rfl (by decide) rfl ?_
      refine x_goto (pc := 75) C 43 dX6_goBy_75 (by decide) ?_
      refine kX.pick [1, 2, 3, 0] (lv' := [(0, .ref (a 8)), (1, .int v1), (2, .int v2), (3, .int (v3 + 1))]) rfl ?_
      exact hG (v3 + 1) z_4 h
def fX6_goBy_L43 (K : Int32 → kS → Option (kS)) (v1 : Int32) (v2 : Int32) : Nat → Int32 → kS → Option (kS)
  | 0, _, _ => none
  | F + 1, v3, st => fX6_goBy_L43_B K (fX6_goBy_L43 K v1 v2 F) st v1 v2 v3
set_option maxRecDepth 100000 in
set_option maxHeartbeats 4000000 in
theorem wX6_goBy_L43 {G : kG} {E : kE} {a : Nat → Nat} (C : kOk G E cX6_goBy RX6 4 rmfX6_goBy) {z : kS} (Zd : kEnd G E (0, 0) none none (wX G a z)) {K : Int32 → kS → Option (kS)} (v1 : Int32) (v2 : Int32) (hK : ∀ (u3 : Int32) (su : kS), K u3 su = some z → kX G E (0, 0) (wX G a su) 78 [(0, .ref (a 8)), (1, .int v1), (2, .int v2)] []) : ∀ (F : Nat) (v3 : Int32) (st : kS), fX6_goBy_L43 K v1 v2 F v3 st = some z → kX G E (0, 0) (wX G a st) 43 [(0, .ref (a 8)), (1, .int v1), (2, .int v2), (3, .int v3)] [] := by
  intro F
  induction F with
  | zero =>
    intro v3 st h
    exact absurd (show none = some z from h) (fun q => by cases q)
  | succ F ih =>
    intro v3 st h
    exact wX6_goBy_L43_B  C Zd  st v1 v2 v3 hK (fun v3 st h => ih v3 st h) h
def fX6_goBy_L80_B (K : Int32 → kS → Option (kS)) (Gc : Int32 → kS → Option (kS)) (st : kS) (v1 : Int32) (v2 : Int32) (v3 : Int32) : Option (kS) := if (gI st 11) ≤ v3 then (K v3 st) else (Gc (v3 + 1) (sA (sL st 25 (kpl 720 (gL st 25) v3 (kgl 720 (gL st 26) v3))) 27 (kp 720 (gA st 27) v3 (kg 720 (gA st 28) v3))))
set_option maxRecDepth 100000 in
set_option maxHeartbeats 4000000 in
theorem wX6_goBy_L80_B {G : kG} {E : kE} {a : Nat → Nat} (C : kOk G E cX6_goBy RX6 4 rmfX6_goBy) {z : kS} (Zd : kEnd G E (0, 0) none none (wX G a z)) {K Gc : Int32 → kS → Option (kS)} (st : kS) (v1 : Int32) (v2 : Int32) (v3 : Int32) (hK : ∀ (u3 : Int32) (su : kS), K u3 su = some z → kX G E (0, 0) (wX G a su) 129 [(0, .ref (a 8)), (1, .int v1), (2, .int v2)] []) (hG : ∀ (u3 : Int32) (su : kS), Gc u3 su = some z → kX G E (0, 0) (wX G a su) 80 [(0, .ref (a 8)), (1, .int v1), (2, .int v2), (3, .int u3)] []) (h : fX6_goBy_L80_B K Gc st v1 v2 v3 = some z) : kX G E (0, 0) (wX G a st) 80 [(0, .ref (a 8)), (1, .int v1), (2, .int v2), (3, .int v3)] [] := by
  unfold fX6_goBy_L80_B at h
  refine x_iload_n (pc := 80) C 3 dX6_goBy_80 rfl rfl ?_
  refine x_aload_n (pc := 81) C 0 dX6_goBy_81 rfl rfl ?_
  refine x_get (pc := 82) C inlX6 8 rfl rfl 1 (by decide) q4_20 (v := .ref (a 5)) rfl dX6_goBy_82 ?_
  refine x_getN (pc := 85) C inlX4 5 rfl rfl 3 (by decide) nn8 (v := .int (gI st 11)) rfl dX6_goBy_85 ?_
  refine x_icmp_ge (pc := 88) C 129 dX6_goBy_88 (by decide) (fun c_7 => ?_) (fun c_7 => ?_)
  · have h := kIp c_7 h
    refine kX.pick [0, 1, 2] (lv' := [(0, .ref (a 8)), (1, .int v1), (2, .int v2)]) rfl ?_
    exact hK v3 st h
  · have h := kIn c_7 h
    refine x_aload_n (pc := 91) C 0 dX6_goBy_91 rfl rfl ?_
    refine x_get (pc := 92) C inlX6 8 rfl rfl 2 (by decide) q4_15 (v := .ref (a 25)) rfl dX6_goBy_92 ?_
    refine x_iload_n (pc := 95) C 3 dX6_goBy_95 rfl rfl ?_
    refine x_aload_n (pc := 96) C 0 dX6_goBy_96 rfl rfl ?_
    refine x_get (pc := 97) C inlX6 8 rfl rfl 3 (by decide) q4_16 (v := .ref (a 26)) rfl dX6_goBy_97 ?_
    refine x_iload_n (pc := 100) C 3 dX6_goBy_100 rfl rfl ?_
    refine x_callS (pc := 101) C [.ref (a 26), .int v3] (mX0_get_ G (N := 720) (f := (gL st 26)) 26 (lwX_A26 G a rfl) (by decide) v3) ysX0_get_ q19_13 ⟨Nat.le_of_ble_eq_true rfl, Nat.le_of_ble_eq_true rfl, rfl, rfl⟩ ⟨Nat.zero_le _, Nat.zero_le _⟩ rfl rfl (Nat.le_of_ble_eq_true rfl) rfl dX6_goBy_101 ?_
    refine x_callS (pc := 104) C [.ref (a 25), .int v3, .long (kgl 720 (gL st 26) v3)] (mX0_put_ G (N := 720) (f := (gL st 25)) 25 (lwX_A25 G a rfl) (by decide) v3 (kgl 720 (gL st 26) v3) (swX_A25 G a _ _)) ysX0_put_ q19_9 ⟨Nat.le_of_ble_eq_true rfl, Nat.le_of_ble_eq_true rfl, rfl, rfl⟩ ⟨Nat.zero_le _, Nat.zero_le _⟩ rfl rfl (Nat.le_of_ble_eq_true rfl) rfl dX6_goBy_104 ?_
    refine x_aload_n (pc := 107) C 0 dX6_goBy_107 rfl rfl ?_
    refine x_get (pc := 108) C inlX6 8 rfl rfl 4 (by decide) q4_17 (v := .ref (a 27)) rfl dX6_goBy_108 ?_
    refine x_iload_n (pc := 111) C 3 dX6_goBy_111 rfl rfl ?_
    refine x_aload_n (pc := 112) C 0 dX6_goBy_112 rfl rfl ?_
    refine x_get (pc := 113) C inlX6 8 rfl rfl 5 (by decide) q4_18 (v := .ref (a 28)) rfl dX6_goBy_113 ?_
    refine x_iload_n (pc := 116) C 3 dX6_goBy_116 rfl rfl ?_
    refine x_callS (pc := 117) C [.ref (a 28), .int v3] (mX0_get G (N := 720) (f := (gA st 28)) 28 (lwX_A28 G a (gA_sL _ _ _ _)) (by decide) v3) ysX0_get q20_1 ⟨Nat.le_of_ble_eq_true rfl, Nat.le_of_ble_eq_true rfl, rfl, rfl⟩ ⟨Nat.zero_le _, Nat.zero_le _⟩ rfl rfl (Nat.le_of_ble_eq_true rfl) rfl dX6_goBy_117 ?_
    refine x_callS (pc := 120) C [.ref (a 27), .int v3, .int (kg 720 (gA st 28) v3)] (mX0_put G (N := 720) (f := (gA st 27)) 27 (lwX_A27 G a (gA_sL _ _ _ _)) (by decide) v3 (kg 720 (gA st 28) v3) (swX_A27 G a _ _)) ysX0_put q19_12 ⟨Nat.le_of_ble_eq_true rfl, Nat.le_of_ble_eq_true rfl, rfl, rfl⟩ ⟨Nat.zero_le _, Nat.zero_le _⟩ rfl rfl (Nat.le_of_ble_eq_true rfl) rfl dX6_goBy_120 ?_
    refine x_iinc (pc := 123) C 3 (v := v3 + 1) (lv' := [(3, .int (v3 + 1)), (0, .ref (a 8)), (1, .int v1), (2, .int v2)]) dX6_goBy_123 rfl rfl (by decide) rfl ?_
    refine x_goto (pc := 126) C 80 dX6_goBy_126 (by decide) ?_
    refine kX.pick [1, 2, 3, 0] (lv' := [(0, .ref (a 8)), (1, .int v1), (2, .int v2), (3, .int (v3 + 1))]) rfl ?_
    exact hG (v3 + 1) (sA (sL st 25 (kpl 720 (gL st 25) v3 (kgl 720 (gL st 26) v3))) 27 (kp 720 (gA st 27) v3 (kg 720 (gA st 28) v3))) h
def fX6_goBy_L80 (K : Int32 → kS → Option (kS)) (v1 : Int32) (v2 : Int32) : Nat → Int32 → kS → Option (kS)
  | 0, _, _ => none
  | F + 1, v3, st => fX6_goBy_L80_B K (fX6_goBy_L80 K v1 v2 F) st v1 v2 v3
set_option maxRecDepth 100000 in
set_option maxHeartbeats 4000000 in
theorem wX6_goBy_L80 {G : kG} {E : kE} {a : Nat → Nat} (C : kOk G E cX6_goBy RX6 4 rmfX6_goBy) {z : kS} (Zd : kEnd G E (0, 0) none none (wX G a z)) {K : Int32 → kS → Option (kS)} (v1 : Int32) (v2 : Int32) (hK : ∀ (u3 : Int32) (su : kS), K u3 su = some z → kX G E (0, 0) (wX G a su) 129 [(0, .ref (a 8)), (1, .int v1), (2, .int v2)] []) : ∀ (F : Nat) (v3 : Int32) (st : kS), fX6_goBy_L80 K v1 v2 F v3 st = some z → kX G E (0, 0) (wX G a st) 80 [(0, .ref (a 8)), (1, .int v1), (2, .int v2), (3, .int v3)] [] := by
  intro F
  induction F with
  | zero =>
    intro v3 st h
    exact absurd (show none = some z from h) (fun q => by cases q)
  | succ F ih =>
    intro v3 st h
    exact wX6_goBy_L80_B  C Zd  st v1 v2 v3 hK (fun v3 st h => ih v3 st h) h
def fX6_goBy_L28_B (K : Int32 → kS → Option (kS)) (Gc : Int32 → kS → Option (kS)) (st : kS) (v1 : Int32) (v2 : Int32) : Option (kS) := if v1 ≤ v2 then (K v2 st) else (fX6_goBy_L43 (fun v3_5 st_6 => fX6_goBy_L80 (fun v3_8 st_9 => Gc (v2 + 1) st_9) v1 v2 kFU 0 st_6) v1 v2 kFU 0 (sL st 26 (kfillL 720 (gL st 26) 0)))
set_option maxRecDepth 100000 in
set_option maxHeartbeats 4000000 in
theorem wX6_goBy_L28_B {G : kG} {E : kE} {a : Nat → Nat} (C : kOk G E cX6_goBy RX6 4 rmfX6_goBy) {z : kS} (Zd : kEnd G E (0, 0) none none (wX G a z)) {K Gc : Int32 → kS → Option (kS)} (st : kS) (v1 : Int32) (v2 : Int32) (hK : ∀ (u2 : Int32) (su : kS), K u2 su = some z → kX G E (0, 0) (wX G a su) 135 [] []) (hG : ∀ (u2 : Int32) (su : kS), Gc u2 su = some z → kX G E (0, 0) (wX G a su) 28 [(0, .ref (a 8)), (1, .int v1), (2, .int u2)] []) (h : fX6_goBy_L28_B K Gc st v1 v2 = some z) : kX G E (0, 0) (wX G a st) 28 [(0, .ref (a 8)), (1, .int v1), (2, .int v2)] [] := by
  unfold fX6_goBy_L28_B at h
  refine x_iload_n (pc := 28) C 2 dX6_goBy_28 rfl rfl ?_
  refine x_iload_n (pc := 29) C 1 dX6_goBy_29 rfl rfl ?_
  refine x_icmp_ge (pc := 30) C 135 dX6_goBy_30 (by decide) (fun c_1 => ?_) (fun c_1 => ?_)
  · have h := kIp c_1 h
    refine kX.pick [] (lv' := []) rfl ?_
    exact hK v2 st h
  · have h := kIn c_1 h
    refine x_aload_n (pc := 33) C 0 dX6_goBy_33 rfl rfl ?_
    refine x_get (pc := 34) C inlX6 8 rfl rfl 3 (by decide) q4_16 (v := .ref (a 26)) rfl dX6_goBy_34 ?_
    refine x_lconst (pc := 37) C 0 dX6_goBy_37 (by decide) ?_
    refine x_callS (pc := 38) C [.ref (a 26), .long 0] (mJ7_fill_d0a16 G (N := 720) (f := (gL st 26)) 26 (lwX_A26 G a rfl) (by decide) 0 (swX_A26 G a _ _)) ysJ7_fill_d0a16 q19_6 ⟨Nat.le_of_ble_eq_true rfl, Nat.le_of_ble_eq_true rfl, rfl, rfl⟩ ⟨Nat.zero_le _, Nat.zero_le _⟩ rfl rfl (Nat.le_of_ble_eq_true rfl) rfl dX6_goBy_38 ?_
    refine x_iconst (pc := 41) C 0 dX6_goBy_41 (by decide) ?_
    refine x_istore_n (pc := 42) C (lv' := [(3, .int 0), (0, .ref (a 8)), (1, .int v1), (2, .int v2)]) dX6_goBy_42 rfl (by decide) rfl ?_
    refine kX.pick [1, 2, 3, 0] (lv' := [(0, .ref (a 8)), (1, .int v1), (2, .int v2), (3, .int 0)]) rfl ?_
    refine wX6_goBy_L43  C Zd  v1 v2 (fun v3_5 st_6 h => ?_) kFU 0 (sL st 26 (kfillL 720 (gL st 26) 0)) h
    refine x_iconst (pc := 78) C 0 dX6_goBy_78 (by decide) ?_
    refine x_istore_n (pc := 79) C (lv' := [(3, .int 0), (0, .ref (a 8)), (1, .int v1), (2, .int v2)]) dX6_goBy_79 rfl (by decide) rfl ?_
    refine kX.pick [1, 2, 3, 0] (lv' := [(0, .ref (a 8)), (1, .int v1), (2, .int v2), (3, .int 0)]) rfl ?_
    refine wX6_goBy_L80  C Zd  v1 v2 (fun v3_8 st_9 h => ?_) kFU 0 st_6 h
    refine x_iinc (pc := 129) C 2 (v := v2 + 1) (lv' := [(2, .int (v2 + 1)), (0, .ref (a 8)), (1, .int v1)]) dX6_goBy_129 rfl rfl (by decide) rfl ?_
    refine x_goto (pc := 132) C 28 dX6_goBy_132 (by decide) ?_
    refine kX.pick [1, 2, 0] (lv' := [(0, .ref (a 8)), (1, .int v1), (2, .int (v2 + 1))]) rfl ?_
    exact hG (v2 + 1) st_9 h
def fX6_goBy_L28 (K : Int32 → kS → Option (kS)) (v1 : Int32) : Nat → Int32 → kS → Option (kS)
  | 0, _, _ => none
  | F + 1, v2, st => fX6_goBy_L28_B K (fX6_goBy_L28 K v1 F) st v1 v2
set_option maxRecDepth 100000 in
set_option maxHeartbeats 4000000 in
theorem wX6_goBy_L28 {G : kG} {E : kE} {a : Nat → Nat} (C : kOk G E cX6_goBy RX6 4 rmfX6_goBy) {z : kS} (Zd : kEnd G E (0, 0) none none (wX G a z)) {K : Int32 → kS → Option (kS)} (v1 : Int32) (hK : ∀ (u2 : Int32) (su : kS), K u2 su = some z → kX G E (0, 0) (wX G a su) 135 [] []) : ∀ (F : Nat) (v2 : Int32) (st : kS), fX6_goBy_L28 K v1 F v2 st = some z → kX G E (0, 0) (wX G a st) 28 [(0, .ref (a 8)), (1, .int v1), (2, .int v2)] [] := by
  intro F
  induction F with
  | zero =>
    intro v2 st h
    exact absurd (show none = some z from h) (fun q => by cases q)
  | succ F ih =>
    intro v2 st h
    exact wX6_goBy_L28_B  C Zd  st v1 v2 hK (fun v2 st h => ih v2 st h) h
def fX6_goBy (st : kS) (x1 : Int32) : Option (kS) := fX6_goBy_L28 (fun v2_10 st_11 => some st_11) x1 kFU 0 (sA (sL (sL st 25 (kfillL 720 (gL st 25) 0)) 25 (kpl 720 (kfillL 720 (gL st 25) 0) 0 1)) 27 (kp 720 (gA st 27) 0 0))
set_option maxRecDepth 100000 in
set_option maxHeartbeats 4000000 in
theorem wX6_goBy {G : kG} {E : kE} {a : Nat → Nat} (C : kOk G E cX6_goBy RX6 4 rmfX6_goBy) {z : kS} (Zd : kEnd G E (0, 0) none none (wX G a z)) (st : kS) (x1 : Int32) (h : fX6_goBy st x1 = some z) : kX G E (0, 0) (wX G a st) 0 [(0, .ref (a 8)), (1, .int x1)] [] := by
  unfold fX6_goBy at h
  refine x_aload_n (pc := 0) C 0 dX6_goBy_0 rfl rfl ?_
  refine x_get (pc := 1) C inlX6 8 rfl rfl 2 (by decide) q4_15 (v := .ref (a 25)) rfl dX6_goBy_1 ?_
  refine x_lconst (pc := 4) C 0 dX6_goBy_4 (by decide) ?_
  refine x_callS (pc := 5) C [.ref (a 25), .long 0] (mJ7_fill_d0a16 G (N := 720) (f := (gL st 25)) 25 (lwX_A25 G a rfl) (by decide) 0 (swX_A25 G a _ _)) ysJ7_fill_d0a16 q19_6 ⟨Nat.le_of_ble_eq_true rfl, Nat.le_of_ble_eq_true rfl, rfl, rfl⟩ ⟨Nat.zero_le _, Nat.zero_le _⟩ rfl rfl (Nat.le_of_ble_eq_true rfl) rfl dX6_goBy_5 ?_
  refine x_aload_n (pc := 8) C 0 dX6_goBy_8 rfl rfl ?_
  refine x_get (pc := 9) C inlX6 8 rfl rfl 2 (by decide) q4_15 (v := .ref (a 25)) rfl dX6_goBy_9 ?_
  refine x_iconst (pc := 12) C 0 dX6_goBy_12 (by decide) ?_
  refine x_lconst (pc := 13) C 1 dX6_goBy_13 (by decide) ?_
  refine x_callS (pc := 14) C [.ref (a 25), .int 0, .long 1] (mX0_put_ G (N := 720) (f := (kfillL 720 (gL st 25) 0)) 25 (lwX_A25 G a (gL_e _ _ _)) (by decide) 0 1 (swX_A25 G a _ _)) ysX0_put_ q19_9 ⟨Nat.le_of_ble_eq_true rfl, Nat.le_of_ble_eq_true rfl, rfl, rfl⟩ ⟨Nat.zero_le _, Nat.zero_le _⟩ rfl rfl (Nat.le_of_ble_eq_true rfl) rfl dX6_goBy_14 ?_
  refine x_aload_n (pc := 17) C 0 dX6_goBy_17 rfl rfl ?_
  refine x_get (pc := 18) C inlX6 8 rfl rfl 4 (by decide) q4_17 (v := .ref (a 27)) rfl dX6_goBy_18 ?_
  refine x_iconst (pc := 21) C 0 dX6_goBy_21 (by decide) ?_
  refine x_iconst (pc := 22) C 0 dX6_goBy_22 (by decide) ?_
  refine x_callS (pc := 23) C [.ref (a 27), .int 0, .int 0] (mX0_put G (N := 720) (f := (gA st 27)) 27 (lwX_A27 G a (Eq.trans (gA_sL _ _ _ _) (gA_sL _ _ _ _))) (by decide) 0 0 (swX_A27 G a _ _)) ysX0_put q19_12 ⟨Nat.le_of_ble_eq_true rfl, Nat.le_of_ble_eq_true rfl, rfl, rfl⟩ ⟨Nat.zero_le _, Nat.zero_le _⟩ rfl rfl (Nat.le_of_ble_eq_true rfl) rfl dX6_goBy_23 ?_
  refine x_iconst (pc := 26) C 0 dX6_goBy_26 (by decide) ?_
  refine x_istore_n (pc := 27) C (lv' := [(2, .int 0), (0, .ref (a 8)), (1, .int x1)]) dX6_goBy_27 rfl (by decide) rfl ?_
  refine kX.pick [1, 2, 0] (lv' := [(0, .ref (a 8)), (1, .int x1), (2, .int 0)]) rfl ?_
  refine wX6_goBy_L28  C Zd  x1 (fun v2_10 st_11 h => ?_) kFU 0 (sA (sL (sL st 25 (kfillL 720 (gL st 25) 0)) 25 (kpl 720 (kfillL 720 (gL st 25) 0) 0 1)) 27 (kp 720 (gA st 27) 0 0)) h
  obtain rfl := Option.some.inj h
  exact x_vret (pc := 135) C Zd dX6_goBy_135
set_option maxRecDepth 100000 in
theorem mX6_goBy (G : kG) (a : Nat → Nat) (st : kS) (x1 : Int32) {z : kS} (h : fX6_goBy st x1 = some z) : kMet G yX6_goBy cX6_goBy 4 none rmfX6_goBy (0, 0) [.ref (a 8), .int x1] (wX G a st) none (wX G a z) := kMet.mk (by decide +kernel) (Nat.le_of_ble_eq_true rfl) (fun E C Zd => wX6_goBy  C Zd  st x1 h)
theorem yvX6_rowsTo : kYV yX6_rowsTo RX6 cX6_rowsTo 2 (some .long) 1 := ⟨q20_8, q20_9, q2_14, q20_10, by decide +kernel⟩
abbrev rmfX6_rowsTo : Room := { frames := 1, cells := 0, slots := 0, locals := 21 }
def fX6_rowsTo (st : kS) (x1 : Int32) : Int64 := (kgl 720 (gL st 25) x1)
set_option maxRecDepth 100000 in
set_option maxHeartbeats 4000000 in
theorem wX6_rowsTo {G : kG} {E : kE} {a : Nat → Nat} {st0 : kS} (C : kOk G E cX6_rowsTo RX6 2 rmfX6_rowsTo) {z : Int64} (Zd : kEnd G E (0, 0) (some .long) (some (.long z)) (wX G a st0)) (x1 : Int32) (h : fX6_rowsTo st0 x1 = z) : kX G E (0, 0) (wX G a st0) 0 [(0, .ref (a 8)), (1, .int x1)] [] := by
  unfold fX6_rowsTo at h
  refine x_aload_n (pc := 0) C 0 dX6_rowsTo_0 rfl rfl ?_
  refine x_get (pc := 1) C inlX6 8 rfl rfl 2 (by decide) q4_15 (v := .ref (a 25)) rfl dX6_rowsTo_1 ?_
  refine x_iload_n (pc := 4) C 1 dX6_rowsTo_4 rfl rfl ?_
  refine x_callS (pc := 5) C [.ref (a 25), .int x1] (mX0_get_ G (N := 720) (f := (gL st0 25)) 25 (lwX_A25 G a rfl) (by decide) x1) ysX0_get_ q19_13 ⟨Nat.le_of_ble_eq_true rfl, Nat.le_of_ble_eq_true rfl, rfl, rfl⟩ ⟨Nat.zero_le _, Nat.zero_le _⟩ rfl rfl (Nat.le_of_ble_eq_true rfl) rfl dX6_rowsTo_5 ?_
  subst h
  exact x_lret (pc := 8) C Zd dX6_rowsTo_8
set_option maxRecDepth 100000 in
theorem mX6_rowsTo (G : kG) (a : Nat → Nat) (st : kS) (x1 : Int32) : kMet G yX6_rowsTo cX6_rowsTo 2 (some .long) rmfX6_rowsTo (0, 0) [.ref (a 8), .int x1] (wX G a st) (some (.long (fX6_rowsTo st x1))) (wX G a st) := kMet.mk (by decide +kernel) (Nat.le_of_ble_eq_true rfl) (fun E C Zd => wX6_rowsTo  C Zd  x1 rfl)
theorem yvX9_ways : kYV yX9_ways RX9 cX9_ways 2 (some .long) 1 := ⟨q18_21, q18_22, q1_2, q18_23, by decide +kernel⟩
abbrev rmfX9_ways : Room := { frames := 4, cells := 0, slots := 0, locals := 91 }
def fX9_ways (st : kS) (x1 : Int32) : Option (Int64 × kS) := if (fX8_stands st) = 0 then (some ((-103), st)) else (if x1 < 0 then (some ((-102), st)) else (if x1 ≤ 12 then ((fX6_goBy st x1).bind (fun z_4 => (fX9_number z_4).bind (fun z_5 => some ((fX6_rowsTo z_4 z_5), z_4)))) else (some ((-102), st))))
set_option maxRecDepth 100000 in
set_option maxHeartbeats 4000000 in
theorem wX9_ways {G : kG} {E : kE} {a : Nat → Nat} (C : kOk G E cX9_ways RX9 2 rmfX9_ways) {z : Int64 × kS} (Zd : kEnd G E (0, 0) (some .long) (some (.long z.1)) (wX G a z.2)) (st : kS) (x1 : Int32) (h : fX9_ways st x1 = some z) : kX G E (0, 0) (wX G a st) 0 [(0, .ref (a 0)), (1, .int x1)] [] := by
  unfold fX9_ways at h
  refine x_aload_n (pc := 0) C 0 dX9_ways_0 rfl rfl ?_
  refine x_get (pc := 1) C inlX9 0 rfl rfl 1 (by decide) q1_21 (v := .ref (a 2)) rfl dX9_ways_1 ?_
  refine x_callV (pc := 4) C 2 [] rfl rfl (mX8_stands G a st) yvX8_stands q16_18 ⟨Nat.le_of_ble_eq_true rfl, Nat.le_of_ble_eq_true rfl, rfl, rfl⟩ ⟨Nat.zero_le _, Nat.zero_le _⟩ rfl rfl (Nat.le_of_ble_eq_true rfl) rfl dX9_ways_4 ?_
  refine x_if_ne (pc := 7) C 14 dX9_ways_7 (by decide) (fun c_1 => ?_) (fun c_1 => ?_)
  · have h := kIn c_1 h
    refine x_iload_n (pc := 14) C 1 dX9_ways_14 rfl rfl ?_
    refine x_if_lt (pc := 15) C 24 dX9_ways_15 (by decide) (fun c_2 => ?_) (fun c_2 => ?_)
    · have h := kIp c_2 h
      refine x_ldc2 (pc := 24) C q19_1 dX9_ways_24 ?_
      obtain rfl := Option.some.inj h
      exact x_lret (pc := 27) C Zd dX9_ways_27
    · have h := kIn c_2 h
      refine x_iload_n (pc := 18) C 1 dX9_ways_18 rfl rfl ?_
      refine x_bipush (pc := 19) C 12 dX9_ways_19 (by decide) ?_
      refine x_icmp_le (pc := 21) C 28 dX9_ways_21 (by decide) (fun c_3 => ?_) (fun c_3 => ?_)
      · have h := kIp c_3 h
        refine x_aload_n (pc := 28) C 0 dX9_ways_28 rfl rfl ?_
        refine x_get (pc := 29) C inlX9 0 rfl rfl 7 (by decide) q2_15 (v := .ref (a 8)) rfl dX9_ways_29 ?_
        refine x_iload_n (pc := 32) C 1 dX9_ways_32 rfl rfl ?_
        obtain ⟨z_4, hz_4, h⟩ := kB h
        refine x_callV (pc := 33) C 8 [.int x1] rfl rfl (mX6_goBy G a st x1 hz_4) yvX6_goBy q19_2 ⟨Nat.le_of_ble_eq_true rfl, Nat.le_of_ble_eq_true rfl, rfl, rfl⟩ ⟨Nat.zero_le _, Nat.zero_le _⟩ rfl rfl (Nat.le_of_ble_eq_true rfl) rfl dX9_ways_33 ?_
        refine x_aload_n (pc := 36) C 0 dX9_ways_36 rfl rfl ?_
        refine x_get (pc := 37) C inlX9 0 rfl rfl 7 (by decide) q2_15 (v := .ref (a 8)) rfl dX9_ways_37 ?_
        refine x_aload_n (pc := 40) C 0 dX9_ways_40 rfl rfl ?_
        obtain ⟨z_5, hz_5, h⟩ := kB h
        refine x_callV (pc := 41) C 0 [] rfl rfl (mX9_number G a z_4 hz_5) yvX9_number q20_2 ⟨Nat.le_of_ble_eq_true rfl, Nat.le_of_ble_eq_true rfl, rfl, rfl⟩ ⟨Nat.zero_le _, Nat.zero_le _⟩ rfl rfl (Nat.le_of_ble_eq_true rfl) rfl dX9_ways_41 ?_
        refine x_callV (pc := 44) C 8 [.int z_5] rfl rfl (mX6_rowsTo G a z_4 z_5) yvX6_rowsTo q20_7 ⟨Nat.le_of_ble_eq_true rfl, Nat.le_of_ble_eq_true rfl, rfl, rfl⟩ ⟨Nat.zero_le _, Nat.zero_le _⟩ rfl rfl (Nat.le_of_ble_eq_true rfl) rfl dX9_ways_44 ?_
        obtain rfl := Option.some.inj h
        exact x_lret (pc := 47) C Zd dX9_ways_47
      · have h := kIn c_3 h
        refine x_ldc2 (pc := 24) C q19_1 dX9_ways_24 ?_
        obtain rfl := Option.some.inj h
        exact x_lret (pc := 27) C Zd dX9_ways_27
  · have h := kIp c_1 h
    refine x_ldc2 (pc := 10) C q19_0 dX9_ways_10 ?_
    obtain rfl := Option.some.inj h
    exact x_lret (pc := 13) C Zd dX9_ways_13
set_option maxRecDepth 100000 in
theorem mX9_ways (G : kG) (a : Nat → Nat) (st : kS) (x1 : Int32) {z : Int64 × kS} (h : fX9_ways st x1 = some z) : kMet G yX9_ways cX9_ways 2 (some .long) rmfX9_ways (0, 0) [.ref (a 0), .int x1] (wX G a st) (some (.long z.1)) (wX G a z.2) := kMet.mk (by decide +kernel) (Nat.le_of_ble_eq_true rfl) (fun E C Zd => wX9_ways  C Zd  st x1 h)
theorem yvX6_sharedTo : kYV yX6_sharedTo RX6 cX6_sharedTo 2 (some .int) 1 := ⟨q20_16, q20_17, q2_14, q20_18, by decide +kernel⟩
abbrev rmfX6_sharedTo : Room := { frames := 2, cells := 0, slots := 0, locals := 42 }
def fX6_sharedTo (st : kS) (x1 : Int32) : Int32 := if (lg_cmp (fX6_rowsTo st x1) 0) ≤ 0 then (0) else ((kg 720 (gA st 27) x1))
set_option maxRecDepth 100000 in
set_option maxHeartbeats 4000000 in
theorem wX6_sharedTo {G : kG} {E : kE} {a : Nat → Nat} {st0 : kS} (C : kOk G E cX6_sharedTo RX6 2 rmfX6_sharedTo) {z : Int32} (Zd : kEnd G E (0, 0) (some .int) (some (.int z)) (wX G a st0)) (x1 : Int32) (h : fX6_sharedTo st0 x1 = z) : kX G E (0, 0) (wX G a st0) 0 [(0, .ref (a 8)), (1, .int x1)] [] := by
  unfold fX6_sharedTo at h
  refine x_aload_n (pc := 0) C 0 dX6_sharedTo_0 rfl rfl ?_
  refine x_iload_n (pc := 1) C 1 dX6_sharedTo_1 rfl rfl ?_
  refine x_callV (pc := 2) C 8 [.int x1] rfl rfl (mX6_rowsTo G a st0 x1) yvX6_rowsTo q20_19 ⟨Nat.le_of_ble_eq_true rfl, Nat.le_of_ble_eq_true rfl, rfl, rfl⟩ ⟨Nat.zero_le _, Nat.zero_le _⟩ rfl rfl (Nat.le_of_ble_eq_true rfl) rfl dX6_sharedTo_2 ?_
  refine x_lconst (pc := 5) C 0 dX6_sharedTo_5 (by decide) ?_
  refine x_lcmp (pc := 6) C dX6_sharedTo_6 ?_
  refine x_if_le (pc := 7) C 21 dX6_sharedTo_7 (by decide) (fun c_1 => ?_) (fun c_1 => ?_)
  · have h := kIp c_1 h
    refine x_iconst (pc := 21) C 0 dX6_sharedTo_21 (by decide) ?_
    subst h
    exact x_iret (pc := 22) C Zd dX6_sharedTo_22
  · have h := kIn c_1 h
    refine x_aload_n (pc := 10) C 0 dX6_sharedTo_10 rfl rfl ?_
    refine x_get (pc := 11) C inlX6 8 rfl rfl 4 (by decide) q4_17 (v := .ref (a 27)) rfl dX6_sharedTo_11 ?_
    refine x_iload_n (pc := 14) C 1 dX6_sharedTo_14 rfl rfl ?_
    refine x_callS (pc := 15) C [.ref (a 27), .int x1] (mX0_get G (N := 720) (f := (gA st0 27)) 27 (lwX_A27 G a rfl) (by decide) x1) ysX0_get q20_1 ⟨Nat.le_of_ble_eq_true rfl, Nat.le_of_ble_eq_true rfl, rfl, rfl⟩ ⟨Nat.zero_le _, Nat.zero_le _⟩ rfl rfl (Nat.le_of_ble_eq_true rfl) rfl dX6_sharedTo_15 ?_
    refine x_goto (pc := 18) C 22 dX6_sharedTo_18 (by decide) ?_
    subst h
    exact x_iret (pc := 22) C Zd dX6_sharedTo_22
set_option maxRecDepth 100000 in
theorem mX6_sharedTo (G : kG) (a : Nat → Nat) (st : kS) (x1 : Int32) : kMet G yX6_sharedTo cX6_sharedTo 2 (some .int) rmfX6_sharedTo (0, 0) [.ref (a 8), .int x1] (wX G a st) (some (.int (fX6_sharedTo st x1))) (wX G a st) := kMet.mk (by decide +kernel) (Nat.le_of_ble_eq_true rfl) (fun E C Zd => wX6_sharedTo  C Zd  x1 rfl)
