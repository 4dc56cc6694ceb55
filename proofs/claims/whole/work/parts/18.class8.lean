theorem yvX9_must : kYV yX9_must RX9 cX9_must 2 (some .int) 1 := ⟨q36_18, q36_19, q1_2, q36_20, by decide +kernel⟩
abbrev rmfX9_must : Room := { frames := 4, cells := 0, slots := 0, locals := 91 }
def fX9_must (st : kS) (x1 : Int32) : Option (Int32 × kS) := if (fX8_stands st) = 0 then (some ((-103), st)) else (if x1 < 0 then (some ((-102), st)) else (if x1 ≤ 12 then ((fX6_goBy st x1).bind (fun z_4 => (fX9_number z_4).bind (fun z_5 => some ((fX6_sharedTo z_4 z_5), z_4)))) else (some ((-102), st))))
set_option maxRecDepth 100000 in
set_option maxHeartbeats 4000000 in
theorem wX9_must {G : kG} {E : kE} {a : Nat → Nat} (C : kOk G E cX9_must RX9 2 rmfX9_must) {z : Int32 × kS} (Zd : kEnd G E (0, 0) (some .int) (some (.int z.1)) (wX G a z.2)) (st : kS) (x1 : Int32) (h : fX9_must st x1 = some z) : kX G E (0, 0) (wX G a st) 0 [(0, .ref (a 0)), (1, .int x1)] [] := by
  unfold fX9_must at h
  refine x_aload_n (pc := 0) C 0 dX9_must_0 rfl rfl ?_
  refine x_get (pc := 1) C inlX9 0 rfl rfl 1 (by decide) q1_23 (v := .ref (a 2)) rfl dX9_must_1 ?_
  refine x_callV (pc := 4) C 2 [] rfl rfl (mX8_stands G a st) yvX8_stands q16_15 ⟨Nat.le_of_ble_eq_true rfl, Nat.le_of_ble_eq_true rfl, rfl, rfl⟩ ⟨Nat.zero_le _, Nat.zero_le _⟩ rfl rfl (Nat.le_of_ble_eq_true rfl) rfl dX9_must_4 ?_
  refine x_if_ne (pc := 7) C 13 dX9_must_7 (by decide) (fun c_1 => ?_) (fun c_1 => ?_)
  · have h := kIn c_1 h
    refine x_iload_n (pc := 13) C 1 dX9_must_13 rfl rfl ?_
    refine x_if_lt (pc := 14) C 23 dX9_must_14 (by decide) (fun c_2 => ?_) (fun c_2 => ?_)
    · have h := kIp c_2 h
      refine x_bipush (pc := 23) C (-102) dX9_must_23 (by decide) ?_
      obtain rfl := Option.some.inj h
      exact x_iret (pc := 25) C Zd dX9_must_25
    · have h := kIn c_2 h
      refine x_iload_n (pc := 17) C 1 dX9_must_17 rfl rfl ?_
      refine x_bipush (pc := 18) C 12 dX9_must_18 (by decide) ?_
      refine x_icmp_le (pc := 20) C 26 dX9_must_20 (by decide) (fun c_3 => ?_) (fun c_3 => ?_)
      · have h := kIp c_3 h
        refine x_aload_n (pc := 26) C 0 dX9_must_26 rfl rfl ?_
        refine x_get (pc := 27) C inlX9 0 rfl rfl 7 (by decide) q2_17 (v := .ref (a 8)) rfl dX9_must_27 ?_
        refine x_iload_n (pc := 30) C 1 dX9_must_30 rfl rfl ?_
        obtain ⟨z_4, hz_4, h⟩ := kB h
        refine x_callV (pc := 31) C 8 [.int x1] rfl rfl (mX6_goBy G a st x1 hz_4) yvX6_goBy q35_6 ⟨Nat.le_of_ble_eq_true rfl, Nat.le_of_ble_eq_true rfl, rfl, rfl⟩ ⟨Nat.zero_le _, Nat.zero_le _⟩ rfl rfl (Nat.le_of_ble_eq_true rfl) rfl dX9_must_31 ?_
        refine x_aload_n (pc := 34) C 0 dX9_must_34 rfl rfl ?_
        refine x_get (pc := 35) C inlX9 0 rfl rfl 7 (by decide) q2_17 (v := .ref (a 8)) rfl dX9_must_35 ?_
        refine x_aload_n (pc := 38) C 0 dX9_must_38 rfl rfl ?_
        obtain ⟨z_5, hz_5, h⟩ := kB h
        refine x_callV (pc := 39) C 0 [] rfl rfl (mX9_number G a z_4 hz_5) yvX9_number q26_21 ⟨Nat.le_of_ble_eq_true rfl, Nat.le_of_ble_eq_true rfl, rfl, rfl⟩ ⟨Nat.zero_le _, Nat.zero_le _⟩ rfl rfl (Nat.le_of_ble_eq_true rfl) rfl dX9_must_39 ?_
        refine x_callV (pc := 42) C 8 [.int z_5] rfl rfl (mX6_sharedTo G a z_4 z_5) yvX6_sharedTo q36_21 ⟨Nat.le_of_ble_eq_true rfl, Nat.le_of_ble_eq_true rfl, rfl, rfl⟩ ⟨Nat.zero_le _, Nat.zero_le _⟩ rfl rfl (Nat.le_of_ble_eq_true rfl) rfl dX9_must_42 ?_
        obtain rfl := Option.some.inj h
        exact x_iret (pc := 45) C Zd dX9_must_45
      · have h := kIn c_3 h
        refine x_bipush (pc := 23) C (-102) dX9_must_23 (by decide) ?_
        obtain rfl := Option.some.inj h
        exact x_iret (pc := 25) C Zd dX9_must_25
  · have h := kIp c_1 h
    refine x_bipush (pc := 10) C (-103) dX9_must_10 (by decide) ?_
    obtain rfl := Option.some.inj h
    exact x_iret (pc := 12) C Zd dX9_must_12
set_option maxRecDepth 100000 in
theorem mX9_must (G : kG) (a : Nat → Nat) (st : kS) (x1 : Int32) {z : Int32 × kS} (h : fX9_must st x1 = some z) : kMet G yX9_must cX9_must 2 (some .int) rmfX9_must (0, 0) [.ref (a 0), .int x1] (wX G a st) (some (.int z.1)) (wX G a z.2) := kMet.mk (by decide +kernel) (Nat.le_of_ble_eq_true rfl) (fun E C Zd => wX9_must  C Zd  st x1 h)
theorem yvX3_copy : kYV yX3_copy RX3 cX3_copy 3 none 1 := ⟨q37_15, q37_16, q2_3, q37_17, by decide +kernel⟩
abbrev rmfX3_copy_4_3 : Room := { frames := 1, cells := 0, slots := 0, locals := 22 }
def fX3_copy_4_3_L2_B (K : Int32 → kS → Option (kS)) (Gc : Int32 → kS → Option (kS)) (st : kS) (v2 : Int32) : Option (kS) := if 6 ≤ v2 then (K v2 st) else (Gc (v2 + 1) (sA (sA st 15 (kp 6 (gA st 15) v2 (kg 6 (gA st 13) v2))) 16 (kp 6 (gA st 16) v2 (kg 6 (gA st 14) v2))))
set_option maxRecDepth 100000 in
set_option maxHeartbeats 4000000 in
theorem wX3_copy_4_3_L2_B {G : kG} {E : kE} {a : Nat → Nat} (C : kOk G E cX3_copy RX3 3 rmfX3_copy_4_3) {z : kS} (Zd : kEnd G E (0, 0) none none (wX G a z)) {K Gc : Int32 → kS → Option (kS)} (st : kS) (v2 : Int32) (hK : ∀ (u2 : Int32) (su : kS), K u2 su = some z → kX G E (0, 0) (wX G a su) 46 [(0, .ref (a 4)), (1, .ref (a 3))] []) (hG : ∀ (u2 : Int32) (su : kS), Gc u2 su = some z → kX G E (0, 0) (wX G a su) 2 [(0, .ref (a 4)), (1, .ref (a 3)), (2, .int u2)] []) (h : fX3_copy_4_3_L2_B K Gc st v2 = some z) : kX G E (0, 0) (wX G a st) 2 [(0, .ref (a 4)), (1, .ref (a 3)), (2, .int v2)] [] := by
  unfold fX3_copy_4_3_L2_B at h
  refine x_iload_n (pc := 2) C 2 dX3_copy_2 rfl rfl ?_
  refine x_bipush (pc := 3) C 6 dX3_copy_3 (by decide) ?_
  refine x_icmp_ge (pc := 5) C 46 dX3_copy_5 (by decide) (fun c_1 => ?_) (fun c_1 => ?_)
  · have h := kIp c_1 h
    refine kX.pick [0, 1] (lv' := [(0, .ref (a 4)), (1, .ref (a 3))]) rfl ?_
    exact hK v2 st h
  · have h := kIn c_1 h
    refine x_aload_n (pc := 8) C 0 dX3_copy_8 rfl rfl ?_
    refine x_get (pc := 9) C inlX3 4 rfl rfl 0 (by decide) q3_16 (v := .ref (a 15)) rfl dX3_copy_9 ?_
    refine x_iload_n (pc := 12) C 2 dX3_copy_12 rfl rfl ?_
    refine x_aload_n (pc := 13) C 1 dX3_copy_13 rfl rfl ?_
    refine x_get (pc := 14) C inlX3 3 rfl rfl 0 (by decide) q3_16 (v := .ref (a 13)) rfl dX3_copy_14 ?_
    refine x_iload_n (pc := 17) C 2 dX3_copy_17 rfl rfl ?_
    refine x_callS (pc := 18) C [.ref (a 13), .int v2] (mX0_get G (N := 6) (f := (gA st 13)) 13 (lwX_A13 G a rfl) (by decide) v2) ysX0_get q18_13 ⟨Nat.le_of_ble_eq_true rfl, Nat.le_of_ble_eq_true rfl, rfl, rfl⟩ ⟨Nat.zero_le _, Nat.zero_le _⟩ rfl rfl (Nat.le_of_ble_eq_true rfl) rfl dX3_copy_18 ?_
    refine x_callS (pc := 21) C [.ref (a 15), .int v2, .int (kg 6 (gA st 13) v2)] (mX0_put G (N := 6) (f := (gA st 15)) 15 (lwX_A15 G a rfl) (by decide) v2 (kg 6 (gA st 13) v2) (swX_A15 G a _ _)) ysX0_put q13_15 ⟨Nat.le_of_ble_eq_true rfl, Nat.le_of_ble_eq_true rfl, rfl, rfl⟩ ⟨Nat.zero_le _, Nat.zero_le _⟩ rfl rfl (Nat.le_of_ble_eq_true rfl) rfl dX3_copy_21 ?_
    refine x_aload_n (pc := 24) C 0 dX3_copy_24 rfl rfl ?_
    refine x_get (pc := 25) C inlX3 4 rfl rfl 1 (by decide) q3_17 (v := .ref (a 16)) rfl dX3_copy_25 ?_
    refine x_iload_n (pc := 28) C 2 dX3_copy_28 rfl rfl ?_
    refine x_aload_n (pc := 29) C 1 dX3_copy_29 rfl rfl ?_
    refine x_get (pc := 30) C inlX3 3 rfl rfl 1 (by decide) q3_17 (v := .ref (a 14)) rfl dX3_copy_30 ?_
    refine x_iload_n (pc := 33) C 2 dX3_copy_33 rfl rfl ?_
    refine x_callS (pc := 34) C [.ref (a 14), .int v2] (mX0_get G (N := 6) (f := (gA st 14)) 14 (lwX_A14 G a (gA_n (by decide))) (by decide) v2) ysX0_get q18_13 ⟨Nat.le_of_ble_eq_true rfl, Nat.le_of_ble_eq_true rfl, rfl, rfl⟩ ⟨Nat.zero_le _, Nat.zero_le _⟩ rfl rfl (Nat.le_of_ble_eq_true rfl) rfl dX3_copy_34 ?_
    refine x_callS (pc := 37) C [.ref (a 16), .int v2, .int (kg 6 (gA st 14) v2)] (mX0_put G (N := 6) (f := (gA st 16)) 16 (lwX_A16 G a (gA_n (by decide))) (by decide) v2 (kg 6 (gA st 14) v2) (swX_A16 G a _ _)) ysX0_put q13_15 ⟨Nat.le_of_ble_eq_true rfl, Nat.le_of_ble_eq_true rfl, rfl, rfl⟩ ⟨Nat.zero_le _, Nat.zero_le _⟩ rfl rfl (Nat.le_of_ble_eq_true rfl) rfl dX3_copy_37 ?_
    refine x_iinc (pc := 40) C 2 (v := v2 + 1) (lv' := [(2, .int (v2 + 1)), (0, .ref (a 4)), (1, .ref (a 3))]) dX3_copy_40 rfl rfl (by decide) rfl ?_
    refine x_goto (pc := 43) C 2 dX3_copy_43 (by decide) ?_
    refine kX.pick [1, 2, 0] (lv' := [(0, .ref (a 4)), (1, .ref (a 3)), (2, .int (v2 + 1))]) rfl ?_
    exact hG (v2 + 1) (sA (sA st 15 (kp 6 (gA st 15) v2 (kg 6 (gA st 13) v2))) 16 (kp 6 (gA st 16) v2 (kg 6 (gA st 14) v2))) h
def fX3_copy_4_3_L2 (K : Int32 → kS → Option (kS)) : Nat → Int32 → kS → Option (kS)
  | 0, _, _ => none
  | F + 1, v2, st => fX3_copy_4_3_L2_B K (fX3_copy_4_3_L2 K F) st v2
set_option maxRecDepth 100000 in
set_option maxHeartbeats 4000000 in
theorem wX3_copy_4_3_L2 {G : kG} {E : kE} {a : Nat → Nat} (C : kOk G E cX3_copy RX3 3 rmfX3_copy_4_3) {z : kS} (Zd : kEnd G E (0, 0) none none (wX G a z)) {K : Int32 → kS → Option (kS)} (hK : ∀ (u2 : Int32) (su : kS), K u2 su = some z → kX G E (0, 0) (wX G a su) 46 [(0, .ref (a 4)), (1, .ref (a 3))] []) : ∀ (F : Nat) (v2 : Int32) (st : kS), fX3_copy_4_3_L2 K F v2 st = some z → kX G E (0, 0) (wX G a st) 2 [(0, .ref (a 4)), (1, .ref (a 3)), (2, .int v2)] [] := by
  intro F
  induction F with
  | zero =>
    intro v2 st h
    exact absurd (show none = some z from h) (fun q => by cases q)
  | succ F ih =>
    intro v2 st h
    exact wX3_copy_4_3_L2_B  C Zd  st v2 hK (fun v2 st h => ih v2 st h) h
def fX3_copy_4_3 (st : kS) : Option (kS) := fX3_copy_4_3_L2 (fun v2_2 st_3 => some (sI (sI st_3 8 (gI st_3 6)) 9 (gI st_3 7))) kFU 0 st
set_option maxRecDepth 100000 in
set_option maxHeartbeats 4000000 in
theorem wX3_copy_4_3 {G : kG} {E : kE} {a : Nat → Nat} (C : kOk G E cX3_copy RX3 3 rmfX3_copy_4_3) {z : kS} (Zd : kEnd G E (0, 0) none none (wX G a z)) (st : kS) (h : fX3_copy_4_3 st = some z) : kX G E (0, 0) (wX G a st) 0 [(0, .ref (a 4)), (1, .ref (a 3))] [] := by
  unfold fX3_copy_4_3 at h
  refine x_iconst (pc := 0) C 0 dX3_copy_0 (by decide) ?_
  refine x_istore_n (pc := 1) C (lv' := [(2, .int 0), (0, .ref (a 4)), (1, .ref (a 3))]) dX3_copy_1 rfl (by decide) rfl ?_
  refine kX.pick [1, 2, 0] (lv' := [(0, .ref (a 4)), (1, .ref (a 3)), (2, .int 0)]) rfl ?_
  refine wX3_copy_4_3_L2  C Zd   (fun v2_2 st_3 h => ?_) kFU 0 st h
  refine x_aload_n (pc := 46) C 0 dX3_copy_46 rfl rfl ?_
  refine x_aload_n (pc := 47) C 1 dX3_copy_47 rfl rfl ?_
  refine x_get (pc := 48) C inlX3 3 rfl rfl 2 (by decide) q3_18 (v := .int (gI st_3 6)) rfl dX3_copy_48 ?_
  refine x_put (pc := 51) C inlX3 tyX3 tyX3_ok nmX3 4 rfl rfl 2 (by decide) q3_18 rfl .int (v := .int (gI st_3 6)) (by decide +kernel) rfl rfl (Nat.le_of_ble_eq_true rfl) (swX_I8 G a _ _) dX3_copy_51 ?_
  refine x_aload_n (pc := 54) C 0 dX3_copy_54 rfl rfl ?_
  refine x_aload_n (pc := 55) C 1 dX3_copy_55 rfl rfl ?_
  refine x_get (pc := 56) C inlX3 3 rfl rfl 3 (by decide) q13_14 (v := .int (gI st_3 7)) rfl dX3_copy_56 ?_
  refine x_put (pc := 59) C inlX3 tyX3 tyX3_ok nmX3 4 rfl rfl 3 (by decide) q13_14 rfl .int (v := .int (gI st_3 7)) (by decide +kernel) rfl rfl (Nat.le_of_ble_eq_true rfl) (swX_I9 G a _ _) dX3_copy_59 ?_
  obtain rfl := Option.some.inj h
  exact x_vret (pc := 62) C Zd dX3_copy_62
set_option maxRecDepth 100000 in
theorem mX3_copy_4_3 (G : kG) (a : Nat → Nat) (st : kS)  {z : kS} (h : fX3_copy_4_3 st = some z) : kMet G yX3_copy cX3_copy 3 none rmfX3_copy_4_3 (0, 0) [.ref (a 4), .ref (a 3)] (wX G a st) none (wX G a z) := kMet.mk (by decide +kernel) (Nat.le_of_ble_eq_true rfl) (fun E C Zd => wX3_copy_4_3  C Zd  st  h)
theorem yvX9_image : kYV yX9_image RX9 cX9_image 1 (some .int) 0 := ⟨q37_11, q37_12, q1_2, q37_13, by decide +kernel⟩
abbrev rmfX9_image : Room := { frames := 2, cells := 0, slots := 0, locals := 44 }
def fX9_image (st : kS) : Option (Int32 × kS) := if (fX8_stands st) = 0 then (some ((-103), st)) else ((fX3_copy_4_3 st).bind (fun z_2 => some ((gI z_2 9), (sI z_2 0 1))))
set_option maxRecDepth 100000 in
set_option maxHeartbeats 4000000 in
theorem wX9_image {G : kG} {E : kE} {a : Nat → Nat} (C : kOk G E cX9_image RX9 1 rmfX9_image) {z : Int32 × kS} (Zd : kEnd G E (0, 0) (some .int) (some (.int z.1)) (wX G a z.2)) (st : kS) (h : fX9_image st = some z) : kX G E (0, 0) (wX G a st) 0 [(0, .ref (a 0))] [] := by
  unfold fX9_image at h
  refine x_aload_n (pc := 0) C 0 dX9_image_0 rfl rfl ?_
  refine x_get (pc := 1) C inlX9 0 rfl rfl 1 (by decide) q1_23 (v := .ref (a 2)) rfl dX9_image_1 ?_
  refine x_callV (pc := 4) C 2 [] rfl rfl (mX8_stands G a st) yvX8_stands q16_15 ⟨Nat.le_of_ble_eq_true rfl, Nat.le_of_ble_eq_true rfl, rfl, rfl⟩ ⟨Nat.zero_le _, Nat.zero_le _⟩ rfl rfl (Nat.le_of_ble_eq_true rfl) rfl dX9_image_4 ?_
  refine x_if_ne (pc := 7) C 13 dX9_image_7 (by decide) (fun c_1 => ?_) (fun c_1 => ?_)
  · have h := kIn c_1 h
    refine x_aload_n (pc := 13) C 0 dX9_image_13 rfl rfl ?_
    refine x_get (pc := 14) C inlX9 0 rfl rfl 3 (by decide) q2_5 (v := .ref (a 4)) rfl dX9_image_14 ?_
    refine x_aload_n (pc := 17) C 0 dX9_image_17 rfl rfl ?_
    refine x_get (pc := 18) C inlX9 0 rfl rfl 2 (by decide) q2_4 (v := .ref (a 3)) rfl dX9_image_18 ?_
    obtain ⟨z_2, hz_2, h⟩ := kB h
    refine x_callV (pc := 21) C 4 [.ref (a 3)] rfl rfl (mX3_copy_4_3 G a st hz_2) yvX3_copy q37_14 ⟨Nat.le_of_ble_eq_true rfl, Nat.le_of_ble_eq_true rfl, rfl, rfl⟩ ⟨Nat.zero_le _, Nat.zero_le _⟩ rfl rfl (Nat.le_of_ble_eq_true rfl) rfl dX9_image_21 ?_
    refine x_aload_n (pc := 24) C 0 dX9_image_24 rfl rfl ?_
    refine x_iconst (pc := 25) C 1 dX9_image_25 (by decide) ?_
    refine x_put (pc := 26) C inlX9 tyX9 tyX9_ok nmX9 0 rfl rfl 9 (by decide) q11_14 rfl .boolean (v := .int 1) (by decide +kernel) rfl rfl (Nat.le_of_ble_eq_true rfl) (swX_I0 G a _ _) dX9_image_26 ?_
    refine x_aload_n (pc := 29) C 0 dX9_image_29 rfl rfl ?_
    refine x_get (pc := 30) C inlX9 0 rfl rfl 3 (by decide) q2_5 (v := .ref (a 4)) rfl dX9_image_30 ?_
    refine x_getN (pc := 33) C inlX3 4 rfl rfl 3 (by decide) nn17 (v := .int (gI z_2 9)) rfl dX9_image_33 ?_
    obtain rfl := Option.some.inj h
    exact x_iret (pc := 36) C Zd dX9_image_36
  · have h := kIp c_1 h
    refine x_bipush (pc := 10) C (-103) dX9_image_10 (by decide) ?_
    obtain rfl := Option.some.inj h
    exact x_iret (pc := 12) C Zd dX9_image_12
set_option maxRecDepth 100000 in
theorem mX9_image (G : kG) (a : Nat → Nat) (st : kS)  {z : Int32 × kS} (h : fX9_image st = some z) : kMet G yX9_image cX9_image 1 (some .int) rmfX9_image (0, 0) [.ref (a 0)] (wX G a st) (some (.int z.1)) (wX G a z.2) := kMet.mk (by decide +kernel) (Nat.le_of_ble_eq_true rfl) (fun E C Zd => wX9_image  C Zd  st  h)
abbrev rmfX3_copy_3_4 : Room := { frames := 1, cells := 0, slots := 0, locals := 22 }
def fX3_copy_3_4_L2_B (K : Int32 → kS → Option (kS)) (Gc : Int32 → kS → Option (kS)) (st : kS) (v2 : Int32) : Option (kS) := if 6 ≤ v2 then (K v2 st) else (Gc (v2 + 1) (sA (sA st 13 (kp 6 (gA st 13) v2 (kg 6 (gA st 15) v2))) 14 (kp 6 (gA st 14) v2 (kg 6 (gA st 16) v2))))
set_option maxRecDepth 100000 in
set_option maxHeartbeats 4000000 in
theorem wX3_copy_3_4_L2_B {G : kG} {E : kE} {a : Nat → Nat} (C : kOk G E cX3_copy RX3 3 rmfX3_copy_3_4) {z : kS} (Zd : kEnd G E (0, 0) none none (wX G a z)) {K Gc : Int32 → kS → Option (kS)} (st : kS) (v2 : Int32) (hK : ∀ (u2 : Int32) (su : kS), K u2 su = some z → kX G E (0, 0) (wX G a su) 46 [(0, .ref (a 3)), (1, .ref (a 4))] []) (hG : ∀ (u2 : Int32) (su : kS), Gc u2 su = some z → kX G E (0, 0) (wX G a su) 2 [(0, .ref (a 3)), (1, .ref (a 4)), (2, .int u2)] []) (h : fX3_copy_3_4_L2_B K Gc st v2 = some z) : kX G E (0, 0) (wX G a st) 2 [(0, .ref (a 3)), (1, .ref (a 4)), (2, .int v2)] [] := by
  unfold fX3_copy_3_4_L2_B at h
  refine x_iload_n (pc := 2) C 2 dX3_copy_2 rfl rfl ?_
  refine x_bipush (pc := 3) C 6 dX3_copy_3 (by decide) ?_
  refine x_icmp_ge (pc := 5) C 46 dX3_copy_5 (by decide) (fun c_1 => ?_) (fun c_1 => ?_)
  · have h := kIp c_1 h
    refine kX.pick [0, 1] (lv' := [(0, .ref (a 3)), (1, .ref (a 4))]) rfl ?_
    exact hK v2 st h
  · have h := kIn c_1 h
    refine x_aload_n (pc := 8) C 0 dX3_copy_8 rfl rfl ?_
    refine x_get (pc := 9) C inlX3 3 rfl rfl 0 (by decide) q3_16 (v := .ref (a 13)) rfl dX3_copy_9 ?_
    refine x_iload_n (pc := 12) C 2 dX3_copy_12 rfl rfl ?_
    refine x_aload_n (pc := 13) C 1 dX3_copy_13 rfl rfl ?_
    refine x_get (pc := 14) C inlX3 4 rfl rfl 0 (by decide) q3_16 (v := .ref (a 15)) rfl dX3_copy_14 ?_
    refine x_iload_n (pc := 17) C 2 dX3_copy_17 rfl rfl ?_
    refine x_callS (pc := 18) C [.ref (a 15), .int v2] (mX0_get G (N := 6) (f := (gA st 15)) 15 (lwX_A15 G a rfl) (by decide) v2) ysX0_get q18_13 ⟨Nat.le_of_ble_eq_true rfl, Nat.le_of_ble_eq_true rfl, rfl, rfl⟩ ⟨Nat.zero_le _, Nat.zero_le _⟩ rfl rfl (Nat.le_of_ble_eq_true rfl) rfl dX3_copy_18 ?_
    refine x_callS (pc := 21) C [.ref (a 13), .int v2, .int (kg 6 (gA st 15) v2)] (mX0_put G (N := 6) (f := (gA st 13)) 13 (lwX_A13 G a rfl) (by decide) v2 (kg 6 (gA st 15) v2) (swX_A13 G a _ _)) ysX0_put q13_15 ⟨Nat.le_of_ble_eq_true rfl, Nat.le_of_ble_eq_true rfl, rfl, rfl⟩ ⟨Nat.zero_le _, Nat.zero_le _⟩ rfl rfl (Nat.le_of_ble_eq_true rfl) rfl dX3_copy_21 ?_
    refine x_aload_n (pc := 24) C 0 dX3_copy_24 rfl rfl ?_
    refine x_get (pc := 25) C inlX3 3 rfl rfl 1 (by decide) q3_17 (v := .ref (a 14)) rfl dX3_copy_25 ?_
    refine x_iload_n (pc := 28) C 2 dX3_copy_28 rfl rfl ?_
    refine x_aload_n (pc := 29) C 1 dX3_copy_29 rfl rfl ?_
    refine x_get (pc := 30) C inlX3 4 rfl rfl 1 (by decide) q3_17 (v := .ref (a 16)) rfl dX3_copy_30 ?_
    refine x_iload_n (pc := 33) C 2 dX3_copy_33 rfl rfl ?_
    refine x_callS (pc := 34) C [.ref (a 16), .int v2] (mX0_get G (N := 6) (f := (gA st 16)) 16 (lwX_A16 G a (gA_n (by decide))) (by decide) v2) ysX0_get q18_13 ⟨Nat.le_of_ble_eq_true rfl, Nat.le_of_ble_eq_true rfl, rfl, rfl⟩ ⟨Nat.zero_le _, Nat.zero_le _⟩ rfl rfl (Nat.le_of_ble_eq_true rfl) rfl dX3_copy_34 ?_
    refine x_callS (pc := 37) C [.ref (a 14), .int v2, .int (kg 6 (gA st 16) v2)] (mX0_put G (N := 6) (f := (gA st 14)) 14 (lwX_A14 G a (gA_n (by decide))) (by decide) v2 (kg 6 (gA st 16) v2) (swX_A14 G a _ _)) ysX0_put q13_15 ⟨Nat.le_of_ble_eq_true rfl, Nat.le_of_ble_eq_true rfl, rfl, rfl⟩ ⟨Nat.zero_le _, Nat.zero_le _⟩ rfl rfl (Nat.le_of_ble_eq_true rfl) rfl dX3_copy_37 ?_
    refine x_iinc (pc := 40) C 2 (v := v2 + 1) (lv' := [(2, .int (v2 + 1)), (0, .ref (a 3)), (1, .ref (a 4))]) dX3_copy_40 rfl rfl (by decide) rfl ?_
    refine x_goto (pc := 43) C 2 dX3_copy_43 (by decide) ?_
    refine kX.pick [1, 2, 0] (lv' := [(0, .ref (a 3)), (1, .ref (a 4)), (2, .int (v2 + 1))]) rfl ?_
    exact hG (v2 + 1) (sA (sA st 13 (kp 6 (gA st 13) v2 (kg 6 (gA st 15) v2))) 14 (kp 6 (gA st 14) v2 (kg 6 (gA st 16) v2))) h
def fX3_copy_3_4_L2 (K : Int32 → kS → Option (kS)) : Nat → Int32 → kS → Option (kS)
  | 0, _, _ => none
  | F + 1, v2, st => fX3_copy_3_4_L2_B K (fX3_copy_3_4_L2 K F) st v2
set_option maxRecDepth 100000 in
set_option maxHeartbeats 4000000 in
theorem wX3_copy_3_4_L2 {G : kG} {E : kE} {a : Nat → Nat} (C : kOk G E cX3_copy RX3 3 rmfX3_copy_3_4) {z : kS} (Zd : kEnd G E (0, 0) none none (wX G a z)) {K : Int32 → kS → Option (kS)} (hK : ∀ (u2 : Int32) (su : kS), K u2 su = some z → kX G E (0, 0) (wX G a su) 46 [(0, .ref (a 3)), (1, .ref (a 4))] []) : ∀ (F : Nat) (v2 : Int32) (st : kS), fX3_copy_3_4_L2 K F v2 st = some z → kX G E (0, 0) (wX G a st) 2 [(0, .ref (a 3)), (1, .ref (a 4)), (2, .int v2)] [] := by
  intro F
  induction F with
  | zero =>
    intro v2 st h
    exact absurd (show none = some z from h) (fun q => by cases q)
  | succ F ih =>
    intro v2 st h
    exact wX3_copy_3_4_L2_B  C Zd  st v2 hK (fun v2 st h => ih v2 st h) h
def fX3_copy_3_4 (st : kS) : Option (kS) := fX3_copy_3_4_L2 (fun v2_2 st_3 => some (sI (sI st_3 6 (gI st_3 8)) 7 (gI st_3 9))) kFU 0 st
set_option maxRecDepth 100000 in
set_option maxHeartbeats 4000000 in
theorem wX3_copy_3_4 {G : kG} {E : kE} {a : Nat → Nat} (C : kOk G E cX3_copy RX3 3 rmfX3_copy_3_4) {z : kS} (Zd : kEnd G E (0, 0) none none (wX G a z)) (st : kS) (h : fX3_copy_3_4 st = some z) : kX G E (0, 0) (wX G a st) 0 [(0, .ref (a 3)), (1, .ref (a 4))] [] := by
  unfold fX3_copy_3_4 at h
  refine x_iconst (pc := 0) C 0 dX3_copy_0 (by decide) ?_
  refine x_istore_n (pc := 1) C (lv' := [(2, .int 0), (0, .ref (a 3)), (1, .ref (a 4))]) dX3_copy_1 rfl (by decide) rfl ?_
  refine kX.pick [1, 2, 0] (lv' := [(0, .ref (a 3)), (1, .ref (a 4)), (2, .int 0)]) rfl ?_
  refine wX3_copy_3_4_L2  C Zd   (fun v2_2 st_3 h => ?_) kFU 0 st h
  refine x_aload_n (pc := 46) C 0 dX3_copy_46 rfl rfl ?_
  refine x_aload_n (pc := 47) C 1 dX3_copy_47 rfl rfl ?_
  refine x_get (pc := 48) C inlX3 4 rfl rfl 2 (by decide) q3_18 (v := .int (gI st_3 8)) rfl dX3_copy_48 ?_
  refine x_put (pc := 51) C inlX3 tyX3 tyX3_ok nmX3 3 rfl rfl 2 (by decide) q3_18 rfl .int (v := .int (gI st_3 8)) (by decide +kernel) rfl rfl (Nat.le_of_ble_eq_true rfl) (swX_I6 G a _ _) dX3_copy_51 ?_
  refine x_aload_n (pc := 54) C 0 dX3_copy_54 rfl rfl ?_
  refine x_aload_n (pc := 55) C 1 dX3_copy_55 rfl rfl ?_
  refine x_get (pc := 56) C inlX3 4 rfl rfl 3 (by decide) q13_14 (v := .int (gI st_3 9)) rfl dX3_copy_56 ?_
  refine x_put (pc := 59) C inlX3 tyX3 tyX3_ok nmX3 3 rfl rfl 3 (by decide) q13_14 rfl .int (v := .int (gI st_3 9)) (by decide +kernel) rfl rfl (Nat.le_of_ble_eq_true rfl) (swX_I7 G a _ _) dX3_copy_59 ?_
  obtain rfl := Option.some.inj h
  exact x_vret (pc := 62) C Zd dX3_copy_62
set_option maxRecDepth 100000 in
theorem mX3_copy_3_4 (G : kG) (a : Nat → Nat) (st : kS)  {z : kS} (h : fX3_copy_3_4 st = some z) : kMet G yX3_copy cX3_copy 3 none rmfX3_copy_3_4 (0, 0) [.ref (a 3), .ref (a 4)] (wX G a st) none (wX G a z) := kMet.mk (by decide +kernel) (Nat.le_of_ble_eq_true rfl) (fun E C Zd => wX3_copy_3_4  C Zd  st  h)
theorem yvX9_restore : kYV yX9_restore RX9 cX9_restore 1 (some .int) 0 := ⟨q38_3, q38_4, q1_2, q38_5, by decide +kernel⟩
abbrev rmfX9_restore : Room := { frames := 2, cells := 0, slots := 0, locals := 44 }
def fX9_restore (st : kS) : Option (Int32 × kS) := if (gI st 0) = 0 then (some ((-103), st)) else ((fX3_copy_3_4 st).bind (fun z_2 => some ((gI z_2 7), z_2)))
set_option maxRecDepth 100000 in
set_option maxHeartbeats 4000000 in
theorem wX9_restore {G : kG} {E : kE} {a : Nat → Nat} (C : kOk G E cX9_restore RX9 1 rmfX9_restore) {z : Int32 × kS} (Zd : kEnd G E (0, 0) (some .int) (some (.int z.1)) (wX G a z.2)) (st : kS) (h : fX9_restore st = some z) : kX G E (0, 0) (wX G a st) 0 [(0, .ref (a 0))] [] := by
  unfold fX9_restore at h
  refine x_aload_n (pc := 0) C 0 dX9_restore_0 rfl rfl ?_
  refine x_get (pc := 1) C inlX9 0 rfl rfl 9 (by decide) q11_14 (v := .int (gI st 0)) rfl dX9_restore_1 ?_
  refine x_if_ne (pc := 4) C 10 dX9_restore_4 (by decide) (fun c_1 => ?_) (fun c_1 => ?_)
  · have h := kIn c_1 h
    refine x_aload_n (pc := 10) C 0 dX9_restore_10 rfl rfl ?_
    refine x_get (pc := 11) C inlX9 0 rfl rfl 2 (by decide) q2_4 (v := .ref (a 3)) rfl dX9_restore_11 ?_
    refine x_aload_n (pc := 14) C 0 dX9_restore_14 rfl rfl ?_
    refine x_get (pc := 15) C inlX9 0 rfl rfl 3 (by decide) q2_5 (v := .ref (a 4)) rfl dX9_restore_15 ?_
    obtain ⟨z_2, hz_2, h⟩ := kB h
    refine x_callV (pc := 18) C 3 [.ref (a 4)] rfl rfl (mX3_copy_3_4 G a st hz_2) yvX3_copy q37_14 ⟨Nat.le_of_ble_eq_true rfl, Nat.le_of_ble_eq_true rfl, rfl, rfl⟩ ⟨Nat.zero_le _, Nat.zero_le _⟩ rfl rfl (Nat.le_of_ble_eq_true rfl) rfl dX9_restore_18 ?_
    refine x_aload_n (pc := 21) C 0 dX9_restore_21 rfl rfl ?_
    refine x_get (pc := 22) C inlX9 0 rfl rfl 2 (by decide) q2_4 (v := .ref (a 3)) rfl dX9_restore_22 ?_
    refine x_getN (pc := 25) C inlX3 3 rfl rfl 3 (by decide) nn17 (v := .int (gI z_2 7)) rfl dX9_restore_25 ?_
    obtain rfl := Option.some.inj h
    exact x_iret (pc := 28) C Zd dX9_restore_28
  · have h := kIp c_1 h
    refine x_bipush (pc := 7) C (-103) dX9_restore_7 (by decide) ?_
    obtain rfl := Option.some.inj h
    exact x_iret (pc := 9) C Zd dX9_restore_9
set_option maxRecDepth 100000 in
theorem mX9_restore (G : kG) (a : Nat → Nat) (st : kS)  {z : Int32 × kS} (h : fX9_restore st = some z) : kMet G yX9_restore cX9_restore 1 (some .int) rmfX9_restore (0, 0) [.ref (a 0)] (wX G a st) (some (.int z.1)) (wX G a z.2) := kMet.mk (by decide +kernel) (Nat.le_of_ble_eq_true rfl) (fun E C Zd => wX9_restore  C Zd  st  h)
theorem yvX9_count : kYV yX9_count RX9 cX9_count 2 (some .int) 1 := ⟨q38_11, q38_12, q1_2, q38_13, by decide +kernel⟩
abbrev rmfX9_count : Room := { frames := 0, cells := 0, slots := 0, locals := 0 }
def fX9_count (st : kS) (x1 : Int32) : Int32 := if x1 = 0 then ((gI st 3)) else (if x1 = 1 then ((gI st 4)) else (if x1 = 2 then ((gI st 7)) else (if x1 = 3 then ((gI st 6)) else (if x1 = 4 then ((gI st 2)) else (if x1 = 5 then ((gI st 1)) else ((-102)))))))
set_option maxRecDepth 100000 in
set_option maxHeartbeats 4000000 in
theorem wX9_count {G : kG} {E : kE} {a : Nat → Nat} {st0 : kS} (C : kOk G E cX9_count RX9 2 rmfX9_count) {z : Int32} (Zd : kEnd G E (0, 0) (some .int) (some (.int z)) (wX G a st0)) (x1 : Int32) (h : fX9_count st0 x1 = z) : kX G E (0, 0) (wX G a st0) 0 [(0, .ref (a 0)), (1, .int x1)] [] := by
  unfold fX9_count at h
  refine x_iload_n (pc := 0) C 1 dX9_count_0 rfl rfl ?_
  rcases Decidable.em (x1 = 0) with c_1 | c_1
  · have h := kIp c_1 h
    refine x_tsIn (pc := 1) C 40 dX9_count_1 (by rw [c_1]; decide) (by rw [c_1]; decide) (by rw [c_1]; rfl) (by decide) ?_
    refine x_aload_n (pc := 40) C 0 dX9_count_40 rfl rfl ?_
    refine x_get (pc := 41) C inlX9 0 rfl rfl 1 (by decide) q1_23 (v := .ref (a 2)) rfl dX9_count_41 ?_
    refine x_getN (pc := 44) C inlX8 2 rfl rfl 2 (by decide) nn5 (v := .int (gI st0 3)) rfl dX9_count_44 ?_
    subst h
    exact x_iret (pc := 47) C Zd dX9_count_47
  have h := kIn c_1 h
  rcases Decidable.em (x1 = 1) with c_2 | c_2
  · have h := kIp c_2 h
    refine x_tsIn (pc := 1) C 48 dX9_count_1 (by rw [c_2]; decide) (by rw [c_2]; decide) (by rw [c_2]; rfl) (by decide) ?_
    refine x_aload_n (pc := 48) C 0 dX9_count_48 rfl rfl ?_
    refine x_get (pc := 49) C inlX9 0 rfl rfl 1 (by decide) q1_23 (v := .ref (a 2)) rfl dX9_count_49 ?_
    refine x_getN (pc := 52) C inlX8 2 rfl rfl 3 (by decide) nn6 (v := .int (gI st0 4)) rfl dX9_count_52 ?_
    subst h
    exact x_iret (pc := 55) C Zd dX9_count_55
  have h := kIn c_2 h
  rcases Decidable.em (x1 = 2) with c_3 | c_3
  · have h := kIp c_3 h
    refine x_tsIn (pc := 1) C 56 dX9_count_1 (by rw [c_3]; decide) (by rw [c_3]; decide) (by rw [c_3]; rfl) (by decide) ?_
    refine x_aload_n (pc := 56) C 0 dX9_count_56 rfl rfl ?_
    refine x_get (pc := 57) C inlX9 0 rfl rfl 2 (by decide) q2_4 (v := .ref (a 3)) rfl dX9_count_57 ?_
    refine x_getN (pc := 60) C inlX3 3 rfl rfl 3 (by decide) nn17 (v := .int (gI st0 7)) rfl dX9_count_60 ?_
    subst h
    exact x_iret (pc := 63) C Zd dX9_count_63
  have h := kIn c_3 h
  rcases Decidable.em (x1 = 3) with c_4 | c_4
  · have h := kIp c_4 h
    refine x_tsIn (pc := 1) C 64 dX9_count_1 (by rw [c_4]; decide) (by rw [c_4]; decide) (by rw [c_4]; rfl) (by decide) ?_
    refine x_aload_n (pc := 64) C 0 dX9_count_64 rfl rfl ?_
    refine x_get (pc := 65) C inlX9 0 rfl rfl 2 (by decide) q2_4 (v := .ref (a 3)) rfl dX9_count_65 ?_
    refine x_getN (pc := 68) C inlX3 3 rfl rfl 2 (by decide) nn16 (v := .int (gI st0 6)) rfl dX9_count_68 ?_
    subst h
    exact x_iret (pc := 71) C Zd dX9_count_71
  have h := kIn c_4 h
  rcases Decidable.em (x1 = 4) with c_5 | c_5
  · have h := kIp c_5 h
    refine x_tsIn (pc := 1) C 72 dX9_count_1 (by rw [c_5]; decide) (by rw [c_5]; decide) (by rw [c_5]; rfl) (by decide) ?_
    refine x_aload_n (pc := 72) C 0 dX9_count_72 rfl rfl ?_
    refine x_get (pc := 73) C inlX9 0 rfl rfl 0 (by decide) q1_22 (v := .ref (a 1)) rfl dX9_count_73 ?_
    refine x_getN (pc := 76) C inlX5 1 rfl rfl 1 (by decide) nn12 (v := .int (gI st0 2)) rfl dX9_count_76 ?_
    subst h
    exact x_iret (pc := 79) C Zd dX9_count_79
  have h := kIn c_5 h
  rcases Decidable.em (x1 = 5) with c_6 | c_6
  · have h := kIp c_6 h
    refine x_tsIn (pc := 1) C 80 dX9_count_1 (by rw [c_6]; decide) (by rw [c_6]; decide) (by rw [c_6]; rfl) (by decide) ?_
    refine x_aload_n (pc := 80) C 0 dX9_count_80 rfl rfl ?_
    refine x_get (pc := 81) C inlX9 0 rfl rfl 10 (by decide) q11_15 (v := .int (gI st0 1)) rfl dX9_count_81 ?_
    subst h
    exact x_iret (pc := 84) C Zd dX9_count_84
  have h := kIn c_6 h
  refine x_tsOut (pc := 1) C 85 dX9_count_1 (k_out (fun i hi1 hi2 => by
      have hq : i = 0 ∨ i = 1 ∨ i = 2 ∨ i = 3 ∨ i = 4 ∨ i = 5 := by omega
      rcases hq with rfl | rfl | rfl | rfl | rfl | rfl
      · exact lv_neT c_1 rfl
      · exact lv_neT c_2 rfl
      · exact lv_neT c_3 rfl
      · exact lv_neT c_4 rfl
      · exact lv_neT c_5 rfl
      · exact lv_neT c_6 rfl)) (by decide) ?_
  refine x_bipush (pc := 85) C (-102) dX9_count_85 (by decide) ?_
  subst h
  exact x_iret (pc := 87) C Zd dX9_count_87
set_option maxRecDepth 100000 in
theorem mX9_count (G : kG) (a : Nat → Nat) (st : kS) (x1 : Int32) : kMet G yX9_count cX9_count 2 (some .int) rmfX9_count (0, 0) [.ref (a 0), .int x1] (wX G a st) (some (.int (fX9_count st x1))) (wX G a st) := kMet.mk (by decide +kernel) (Nat.le_of_ble_eq_true rfl) (fun E C Zd => wX9_count  C Zd  x1 rfl)
theorem yvX9_houseInto : kYV yX9_houseInto RX9 cX9_houseInto 7 (some .long) 2 := ⟨q39_9, q39_10, q1_2, q39_11, by decide +kernel⟩
abbrev rmfX9_houseInto : Room := { frames := 4, cells := 0, slots := 0, locals := 88 }
def fX9_houseInto_L6_B (K : Int64 → Int32 → Option (Int64)) (Gc : Int64 → Int32 → Option (Int64)) (st : kS) (v3 : Int32) (v4 : Int64) (v6 : Int32) : Option (Int64) := if 3 < v6 then (K v4 v6) else ((fX9_house st v3 v6).bind (fun z_2 => Gc ((31 * v4) + z_2.toInt64) (v6 + 1)))
set_option maxRecDepth 100000 in
set_option maxHeartbeats 4000000 in
theorem wX9_houseInto_L6_B {G : kG} {E : kE} {a : Nat → Nat} {st0 : kS} (C : kOk G E cX9_houseInto RX9 7 rmfX9_houseInto) {z : Int64} (Zd : kEnd G E (0, 0) (some .long) (some (.long z)) (wX G a st0)) {K Gc : Int64 → Int32 → Option (Int64)} (v3 : Int32) (v4 : Int64) (v6 : Int32) (hK : ∀ (u4 : Int64) (u6 : Int32), K u4 u6 = some z → kX G E (0, 0) (wX G a st0) 35 [(0, .ref (a 0)), (3, .int v3), (4, .long u4)] []) (hG : ∀ (u4 : Int64) (u6 : Int32), Gc u4 u6 = some z → kX G E (0, 0) (wX G a st0) 6 [(0, .ref (a 0)), (3, .int v3), (4, .long u4), (6, .int u6)] []) (h : fX9_houseInto_L6_B K Gc st0 v3 v4 v6 = some z) : kX G E (0, 0) (wX G a st0) 6 [(0, .ref (a 0)), (3, .int v3), (4, .long v4), (6, .int v6)] [] := by
  unfold fX9_houseInto_L6_B at h
  refine x_iload (pc := 6) C 3 dX9_houseInto_6 rfl ?_
  refine x_iconst (pc := 8) C 3 dX9_houseInto_8 (by decide) ?_
  refine x_icmp_gt (pc := 9) C 35 dX9_houseInto_9 (by decide) (fun c_1 => ?_) (fun c_1 => ?_)
  · have h := kIp c_1 h
    refine kX.pick [0, 1, 2] (lv' := [(0, .ref (a 0)), (3, .int v3), (4, .long v4)]) rfl ?_
    exact hK v4 v6 h
  · have h := kIn c_1 h
    refine x_ldc2 (pc := 12) C q39_7 dX9_houseInto_12 ?_
    refine x_lload (pc := 15) C 2 dX9_houseInto_15 rfl ?_
    refine x_lmul (pc := 17) C dX9_houseInto_17 ?_
    refine x_aload_n (pc := 18) C 0 dX9_houseInto_18 rfl rfl ?_
    refine x_iload_n (pc := 19) C 1 dX9_houseInto_19 rfl rfl ?_
    refine x_iload (pc := 20) C 3 dX9_houseInto_20 rfl ?_
    obtain ⟨z_2, hz_2, h⟩ := kB h
    refine x_callV (pc := 22) C 0 [.int v3, .int v6] rfl rfl (mX9_house G a st0 v3 v6 hz_2) yvX9_house q39_12 ⟨Nat.le_of_ble_eq_true rfl, Nat.le_of_ble_eq_true rfl, rfl, rfl⟩ ⟨Nat.zero_le _, Nat.zero_le _⟩ rfl rfl (Nat.le_of_ble_eq_true rfl) rfl dX9_houseInto_22 ?_
    refine x_i2l (pc := 25) C dX9_houseInto_25 ?_
    refine x_ladd (pc := 26) C dX9_houseInto_26 ?_
    refine x_lstore (pc := 27) C (lv' := [(4, .long ((31 * v4) + z_2.toInt64)), (0, .ref (a 0)), (3, .int v3), (6, .int v6)]) dX9_houseInto_27 (by decide) rfl ?_
    refine x_iinc (pc := 29) C 3 (v := v6 + 1) (lv' := [(6, .int (v6 + 1)), (4, .long ((31 * v4) + z_2.toInt64)), (0, .ref (a 0)), (3, .int v3)]) dX9_houseInto_29 rfl rfl (by decide) rfl ?_
    refine x_goto (pc := 32) C 6 dX9_houseInto_32 (by decide) ?_
    refine kX.pick [2, 3, 1, 0] (lv' := [(0, .ref (a 0)), (3, .int v3), (4, .long ((31 * v4) + z_2.toInt64)), (6, .int (v6 + 1))]) rfl ?_
    exact hG ((31 * v4) + z_2.toInt64) (v6 + 1) h
def fX9_houseInto_L6 (K : Int64 → Int32 → Option (Int64)) (st : kS) (v3 : Int32) : Nat → Int64 → Int32 → Option (Int64)
  | 0, _, _ => none
  | F + 1, v4, v6 => fX9_houseInto_L6_B K (fX9_houseInto_L6 K st v3 F) st v3 v4 v6
set_option maxRecDepth 100000 in
set_option maxHeartbeats 4000000 in
theorem wX9_houseInto_L6 {G : kG} {E : kE} {a : Nat → Nat} {st0 : kS} (C : kOk G E cX9_houseInto RX9 7 rmfX9_houseInto) {z : Int64} (Zd : kEnd G E (0, 0) (some .long) (some (.long z)) (wX G a st0)) {K : Int64 → Int32 → Option (Int64)} (v3 : Int32) (hK : ∀ (u4 : Int64) (u6 : Int32), K u4 u6 = some z → kX G E (0, 0) (wX G a st0) 35 [(0, .ref (a 0)), (3, .int v3), (4, .long u4)] []) : ∀ (F : Nat) (v4 : Int64) (v6 : Int32), fX9_houseInto_L6 K st0 v3 F v4 v6 = some z → kX G E (0, 0) (wX G a st0) 6 [(0, .ref (a 0)), (3, .int v3), (4, .long v4), (6, .int v6)] [] := by
  intro F
  induction F with
  | zero =>
    intro v4 v6 h
    exact absurd (show none = some z from h) (fun q => by cases q)
  | succ F ih =>
    intro v4 v6 h
    exact wX9_houseInto_L6_B  C Zd  v3 v4 v6 hK (fun v4 v6 h => ih v4 v6 h) h
def fX9_houseInto_L38_B (K : Int64 → Int32 → Option (Int64)) (Gc : Int64 → Int32 → Option (Int64)) (st : kS) (v3 : Int32) (v4 : Int64) (v6 : Int32) : Option (Int64) := if (gI st 3) ≤ v6 then (K v4 v6) else (Gc ((31 * v4) + ((fX9_feud st v3 v6).toInt64)) (v6 + 1))
set_option maxRecDepth 100000 in
set_option maxHeartbeats 4000000 in
theorem wX9_houseInto_L38_B {G : kG} {E : kE} {a : Nat → Nat} {st0 : kS} (C : kOk G E cX9_houseInto RX9 7 rmfX9_houseInto) {z : Int64} (Zd : kEnd G E (0, 0) (some .long) (some (.long z)) (wX G a st0)) {K Gc : Int64 → Int32 → Option (Int64)} (v3 : Int32) (v4 : Int64) (v6 : Int32) (hK : ∀ (u4 : Int64) (u6 : Int32), K u4 u6 = some z → kX G E (0, 0) (wX G a st0) 73 [(0, .ref (a 0)), (3, .int v3), (4, .long u4)] []) (hG : ∀ (u4 : Int64) (u6 : Int32), Gc u4 u6 = some z → kX G E (0, 0) (wX G a st0) 38 [(0, .ref (a 0)), (3, .int v3), (4, .long u4), (6, .int u6)] []) (h : fX9_houseInto_L38_B K Gc st0 v3 v4 v6 = some z) : kX G E (0, 0) (wX G a st0) 38 [(0, .ref (a 0)), (3, .int v3), (4, .long v4), (6, .int v6)] [] := by
  unfold fX9_houseInto_L38_B at h
  refine x_iload (pc := 38) C 3 dX9_houseInto_38 rfl ?_
  refine x_aload_n (pc := 40) C 0 dX9_houseInto_40 rfl rfl ?_
  refine x_get (pc := 41) C inlX9 0 rfl rfl 1 (by decide) q1_23 (v := .ref (a 2)) rfl dX9_houseInto_41 ?_
  refine x_getN (pc := 44) C inlX8 2 rfl rfl 2 (by decide) nn5 (v := .int (gI st0 3)) rfl dX9_houseInto_44 ?_
  refine x_icmp_ge (pc := 47) C 73 dX9_houseInto_47 (by decide) (fun c_5 => ?_) (fun c_5 => ?_)
  · have h := kIp c_5 h
    refine kX.pick [0, 1, 2] (lv' := [(0, .ref (a 0)), (3, .int v3), (4, .long v4)]) rfl ?_
    exact hK v4 v6 h
  · have h := kIn c_5 h
    refine x_ldc2 (pc := 50) C q39_7 dX9_houseInto_50 ?_
    refine x_lload (pc := 53) C 2 dX9_houseInto_53 rfl ?_
    refine x_lmul (pc := 55) C dX9_houseInto_55 ?_
    refine x_aload_n (pc := 56) C 0 dX9_houseInto_56 rfl rfl ?_
    refine x_iload_n (pc := 57) C 1 dX9_houseInto_57 rfl rfl ?_
    refine x_iload (pc := 58) C 3 dX9_houseInto_58 rfl ?_
    refine x_callV (pc := 60) C 0 [.int v3, .int v6] rfl rfl (mX9_feud G a st0 v3 v6) yvX9_feud q39_13 ⟨Nat.le_of_ble_eq_true rfl, Nat.le_of_ble_eq_true rfl, rfl, rfl⟩ ⟨Nat.zero_le _, Nat.zero_le _⟩ rfl rfl (Nat.le_of_ble_eq_true rfl) rfl dX9_houseInto_60 ?_
    refine x_i2l (pc := 63) C dX9_houseInto_63 ?_
    refine x_ladd (pc := 64) C dX9_houseInto_64 ?_
    refine x_lstore (pc := 65) C (lv' := [(4, .long ((31 * v4) + ((fX9_feud st0 v3 v6).toInt64))), (0, .ref (a 0)), (3, .int v3), (6, .int v6)]) dX9_houseInto_65 (by decide) rfl ?_
    refine x_iinc (pc := 67) C 3 (v := v6 + 1) (lv' := [(6, .int (v6 + 1)), (4, .long ((31 * v4) + ((fX9_feud st0 v3 v6).toInt64))), (0, .ref (a 0)), (3, .int v3)]) dX9_houseInto_67 rfl rfl (by decide) rfl ?_
    refine x_goto (pc := 70) C 38 dX9_houseInto_70 (by decide) ?_
    refine kX.pick [2, 3, 1, 0] (lv' := [(0, .ref (a 0)), (3, .int v3), (4, .long ((31 * v4) + ((fX9_feud st0 v3 v6).toInt64))), (6, .int (v6 + 1))]) rfl ?_
    exact hG ((31 * v4) + ((fX9_feud st0 v3 v6).toInt64)) (v6 + 1) h
def fX9_houseInto_L38 (K : Int64 → Int32 → Option (Int64)) (st : kS) (v3 : Int32) : Nat → Int64 → Int32 → Option (Int64)
  | 0, _, _ => none
  | F + 1, v4, v6 => fX9_houseInto_L38_B K (fX9_houseInto_L38 K st v3 F) st v3 v4 v6
set_option maxRecDepth 100000 in
set_option maxHeartbeats 4000000 in
theorem wX9_houseInto_L38 {G : kG} {E : kE} {a : Nat → Nat} {st0 : kS} (C : kOk G E cX9_houseInto RX9 7 rmfX9_houseInto) {z : Int64} (Zd : kEnd G E (0, 0) (some .long) (some (.long z)) (wX G a st0)) {K : Int64 → Int32 → Option (Int64)} (v3 : Int32) (hK : ∀ (u4 : Int64) (u6 : Int32), K u4 u6 = some z → kX G E (0, 0) (wX G a st0) 73 [(0, .ref (a 0)), (3, .int v3), (4, .long u4)] []) : ∀ (F : Nat) (v4 : Int64) (v6 : Int32), fX9_houseInto_L38 K st0 v3 F v4 v6 = some z → kX G E (0, 0) (wX G a st0) 38 [(0, .ref (a 0)), (3, .int v3), (4, .long v4), (6, .int v6)] [] := by
  intro F
  induction F with
  | zero =>
    intro v4 v6 h
    exact absurd (show none = some z from h) (fun q => by cases q)
  | succ F ih =>
    intro v4 v6 h
    exact wX9_houseInto_L38_B  C Zd  v3 v4 v6 hK (fun v4 v6 h => ih v4 v6 h) h
def fX9_houseInto (st : kS) (x1 : Int64) (x3 : Int32) : Option (Int64) := fX9_houseInto_L6 (fun v4_3 v6_4 => fX9_houseInto_L38 (fun v4_6 v6_7 => (fX9_walk st x3).bind (fun z_8 => some ((31 * v4_6) + z_8.toInt64))) st x3 kFU v4_3 0) st x3 kFU x1 0
set_option maxRecDepth 100000 in
set_option maxHeartbeats 4000000 in
theorem wX9_houseInto {G : kG} {E : kE} {a : Nat → Nat} {st0 : kS} (C : kOk G E cX9_houseInto RX9 7 rmfX9_houseInto) {z : Int64} (Zd : kEnd G E (0, 0) (some .long) (some (.long z)) (wX G a st0)) (x1 : Int64) (x3 : Int32) (h : fX9_houseInto st0 x1 x3 = some z) : kX G E (0, 0) (wX G a st0) 0 [(0, .ref (a 0)), (1, .long x1), (3, .int x3)] [] := by
  unfold fX9_houseInto at h
  refine x_lload_n (pc := 0) C 1 dX9_houseInto_0 rfl rfl ?_
  refine x_lstore (pc := 1) C (lv' := [(4, .long x1), (0, .ref (a 0)), (1, .long x1), (3, .int x3)]) dX9_houseInto_1 (by decide) rfl ?_
  refine x_iconst (pc := 3) C 0 dX9_houseInto_3 (by decide) ?_
  refine x_istore (pc := 4) C (lv' := [(6, .int 0), (4, .long x1), (0, .ref (a 0)), (1, .long x1), (3, .int x3)]) dX9_houseInto_4 (by decide) rfl ?_
  refine kX.pick [2, 4, 1, 0] (lv' := [(0, .ref (a 0)), (3, .int x3), (4, .long x1), (6, .int 0)]) rfl ?_
  refine wX9_houseInto_L6  C Zd  x3 (fun v4_3 v6_4 h => ?_) kFU x1 0 h
  refine x_iconst (pc := 35) C 0 dX9_houseInto_35 (by decide) ?_
  refine x_istore (pc := 36) C (lv' := [(6, .int 0), (0, .ref (a 0)), (3, .int x3), (4, .long v4_3)]) dX9_houseInto_36 (by decide) rfl ?_
  refine kX.pick [1, 2, 3, 0] (lv' := [(0, .ref (a 0)), (3, .int x3), (4, .long v4_3), (6, .int 0)]) rfl ?_
  refine wX9_houseInto_L38  C Zd  x3 (fun v4_6 v6_7 h => ?_) kFU v4_3 0 h
  refine x_ldc2 (pc := 73) C q39_7 dX9_houseInto_73 ?_
  refine x_lload (pc := 76) C 2 dX9_houseInto_76 rfl ?_
  refine x_lmul (pc := 78) C dX9_houseInto_78 ?_
  refine x_aload_n (pc := 79) C 0 dX9_houseInto_79 rfl rfl ?_
  refine x_iload_n (pc := 80) C 1 dX9_houseInto_80 rfl rfl ?_
  obtain ⟨z_8, hz_8, h⟩ := kB h
  refine x_callV (pc := 81) C 0 [.int x3] rfl rfl (mX9_walk G a st0 x3 hz_8) yvX9_walk q39_14 ⟨Nat.le_of_ble_eq_true rfl, Nat.le_of_ble_eq_true rfl, rfl, rfl⟩ ⟨Nat.zero_le _, Nat.zero_le _⟩ rfl rfl (Nat.le_of_ble_eq_true rfl) rfl dX9_houseInto_81 ?_
  refine x_i2l (pc := 84) C dX9_houseInto_84 ?_
  refine x_ladd (pc := 85) C dX9_houseInto_85 ?_
  obtain rfl := Option.some.inj h
  exact x_lret (pc := 86) C Zd dX9_houseInto_86
set_option maxRecDepth 100000 in
theorem mX9_houseInto (G : kG) (a : Nat → Nat) (st : kS) (x1 : Int64) (x3 : Int32) {z : Int64} (h : fX9_houseInto st x1 x3 = some z) : kMet G yX9_houseInto cX9_houseInto 7 (some .long) rmfX9_houseInto (0, 0) [.ref (a 0), .long x1, .int x3] (wX G a st) (some (.long z)) (wX G a st) := kMet.mk (by decide +kernel) (Nat.le_of_ble_eq_true rfl) (fun E C Zd => wX9_houseInto  C Zd  x1 x3 h)
theorem yvX9_digest : kYV yX9_digest RX9 cX9_digest 4 (some .long) 0 := ⟨q39_3, q39_4, q1_2, q39_5, by decide +kernel⟩
abbrev rmfX9_digest : Room := { frames := 6, cells := 0, slots := 0, locals := 137 }
def fX9_digest_L6_B (K : Int64 → Int32 → Option (Int64 × kS)) (Gc : Int64 → Int32 → Option (Int64 × kS)) (st : kS) (v1 : Int64) (v3 : Int32) : Option (Int64 × kS) := if (gI st 3) ≤ v3 then (K v1 v3) else ((fX9_houseInto st v1 v3).bind (fun z_2 => Gc z_2 (v3 + 1)))
set_option maxRecDepth 100000 in
set_option maxHeartbeats 4000000 in
theorem wX9_digest_L6_B {G : kG} {E : kE} {a : Nat → Nat} (C : kOk G E cX9_digest RX9 4 rmfX9_digest) {z : Int64 × kS} (Zd : kEnd G E (0, 0) (some .long) (some (.long z.1)) (wX G a z.2)) {K Gc : Int64 → Int32 → Option (Int64 × kS)} (st : kS) (v1 : Int64) (v3 : Int32) (hK : ∀ (u1 : Int64) (u3 : Int32), K u1 u3 = some z → kX G E (0, 0) (wX G a st) 30 [(0, .ref (a 0)), (1, .long u1)] []) (hG : ∀ (u1 : Int64) (u3 : Int32), Gc u1 u3 = some z → kX G E (0, 0) (wX G a st) 6 [(0, .ref (a 0)), (1, .long u1), (3, .int u3)] []) (h : fX9_digest_L6_B K Gc st v1 v3 = some z) : kX G E (0, 0) (wX G a st) 6 [(0, .ref (a 0)), (1, .long v1), (3, .int v3)] [] := by
  unfold fX9_digest_L6_B at h
  refine x_iload_n (pc := 6) C 2 dX9_digest_6 rfl rfl ?_
  refine x_aload_n (pc := 7) C 0 dX9_digest_7 rfl rfl ?_
  refine x_get (pc := 8) C inlX9 0 rfl rfl 1 (by decide) q1_23 (v := .ref (a 2)) rfl dX9_digest_8 ?_
  refine x_getN (pc := 11) C inlX8 2 rfl rfl 2 (by decide) nn5 (v := .int (gI st 3)) rfl dX9_digest_11 ?_
  refine x_icmp_ge (pc := 14) C 30 dX9_digest_14 (by decide) (fun c_1 => ?_) (fun c_1 => ?_)
  · have h := kIp c_1 h
    refine kX.pick [0, 1] (lv' := [(0, .ref (a 0)), (1, .long v1)]) rfl ?_
    exact hK v1 v3 h
  · have h := kIn c_1 h
    refine x_aload_n (pc := 17) C 0 dX9_digest_17 rfl rfl ?_
    refine x_lload_n (pc := 18) C 1 dX9_digest_18 rfl rfl ?_
    refine x_iload_n (pc := 19) C 2 dX9_digest_19 rfl rfl ?_
    obtain ⟨z_2, hz_2, h⟩ := kB h
    refine x_callV (pc := 20) C 0 [.long v1, .int v3] rfl rfl (mX9_houseInto G a st v1 v3 hz_2) yvX9_houseInto q39_8 ⟨Nat.le_of_ble_eq_true rfl, Nat.le_of_ble_eq_true rfl, rfl, rfl⟩ ⟨Nat.zero_le _, Nat.zero_le _⟩ rfl rfl (Nat.le_of_ble_eq_true rfl) rfl dX9_digest_20 ?_
    refine x_lstore_n (pc := 23) C (lv' := [(1, .long z_2), (0, .ref (a 0)), (3, .int v3)]) dX9_digest_23 rfl (by decide) rfl ?_
    refine x_iinc (pc := 24) C 2 (v := v3 + 1) (lv' := [(3, .int (v3 + 1)), (1, .long z_2), (0, .ref (a 0))]) dX9_digest_24 rfl rfl (by decide) rfl ?_
    refine x_goto (pc := 27) C 6 dX9_digest_27 (by decide) ?_
    refine kX.pick [2, 1, 0] (lv' := [(0, .ref (a 0)), (1, .long z_2), (3, .int (v3 + 1))]) rfl ?_
    exact hG z_2 (v3 + 1) h
def fX9_digest_L6 (K : Int64 → Int32 → Option (Int64 × kS)) (st : kS) : Nat → Int64 → Int32 → Option (Int64 × kS)
  | 0, _, _ => none
  | F + 1, v1, v3 => fX9_digest_L6_B K (fX9_digest_L6 K st F) st v1 v3
set_option maxRecDepth 100000 in
set_option maxHeartbeats 4000000 in
theorem wX9_digest_L6 {G : kG} {E : kE} {a : Nat → Nat} (C : kOk G E cX9_digest RX9 4 rmfX9_digest) {z : Int64 × kS} (Zd : kEnd G E (0, 0) (some .long) (some (.long z.1)) (wX G a z.2)) {K : Int64 → Int32 → Option (Int64 × kS)} (st : kS) (hK : ∀ (u1 : Int64) (u3 : Int32), K u1 u3 = some z → kX G E (0, 0) (wX G a st) 30 [(0, .ref (a 0)), (1, .long u1)] []) : ∀ (F : Nat) (v1 : Int64) (v3 : Int32), fX9_digest_L6 K st F v1 v3 = some z → kX G E (0, 0) (wX G a st) 6 [(0, .ref (a 0)), (1, .long v1), (3, .int v3)] [] := by
  intro F
  induction F with
  | zero =>
    intro v1 v3 h
    exact absurd (show none = some z from h) (fun q => by cases q)
  | succ F ih =>
    intro v1 v3 h
    exact wX9_digest_L6_B  C Zd  st v1 v3 hK (fun v1 v3 h => ih v1 v3 h) h
def fX9_digest_L153_B (K : Int64 → Int32 → Option (Int64 × kS)) (Gc : Int64 → Int32 → Option (Int64 × kS)) (st : kS) (v1 : Int64) (v3 : Int32) : Option (Int64 × kS) := if (gI st 2) ≤ v3 then (K v1 v3) else (Gc ((31 * v1) + ((fX5_code st v3).toInt64)) (v3 + 1))
set_option maxRecDepth 100000 in
set_option maxHeartbeats 4000000 in
theorem wX9_digest_L153_B {G : kG} {E : kE} {a : Nat → Nat} (C : kOk G E cX9_digest RX9 4 rmfX9_digest) {z : Int64 × kS} (Zd : kEnd G E (0, 0) (some .long) (some (.long z.1)) (wX G a z.2)) {K Gc : Int64 → Int32 → Option (Int64 × kS)} (st : kS) (v1 : Int64) (v3 : Int32) (hK : ∀ (u1 : Int64) (u3 : Int32), K u1 u3 = some z → kX G E (0, 0) (wX G a st) 186 [(0, .ref (a 0)), (1, .long u1)] []) (hG : ∀ (u1 : Int64) (u3 : Int32), Gc u1 u3 = some z → kX G E (0, 0) (wX G a st) 153 [(0, .ref (a 0)), (1, .long u1), (3, .int u3)] []) (h : fX9_digest_L153_B K Gc st v1 v3 = some z) : kX G E (0, 0) (wX G a st) 153 [(0, .ref (a 0)), (1, .long v1), (3, .int v3)] [] := by
  unfold fX9_digest_L153_B at h
  refine x_iload_n (pc := 153) C 2 dX9_digest_153 rfl rfl ?_
  refine x_aload_n (pc := 154) C 0 dX9_digest_154 rfl rfl ?_
  refine x_get (pc := 155) C inlX9 0 rfl rfl 0 (by decide) q1_22 (v := .ref (a 1)) rfl dX9_digest_155 ?_
  refine x_getN (pc := 158) C inlX5 1 rfl rfl 1 (by decide) nn12 (v := .int (gI st 2)) rfl dX9_digest_158 ?_
  refine x_icmp_ge (pc := 161) C 186 dX9_digest_161 (by decide) (fun c_7 => ?_) (fun c_7 => ?_)
  · have h := kIp c_7 h
    refine kX.pick [0, 1] (lv' := [(0, .ref (a 0)), (1, .long v1)]) rfl ?_
    exact hK v1 v3 h
  · have h := kIn c_7 h
    refine x_ldc2 (pc := 164) C q39_7 dX9_digest_164 ?_
    refine x_lload_n (pc := 167) C 1 dX9_digest_167 rfl rfl ?_
    refine x_lmul (pc := 168) C dX9_digest_168 ?_
    refine x_aload_n (pc := 169) C 0 dX9_digest_169 rfl rfl ?_
    refine x_get (pc := 170) C inlX9 0 rfl rfl 0 (by decide) q1_22 (v := .ref (a 1)) rfl dX9_digest_170 ?_
    refine x_iload_n (pc := 173) C 2 dX9_digest_173 rfl rfl ?_
    refine x_callV (pc := 174) C 1 [.int v3] rfl rfl (mX5_code G a st v3) yvX5_code q17_20 ⟨Nat.le_of_ble_eq_true rfl, Nat.le_of_ble_eq_true rfl, rfl, rfl⟩ ⟨Nat.zero_le _, Nat.zero_le _⟩ rfl rfl (Nat.le_of_ble_eq_true rfl) rfl dX9_digest_174 ?_
    refine x_i2l (pc := 177) C dX9_digest_177 ?_
    refine x_ladd (pc := 178) C dX9_digest_178 ?_
    refine x_lstore_n (pc := 179) C (lv' := [(1, .long ((31 * v1) + ((fX5_code st v3).toInt64))), (0, .ref (a 0)), (3, .int v3)]) dX9_digest_179 rfl (by decide) rfl ?_
    refine x_iinc (pc := 180) C 2 (v := v3 + 1) (lv' := [(3, .int (v3 + 1)), (1, .long ((31 * v1) + ((fX5_code st v3).toInt64))), (0, .ref (a 0))]) dX9_digest_180 rfl rfl (by decide) rfl ?_
    refine x_goto (pc := 183) C 153 dX9_digest_183 (by decide) ?_
    refine kX.pick [2, 1, 0] (lv' := [(0, .ref (a 0)), (1, .long ((31 * v1) + ((fX5_code st v3).toInt64))), (3, .int (v3 + 1))]) rfl ?_
    exact hG ((31 * v1) + ((fX5_code st v3).toInt64)) (v3 + 1) h
def fX9_digest_L153 (K : Int64 → Int32 → Option (Int64 × kS)) (st : kS) : Nat → Int64 → Int32 → Option (Int64 × kS)
  | 0, _, _ => none
  | F + 1, v1, v3 => fX9_digest_L153_B K (fX9_digest_L153 K st F) st v1 v3
set_option maxRecDepth 100000 in
set_option maxHeartbeats 4000000 in
theorem wX9_digest_L153 {G : kG} {E : kE} {a : Nat → Nat} (C : kOk G E cX9_digest RX9 4 rmfX9_digest) {z : Int64 × kS} (Zd : kEnd G E (0, 0) (some .long) (some (.long z.1)) (wX G a z.2)) {K : Int64 → Int32 → Option (Int64 × kS)} (st : kS) (hK : ∀ (u1 : Int64) (u3 : Int32), K u1 u3 = some z → kX G E (0, 0) (wX G a st) 186 [(0, .ref (a 0)), (1, .long u1)] []) : ∀ (F : Nat) (v1 : Int64) (v3 : Int32), fX9_digest_L153 K st F v1 v3 = some z → kX G E (0, 0) (wX G a st) 153 [(0, .ref (a 0)), (1, .long v1), (3, .int v3)] [] := by
  intro F
  induction F with
  | zero =>
    intro v1 v3 h
    exact absurd (show none = some z from h) (fun q => by cases q)
  | succ F ih =>
    intro v1 v3 h
    exact wX9_digest_L153_B  C Zd  st v1 v3 hK (fun v1 v3 h => ih v1 v3 h) h
def fX9_digest_L188_B (K : Int64 → Int32 → Option (Int64 × kS)) (Gc : Int64 → Int32 → Option (Int64 × kS)) (st : kS) (v1 : Int64) (v3 : Int32) : Option (Int64 × kS) := if 5 < v3 then (K v1 v3) else (Gc ((31 * v1) + ((fX9_count st v3).toInt64)) (v3 + 1))
set_option maxRecDepth 100000 in
set_option maxHeartbeats 4000000 in
theorem wX9_digest_L188_B {G : kG} {E : kE} {a : Nat → Nat} (C : kOk G E cX9_digest RX9 4 rmfX9_digest) {z : Int64 × kS} (Zd : kEnd G E (0, 0) (some .long) (some (.long z.1)) (wX G a z.2)) {K Gc : Int64 → Int32 → Option (Int64 × kS)} (st : kS) (v1 : Int64) (v3 : Int32) (hK : ∀ (u1 : Int64) (u3 : Int32), K u1 u3 = some z → kX G E (0, 0) (wX G a st) 212 [(1, .long u1)] []) (hG : ∀ (u1 : Int64) (u3 : Int32), Gc u1 u3 = some z → kX G E (0, 0) (wX G a st) 188 [(0, .ref (a 0)), (1, .long u1), (3, .int u3)] []) (h : fX9_digest_L188_B K Gc st v1 v3 = some z) : kX G E (0, 0) (wX G a st) 188 [(0, .ref (a 0)), (1, .long v1), (3, .int v3)] [] := by
  unfold fX9_digest_L188_B at h
  refine x_iload_n (pc := 188) C 2 dX9_digest_188 rfl rfl ?_
  refine x_iconst (pc := 189) C 5 dX9_digest_189 (by decide) ?_
  refine x_icmp_gt (pc := 190) C 212 dX9_digest_190 (by decide) (fun c_10 => ?_) (fun c_10 => ?_)
  · have h := kIp c_10 h
    refine kX.pick [1] (lv' := [(1, .long v1)]) rfl ?_
    exact hK v1 v3 h
  · have h := kIn c_10 h
    refine x_ldc2 (pc := 193) C q39_7 dX9_digest_193 ?_
    refine x_lload_n (pc := 196) C 1 dX9_digest_196 rfl rfl ?_
    refine x_lmul (pc := 197) C dX9_digest_197 ?_
    refine x_aload_n (pc := 198) C 0 dX9_digest_198 rfl rfl ?_
    refine x_iload_n (pc := 199) C 2 dX9_digest_199 rfl rfl ?_
    refine x_callV (pc := 200) C 0 [.int v3] rfl rfl (mX9_count G a st v3) yvX9_count q39_22 ⟨Nat.le_of_ble_eq_true rfl, Nat.le_of_ble_eq_true rfl, rfl, rfl⟩ ⟨Nat.zero_le _, Nat.zero_le _⟩ rfl rfl (Nat.le_of_ble_eq_true rfl) rfl dX9_digest_200 ?_
    refine x_i2l (pc := 203) C dX9_digest_203 ?_
    refine x_ladd (pc := 204) C dX9_digest_204 ?_
    refine x_lstore_n (pc := 205) C (lv' := [(1, .long ((31 * v1) + ((fX9_count st v3).toInt64))), (0, .ref (a 0)), (3, .int v3)]) dX9_digest_205 rfl (by decide) rfl ?_
    refine x_iinc (pc := 206) C 2 (v := v3 + 1) (lv' := [(3, .int (v3 + 1)), (1, .long ((31 * v1) + ((fX9_count st v3).toInt64))), (0, .ref (a 0))]) dX9_digest_206 rfl rfl (by decide) rfl ?_
    refine x_goto (pc := 209) C 188 dX9_digest_209 (by decide) ?_
    refine kX.pick [2, 1, 0] (lv' := [(0, .ref (a 0)), (1, .long ((31 * v1) + ((fX9_count st v3).toInt64))), (3, .int (v3 + 1))]) rfl ?_
    exact hG ((31 * v1) + ((fX9_count st v3).toInt64)) (v3 + 1) h
def fX9_digest_L188 (K : Int64 → Int32 → Option (Int64 × kS)) (st : kS) : Nat → Int64 → Int32 → Option (Int64 × kS)
  | 0, _, _ => none
  | F + 1, v1, v3 => fX9_digest_L188_B K (fX9_digest_L188 K st F) st v1 v3
set_option maxRecDepth 100000 in
set_option maxHeartbeats 4000000 in
theorem wX9_digest_L188 {G : kG} {E : kE} {a : Nat → Nat} (C : kOk G E cX9_digest RX9 4 rmfX9_digest) {z : Int64 × kS} (Zd : kEnd G E (0, 0) (some .long) (some (.long z.1)) (wX G a z.2)) {K : Int64 → Int32 → Option (Int64 × kS)} (st : kS) (hK : ∀ (u1 : Int64) (u3 : Int32), K u1 u3 = some z → kX G E (0, 0) (wX G a st) 212 [(1, .long u1)] []) : ∀ (F : Nat) (v1 : Int64) (v3 : Int32), fX9_digest_L188 K st F v1 v3 = some z → kX G E (0, 0) (wX G a st) 188 [(0, .ref (a 0)), (1, .long v1), (3, .int v3)] [] := by
  intro F
  induction F with
  | zero =>
    intro v1 v3 h
    exact absurd (show none = some z from h) (fun q => by cases q)
  | succ F ih =>
    intro v1 v3 h
    exact wX9_digest_L188_B  C Zd  st v1 v3 hK (fun v1 v3 h => ih v1 v3 h) h
def fX9_digest_J117 (st : kS) (v1 : Int64) : Option (Int64 × kS) := if (gI st 13) = 0 then (fX9_digest_L153 (fun v1_8 v3_9 => fX9_digest_L188 (fun v1_11 v3_12 => some (v1_11, st)) st kFU v1_8 0) st kFU v1 0) else ((fX9_fewest st).bind (fun z_13 => (fX9_surely z_13.2).bind (fun z_14 => fX9_digest_L153 (fun v1_15 v3_16 => fX9_digest_L188 (fun v1_17 v3_18 => some (v1_17, z_14.2)) z_14.2 kFU v1_15 0) z_14.2 kFU ((31 * ((31 * v1) + z_13.1.toInt64)) + z_14.1.toInt64) 0)))
set_option maxRecDepth 100000 in
set_option maxHeartbeats 4000000 in
theorem wX9_digest_J117 {G : kG} {E : kE} {a : Nat → Nat} (C : kOk G E cX9_digest RX9 4 rmfX9_digest) {z : Int64 × kS} (Zd : kEnd G E (0, 0) (some .long) (some (.long z.1)) (wX G a z.2)) (st : kS) (v1 : Int64) (h : fX9_digest_J117 st v1 = some z) : kX G E (0, 0) (wX G a st) 117 [(0, .ref (a 0)), (1, .long v1)] [] := by
  unfold fX9_digest_J117 at h
  refine x_aload_n (pc := 117) C 0 dX9_digest_117 rfl rfl ?_
  refine x_get (pc := 118) C inlX9 0 rfl rfl 6 (by decide) q2_13 (v := .ref (a 7)) rfl dX9_digest_118 ?_
  refine x_getN (pc := 121) C inlX1 7 rfl rfl 6 (by decide) nn18 (v := .int (gI st 13)) rfl dX9_digest_121 ?_
  refine x_if_eq (pc := 124) C 151 dX9_digest_124 (by decide) (fun c_6 => ?_) (fun c_6 => ?_)
  · have h := kIp c_6 h
    refine x_iconst (pc := 151) C 0 dX9_digest_151 (by decide) ?_
    refine x_istore_n (pc := 152) C (lv' := [(3, .int 0), (0, .ref (a 0)), (1, .long v1)]) dX9_digest_152 rfl (by decide) rfl ?_
    refine kX.pick [1, 2, 0] (lv' := [(0, .ref (a 0)), (1, .long v1), (3, .int 0)]) rfl ?_
    refine wX9_digest_L153  C Zd  st  (fun v1_8 v3_9 h => ?_) kFU v1 0 h
    refine x_iconst (pc := 186) C 0 dX9_digest_186 (by decide) ?_
    refine x_istore_n (pc := 187) C (lv' := [(3, .int 0), (0, .ref (a 0)), (1, .long v1_8)]) dX9_digest_187 rfl (by decide) rfl ?_
    refine kX.pick [1, 2, 0] (lv' := [(0, .ref (a 0)), (1, .long v1_8), (3, .int 0)]) rfl ?_
    refine wX9_digest_L188  C Zd  st  (fun v1_11 v3_12 h => ?_) kFU v1_8 0 h
    refine x_lload_n (pc := 212) C 0 dX9_digest_212 rfl rfl ?_
    obtain rfl := Option.some.inj h
    exact x_lret (pc := 213) C Zd dX9_digest_213
  · have h := kIn c_6 h
    refine x_ldc2 (pc := 127) C q39_7 dX9_digest_127 ?_
    refine x_lload_n (pc := 130) C 1 dX9_digest_130 rfl rfl ?_
    refine x_lmul (pc := 131) C dX9_digest_131 ?_
    refine x_aload_n (pc := 132) C 0 dX9_digest_132 rfl rfl ?_
    obtain ⟨z_13, hz_13, h⟩ := kB h
    refine x_callV (pc := 133) C 0 [] rfl rfl (mX9_fewest G a st hz_13) yvX9_fewest q39_20 ⟨Nat.le_of_ble_eq_true rfl, Nat.le_of_ble_eq_true rfl, rfl, rfl⟩ ⟨Nat.zero_le _, Nat.zero_le _⟩ rfl rfl (Nat.le_of_ble_eq_true rfl) rfl dX9_digest_133 ?_
    refine x_i2l (pc := 136) C dX9_digest_136 ?_
    refine x_ladd (pc := 137) C dX9_digest_137 ?_
    refine x_lstore_n (pc := 138) C (lv' := [(1, .long ((31 * v1) + z_13.1.toInt64)), (0, .ref (a 0))]) dX9_digest_138 rfl (by decide) rfl ?_
    refine x_ldc2 (pc := 139) C q39_7 dX9_digest_139 ?_
    refine x_lload_n (pc := 142) C 0 dX9_digest_142 rfl rfl ?_
    refine x_lmul (pc := 143) C dX9_digest_143 ?_
    refine x_aload_n (pc := 144) C 1 dX9_digest_144 rfl rfl ?_
    obtain ⟨z_14, hz_14, h⟩ := kB h
    refine x_callV (pc := 145) C 0 [] rfl rfl (mX9_surely G a z_13.2 hz_14) yvX9_surely q39_21 ⟨Nat.le_of_ble_eq_true rfl, Nat.le_of_ble_eq_true rfl, rfl, rfl⟩ ⟨Nat.zero_le _, Nat.zero_le _⟩ rfl rfl (Nat.le_of_ble_eq_true rfl) rfl dX9_digest_145 ?_
    refine x_i2l (pc := 148) C dX9_digest_148 ?_
    refine x_ladd (pc := 149) C dX9_digest_149 ?_
    refine x_lstore_n (pc := 150) C (lv' := [(1, .long ((31 * ((31 * v1) + z_13.1.toInt64)) + z_14.1.toInt64)), (0, .ref (a 0))]) dX9_digest_150 rfl (by decide) rfl ?_
    refine x_iconst (pc := 151) C 0 dX9_digest_151 (by decide) ?_
    refine x_istore_n (pc := 152) C (lv' := [(3, .int 0), (1, .long ((31 * ((31 * v1) + z_13.1.toInt64)) + z_14.1.toInt64)), (0, .ref (a 0))]) dX9_digest_152 rfl (by decide) rfl ?_
    refine kX.pick [2, 1, 0] (lv' := [(0, .ref (a 0)), (1, .long ((31 * ((31 * v1) + z_13.1.toInt64)) + z_14.1.toInt64)), (3, .int 0)]) rfl ?_
    refine wX9_digest_L153  C Zd  z_14.2  (fun v1_15 v3_16 h => ?_) kFU ((31 * ((31 * v1) + z_13.1.toInt64)) + z_14.1.toInt64) 0 h
    refine x_iconst (pc := 186) C 0 dX9_digest_186 (by decide) ?_
    refine x_istore_n (pc := 187) C (lv' := [(3, .int 0), (0, .ref (a 0)), (1, .long v1_15)]) dX9_digest_187 rfl (by decide) rfl ?_
    refine kX.pick [1, 2, 0] (lv' := [(0, .ref (a 0)), (1, .long v1_15), (3, .int 0)]) rfl ?_
    refine wX9_digest_L188  C Zd  z_14.2  (fun v1_17 v3_18 h => ?_) kFU v1_15 0 h
    refine x_lload_n (pc := 212) C 0 dX9_digest_212 rfl rfl ?_
    obtain rfl := Option.some.inj h
    exact x_lret (pc := 213) C Zd dX9_digest_213
def fX9_digest (st : kS) : Option (Int64 × kS) := fX9_digest_L6 (fun v1_3 v3_4 => if (fX8_stands st) = 0 then (fX9_digest_J117 st v1_3) else ((fX9_touch st).bind (fun z_19 => (fX9_joins st).bind (fun z_20 => (fX9_apart st 2 0).bind (fun z_21 => (fX9_apart z_21.2 2 1).bind (fun z_22 => (fX9_ways z_22.2 3).bind (fun z_23 => (fX9_must z_23.2 3).bind (fun z_24 => fX9_digest_J117 z_24.2 ((31 * ((31 * ((31 * ((31 * ((31 * ((31 * v1_3) + z_19.toInt64)) + z_20.toInt64)) + z_21.1.toInt64)) + z_22.1.toInt64)) + z_23.1)) + z_24.1.toInt64))))))))) st kFU 571 0
set_option maxRecDepth 100000 in
set_option maxHeartbeats 4000000 in
theorem wX9_digest {G : kG} {E : kE} {a : Nat → Nat} (C : kOk G E cX9_digest RX9 4 rmfX9_digest) {z : Int64 × kS} (Zd : kEnd G E (0, 0) (some .long) (some (.long z.1)) (wX G a z.2)) (st : kS) (h : fX9_digest st = some z) : kX G E (0, 0) (wX G a st) 0 [(0, .ref (a 0))] [] := by
  unfold fX9_digest at h
  refine x_ldc2 (pc := 0) C q39_6 dX9_digest_0 ?_
  refine x_lstore_n (pc := 3) C (lv' := [(1, .long 571), (0, .ref (a 0))]) dX9_digest_3 rfl (by decide) rfl ?_
  refine x_iconst (pc := 4) C 0 dX9_digest_4 (by decide) ?_
  refine x_istore_n (pc := 5) C (lv' := [(3, .int 0), (1, .long 571), (0, .ref (a 0))]) dX9_digest_5 rfl (by decide) rfl ?_
  refine kX.pick [2, 1, 0] (lv' := [(0, .ref (a 0)), (1, .long 571), (3, .int 0)]) rfl ?_
  refine wX9_digest_L6  C Zd  st  (fun v1_3 v3_4 h => ?_) kFU 571 0 h
  refine x_aload_n (pc := 30) C 0 dX9_digest_30 rfl rfl ?_
  refine x_get (pc := 31) C inlX9 0 rfl rfl 1 (by decide) q1_23 (v := .ref (a 2)) rfl dX9_digest_31 ?_
  refine x_callV (pc := 34) C 2 [] rfl rfl (mX8_stands G a st) yvX8_stands q16_15 ⟨Nat.le_of_ble_eq_true rfl, Nat.le_of_ble_eq_true rfl, rfl, rfl⟩ ⟨Nat.zero_le _, Nat.zero_le _⟩ rfl rfl (Nat.le_of_ble_eq_true rfl) rfl dX9_digest_34 ?_
  refine x_if_eq (pc := 37) C 117 dX9_digest_37 (by decide) (fun c_5 => ?_) (fun c_5 => ?_)
  · have h := kIp c_5 h
    exact wX9_digest_J117  C Zd  st v1_3 h
  · have h := kIn c_5 h
    refine x_ldc2 (pc := 40) C q39_7 dX9_digest_40 ?_
    refine x_lload_n (pc := 43) C 1 dX9_digest_43 rfl rfl ?_
    refine x_lmul (pc := 44) C dX9_digest_44 ?_
    refine x_aload_n (pc := 45) C 0 dX9_digest_45 rfl rfl ?_
    obtain ⟨z_19, hz_19, h⟩ := kB h
    refine x_callV (pc := 46) C 0 [] rfl rfl (mX9_touch G a st hz_19) yvX9_touch q39_15 ⟨Nat.le_of_ble_eq_true rfl, Nat.le_of_ble_eq_true rfl, rfl, rfl⟩ ⟨Nat.zero_le _, Nat.zero_le _⟩ rfl rfl (Nat.le_of_ble_eq_true rfl) rfl dX9_digest_46 ?_
    refine x_i2l (pc := 49) C dX9_digest_49 ?_
    refine x_ladd (pc := 50) C dX9_digest_50 ?_
    refine x_lstore_n (pc := 51) C (lv' := [(1, .long ((31 * v1_3) + z_19.toInt64)), (0, .ref (a 0))]) dX9_digest_51 rfl (by decide) rfl ?_
    refine x_ldc2 (pc := 52) C q39_7 dX9_digest_52 ?_
    refine x_lload_n (pc := 55) C 0 dX9_digest_55 rfl rfl ?_
    refine x_lmul (pc := 56) C dX9_digest_56 ?_
    refine x_aload_n (pc := 57) C 1 dX9_digest_57 rfl rfl ?_
    obtain ⟨z_20, hz_20, h⟩ := kB h
    refine x_callV (pc := 58) C 0 [] rfl rfl (mX9_joins G a st hz_20) yvX9_joins q39_16 ⟨Nat.le_of_ble_eq_true rfl, Nat.le_of_ble_eq_true rfl, rfl, rfl⟩ ⟨Nat.zero_le _, Nat.zero_le _⟩ rfl rfl (Nat.le_of_ble_eq_true rfl) rfl dX9_digest_58 ?_
    refine x_i2l (pc := 61) C dX9_digest_61 ?_
    refine x_ladd (pc := 62) C dX9_digest_62 ?_
    refine x_lstore_n (pc := 63) C (lv' := [(1, .long ((31 * ((31 * v1_3) + z_19.toInt64)) + z_20.toInt64)), (0, .ref (a 0))]) dX9_digest_63 rfl (by decide) rfl ?_
    refine x_ldc2 (pc := 64) C q39_7 dX9_digest_64 ?_
    refine x_lload_n (pc := 67) C 0 dX9_digest_67 rfl rfl ?_
    refine x_lmul (pc := 68) C dX9_digest_68 ?_
    refine x_aload_n (pc := 69) C 1 dX9_digest_69 rfl rfl ?_
    refine x_iconst (pc := 70) C 2 dX9_digest_70 (by decide) ?_
    refine x_iconst (pc := 71) C 0 dX9_digest_71 (by decide) ?_
    obtain ⟨z_21, hz_21, h⟩ := kB h
    refine x_callV (pc := 72) C 0 [.int 2, .int 0] rfl rfl (mX9_apart G a st 2 0 hz_21) yvX9_apart q39_17 ⟨Nat.le_of_ble_eq_true rfl, Nat.le_of_ble_eq_true rfl, rfl, rfl⟩ ⟨Nat.zero_le _, Nat.zero_le _⟩ rfl rfl (Nat.le_of_ble_eq_true rfl) rfl dX9_digest_72 ?_
    refine x_i2l (pc := 75) C dX9_digest_75 ?_
    refine x_ladd (pc := 76) C dX9_digest_76 ?_
    refine x_lstore_n (pc := 77) C (lv' := [(1, .long ((31 * ((31 * ((31 * v1_3) + z_19.toInt64)) + z_20.toInt64)) + z_21.1.toInt64)), (0, .ref (a 0))]) dX9_digest_77 rfl (by decide) rfl ?_
    refine x_ldc2 (pc := 78) C q39_7 dX9_digest_78 ?_
    refine x_lload_n (pc := 81) C 0 dX9_digest_81 rfl rfl ?_
    refine x_lmul (pc := 82) C dX9_digest_82 ?_
    refine x_aload_n (pc := 83) C 1 dX9_digest_83 rfl rfl ?_
    refine x_iconst (pc := 84) C 2 dX9_digest_84 (by decide) ?_
    refine x_iconst (pc := 85) C 1 dX9_digest_85 (by decide) ?_
    obtain ⟨z_22, hz_22, h⟩ := kB h
    refine x_callV (pc := 86) C 0 [.int 2, .int 1] rfl rfl (mX9_apart G a z_21.2 2 1 hz_22) yvX9_apart q39_17 ⟨Nat.le_of_ble_eq_true rfl, Nat.le_of_ble_eq_true rfl, rfl, rfl⟩ ⟨Nat.zero_le _, Nat.zero_le _⟩ rfl rfl (Nat.le_of_ble_eq_true rfl) rfl dX9_digest_86 ?_
    refine x_i2l (pc := 89) C dX9_digest_89 ?_
    refine x_ladd (pc := 90) C dX9_digest_90 ?_
    refine x_lstore_n (pc := 91) C (lv' := [(1, .long ((31 * ((31 * ((31 * ((31 * v1_3) + z_19.toInt64)) + z_20.toInt64)) + z_21.1.toInt64)) + z_22.1.toInt64)), (0, .ref (a 0))]) dX9_digest_91 rfl (by decide) rfl ?_
    refine x_ldc2 (pc := 92) C q39_7 dX9_digest_92 ?_
    refine x_lload_n (pc := 95) C 0 dX9_digest_95 rfl rfl ?_
    refine x_lmul (pc := 96) C dX9_digest_96 ?_
    refine x_aload_n (pc := 97) C 1 dX9_digest_97 rfl rfl ?_
    refine x_iconst (pc := 98) C 3 dX9_digest_98 (by decide) ?_
    obtain ⟨z_23, hz_23, h⟩ := kB h
    refine x_callV (pc := 99) C 0 [.int 3] rfl rfl (mX9_ways G a z_22.2 3 hz_23) yvX9_ways q39_18 ⟨Nat.le_of_ble_eq_true rfl, Nat.le_of_ble_eq_true rfl, rfl, rfl⟩ ⟨Nat.zero_le _, Nat.zero_le _⟩ rfl rfl (Nat.le_of_ble_eq_true rfl) rfl dX9_digest_99 ?_
    refine x_ladd (pc := 102) C dX9_digest_102 ?_
    refine x_lstore_n (pc := 103) C (lv' := [(1, .long ((31 * ((31 * ((31 * ((31 * ((31 * v1_3) + z_19.toInt64)) + z_20.toInt64)) + z_21.1.toInt64)) + z_22.1.toInt64)) + z_23.1)), (0, .ref (a 0))]) dX9_digest_103 rfl (by decide) rfl ?_
    refine x_ldc2 (pc := 104) C q39_7 dX9_digest_104 ?_
    refine x_lload_n (pc := 107) C 0 dX9_digest_107 rfl rfl ?_
    refine x_lmul (pc := 108) C dX9_digest_108 ?_
    refine x_aload_n (pc := 109) C 1 dX9_digest_109 rfl rfl ?_
    refine x_iconst (pc := 110) C 3 dX9_digest_110 (by decide) ?_
    obtain ⟨z_24, hz_24, h⟩ := kB h
    refine x_callV (pc := 111) C 0 [.int 3] rfl rfl (mX9_must G a z_23.2 3 hz_24) yvX9_must q39_19 ⟨Nat.le_of_ble_eq_true rfl, Nat.le_of_ble_eq_true rfl, rfl, rfl⟩ ⟨Nat.zero_le _, Nat.zero_le _⟩ rfl rfl (Nat.le_of_ble_eq_true rfl) rfl dX9_digest_111 ?_
    refine x_i2l (pc := 114) C dX9_digest_114 ?_
    refine x_ladd (pc := 115) C dX9_digest_115 ?_
    refine x_lstore_n (pc := 116) C (lv' := [(1, .long ((31 * ((31 * ((31 * ((31 * ((31 * ((31 * v1_3) + z_19.toInt64)) + z_20.toInt64)) + z_21.1.toInt64)) + z_22.1.toInt64)) + z_23.1)) + z_24.1.toInt64)), (0, .ref (a 0))]) dX9_digest_116 rfl (by decide) rfl ?_
    refine kX.pick [1, 0] (lv' := [(0, .ref (a 0)), (1, .long ((31 * ((31 * ((31 * ((31 * ((31 * ((31 * v1_3) + z_19.toInt64)) + z_20.toInt64)) + z_21.1.toInt64)) + z_22.1.toInt64)) + z_23.1)) + z_24.1.toInt64))]) rfl ?_
    exact wX9_digest_J117  C Zd  z_24.2 ((31 * ((31 * ((31 * ((31 * ((31 * ((31 * v1_3) + z_19.toInt64)) + z_20.toInt64)) + z_21.1.toInt64)) + z_22.1.toInt64)) + z_23.1)) + z_24.1.toInt64) h
set_option maxRecDepth 100000 in
theorem mX9_digest (G : kG) (a : Nat → Nat) (st : kS)  {z : Int64 × kS} (h : fX9_digest st = some z) : kMet G yX9_digest cX9_digest 4 (some .long) rmfX9_digest (0, 0) [.ref (a 0)] (wX G a st) (some (.long z.1)) (wX G a z.2) := kMet.mk (by decide +kernel) (Nat.le_of_ble_eq_true rfl) (fun E C Zd => wX9_digest  C Zd  st  h)
