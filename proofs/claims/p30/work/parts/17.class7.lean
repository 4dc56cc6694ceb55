theorem yvX9_must : kYV yX9_must RX9 cX9_must 2 (some .int) 1 := ⟨q20_12, q20_13, q1_2, q20_14, by decide +kernel⟩
abbrev rmfX9_must : Room := { frames := 4, cells := 0, slots := 0, locals := 91 }
def fX9_must (st : kS) (x1 : Int32) : Option (Int32 × kS) := if (fX8_stands st) = 0 then (some ((-103), st)) else (if x1 < 0 then (some ((-102), st)) else (if x1 ≤ 12 then ((fX6_goBy st x1).bind (fun z_4 => (fX9_number z_4).bind (fun z_5 => some ((fX6_sharedTo z_4 z_5), z_4)))) else (some ((-102), st))))
set_option maxRecDepth 100000 in
set_option maxHeartbeats 4000000 in
theorem wX9_must {G : kG} {E : kE} {a : Nat → Nat} (C : kOk G E cX9_must RX9 2 rmfX9_must) {z : Int32 × kS} (Zd : kEnd G E (0, 0) (some .int) (some (.int z.1)) (wX G a z.2)) (st : kS) (x1 : Int32) (h : fX9_must st x1 = some z) : kX G E (0, 0) (wX G a st) 0 [(0, .ref (a 0)), (1, .int x1)] [] := by
  unfold fX9_must at h
  refine x_aload_n (pc := 0) C 0 dX9_must_0 rfl rfl ?_
  refine x_get (pc := 1) C inlX9 0 rfl rfl 1 (by decide) q1_21 (v := .ref (a 2)) rfl dX9_must_1 ?_
  refine x_callV (pc := 4) C 2 [] rfl rfl (mX8_stands G a st) yvX8_stands q16_18 ⟨Nat.le_of_ble_eq_true rfl, Nat.le_of_ble_eq_true rfl, rfl, rfl⟩ ⟨Nat.zero_le _, Nat.zero_le _⟩ rfl rfl (Nat.le_of_ble_eq_true rfl) rfl dX9_must_4 ?_
  refine x_if_ne (pc := 7) C 13 dX9_must_7 (by decide) (fun c_1 => ?_) (fun c_1 => ?_)
  · have h := kIn c_1 h
    refine x_iload_n (pc := 13) C 1 dX9_must_13 rfl rfl ?_
    refine x_if_lt (pc := 14) C 23 dX9_must_14 (by decide) (fun c_2 => ?_) (fun c_2 => ?_)
    · have h := kIp c_2 h
      refine x_bipush (pc := 23) C (-102) dX9_must_23 (by decide) ?_
      obtain rfl := Option.some.inj h
      exact x_iret (pc := 25) C Zd dX9_must_25
    · have h := kIn c_2 h
      refine x_iload_n (pc := 17) C 1 dX9_must_17 rfl rfl ?_
      refine x_bipush (pc := 18) C 12 dX9_must_18 (by decide) ?_
      refine x_icmp_le (pc := 20) C 26 dX9_must_20 (by decide) (fun c_3 => ?_) (fun c_3 => ?_)
      · have h := kIp c_3 h
        refine x_aload_n (pc := 26) C 0 dX9_must_26 rfl rfl ?_
        refine x_get (pc := 27) C inlX9 0 rfl rfl 7 (by decide) q2_15 (v := .ref (a 8)) rfl dX9_must_27 ?_
        refine x_iload_n (pc := 30) C 1 dX9_must_30 rfl rfl ?_
        obtain ⟨z_4, hz_4, h⟩ := kB h
        refine x_callV (pc := 31) C 8 [.int x1] rfl rfl (mX6_goBy G a st x1 hz_4) yvX6_goBy q19_2 ⟨Nat.le_of_ble_eq_true rfl, Nat.le_of_ble_eq_true rfl, rfl, rfl⟩ ⟨Nat.zero_le _, Nat.zero_le _⟩ rfl rfl (Nat.le_of_ble_eq_true rfl) rfl dX9_must_31 ?_
        refine x_aload_n (pc := 34) C 0 dX9_must_34 rfl rfl ?_
        refine x_get (pc := 35) C inlX9 0 rfl rfl 7 (by decide) q2_15 (v := .ref (a 8)) rfl dX9_must_35 ?_
        refine x_aload_n (pc := 38) C 0 dX9_must_38 rfl rfl ?_
        obtain ⟨z_5, hz_5, h⟩ := kB h
        refine x_callV (pc := 39) C 0 [] rfl rfl (mX9_number G a z_4 hz_5) yvX9_number q20_2 ⟨Nat.le_of_ble_eq_true rfl, Nat.le_of_ble_eq_true rfl, rfl, rfl⟩ ⟨Nat.zero_le _, Nat.zero_le _⟩ rfl rfl (Nat.le_of_ble_eq_true rfl) rfl dX9_must_39 ?_
        refine x_callV (pc := 42) C 8 [.int z_5] rfl rfl (mX6_sharedTo G a z_4 z_5) yvX6_sharedTo q20_15 ⟨Nat.le_of_ble_eq_true rfl, Nat.le_of_ble_eq_true rfl, rfl, rfl⟩ ⟨Nat.zero_le _, Nat.zero_le _⟩ rfl rfl (Nat.le_of_ble_eq_true rfl) rfl dX9_must_42 ?_
        obtain rfl := Option.some.inj h
        exact x_iret (pc := 45) C Zd dX9_must_45
      · have h := kIn c_3 h
        refine x_bipush (pc := 23) C (-102) dX9_must_23 (by decide) ?_
        obtain rfl := Option.some.inj h
        exact x_iret (pc := 25) C Zd dX9_must_25
  · have h := kIp c_1 h
    refine x_bipush (pc := 10) C (-103) dX9_must_10 (by decide) ?_
    obtain rfl := Option.some.inj h
    exact x_iret (pc := 12) C Zd dX9_must_12
set_option maxRecDepth 100000 in
theorem mX9_must (G : kG) (a : Nat → Nat) (st : kS) (x1 : Int32) {z : Int32 × kS} (h : fX9_must st x1 = some z) : kMet G yX9_must cX9_must 2 (some .int) rmfX9_must (0, 0) [.ref (a 0), .int x1] (wX G a st) (some (.int z.1)) (wX G a z.2) := kMet.mk (by decide +kernel) (Nat.le_of_ble_eq_true rfl) (fun E C Zd => wX9_must  C Zd  st x1 h)
theorem yvX9_count : kYV yX9_count RX9 cX9_count 2 (some .int) 1 := ⟨q8_5, q8_6, q1_2, q8_7, by decide +kernel⟩
abbrev rmfX9_count : Room := { frames := 0, cells := 0, slots := 0, locals := 0 }
def fX9_count (st : kS) (x1 : Int32) : Int32 := if x1 = 0 then ((gI st 3)) else (if x1 = 1 then ((gI st 4)) else (if x1 = 2 then ((gI st 7)) else (if x1 = 3 then ((gI st 6)) else (if x1 = 4 then ((gI st 2)) else (if x1 = 5 then ((gI st 1)) else ((-102)))))))
set_option maxRecDepth 100000 in
set_option maxHeartbeats 4000000 in
theorem wX9_count {G : kG} {E : kE} {a : Nat → Nat} {st0 : kS} (C : kOk G E cX9_count RX9 2 rmfX9_count) {z : Int32} (Zd : kEnd G E (0, 0) (some .int) (some (.int z)) (wX G a st0)) (x1 : Int32) (h : fX9_count st0 x1 = z) : kX G E (0, 0) (wX G a st0) 0 [(0, .ref (a 0)), (1, .int x1)] [] := by
  unfold fX9_count at h
  refine x_iload_n (pc := 0) C 1 dX9_count_0 rfl rfl ?_
  rcases Decidable.em (x1 = 0) with c_1 | c_1
  · have h := kIp c_1 h
    refine x_tsIn (pc := 1) C 40 dX9_count_1 (by rw [c_1]; decide) (by rw [c_1]; decide) (by rw [c_1]; rfl) (by decide) ?_
    refine x_aload_n (pc := 40) C 0 dX9_count_40 rfl rfl ?_
    refine x_get (pc := 41) C inlX9 0 rfl rfl 1 (by decide) q1_21 (v := .ref (a 2)) rfl dX9_count_41 ?_
    refine x_getN (pc := 44) C inlX8 2 rfl rfl 2 (by decide) nn5 (v := .int (gI st0 3)) rfl dX9_count_44 ?_
    subst h
    exact x_iret (pc := 47) C Zd dX9_count_47
  have h := kIn c_1 h
  rcases Decidable.em (x1 = 1) with c_2 | c_2
  · have h := kIp c_2 h
    refine x_tsIn (pc := 1) C 48 dX9_count_1 (by rw [c_2]; decide) (by rw [c_2]; decide) (by rw [c_2]; rfl) (by decide) ?_
    refine x_aload_n (pc := 48) C 0 dX9_count_48 rfl rfl ?_
    refine x_get (pc := 49) C inlX9 0 rfl rfl 1 (by decide) q1_21 (v := .ref (a 2)) rfl dX9_count_49 ?_
    refine x_getN (pc := 52) C inlX8 2 rfl rfl 3 (by decide) nn6 (v := .int (gI st0 4)) rfl dX9_count_52 ?_
    subst h
    exact x_iret (pc := 55) C Zd dX9_count_55
  have h := kIn c_2 h
  rcases Decidable.em (x1 = 2) with c_3 | c_3
  · have h := kIp c_3 h
    refine x_tsIn (pc := 1) C 56 dX9_count_1 (by rw [c_3]; decide) (by rw [c_3]; decide) (by rw [c_3]; rfl) (by decide) ?_
    refine x_aload_n (pc := 56) C 0 dX9_count_56 rfl rfl ?_
    refine x_get (pc := 57) C inlX9 0 rfl rfl 2 (by decide) q2_2 (v := .ref (a 3)) rfl dX9_count_57 ?_
    refine x_getN (pc := 60) C inlX3 3 rfl rfl 3 (by decide) nn17 (v := .int (gI st0 7)) rfl dX9_count_60 ?_
    subst h
    exact x_iret (pc := 63) C Zd dX9_count_63
  have h := kIn c_3 h
  rcases Decidable.em (x1 = 3) with c_4 | c_4
  · have h := kIp c_4 h
    refine x_tsIn (pc := 1) C 64 dX9_count_1 (by rw [c_4]; decide) (by rw [c_4]; decide) (by rw [c_4]; rfl) (by decide) ?_
    refine x_aload_n (pc := 64) C 0 dX9_count_64 rfl rfl ?_
    refine x_get (pc := 65) C inlX9 0 rfl rfl 2 (by decide) q2_2 (v := .ref (a 3)) rfl dX9_count_65 ?_
    refine x_getN (pc := 68) C inlX3 3 rfl rfl 2 (by decide) nn16 (v := .int (gI st0 6)) rfl dX9_count_68 ?_
    subst h
    exact x_iret (pc := 71) C Zd dX9_count_71
  have h := kIn c_4 h
  rcases Decidable.em (x1 = 4) with c_5 | c_5
  · have h := kIp c_5 h
    refine x_tsIn (pc := 1) C 72 dX9_count_1 (by rw [c_5]; decide) (by rw [c_5]; decide) (by rw [c_5]; rfl) (by decide) ?_
    refine x_aload_n (pc := 72) C 0 dX9_count_72 rfl rfl ?_
    refine x_get (pc := 73) C inlX9 0 rfl rfl 0 (by decide) q1_20 (v := .ref (a 1)) rfl dX9_count_73 ?_
    refine x_getN (pc := 76) C inlX5 1 rfl rfl 1 (by decide) nn12 (v := .int (gI st0 2)) rfl dX9_count_76 ?_
    subst h
    exact x_iret (pc := 79) C Zd dX9_count_79
  have h := kIn c_5 h
  rcases Decidable.em (x1 = 5) with c_6 | c_6
  · have h := kIp c_6 h
    refine x_tsIn (pc := 1) C 80 dX9_count_1 (by rw [c_6]; decide) (by rw [c_6]; decide) (by rw [c_6]; rfl) (by decide) ?_
    refine x_aload_n (pc := 80) C 0 dX9_count_80 rfl rfl ?_
    refine x_get (pc := 81) C inlX9 0 rfl rfl 10 (by decide) q8_8 (v := .int (gI st0 1)) rfl dX9_count_81 ?_
    subst h
    exact x_iret (pc := 84) C Zd dX9_count_84
  have h := kIn c_6 h
  refine x_tsOut (pc := 1) C 85 dX9_count_1 (k_out (fun i hi1 hi2 => by
      have hq : i = 0 ∨ i = 1 ∨ i = 2 ∨ i = 3 ∨ i = 4 ∨ i = 5 := by omega
      rcases hq with rfl | rfl | rfl | rfl | rfl | rfl
      · exact lv_neT c_1 rfl
      · exact lv_neT c_2 rfl
      · exact lv_neT c_3 rfl
      · exact lv_neT c_4 rfl
      · exact lv_neT c_5 rfl
      · exact lv_neT c_6 rfl)) (by decide) ?_
  refine x_bipush (pc := 85) C (-102) dX9_count_85 (by decide) ?_
  subst h
  exact x_iret (pc := 87) C Zd dX9_count_87
set_option maxRecDepth 100000 in
theorem mX9_count (G : kG) (a : Nat → Nat) (st : kS) (x1 : Int32) : kMet G yX9_count cX9_count 2 (some .int) rmfX9_count (0, 0) [.ref (a 0), .int x1] (wX G a st) (some (.int (fX9_count st x1))) (wX G a st) := kMet.mk (by decide +kernel) (Nat.le_of_ble_eq_true rfl) (fun E C Zd => wX9_count  C Zd  x1 rfl)
