theorem yvX9_fault : kYV yX9_fault RX9 cX9_fault 2 (some .int) 1 := ⟨q6_11, q6_12, q1_2, q6_13, by decide +kernel⟩
abbrev rmfX9_fault : Room := { frames := 5, cells := 0, slots := 0, locals := 110 }
def fX9_fault (st : kS) (x1 : Int32) : Option (Int32) := if x1 = 0 then ((fX5_firstNoRing st).bind (fun z_4 => some z_4)) else (if x1 = 1 then ((fX5_firstNoLetter st).bind (fun z_3 => some z_3)) else (some (-102)))
set_option maxRecDepth 100000 in
set_option maxHeartbeats 4000000 in
theorem wX9_fault {G : kG} {E : kE} {a : Nat → Nat} {st0 : kS} (C : kOk G E cX9_fault RX9 2 rmfX9_fault) {z : Int32} (Zd : kEnd G E (0, 0) (some .int) (some (.int z)) (wX G a st0)) (x1 : Int32) (h : fX9_fault st0 x1 = some z) : kX G E (0, 0) (wX G a st0) 0 [(0, .ref (a 0)), (1, .int x1)] [] := by
  unfold fX9_fault at h
  refine x_iload_n (pc := 0) C 1 dX9_fault_0 rfl rfl ?_
  refine x_if_ne (pc := 1) C 12 dX9_fault_1 (by decide) (fun c_1 => ?_) (fun c_1 => ?_)
  · have h := kIn c_1 h
    refine x_iload_n (pc := 12) C 1 dX9_fault_12 rfl rfl ?_
    refine x_iconst (pc := 13) C 1 dX9_fault_13 (by decide) ?_
    refine x_icmp_ne (pc := 14) C 27 dX9_fault_14 (by decide) (fun c_2 => ?_) (fun c_2 => ?_)
    · have h := kIn c_2 h
      refine x_bipush (pc := 27) C (-102) dX9_fault_27 (by decide) ?_
      obtain rfl := Option.some.inj h
      exact x_iret (pc := 29) C Zd dX9_fault_29
    · have h := kIp c_2 h
      refine x_aload_n (pc := 17) C 0 dX9_fault_17 rfl rfl ?_
      refine x_get (pc := 18) C inlX9 0 rfl rfl 0 (by decide) q1_20 (v := .ref (a 1)) rfl dX9_fault_18 ?_
      obtain ⟨z_3, hz_3, h⟩ := kB h
      refine x_callV (pc := 21) C 1 [] rfl rfl (mX5_firstNoLetter G a st0 hz_3) yvX5_firstNoLetter q7_20 ⟨Nat.le_of_ble_eq_true rfl, Nat.le_of_ble_eq_true rfl, rfl, rfl⟩ ⟨Nat.zero_le _, Nat.zero_le _⟩ rfl rfl (Nat.le_of_ble_eq_true rfl) rfl dX9_fault_21 ?_
      refine x_goto (pc := 24) C 29 dX9_fault_24 (by decide) ?_
      obtain rfl := Option.some.inj h
      exact x_iret (pc := 29) C Zd dX9_fault_29
  · have h := kIp c_1 h
    refine x_aload_n (pc := 4) C 0 dX9_fault_4 rfl rfl ?_
    refine x_get (pc := 5) C inlX9 0 rfl rfl 0 (by decide) q1_20 (v := .ref (a 1)) rfl dX9_fault_5 ?_
    obtain ⟨z_4, hz_4, h⟩ := kB h
    refine x_callV (pc := 8) C 1 [] rfl rfl (mX5_firstNoRing G a st0 hz_4) yvX5_firstNoRing q6_14 ⟨Nat.le_of_ble_eq_true rfl, Nat.le_of_ble_eq_true rfl, rfl, rfl⟩ ⟨Nat.zero_le _, Nat.zero_le _⟩ rfl rfl (Nat.le_of_ble_eq_true rfl) rfl dX9_fault_8 ?_
    obtain rfl := Option.some.inj h
    exact x_iret (pc := 11) C Zd dX9_fault_11
set_option maxRecDepth 100000 in
theorem mX9_fault (G : kG) (a : Nat → Nat) (st : kS) (x1 : Int32) {z : Int32} (h : fX9_fault st x1 = some z) : kMet G yX9_fault cX9_fault 2 (some .int) rmfX9_fault (0, 0) [.ref (a 0), .int x1] (wX G a st) (some (.int z)) (wX G a st) := kMet.mk (by decide +kernel) (Nat.le_of_ble_eq_true rfl) (fun E C Zd => wX9_fault  C Zd  x1 h)
theorem yvX5_isRing : kYV yX5_isRing RX5 cX5_isRing 2 (some .boolean) 0 := ⟨q8_15, q8_16, q1_19, q8_17, by decide +kernel⟩
abbrev rmfX5_isRing : Room := { frames := 5, cells := 0, slots := 0, locals := 110 }
def fX5_isRing (st : kS) : Option (Int32) := (fX5_housesTold st).bind (fun z_1 => if z_1 < 3 then (some 0) else ((fX5_firstNoRing st).bind (fun z_3 => if z_3 = (gI st 2) then (if (gI st 2) = z_1 then (some 1) else (if (kr (((gI st 2) - z_1) - 1) 3) = 2 then (some 1) else (some 0))) else (some 0))))
set_option maxRecDepth 100000 in
set_option maxHeartbeats 4000000 in
theorem wX5_isRing {G : kG} {E : kE} {a : Nat → Nat} {st0 : kS} (C : kOk G E cX5_isRing RX5 2 rmfX5_isRing) {z : Int32} (Zd : kEnd G E (0, 0) (some .boolean) (some (.int z)) (wX G a st0)) (h : fX5_isRing st0 = some z) : kX G E (0, 0) (wX G a st0) 0 [(0, .ref (a 1))] [] := by
  unfold fX5_isRing at h
  refine x_aload_n (pc := 0) C 0 dX5_isRing_0 rfl rfl ?_
  obtain ⟨z_1, hz_1, h⟩ := kB h
  refine x_callV (pc := 1) C 1 [] rfl rfl (mX5_housesTold G a st0 hz_1) yvX5_housesTold q6_18 ⟨Nat.le_of_ble_eq_true rfl, Nat.le_of_ble_eq_true rfl, rfl, rfl⟩ ⟨Nat.zero_le _, Nat.zero_le _⟩ rfl rfl (Nat.le_of_ble_eq_true rfl) rfl dX5_isRing_1 ?_
  refine x_istore_n (pc := 4) C (lv' := [(1, .int z_1), (0, .ref (a 1))]) dX5_isRing_4 rfl (by decide) rfl ?_
  refine x_iload_n (pc := 5) C 0 dX5_isRing_5 rfl rfl ?_
  refine x_iconst (pc := 6) C 3 dX5_isRing_6 (by decide) ?_
  refine x_icmp_lt (pc := 7) C 21 dX5_isRing_7 (by decide) (fun c_2 => ?_) (fun c_2 => ?_)
  · have h := kIp c_2 h
    refine x_iconst (pc := 21) C 0 dX5_isRing_21 (by decide) ?_
    obtain rfl := Option.some.inj h
    exact x_zret (pc := 22) C rfl Zd dX5_isRing_22
  · have h := kIn c_2 h
    refine x_aload_n (pc := 10) C 1 dX5_isRing_10 rfl rfl ?_
    obtain ⟨z_3, hz_3, h⟩ := kB h
    refine x_callV (pc := 11) C 1 [] rfl rfl (mX5_firstNoRing G a st0 hz_3) yvX5_firstNoRing q8_18 ⟨Nat.le_of_ble_eq_true rfl, Nat.le_of_ble_eq_true rfl, rfl, rfl⟩ ⟨Nat.zero_le _, Nat.zero_le _⟩ rfl rfl (Nat.le_of_ble_eq_true rfl) rfl dX5_isRing_11 ?_
    refine x_aload_n (pc := 14) C 1 dX5_isRing_14 rfl rfl ?_
    refine x_get (pc := 15) C inlX5 1 rfl rfl 1 (by decide) q6_5 (v := .int (gI st0 2)) rfl dX5_isRing_15 ?_
    refine x_icmp_eq (pc := 18) C 23 dX5_isRing_18 (by decide) (fun c_4 => ?_) (fun c_4 => ?_)
    · have h := kIp c_4 h
      refine x_aload_n (pc := 23) C 1 dX5_isRing_23 rfl rfl ?_
      refine x_get (pc := 24) C inlX5 1 rfl rfl 1 (by decide) q6_5 (v := .int (gI st0 2)) rfl dX5_isRing_24 ?_
      refine x_iload_n (pc := 27) C 0 dX5_isRing_27 rfl rfl ?_
      refine x_icmp_eq (pc := 28) C 45 dX5_isRing_28 (by decide) (fun c_5 => ?_) (fun c_5 => ?_)
      · have h := kIp c_5 h
        refine x_iconst (pc := 45) C 1 dX5_isRing_45 (by decide) ?_
        refine x_goto (pc := 46) C 50 dX5_isRing_46 (by decide) ?_
        obtain rfl := Option.some.inj h
        exact x_zret (pc := 50) C rfl Zd dX5_isRing_50
      · have h := kIn c_5 h
        refine x_aload_n (pc := 31) C 1 dX5_isRing_31 rfl rfl ?_
        refine x_get (pc := 32) C inlX5 1 rfl rfl 1 (by decide) q6_5 (v := .int (gI st0 2)) rfl dX5_isRing_32 ?_
        refine x_iload_n (pc := 35) C 0 dX5_isRing_35 rfl rfl ?_
        refine x_isub (pc := 36) C dX5_isRing_36 ?_
        refine x_iconst (pc := 37) C 1 dX5_isRing_37 (by decide) ?_
        refine x_isub (pc := 38) C dX5_isRing_38 ?_
        refine x_iconst (pc := 39) C 3 dX5_isRing_39 (by decide) ?_
        refine y_irem (pc := 40) C dX5_isRing_40 (by decide) ?_
        refine x_iconst (pc := 41) C 2 dX5_isRing_41 (by decide) ?_
        refine x_icmp_ne (pc := 42) C 49 dX5_isRing_42 (by decide) (fun c_6 => ?_) (fun c_6 => ?_)
        · have h := kIn c_6 h
          refine x_iconst (pc := 49) C 0 dX5_isRing_49 (by decide) ?_
          obtain rfl := Option.some.inj h
          exact x_zret (pc := 50) C rfl Zd dX5_isRing_50
        · have h := kIp c_6 h
          refine x_iconst (pc := 45) C 1 dX5_isRing_45 (by decide) ?_
          refine x_goto (pc := 46) C 50 dX5_isRing_46 (by decide) ?_
          obtain rfl := Option.some.inj h
          exact x_zret (pc := 50) C rfl Zd dX5_isRing_50
    · have h := kIn c_4 h
      refine x_iconst (pc := 21) C 0 dX5_isRing_21 (by decide) ?_
      obtain rfl := Option.some.inj h
      exact x_zret (pc := 22) C rfl Zd dX5_isRing_22
set_option maxRecDepth 100000 in
theorem mX5_isRing (G : kG) (a : Nat → Nat) (st : kS)  {z : Int32} (h : fX5_isRing st = some z) : kMet G yX5_isRing cX5_isRing 2 (some .boolean) rmfX5_isRing (0, 0) [.ref (a 1)] (wX G a st) (some (.int z)) (wX G a st) := kMet.mk (by decide +kernel) (Nat.le_of_ble_eq_true rfl) (fun E C Zd => wX5_isRing  C Zd   h)
theorem yvX8_is : kYV yX8_is RX8 cX8_is 4 (some .boolean) 2 := ⟨q9_11, q9_12, q1_13, q9_13, by decide +kernel⟩
abbrev rmfX8_is : Room := { frames := 1, cells := 0, slots := 0, locals := 21 }
def fX8_is (st : kS) (x1 : Int32) (x2 : Int32) : Int32 := if x2 = 0 then (1) else (if (kg 6 (gA st 11) x1) = x2 then (1) else (if x2 = 1 then (if (kg 6 (gA st 11) x1) = 3 then (1) else (0)) else (0)))
set_option maxRecDepth 100000 in
set_option maxHeartbeats 4000000 in
theorem wX8_is {G : kG} {E : kE} {a : Nat → Nat} {st0 : kS} (C : kOk G E cX8_is RX8 4 rmfX8_is) {z : Int32} (Zd : kEnd G E (0, 0) (some .boolean) (some (.int z)) (wX G a st0)) (x1 : Int32) (x2 : Int32) (h : fX8_is st0 x1 x2 = z) : kX G E (0, 0) (wX G a st0) 0 [(0, .ref (a 2)), (1, .int x1), (2, .int x2)] [] := by
  unfold fX8_is at h
  refine x_aload_n (pc := 0) C 0 dX8_is_0 rfl rfl ?_
  refine x_get (pc := 1) C inlX8 2 rfl rfl 0 (by decide) q2_23 (v := .ref (a 11)) rfl dX8_is_1 ?_
  refine x_iload_n (pc := 4) C 1 dX8_is_4 rfl rfl ?_
  refine x_callS (pc := 5) C [.ref (a 11), .int x1] (mX0_get G (N := 6) (f := (gA st0 11)) 11 (lwX_A11 G a rfl) (by decide) x1) ysX0_get q9_14 ⟨Nat.le_of_ble_eq_true rfl, Nat.le_of_ble_eq_true rfl, rfl, rfl⟩ ⟨Nat.zero_le _, Nat.zero_le _⟩ rfl rfl (Nat.le_of_ble_eq_true rfl) rfl dX8_is_5 ?_
  refine x_istore_n (pc := 8) C (lv' := [(3, .int (kg 6 (gA st0 11) x1)), (0, .ref (a 2)), (1, .int x1), (2, .int x2)]) dX8_is_8 rfl (by decide) rfl ?_
  refine x_iload_n (pc := 9) C 3 dX8_is_9 rfl rfl ?_
  refine x_if_eq (pc := 10) C 28 dX8_is_10 (by decide) (fun c_1 => ?_) (fun c_1 => ?_)
  · have h := kIp c_1 h
    refine x_iconst (pc := 28) C 1 dX8_is_28 (by decide) ?_
    refine x_goto (pc := 29) C 33 dX8_is_29 (by decide) ?_
    subst h
    exact x_zret (pc := 33) C rfl Zd dX8_is_33
  · have h := kIn c_1 h
    refine x_iload_n (pc := 13) C 0 dX8_is_13 rfl rfl ?_
    refine x_iload_n (pc := 14) C 3 dX8_is_14 rfl rfl ?_
    refine x_icmp_eq (pc := 15) C 28 dX8_is_15 (by decide) (fun c_2 => ?_) (fun c_2 => ?_)
    · have h := kIp c_2 h
      refine x_iconst (pc := 28) C 1 dX8_is_28 (by decide) ?_
      refine x_goto (pc := 29) C 33 dX8_is_29 (by decide) ?_
      subst h
      exact x_zret (pc := 33) C rfl Zd dX8_is_33
    · have h := kIn c_2 h
      refine x_iload_n (pc := 18) C 3 dX8_is_18 rfl rfl ?_
      refine x_iconst (pc := 19) C 1 dX8_is_19 (by decide) ?_
      refine x_icmp_ne (pc := 20) C 32 dX8_is_20 (by decide) (fun c_3 => ?_) (fun c_3 => ?_)
      · have h := kIn c_3 h
        refine x_iconst (pc := 32) C 0 dX8_is_32 (by decide) ?_
        subst h
        exact x_zret (pc := 33) C rfl Zd dX8_is_33
      · have h := kIp c_3 h
        refine x_iload_n (pc := 23) C 0 dX8_is_23 rfl rfl ?_
        refine x_iconst (pc := 24) C 3 dX8_is_24 (by decide) ?_
        refine x_icmp_ne (pc := 25) C 32 dX8_is_25 (by decide) (fun c_4 => ?_) (fun c_4 => ?_)
        · have h := kIn c_4 h
          refine x_iconst (pc := 32) C 0 dX8_is_32 (by decide) ?_
          subst h
          exact x_zret (pc := 33) C rfl Zd dX8_is_33
        · have h := kIp c_4 h
          refine x_iconst (pc := 28) C 1 dX8_is_28 (by decide) ?_
          refine x_goto (pc := 29) C 33 dX8_is_29 (by decide) ?_
          subst h
          exact x_zret (pc := 33) C rfl Zd dX8_is_33
set_option maxRecDepth 100000 in
theorem mX8_is (G : kG) (a : Nat → Nat) (st : kS) (x1 : Int32) (x2 : Int32) : kMet G yX8_is cX8_is 4 (some .boolean) rmfX8_is (0, 0) [.ref (a 2), .int x1, .int x2] (wX G a st) (some (.int (fX8_is st x1 x2))) (wX G a st) := kMet.mk (by decide +kernel) (Nat.le_of_ble_eq_true rfl) (fun E C Zd => wX8_is  C Zd  x1 x2 rfl)
theorem yvX8_next : kYV yX8_next RX8 cX8_next 2 (some .int) 1 := ⟨q9_16, q9_17, q1_13, q9_18, by decide +kernel⟩
abbrev rmfX8_next : Room := { frames := 0, cells := 0, slots := 0, locals := 0 }
def fX8_next (st : kS) (x1 : Int32) : Int32 := if (gI st 3) ≤ (x1 + 1) then (0) else ((x1 + 1))
set_option maxRecDepth 100000 in
set_option maxHeartbeats 4000000 in
theorem wX8_next {G : kG} {E : kE} {a : Nat → Nat} {st0 : kS} (C : kOk G E cX8_next RX8 2 rmfX8_next) {z : Int32} (Zd : kEnd G E (0, 0) (some .int) (some (.int z)) (wX G a st0)) (x1 : Int32) (h : fX8_next st0 x1 = z) : kX G E (0, 0) (wX G a st0) 0 [(0, .ref (a 2)), (1, .int x1)] [] := by
  unfold fX8_next at h
  refine x_iload_n (pc := 0) C 1 dX8_next_0 rfl rfl ?_
  refine x_iconst (pc := 1) C 1 dX8_next_1 (by decide) ?_
  refine x_iadd (pc := 2) C dX8_next_2 ?_
  refine x_aload_n (pc := 3) C 0 dX8_next_3 rfl rfl ?_
  refine x_get (pc := 4) C inlX8 2 rfl rfl 2 (by decide) q8_23 (v := .int (gI st0 3)) rfl dX8_next_4 ?_
  refine x_icmp_ge (pc := 7) C 16 dX8_next_7 (by decide) (fun c_1 => ?_) (fun c_1 => ?_)
  · have h := kIp c_1 h
    refine x_iconst (pc := 16) C 0 dX8_next_16 (by decide) ?_
    subst h
    exact x_iret (pc := 17) C Zd dX8_next_17
  · have h := kIn c_1 h
    refine x_iload_n (pc := 10) C 1 dX8_next_10 rfl rfl ?_
    refine x_iconst (pc := 11) C 1 dX8_next_11 (by decide) ?_
    refine x_iadd (pc := 12) C dX8_next_12 ?_
    refine x_goto (pc := 13) C 17 dX8_next_13 (by decide) ?_
    subst h
    exact x_iret (pc := 17) C Zd dX8_next_17
set_option maxRecDepth 100000 in
theorem mX8_next (G : kG) (a : Nat → Nat) (st : kS) (x1 : Int32) : kMet G yX8_next cX8_next 2 (some .int) rmfX8_next (0, 0) [.ref (a 2), .int x1] (wX G a st) (some (.int (fX8_next st x1))) (wX G a st) := kMet.mk (by decide +kernel) (Nat.le_of_ble_eq_true rfl) (fun E C Zd => wX8_next  C Zd  x1 rfl)
theorem yvX8_setBars : kYV yX8_setBars RX8 cX8_setBars 2 none 0 := ⟨q9_6, q9_7, q1_13, q9_8, by decide +kernel⟩
abbrev rmfX8_setBars : Room := { frames := 2, cells := 0, slots := 0, locals := 44 }
def fX8_setBars_L7_B (K : Int32 → kS → Option (kS)) (Gc : Int32 → kS → Option (kS)) (st : kS) (v1 : Int32) : Option (kS) := if (gI st 3) ≤ v1 then (K v1 st) else (if (fX8_is st v1 1) = 0 then (if (fX8_is st (fX8_next st v1) 1) = 0 then (Gc (v1 + 1) st) else (Gc (v1 + 1) (sI st 5 ((gI st 5) ||| (kshl 1 v1))))) else (Gc (v1 + 1) (sI st 5 ((gI st 5) ||| (kshl 1 v1)))))
set_option maxRecDepth 100000 in
set_option maxHeartbeats 4000000 in
theorem wX8_setBars_L7_B {G : kG} {E : kE} {a : Nat → Nat} (C : kOk G E cX8_setBars RX8 2 rmfX8_setBars) {z : kS} (Zd : kEnd G E (0, 0) none none (wX G a z)) {K Gc : Int32 → kS → Option (kS)} (st : kS) (v1 : Int32) (hK : ∀ (u1 : Int32) (su : kS), K u1 su = some z → kX G E (0, 0) (wX G a su) 55 [] []) (hG : ∀ (u1 : Int32) (su : kS), Gc u1 su = some z → kX G E (0, 0) (wX G a su) 7 [(0, .ref (a 2)), (1, .int u1)] []) (h : fX8_setBars_L7_B K Gc st v1 = some z) : kX G E (0, 0) (wX G a st) 7 [(0, .ref (a 2)), (1, .int v1)] [] := by
  unfold fX8_setBars_L7_B at h
  refine x_iload_n (pc := 7) C 1 dX8_setBars_7 rfl rfl ?_
  refine x_aload_n (pc := 8) C 0 dX8_setBars_8 rfl rfl ?_
  refine x_get (pc := 9) C inlX8 2 rfl rfl 2 (by decide) q8_23 (v := .int (gI st 3)) rfl dX8_setBars_9 ?_
  refine x_icmp_ge (pc := 12) C 55 dX8_setBars_12 (by decide) (fun c_1 => ?_) (fun c_1 => ?_)
  · have h := kIp c_1 h
    refine kX.pick [] (lv' := []) rfl ?_
    exact hK v1 st h
  · have h := kIn c_1 h
    refine x_aload_n (pc := 15) C 0 dX8_setBars_15 rfl rfl ?_
    refine x_iload_n (pc := 16) C 1 dX8_setBars_16 rfl rfl ?_
    refine x_iconst (pc := 17) C 1 dX8_setBars_17 (by decide) ?_
    refine x_callV (pc := 18) C 2 [.int v1, .int 1] rfl rfl (mX8_is G a st v1 1) yvX8_is q9_10 ⟨Nat.le_of_ble_eq_true rfl, Nat.le_of_ble_eq_true rfl, rfl, rfl⟩ ⟨Nat.zero_le _, Nat.zero_le _⟩ rfl rfl (Nat.le_of_ble_eq_true rfl) rfl dX8_setBars_18 ?_
    refine x_if_ne (pc := 21) C 37 dX8_setBars_21 (by decide) (fun c_2 => ?_) (fun c_2 => ?_)
    · have h := kIn c_2 h
      refine x_aload_n (pc := 37) C 0 dX8_setBars_37 rfl rfl ?_
      refine x_dup (pc := 38) C dX8_setBars_38 rfl ?_
      refine x_get (pc := 39) C inlX8 2 rfl rfl 4 (by decide) q9_9 (v := .int (gI st 5)) rfl dX8_setBars_39 ?_
      refine x_iconst (pc := 42) C 1 dX8_setBars_42 (by decide) ?_
      refine x_iload_n (pc := 43) C 1 dX8_setBars_43 rfl rfl ?_
      refine y_ishl (pc := 44) C dX8_setBars_44 ?_
      refine x_ior (pc := 45) C dX8_setBars_45 ?_
      refine x_put (pc := 46) C inlX8 tyX8 tyX8_ok nmX8 2 rfl rfl 4 (by decide) q9_9 rfl .int (v := .int ((gI st 5) ||| (kshl 1 v1))) (by decide +kernel) rfl rfl (Nat.le_of_ble_eq_true rfl) (swX_I5 G a _ _) dX8_setBars_46 ?_
      refine x_iinc (pc := 49) C 1 (v := v1 + 1) (lv' := [(1, .int (v1 + 1)), (0, .ref (a 2))]) dX8_setBars_49 rfl rfl (by decide) rfl ?_
      refine x_goto (pc := 52) C 7 dX8_setBars_52 (by decide) ?_
      refine kX.pick [1, 0] (lv' := [(0, .ref (a 2)), (1, .int (v1 + 1))]) rfl ?_
      exact hG (v1 + 1) (sI st 5 ((gI st 5) ||| (kshl 1 v1))) h
    · have h := kIp c_2 h
      refine x_aload_n (pc := 24) C 0 dX8_setBars_24 rfl rfl ?_
      refine x_aload_n (pc := 25) C 0 dX8_setBars_25 rfl rfl ?_
      refine x_iload_n (pc := 26) C 1 dX8_setBars_26 rfl rfl ?_
      refine x_callV (pc := 27) C 2 [.int v1] rfl rfl (mX8_next G a st v1) yvX8_next q9_15 ⟨Nat.le_of_ble_eq_true rfl, Nat.le_of_ble_eq_true rfl, rfl, rfl⟩ ⟨Nat.zero_le _, Nat.zero_le _⟩ rfl rfl (Nat.le_of_ble_eq_true rfl) rfl dX8_setBars_27 ?_
      refine x_iconst (pc := 30) C 1 dX8_setBars_30 (by decide) ?_
      refine x_callV (pc := 31) C 2 [.int (fX8_next st v1), .int 1] rfl rfl (mX8_is G a st (fX8_next st v1) 1) yvX8_is q9_10 ⟨Nat.le_of_ble_eq_true rfl, Nat.le_of_ble_eq_true rfl, rfl, rfl⟩ ⟨Nat.zero_le _, Nat.zero_le _⟩ rfl rfl (Nat.le_of_ble_eq_true rfl) rfl dX8_setBars_31 ?_
      refine x_if_eq (pc := 34) C 49 dX8_setBars_34 (by decide) (fun c_3 => ?_) (fun c_3 => ?_)
      · have h := kIp c_3 h
        refine x_iinc (pc := 49) C 1 (v := v1 + 1) (lv' := [(1, .int (v1 + 1)), (0, .ref (a 2))]) dX8_setBars_49 rfl rfl (by decide) rfl ?_
        refine x_goto (pc := 52) C 7 dX8_setBars_52 (by decide) ?_
        refine kX.pick [1, 0] (lv' := [(0, .ref (a 2)), (1, .int (v1 + 1))]) rfl ?_
        exact hG (v1 + 1) st h
      · have h := kIn c_3 h
        refine x_aload_n (pc := 37) C 0 dX8_setBars_37 rfl rfl ?_
        refine x_dup (pc := 38) C dX8_setBars_38 rfl ?_
        refine x_get (pc := 39) C inlX8 2 rfl rfl 4 (by decide) q9_9 (v := .int (gI st 5)) rfl dX8_setBars_39 ?_
        refine x_iconst (pc := 42) C 1 dX8_setBars_42 (by decide) ?_
        refine x_iload_n (pc := 43) C 1 dX8_setBars_43 rfl rfl ?_
        refine y_ishl (pc := 44) C dX8_setBars_44 ?_
        refine x_ior (pc := 45) C dX8_setBars_45 ?_
        refine x_put (pc := 46) C inlX8 tyX8 tyX8_ok nmX8 2 rfl rfl 4 (by decide) q9_9 rfl .int (v := .int ((gI st 5) ||| (kshl 1 v1))) (by decide +kernel) rfl rfl (Nat.le_of_ble_eq_true rfl) (swX_I5 G a _ _) dX8_setBars_46 ?_
        refine x_iinc (pc := 49) C 1 (v := v1 + 1) (lv' := [(1, .int (v1 + 1)), (0, .ref (a 2))]) dX8_setBars_49 rfl rfl (by decide) rfl ?_
        refine x_goto (pc := 52) C 7 dX8_setBars_52 (by decide) ?_
        refine kX.pick [1, 0] (lv' := [(0, .ref (a 2)), (1, .int (v1 + 1))]) rfl ?_
        exact hG (v1 + 1) (sI st 5 ((gI st 5) ||| (kshl 1 v1))) h
def fX8_setBars_L7 (K : Int32 → kS → Option (kS)) : Nat → Int32 → kS → Option (kS)
  | 0, _, _ => none
  | F + 1, v1, st => fX8_setBars_L7_B K (fX8_setBars_L7 K F) st v1
set_option maxRecDepth 100000 in
set_option maxHeartbeats 4000000 in
theorem wX8_setBars_L7 {G : kG} {E : kE} {a : Nat → Nat} (C : kOk G E cX8_setBars RX8 2 rmfX8_setBars) {z : kS} (Zd : kEnd G E (0, 0) none none (wX G a z)) {K : Int32 → kS → Option (kS)} (hK : ∀ (u1 : Int32) (su : kS), K u1 su = some z → kX G E (0, 0) (wX G a su) 55 [] []) : ∀ (F : Nat) (v1 : Int32) (st : kS), fX8_setBars_L7 K F v1 st = some z → kX G E (0, 0) (wX G a st) 7 [(0, .ref (a 2)), (1, .int v1)] [] := by
  intro F
  induction F with
  | zero =>
    intro v1 st h
    exact absurd (show none = some z from h) (fun q => by cases q)
  | succ F ih =>
    intro v1 st h
    exact wX8_setBars_L7_B  C Zd  st v1 hK (fun v1 st h => ih v1 st h) h
def fX8_setBars (st : kS) : Option (kS) := fX8_setBars_L7 (fun v1_4 st_5 => some st_5) kFU 0 (sI st 5 0)
set_option maxRecDepth 100000 in
set_option maxHeartbeats 4000000 in
theorem wX8_setBars {G : kG} {E : kE} {a : Nat → Nat} (C : kOk G E cX8_setBars RX8 2 rmfX8_setBars) {z : kS} (Zd : kEnd G E (0, 0) none none (wX G a z)) (st : kS) (h : fX8_setBars st = some z) : kX G E (0, 0) (wX G a st) 0 [(0, .ref (a 2))] [] := by
  unfold fX8_setBars at h
  refine x_aload_n (pc := 0) C 0 dX8_setBars_0 rfl rfl ?_
  refine x_iconst (pc := 1) C 0 dX8_setBars_1 (by decide) ?_
  refine x_put (pc := 2) C inlX8 tyX8 tyX8_ok nmX8 2 rfl rfl 4 (by decide) q9_9 rfl .int (v := .int 0) (by decide +kernel) rfl rfl (Nat.le_of_ble_eq_true rfl) (swX_I5 G a _ _) dX8_setBars_2 ?_
  refine x_iconst (pc := 5) C 0 dX8_setBars_5 (by decide) ?_
  refine x_istore_n (pc := 6) C (lv' := [(1, .int 0), (0, .ref (a 2))]) dX8_setBars_6 rfl (by decide) rfl ?_
  refine kX.pick [1, 0] (lv' := [(0, .ref (a 2)), (1, .int 0)]) rfl ?_
  refine wX8_setBars_L7  C Zd   (fun v1_4 st_5 h => ?_) kFU 0 (sI st 5 0) h
  obtain rfl := Option.some.inj h
  exact x_vret (pc := 55) C Zd dX8_setBars_55
set_option maxRecDepth 100000 in
theorem mX8_setBars (G : kG) (a : Nat → Nat) (st : kS)  {z : kS} (h : fX8_setBars st = some z) : kMet G yX8_setBars cX8_setBars 2 none rmfX8_setBars (0, 0) [.ref (a 2)] (wX G a st) none (wX G a z) := kMet.mk (by decide +kernel) (Nat.le_of_ble_eq_true rfl) (fun E C Zd => wX8_setBars  C Zd  st  h)
theorem yvX8_hate : kYV yX8_hate RX8 cX8_hate 3 (some .boolean) 2 := ⟨q10_5, q10_6, q1_13, q10_7, by decide +kernel⟩
abbrev rmfX8_hate : Room := { frames := 1, cells := 0, slots := 0, locals := 21 }
def fX8_hate (st : kS) (x1 : Int32) (x2 : Int32) : Int32 := if (kg 36 (gA st 12) ((x1 * 6) + x2)) = 0 then (0) else (1)
set_option maxRecDepth 100000 in
set_option maxHeartbeats 4000000 in
theorem wX8_hate {G : kG} {E : kE} {a : Nat → Nat} {st0 : kS} (C : kOk G E cX8_hate RX8 3 rmfX8_hate) {z : Int32} (Zd : kEnd G E (0, 0) (some .boolean) (some (.int z)) (wX G a st0)) (x1 : Int32) (x2 : Int32) (h : fX8_hate st0 x1 x2 = z) : kX G E (0, 0) (wX G a st0) 0 [(0, .ref (a 2)), (1, .int x1), (2, .int x2)] [] := by
  unfold fX8_hate at h
  refine x_aload_n (pc := 0) C 0 dX8_hate_0 rfl rfl ?_
  refine x_get (pc := 1) C inlX8 2 rfl rfl 1 (by decide) q3_0 (v := .ref (a 12)) rfl dX8_hate_1 ?_
  refine x_iload_n (pc := 4) C 1 dX8_hate_4 rfl rfl ?_
  refine x_bipush (pc := 5) C 6 dX8_hate_5 (by decide) ?_
  refine x_imul (pc := 7) C dX8_hate_7 ?_
  refine x_iload_n (pc := 8) C 2 dX8_hate_8 rfl rfl ?_
  refine x_iadd (pc := 9) C dX8_hate_9 ?_
  refine x_callS (pc := 10) C [.ref (a 12), .int ((x1 * 6) + x2)] (mX0_get G (N := 36) (f := (gA st0 12)) 12 (lwX_A12 G a rfl) (by decide) ((x1 * 6) + x2)) ysX0_get q9_14 ⟨Nat.le_of_ble_eq_true rfl, Nat.le_of_ble_eq_true rfl, rfl, rfl⟩ ⟨Nat.zero_le _, Nat.zero_le _⟩ rfl rfl (Nat.le_of_ble_eq_true rfl) rfl dX8_hate_10 ?_
  refine x_if_eq (pc := 13) C 20 dX8_hate_13 (by decide) (fun c_1 => ?_) (fun c_1 => ?_)
  · have h := kIp c_1 h
    refine x_iconst (pc := 20) C 0 dX8_hate_20 (by decide) ?_
    subst h
    exact x_zret (pc := 21) C rfl Zd dX8_hate_21
  · have h := kIn c_1 h
    refine x_iconst (pc := 16) C 1 dX8_hate_16 (by decide) ?_
    refine x_goto (pc := 17) C 21 dX8_hate_17 (by decide) ?_
    subst h
    exact x_zret (pc := 21) C rfl Zd dX8_hate_21
set_option maxRecDepth 100000 in
theorem mX8_hate (G : kG) (a : Nat → Nat) (st : kS) (x1 : Int32) (x2 : Int32) : kMet G yX8_hate cX8_hate 3 (some .boolean) rmfX8_hate (0, 0) [.ref (a 2), .int x1, .int x2] (wX G a st) (some (.int (fX8_hate st x1 x2))) (wX G a st) := kMet.mk (by decide +kernel) (Nat.le_of_ble_eq_true rfl) (fun E C Zd => wX8_hate  C Zd  x1 x2 rfl)
theorem yvX8_quarrel : kYV yX8_quarrel RX8 cX8_quarrel 3 none 2 := ⟨q10_1, q10_2, q1_13, q10_3, by decide +kernel⟩
abbrev rmfX8_quarrel : Room := { frames := 2, cells := 0, slots := 0, locals := 43 }
def fX8_quarrel (st : kS) (x1 : Int32) (x2 : Int32) : kS := if (fX8_hate st x1 x2) = 0 then ((sI (sA (sA st 12 (kp 36 (gA st 12) ((x1 * 6) + x2) 1)) 12 (kp 36 (kp 36 (gA st 12) ((x1 * 6) + x2) 1) ((x2 * 6) + x1) 1)) 4 ((gI st 4) + 1))) else (st)
set_option maxRecDepth 100000 in
set_option maxHeartbeats 4000000 in
theorem wX8_quarrel {G : kG} {E : kE} {a : Nat → Nat} (C : kOk G E cX8_quarrel RX8 3 rmfX8_quarrel) {z : kS} (Zd : kEnd G E (0, 0) none none (wX G a z)) (st : kS) (x1 : Int32) (x2 : Int32) (h : fX8_quarrel st x1 x2 = z) : kX G E (0, 0) (wX G a st) 0 [(0, .ref (a 2)), (1, .int x1), (2, .int x2)] [] := by
  unfold fX8_quarrel at h
  refine x_aload_n (pc := 0) C 0 dX8_quarrel_0 rfl rfl ?_
  refine x_iload_n (pc := 1) C 1 dX8_quarrel_1 rfl rfl ?_
  refine x_iload_n (pc := 2) C 2 dX8_quarrel_2 rfl rfl ?_
  refine x_callV (pc := 3) C 2 [.int x1, .int x2] rfl rfl (mX8_hate G a st x1 x2) yvX8_hate q10_4 ⟨Nat.le_of_ble_eq_true rfl, Nat.le_of_ble_eq_true rfl, rfl, rfl⟩ ⟨Nat.zero_le _, Nat.zero_le _⟩ rfl rfl (Nat.le_of_ble_eq_true rfl) rfl dX8_quarrel_3 ?_
  refine x_if_ne (pc := 6) C 47 dX8_quarrel_6 (by decide) (fun c_1 => ?_) (fun c_1 => ?_)
  · have h := kIn c_1 h
    subst h
    exact x_vret (pc := 47) C Zd dX8_quarrel_47
  · have h := kIp c_1 h
    refine x_aload_n (pc := 9) C 0 dX8_quarrel_9 rfl rfl ?_
    refine x_get (pc := 10) C inlX8 2 rfl rfl 1 (by decide) q3_0 (v := .ref (a 12)) rfl dX8_quarrel_10 ?_
    refine x_iload_n (pc := 13) C 1 dX8_quarrel_13 rfl rfl ?_
    refine x_bipush (pc := 14) C 6 dX8_quarrel_14 (by decide) ?_
    refine x_imul (pc := 16) C dX8_quarrel_16 ?_
    refine x_iload_n (pc := 17) C 2 dX8_quarrel_17 rfl rfl ?_
    refine x_iadd (pc := 18) C dX8_quarrel_18 ?_
    refine x_iconst (pc := 19) C 1 dX8_quarrel_19 (by decide) ?_
    refine x_callS (pc := 20) C [.ref (a 12), .int ((x1 * 6) + x2), .int 1] (mX0_put G (N := 36) (f := (gA st 12)) 12 (lwX_A12 G a rfl) (by decide) ((x1 * 6) + x2) 1 (swX_A12 G a _ _)) ysX0_put q9_4 ⟨Nat.le_of_ble_eq_true rfl, Nat.le_of_ble_eq_true rfl, rfl, rfl⟩ ⟨Nat.zero_le _, Nat.zero_le _⟩ rfl rfl (Nat.le_of_ble_eq_true rfl) rfl dX8_quarrel_20 ?_
    refine x_aload_n (pc := 23) C 0 dX8_quarrel_23 rfl rfl ?_
    refine x_get (pc := 24) C inlX8 2 rfl rfl 1 (by decide) q3_0 (v := .ref (a 12)) rfl dX8_quarrel_24 ?_
    refine x_iload_n (pc := 27) C 2 dX8_quarrel_27 rfl rfl ?_
    refine x_bipush (pc := 28) C 6 dX8_quarrel_28 (by decide) ?_
    refine x_imul (pc := 30) C dX8_quarrel_30 ?_
    refine x_iload_n (pc := 31) C 1 dX8_quarrel_31 rfl rfl ?_
    refine x_iadd (pc := 32) C dX8_quarrel_32 ?_
    refine x_iconst (pc := 33) C 1 dX8_quarrel_33 (by decide) ?_
    refine x_callS (pc := 34) C [.ref (a 12), .int ((x2 * 6) + x1), .int 1] (mX0_put G (N := 36) (f := (kp 36 (gA st 12) ((x1 * 6) + x2) 1)) 12 (lwX_A12 G a (gA_e _ _ _)) (by decide) ((x2 * 6) + x1) 1 (swX_A12 G a _ _)) ysX0_put q9_4 ⟨Nat.le_of_ble_eq_true rfl, Nat.le_of_ble_eq_true rfl, rfl, rfl⟩ ⟨Nat.zero_le _, Nat.zero_le _⟩ rfl rfl (Nat.le_of_ble_eq_true rfl) rfl dX8_quarrel_34 ?_
    refine x_aload_n (pc := 37) C 0 dX8_quarrel_37 rfl rfl ?_
    refine x_dup (pc := 38) C dX8_quarrel_38 rfl ?_
    refine x_get (pc := 39) C inlX8 2 rfl rfl 3 (by decide) q9_0 (v := .int (gI st 4)) rfl dX8_quarrel_39 ?_
    refine x_iconst (pc := 42) C 1 dX8_quarrel_42 (by decide) ?_
    refine x_iadd (pc := 43) C dX8_quarrel_43 ?_
    refine x_put (pc := 44) C inlX8 tyX8 tyX8_ok nmX8 2 rfl rfl 3 (by decide) q9_0 rfl .int (v := .int ((gI st 4) + 1)) (by decide +kernel) rfl rfl (Nat.le_of_ble_eq_true rfl) (swX_I4 G a _ _) dX8_quarrel_44 ?_
    subst h
    exact x_vret (pc := 47) C Zd dX8_quarrel_47
set_option maxRecDepth 100000 in
theorem mX8_quarrel (G : kG) (a : Nat → Nat) (st : kS) (x1 : Int32) (x2 : Int32) : kMet G yX8_quarrel cX8_quarrel 3 none rmfX8_quarrel (0, 0) [.ref (a 2), .int x1, .int x2] (wX G a st) none (wX G a (fX8_quarrel st x1 x2)) := kMet.mk (by decide +kernel) (Nat.le_of_ble_eq_true rfl) (fun E C Zd => wX8_quarrel  C Zd  st x1 x2 rfl)
theorem yvX8_read : kYV yX8_read RX8 cX8_read 3 none 1 := ⟨q8_20, q8_21, q1_13, q8_22, by decide +kernel⟩
abbrev rmfX8_read : Room := { frames := 3, cells := 0, slots := 0, locals := 65 }
def fX8_read_L10_B (K : Int32 → kS → Option (kS)) (Gc : Int32 → kS → Option (kS)) (st : kS) (v2 : Int32) : Option (kS) := if (gI st 3) ≤ v2 then (K v2 st) else (Gc (v2 + 1) (sA st 11 (kp 6 (gA st 11) v2 (fX5_kindTold (fX5_code st v2)))))
set_option maxRecDepth 100000 in
set_option maxHeartbeats 4000000 in
theorem wX8_read_L10_B {G : kG} {E : kE} {a : Nat → Nat} (C : kOk G E cX8_read RX8 3 rmfX8_read) {z : kS} (Zd : kEnd G E (0, 0) none none (wX G a z)) {K Gc : Int32 → kS → Option (kS)} (st : kS) (v2 : Int32) (hK : ∀ (u2 : Int32) (su : kS), K u2 su = some z → kX G E (0, 0) (wX G a su) 40 [(0, .ref (a 2)), (1, .ref (a 1))] []) (hG : ∀ (u2 : Int32) (su : kS), Gc u2 su = some z → kX G E (0, 0) (wX G a su) 10 [(0, .ref (a 2)), (1, .ref (a 1)), (2, .int u2)] []) (h : fX8_read_L10_B K Gc st v2 = some z) : kX G E (0, 0) (wX G a st) 10 [(0, .ref (a 2)), (1, .ref (a 1)), (2, .int v2)] [] := by
  unfold fX8_read_L10_B at h
  refine x_iload_n (pc := 10) C 2 dX8_read_10 rfl rfl ?_
  refine x_aload_n (pc := 11) C 0 dX8_read_11 rfl rfl ?_
  refine x_get (pc := 12) C inlX8 2 rfl rfl 2 (by decide) q8_23 (v := .int (gI st 3)) rfl dX8_read_12 ?_
  refine x_icmp_ge (pc := 15) C 40 dX8_read_15 (by decide) (fun c_2 => ?_) (fun c_2 => ?_)
  · have h := kIp c_2 h
    refine kX.pick [0, 1] (lv' := [(0, .ref (a 2)), (1, .ref (a 1))]) rfl ?_
    exact hK v2 st h
  · have h := kIn c_2 h
    refine x_aload_n (pc := 18) C 0 dX8_read_18 rfl rfl ?_
    refine x_get (pc := 19) C inlX8 2 rfl rfl 0 (by decide) q2_23 (v := .ref (a 11)) rfl dX8_read_19 ?_
    refine x_iload_n (pc := 22) C 2 dX8_read_22 rfl rfl ?_
    refine x_aload_n (pc := 23) C 1 dX8_read_23 rfl rfl ?_
    refine x_iload_n (pc := 24) C 2 dX8_read_24 rfl rfl ?_
    refine x_callV (pc := 25) C 1 [.int v2] rfl rfl (mX5_code G a st v2) yvX5_code q9_2 ⟨Nat.le_of_ble_eq_true rfl, Nat.le_of_ble_eq_true rfl, rfl, rfl⟩ ⟨Nat.zero_le _, Nat.zero_le _⟩ rfl rfl (Nat.le_of_ble_eq_true rfl) rfl dX8_read_25 ?_
    refine x_callS (pc := 28) C [.int (fX5_code st v2)] (mX5_kindTold G (fX5_code st v2)) ysX5_kindTold q9_3 ⟨Nat.le_of_ble_eq_true rfl, Nat.le_of_ble_eq_true rfl, rfl, rfl⟩ ⟨Nat.zero_le _, Nat.zero_le _⟩ rfl rfl (Nat.le_of_ble_eq_true rfl) rfl dX8_read_28 ?_
    refine x_callS (pc := 31) C [.ref (a 11), .int v2, .int (fX5_kindTold (fX5_code st v2))] (mX0_put G (N := 6) (f := (gA st 11)) 11 (lwX_A11 G a rfl) (by decide) v2 (fX5_kindTold (fX5_code st v2)) (swX_A11 G a _ _)) ysX0_put q9_4 ⟨Nat.le_of_ble_eq_true rfl, Nat.le_of_ble_eq_true rfl, rfl, rfl⟩ ⟨Nat.zero_le _, Nat.zero_le _⟩ rfl rfl (Nat.le_of_ble_eq_true rfl) rfl dX8_read_31 ?_
    refine x_iinc (pc := 34) C 2 (v := v2 + 1) (lv' := [(2, .int (v2 + 1)), (0, .ref (a 2)), (1, .ref (a 1))]) dX8_read_34 rfl rfl (by decide) rfl ?_
    refine x_goto (pc := 37) C 10 dX8_read_37 (by decide) ?_
    refine kX.pick [1, 2, 0] (lv' := [(0, .ref (a 2)), (1, .ref (a 1)), (2, .int (v2 + 1))]) rfl ?_
    exact hG (v2 + 1) (sA st 11 (kp 6 (gA st 11) v2 (fX5_kindTold (fX5_code st v2)))) h
def fX8_read_L10 (K : Int32 → kS → Option (kS)) : Nat → Int32 → kS → Option (kS)
  | 0, _, _ => none
  | F + 1, v2, st => fX8_read_L10_B K (fX8_read_L10 K F) st v2
set_option maxRecDepth 100000 in
set_option maxHeartbeats 4000000 in
theorem wX8_read_L10 {G : kG} {E : kE} {a : Nat → Nat} (C : kOk G E cX8_read RX8 3 rmfX8_read) {z : kS} (Zd : kEnd G E (0, 0) none none (wX G a z)) {K : Int32 → kS → Option (kS)} (hK : ∀ (u2 : Int32) (su : kS), K u2 su = some z → kX G E (0, 0) (wX G a su) 40 [(0, .ref (a 2)), (1, .ref (a 1))] []) : ∀ (F : Nat) (v2 : Int32) (st : kS), fX8_read_L10 K F v2 st = some z → kX G E (0, 0) (wX G a st) 10 [(0, .ref (a 2)), (1, .ref (a 1)), (2, .int v2)] [] := by
  intro F
  induction F with
  | zero =>
    intro v2 st h
    exact absurd (show none = some z from h) (fun q => by cases q)
  | succ F ih =>
    intro v2 st h
    exact wX8_read_L10_B  C Zd  st v2 hK (fun v2 st h => ih v2 st h) h
def fX8_read_L64_B (K : Int32 → kS → Option (kS)) (Gc : Int32 → kS → Option (kS)) (st : kS) (v2 : Int32) : Option (kS) := if (gI st 2) ≤ v2 then (K v2 st) else (Gc (v2 + 3) (fX8_quarrel st (fX5_digit st v2) (fX5_digit st (v2 + 1))))
set_option maxRecDepth 100000 in
set_option maxHeartbeats 4000000 in
theorem wX8_read_L64_B {G : kG} {E : kE} {a : Nat → Nat} (C : kOk G E cX8_read RX8 3 rmfX8_read) {z : kS} (Zd : kEnd G E (0, 0) none none (wX G a z)) {K Gc : Int32 → kS → Option (kS)} (st : kS) (v2 : Int32) (hK : ∀ (u2 : Int32) (su : kS), K u2 su = some z → kX G E (0, 0) (wX G a su) 94 [] []) (hG : ∀ (u2 : Int32) (su : kS), Gc u2 su = some z → kX G E (0, 0) (wX G a su) 64 [(0, .ref (a 2)), (1, .ref (a 1)), (2, .int u2)] []) (h : fX8_read_L64_B K Gc st v2 = some z) : kX G E (0, 0) (wX G a st) 64 [(0, .ref (a 2)), (1, .ref (a 1)), (2, .int v2)] [] := by
  unfold fX8_read_L64_B at h
  refine x_iload_n (pc := 64) C 2 dX8_read_64 rfl rfl ?_
  refine x_aload_n (pc := 65) C 1 dX8_read_65 rfl rfl ?_
  refine x_getN (pc := 66) C inlX5 1 rfl rfl 1 (by decide) nn13 (v := .int (gI st 2)) rfl dX8_read_66 ?_
  refine x_icmp_ge (pc := 69) C 94 dX8_read_69 (by decide) (fun c_6 => ?_) (fun c_6 => ?_)
  · have h := kIp c_6 h
    refine kX.pick [] (lv' := []) rfl ?_
    exact hK v2 st h
  · have h := kIn c_6 h
    refine x_aload_n (pc := 72) C 0 dX8_read_72 rfl rfl ?_
    refine x_aload_n (pc := 73) C 1 dX8_read_73 rfl rfl ?_
    refine x_iload_n (pc := 74) C 2 dX8_read_74 rfl rfl ?_
    refine x_callV (pc := 75) C 1 [.int v2] rfl rfl (mX5_digit G a st v2) yvX5_digit q9_23 ⟨Nat.le_of_ble_eq_true rfl, Nat.le_of_ble_eq_true rfl, rfl, rfl⟩ ⟨Nat.zero_le _, Nat.zero_le _⟩ rfl rfl (Nat.le_of_ble_eq_true rfl) rfl dX8_read_75 ?_
    refine x_aload_n (pc := 78) C 1 dX8_read_78 rfl rfl ?_
    refine x_iload_n (pc := 79) C 2 dX8_read_79 rfl rfl ?_
    refine x_iconst (pc := 80) C 1 dX8_read_80 (by decide) ?_
    refine x_iadd (pc := 81) C dX8_read_81 ?_
    refine x_callV (pc := 82) C 1 [.int (v2 + 1)] rfl rfl (mX5_digit G a st (v2 + 1)) yvX5_digit q9_23 ⟨Nat.le_of_ble_eq_true rfl, Nat.le_of_ble_eq_true rfl, rfl, rfl⟩ ⟨Nat.zero_le _, Nat.zero_le _⟩ rfl rfl (Nat.le_of_ble_eq_true rfl) rfl dX8_read_82 ?_
    refine x_callV (pc := 85) C 2 [.int (fX5_digit st v2), .int (fX5_digit st (v2 + 1))] rfl rfl (mX8_quarrel G a st (fX5_digit st v2) (fX5_digit st (v2 + 1))) yvX8_quarrel q10_0 ⟨Nat.le_of_ble_eq_true rfl, Nat.le_of_ble_eq_true rfl, rfl, rfl⟩ ⟨Nat.zero_le _, Nat.zero_le _⟩ rfl rfl (Nat.le_of_ble_eq_true rfl) rfl dX8_read_85 ?_
    refine x_iinc (pc := 88) C 2 (v := v2 + 3) (lv' := [(2, .int (v2 + 3)), (0, .ref (a 2)), (1, .ref (a 1))]) dX8_read_88 rfl rfl (by decide) rfl ?_
    refine x_goto (pc := 91) C 64 dX8_read_91 (by decide) ?_
    refine kX.pick [1, 2, 0] (lv' := [(0, .ref (a 2)), (1, .ref (a 1)), (2, .int (v2 + 3))]) rfl ?_
    exact hG (v2 + 3) (fX8_quarrel st (fX5_digit st v2) (fX5_digit st (v2 + 1))) h
def fX8_read_L64 (K : Int32 → kS → Option (kS)) : Nat → Int32 → kS → Option (kS)
  | 0, _, _ => none
  | F + 1, v2, st => fX8_read_L64_B K (fX8_read_L64 K F) st v2
set_option maxRecDepth 100000 in
set_option maxHeartbeats 4000000 in
theorem wX8_read_L64 {G : kG} {E : kE} {a : Nat → Nat} (C : kOk G E cX8_read RX8 3 rmfX8_read) {z : kS} (Zd : kEnd G E (0, 0) none none (wX G a z)) {K : Int32 → kS → Option (kS)} (hK : ∀ (u2 : Int32) (su : kS), K u2 su = some z → kX G E (0, 0) (wX G a su) 94 [] []) : ∀ (F : Nat) (v2 : Int32) (st : kS), fX8_read_L64 K F v2 st = some z → kX G E (0, 0) (wX G a st) 64 [(0, .ref (a 2)), (1, .ref (a 1)), (2, .int v2)] [] := by
  intro F
  induction F with
  | zero =>
    intro v2 st h
    exact absurd (show none = some z from h) (fun q => by cases q)
  | succ F ih =>
    intro v2 st h
    exact wX8_read_L64_B  C Zd  st v2 hK (fun v2 st h => ih v2 st h) h
def fX8_read (st : kS) : Option (kS) := (fX5_housesTold st).bind (fun z_1 => fX8_read_L10 (fun v2_3 st_4 => (fX8_setBars st_4).bind (fun z_5 => fX8_read_L64 (fun v2_7 st_8 => some st_8) kFU ((gI z_5 3) + 1) (sI (sA z_5 12 (kfill 36 (gA z_5 12) 0)) 4 0))) kFU 0 (sI st 3 z_1))
set_option maxRecDepth 100000 in
set_option maxHeartbeats 4000000 in
theorem wX8_read {G : kG} {E : kE} {a : Nat → Nat} (C : kOk G E cX8_read RX8 3 rmfX8_read) {z : kS} (Zd : kEnd G E (0, 0) none none (wX G a z)) (st : kS) (h : fX8_read st = some z) : kX G E (0, 0) (wX G a st) 0 [(0, .ref (a 2)), (1, .ref (a 1))] [] := by
  unfold fX8_read at h
  refine x_aload_n (pc := 0) C 0 dX8_read_0 rfl rfl ?_
  refine x_aload_n (pc := 1) C 1 dX8_read_1 rfl rfl ?_
  obtain ⟨z_1, hz_1, h⟩ := kB h
  refine x_callV (pc := 2) C 1 [] rfl rfl (mX5_housesTold G a st hz_1) yvX5_housesTold q9_1 ⟨Nat.le_of_ble_eq_true rfl, Nat.le_of_ble_eq_true rfl, rfl, rfl⟩ ⟨Nat.zero_le _, Nat.zero_le _⟩ rfl rfl (Nat.le_of_ble_eq_true rfl) rfl dX8_read_2 ?_
  refine x_put (pc := 5) C inlX8 tyX8 tyX8_ok nmX8 2 rfl rfl 2 (by decide) q8_23 rfl .int (v := .int z_1) (by decide +kernel) rfl rfl (Nat.le_of_ble_eq_true rfl) (swX_I3 G a _ _) dX8_read_5 ?_
  refine x_iconst (pc := 8) C 0 dX8_read_8 (by decide) ?_
  refine x_istore_n (pc := 9) C (lv' := [(2, .int 0), (0, .ref (a 2)), (1, .ref (a 1))]) dX8_read_9 rfl (by decide) rfl ?_
  refine kX.pick [1, 2, 0] (lv' := [(0, .ref (a 2)), (1, .ref (a 1)), (2, .int 0)]) rfl ?_
  refine wX8_read_L10  C Zd   (fun v2_3 st_4 h => ?_) kFU 0 (sI st 3 z_1) h
  refine x_aload_n (pc := 40) C 0 dX8_read_40 rfl rfl ?_
  obtain ⟨z_5, hz_5, h⟩ := kB h
  refine x_callV (pc := 41) C 2 [] rfl rfl (mX8_setBars G a st_4 hz_5) yvX8_setBars q9_5 ⟨Nat.le_of_ble_eq_true rfl, Nat.le_of_ble_eq_true rfl, rfl, rfl⟩ ⟨Nat.zero_le _, Nat.zero_le _⟩ rfl rfl (Nat.le_of_ble_eq_true rfl) rfl dX8_read_41 ?_
  refine x_aload_n (pc := 44) C 0 dX8_read_44 rfl rfl ?_
  refine x_get (pc := 45) C inlX8 2 rfl rfl 1 (by decide) q3_0 (v := .ref (a 12)) rfl dX8_read_45 ?_
  refine x_iconst (pc := 48) C 0 dX8_read_48 (by decide) ?_
  refine x_callS (pc := 49) C [.ref (a 12), .int 0] (mJ7_fill_53178 G (N := 36) (f := (gA z_5 12)) 12 (lwX_A12 G a rfl) (by decide) 0 (swX_A12 G a _ _)) ysJ7_fill_53178 q9_19 ⟨Nat.le_of_ble_eq_true rfl, Nat.le_of_ble_eq_true rfl, rfl, rfl⟩ ⟨Nat.zero_le _, Nat.zero_le _⟩ rfl rfl (Nat.le_of_ble_eq_true rfl) rfl dX8_read_49 ?_
  refine x_aload_n (pc := 52) C 0 dX8_read_52 rfl rfl ?_
  refine x_iconst (pc := 53) C 0 dX8_read_53 (by decide) ?_
  refine x_put (pc := 54) C inlX8 tyX8 tyX8_ok nmX8 2 rfl rfl 3 (by decide) q9_0 rfl .int (v := .int 0) (by decide +kernel) rfl rfl (Nat.le_of_ble_eq_true rfl) (swX_I4 G a _ _) dX8_read_54 ?_
  refine x_aload_n (pc := 57) C 0 dX8_read_57 rfl rfl ?_
  refine x_get (pc := 58) C inlX8 2 rfl rfl 2 (by decide) q8_23 (v := .int (gI z_5 3)) rfl dX8_read_58 ?_
  refine x_iconst (pc := 61) C 1 dX8_read_61 (by decide) ?_
  refine x_iadd (pc := 62) C dX8_read_62 ?_
  refine x_istore_n (pc := 63) C (lv' := [(2, .int ((gI z_5 3) + 1)), (0, .ref (a 2)), (1, .ref (a 1))]) dX8_read_63 rfl (by decide) rfl ?_
  refine kX.pick [1, 2, 0] (lv' := [(0, .ref (a 2)), (1, .ref (a 1)), (2, .int ((gI z_5 3) + 1))]) rfl ?_
  refine wX8_read_L64  C Zd   (fun v2_7 st_8 h => ?_) kFU ((gI z_5 3) + 1) (sI (sA z_5 12 (kfill 36 (gA z_5 12) 0)) 4 0) h
  obtain rfl := Option.some.inj h
  exact x_vret (pc := 94) C Zd dX8_read_94
set_option maxRecDepth 100000 in
theorem mX8_read (G : kG) (a : Nat → Nat) (st : kS)  {z : kS} (h : fX8_read st = some z) : kMet G yX8_read cX8_read 3 none rmfX8_read (0, 0) [.ref (a 2), .ref (a 1)] (wX G a st) none (wX G a z) := kMet.mk (by decide +kernel) (Nat.le_of_ble_eq_true rfl) (fun E C Zd => wX8_read  C Zd  st  h)
theorem yvX5_clear : kYV yX5_clear RX5 cX5_clear 2 (some .int) 0 := ⟨q10_9, q10_10, q1_19, q10_11, by decide +kernel⟩
abbrev rmfX5_clear : Room := { frames := 0, cells := 0, slots := 0, locals := 0 }
def fX5_clear (st : kS) : Int32 × kS := ((gI st 2), (sI st 2 0))
set_option maxRecDepth 100000 in
set_option maxHeartbeats 4000000 in
theorem wX5_clear {G : kG} {E : kE} {a : Nat → Nat} (C : kOk G E cX5_clear RX5 2 rmfX5_clear) {z : Int32 × kS} (Zd : kEnd G E (0, 0) (some .int) (some (.int z.1)) (wX G a z.2)) (st : kS) (h : fX5_clear st = z) : kX G E (0, 0) (wX G a st) 0 [(0, .ref (a 1))] [] := by
  unfold fX5_clear at h
  refine x_aload_n (pc := 0) C 0 dX5_clear_0 rfl rfl ?_
  refine x_get (pc := 1) C inlX5 1 rfl rfl 1 (by decide) q6_5 (v := .int (gI st 2)) rfl dX5_clear_1 ?_
  refine x_istore_n (pc := 4) C (lv' := [(1, .int (gI st 2)), (0, .ref (a 1))]) dX5_clear_4 rfl (by decide) rfl ?_
  refine x_aload_n (pc := 5) C 1 dX5_clear_5 rfl rfl ?_
  refine x_iconst (pc := 6) C 0 dX5_clear_6 (by decide) ?_
  refine x_put (pc := 7) C inlX5 tyX5 tyX5_ok nmX5 1 rfl rfl 1 (by decide) q6_5 rfl .int (v := .int 0) (by decide +kernel) rfl rfl (Nat.le_of_ble_eq_true rfl) (swX_I2 G a _ _) dX5_clear_7 ?_
  refine x_iload_n (pc := 10) C 0 dX5_clear_10 rfl rfl ?_
  subst h
  exact x_iret (pc := 11) C Zd dX5_clear_11
set_option maxRecDepth 100000 in
theorem mX5_clear (G : kG) (a : Nat → Nat) (st : kS)  : kMet G yX5_clear cX5_clear 2 (some .int) rmfX5_clear (0, 0) [.ref (a 1)] (wX G a st) (some (.int (fX5_clear st).1)) (wX G a (fX5_clear st).2) := kMet.mk (by decide +kernel) (Nat.le_of_ble_eq_true rfl) (fun E C Zd => wX5_clear  C Zd  st  rfl)
theorem yvX3_begin : kYV yX3_begin RX3 cX3_begin 2 none 0 := ⟨q10_13, q10_14, q2_1, q10_15, by decide +kernel⟩
abbrev rmfX3_begin_3 : Room := { frames := 1, cells := 0, slots := 0, locals := 22 }
def fX3_begin_3_L2_B (K : Int32 → kS → Option (kS)) (Gc : Int32 → kS → Option (kS)) (st : kS) (v1 : Int32) : Option (kS) := if 6 ≤ v1 then (K v1 st) else (Gc (v1 + 1) (sA (sA st 13 (kp 6 (gA st 13) v1 v1)) 14 (kp 6 (gA st 14) v1 v1)))
set_option maxRecDepth 100000 in
set_option maxHeartbeats 4000000 in
theorem wX3_begin_3_L2_B {G : kG} {E : kE} {a : Nat → Nat} (C : kOk G E cX3_begin RX3 2 rmfX3_begin_3) {z : kS} (Zd : kEnd G E (0, 0) none none (wX G a z)) {K Gc : Int32 → kS → Option (kS)} (st : kS) (v1 : Int32) (hK : ∀ (u1 : Int32) (su : kS), K u1 su = some z → kX G E (0, 0) (wX G a su) 32 [(0, .ref (a 3))] []) (hG : ∀ (u1 : Int32) (su : kS), Gc u1 su = some z → kX G E (0, 0) (wX G a su) 2 [(0, .ref (a 3)), (1, .int u1)] []) (h : fX3_begin_3_L2_B K Gc st v1 = some z) : kX G E (0, 0) (wX G a st) 2 [(0, .ref (a 3)), (1, .int v1)] [] := by
  unfold fX3_begin_3_L2_B at h
  refine x_iload_n (pc := 2) C 1 dX3_begin_2 rfl rfl ?_
  refine x_bipush (pc := 3) C 6 dX3_begin_3 (by decide) ?_
  refine x_icmp_ge (pc := 5) C 32 dX3_begin_5 (by decide) (fun c_1 => ?_) (fun c_1 => ?_)
  · have h := kIp c_1 h
    refine kX.pick [0] (lv' := [(0, .ref (a 3))]) rfl ?_
    exact hK v1 st h
  · have h := kIn c_1 h
    refine x_aload_n (pc := 8) C 0 dX3_begin_8 rfl rfl ?_
    refine x_get (pc := 9) C inlX3 3 rfl rfl 0 (by decide) q3_13 (v := .ref (a 13)) rfl dX3_begin_9 ?_
    refine x_iload_n (pc := 12) C 1 dX3_begin_12 rfl rfl ?_
    refine x_iload_n (pc := 13) C 1 dX3_begin_13 rfl rfl ?_
    refine x_callS (pc := 14) C [.ref (a 13), .int v1, .int v1] (mX0_put G (N := 6) (f := (gA st 13)) 13 (lwX_A13 G a rfl) (by decide) v1 v1 (swX_A13 G a _ _)) ysX0_put q10_17 ⟨Nat.le_of_ble_eq_true rfl, Nat.le_of_ble_eq_true rfl, rfl, rfl⟩ ⟨Nat.zero_le _, Nat.zero_le _⟩ rfl rfl (Nat.le_of_ble_eq_true rfl) rfl dX3_begin_14 ?_
    refine x_aload_n (pc := 17) C 0 dX3_begin_17 rfl rfl ?_
    refine x_get (pc := 18) C inlX3 3 rfl rfl 1 (by decide) q3_14 (v := .ref (a 14)) rfl dX3_begin_18 ?_
    refine x_iload_n (pc := 21) C 1 dX3_begin_21 rfl rfl ?_
    refine x_iload_n (pc := 22) C 1 dX3_begin_22 rfl rfl ?_
    refine x_callS (pc := 23) C [.ref (a 14), .int v1, .int v1] (mX0_put G (N := 6) (f := (gA st 14)) 14 (lwX_A14 G a (gA_n (by decide))) (by decide) v1 v1 (swX_A14 G a _ _)) ysX0_put q10_17 ⟨Nat.le_of_ble_eq_true rfl, Nat.le_of_ble_eq_true rfl, rfl, rfl⟩ ⟨Nat.zero_le _, Nat.zero_le _⟩ rfl rfl (Nat.le_of_ble_eq_true rfl) rfl dX3_begin_23 ?_
    refine x_iinc (pc := 26) C 1 (v := v1 + 1) (lv' := [(1, .int (v1 + 1)), (0, .ref (a 3))]) dX3_begin_26 rfl rfl (by decide) rfl ?_
    refine x_goto (pc := 29) C 2 dX3_begin_29 (by decide) ?_
    refine kX.pick [1, 0] (lv' := [(0, .ref (a 3)), (1, .int (v1 + 1))]) rfl ?_
    exact hG (v1 + 1) (sA (sA st 13 (kp 6 (gA st 13) v1 v1)) 14 (kp 6 (gA st 14) v1 v1)) h
def fX3_begin_3_L2 (K : Int32 → kS → Option (kS)) : Nat → Int32 → kS → Option (kS)
  | 0, _, _ => none
  | F + 1, v1, st => fX3_begin_3_L2_B K (fX3_begin_3_L2 K F) st v1
set_option maxRecDepth 100000 in
set_option maxHeartbeats 4000000 in
theorem wX3_begin_3_L2 {G : kG} {E : kE} {a : Nat → Nat} (C : kOk G E cX3_begin RX3 2 rmfX3_begin_3) {z : kS} (Zd : kEnd G E (0, 0) none none (wX G a z)) {K : Int32 → kS → Option (kS)} (hK : ∀ (u1 : Int32) (su : kS), K u1 su = some z → kX G E (0, 0) (wX G a su) 32 [(0, .ref (a 3))] []) : ∀ (F : Nat) (v1 : Int32) (st : kS), fX3_begin_3_L2 K F v1 st = some z → kX G E (0, 0) (wX G a st) 2 [(0, .ref (a 3)), (1, .int v1)] [] := by
  intro F
  induction F with
  | zero =>
    intro v1 st h
    exact absurd (show none = some z from h) (fun q => by cases q)
  | succ F ih =>
    intro v1 st h
    exact wX3_begin_3_L2_B  C Zd  st v1 hK (fun v1 st h => ih v1 st h) h
def fX3_begin_3 (st : kS) : Option (kS) := fX3_begin_3_L2 (fun v1_2 st_3 => some (sI st_3 7 0)) kFU 0 st
set_option maxRecDepth 100000 in
set_option maxHeartbeats 4000000 in
theorem wX3_begin_3 {G : kG} {E : kE} {a : Nat → Nat} (C : kOk G E cX3_begin RX3 2 rmfX3_begin_3) {z : kS} (Zd : kEnd G E (0, 0) none none (wX G a z)) (st : kS) (h : fX3_begin_3 st = some z) : kX G E (0, 0) (wX G a st) 0 [(0, .ref (a 3))] [] := by
  unfold fX3_begin_3 at h
  refine x_iconst (pc := 0) C 0 dX3_begin_0 (by decide) ?_
  refine x_istore_n (pc := 1) C (lv' := [(1, .int 0), (0, .ref (a 3))]) dX3_begin_1 rfl (by decide) rfl ?_
  refine kX.pick [1, 0] (lv' := [(0, .ref (a 3)), (1, .int 0)]) rfl ?_
  refine wX3_begin_3_L2  C Zd   (fun v1_2 st_3 h => ?_) kFU 0 st h
  refine x_aload_n (pc := 32) C 0 dX3_begin_32 rfl rfl ?_
  refine x_iconst (pc := 33) C 0 dX3_begin_33 (by decide) ?_
  refine x_put (pc := 34) C inlX3 tyX3 tyX3_ok nmX3 3 rfl rfl 3 (by decide) q10_16 rfl .int (v := .int 0) (by decide +kernel) rfl rfl (Nat.le_of_ble_eq_true rfl) (swX_I7 G a _ _) dX3_begin_34 ?_
  obtain rfl := Option.some.inj h
  exact x_vret (pc := 37) C Zd dX3_begin_37
set_option maxRecDepth 100000 in
theorem mX3_begin_3 (G : kG) (a : Nat → Nat) (st : kS)  {z : kS} (h : fX3_begin_3 st = some z) : kMet G yX3_begin cX3_begin 2 none rmfX3_begin_3 (0, 0) [.ref (a 3)] (wX G a st) none (wX G a z) := kMet.mk (by decide +kernel) (Nat.le_of_ble_eq_true rfl) (fun E C Zd => wX3_begin_3  C Zd  st  h)
theorem yvX4_unfold : kYV yX4_unfold RX4 cX4_unfold 8 (some (.array .int)) 1 := ⟨q11_1, q11_2, q1_16, q11_3, by decide +kernel⟩
abbrev rmfX4_unfold : Room := { frames := 1, cells := 0, slots := 0, locals := 22 }
def fX4_unfold_J88 (K : Int32 → kS → Option (kS)) (Gc : Int32 → kS → Option (kS)) (st : kS) (v2 : Int32) (v3 : Int32) (v5 : Int32) (v6 : Int32) (s0 : Int32) (s1 : Int32) : Option (kS) := Gc (v6 + 1) (sA st 18 (kp 6 (gA st 18) s1 s0))
set_option maxRecDepth 100000 in
set_option maxHeartbeats 4000000 in
theorem wX4_unfold_J88 {G : kG} {E : kE} {a : Nat → Nat} (C : kOk G E cX4_unfold RX4 8 rmfX4_unfold) {z : kS} (Zd : kEnd G E (0, 0) (some (.array .int)) (some (.ref (a 18))) (wX G a z)) {K Gc : Int32 → kS → Option (kS)} (st : kS) (v2 : Int32) (v3 : Int32) (v5 : Int32) (v6 : Int32) (s0 : Int32) (s1 : Int32) (hK : ∀ (u6 : Int32) (su : kS), K u6 su = some z → kX G E (0, 0) (wX G a su) 97 [(0, .ref (a 5)), (2, .int v2), (3, .int v3)] []) (hG : ∀ (u6 : Int32) (su : kS), Gc u6 su = some z → kX G E (0, 0) (wX G a su) 46 [(0, .ref (a 5)), (2, .int v2), (3, .int v3), (5, .int v5), (6, .int u6)] []) (h : fX4_unfold_J88 K Gc st v2 v3 v5 v6 s0 s1 = some z) : kX G E (0, 0) (wX G a st) 88 [(0, .ref (a 5)), (2, .int v2), (3, .int v3), (5, .int v5), (6, .int v6)] [.int s0, .int s1, .ref (a 18)] := by
  unfold fX4_unfold_J88 at h
  refine x_callS (pc := 88) C [.ref (a 18), .int s1, .int s0] (mX0_put G (N := 6) (f := (gA st 18)) 18 (lwX_A18 G a rfl) (by decide) s1 s0 (swX_A18 G a _ _)) ysX0_put q11_4 ⟨Nat.le_of_ble_eq_true rfl, Nat.le_of_ble_eq_true rfl, rfl, rfl⟩ ⟨Nat.zero_le _, Nat.zero_le _⟩ rfl rfl (Nat.le_of_ble_eq_true rfl) rfl dX4_unfold_88 ?_
  refine x_iinc (pc := 91) C 4 (v := v6 + 1) (lv' := [(6, .int (v6 + 1)), (0, .ref (a 5)), (2, .int v2), (3, .int v3), (5, .int v5)]) dX4_unfold_91 rfl rfl (by decide) rfl ?_
  refine x_goto (pc := 94) C 46 dX4_unfold_94 (by decide) ?_
  refine kX.pick [1, 2, 3, 4, 0] (lv' := [(0, .ref (a 5)), (2, .int v2), (3, .int v3), (5, .int v5), (6, .int (v6 + 1))]) rfl ?_
  exact hG (v6 + 1) (sA st 18 (kp 6 (gA st 18) s1 s0)) h
def fX4_unfold_L46_B (K : Int32 → kS → Option (kS)) (Gc : Int32 → kS → Option (kS)) (st : kS) (v2 : Int32) (v3 : Int32) (v5 : Int32) (v6 : Int32) : Option (kS) := if (gI st 10) ≤ v6 then (K v6 st) else (if (kg 6 (gA st 18) v6) < v5 then (fX4_unfold_J88 K Gc st v2 v3 v5 v6 (kg 6 (gA st 18) v6) v6) else (fX4_unfold_J88 K Gc st v2 v3 v5 v6 ((kg 6 (gA st 18) v6) + 1) v6))
set_option maxRecDepth 100000 in
set_option maxHeartbeats 4000000 in
theorem wX4_unfold_L46_B {G : kG} {E : kE} {a : Nat → Nat} (C : kOk G E cX4_unfold RX4 8 rmfX4_unfold) {z : kS} (Zd : kEnd G E (0, 0) (some (.array .int)) (some (.ref (a 18))) (wX G a z)) {K Gc : Int32 → kS → Option (kS)} (st : kS) (v2 : Int32) (v3 : Int32) (v5 : Int32) (v6 : Int32) (hK : ∀ (u6 : Int32) (su : kS), K u6 su = some z → kX G E (0, 0) (wX G a su) 97 [(0, .ref (a 5)), (2, .int v2), (3, .int v3)] []) (hG : ∀ (u6 : Int32) (su : kS), Gc u6 su = some z → kX G E (0, 0) (wX G a su) 46 [(0, .ref (a 5)), (2, .int v2), (3, .int v3), (5, .int v5), (6, .int u6)] []) (h : fX4_unfold_L46_B K Gc st v2 v3 v5 v6 = some z) : kX G E (0, 0) (wX G a st) 46 [(0, .ref (a 5)), (2, .int v2), (3, .int v3), (5, .int v5), (6, .int v6)] [] := by
  unfold fX4_unfold_L46_B at h
  refine x_iload (pc := 46) C 4 dX4_unfold_46 rfl ?_
  refine x_aload_n (pc := 48) C 0 dX4_unfold_48 rfl rfl ?_
  refine x_get (pc := 49) C inlX4 5 rfl rfl 2 (by decide) q10_22 (v := .int (gI st 10)) rfl dX4_unfold_49 ?_
  refine x_icmp_ge (pc := 52) C 97 dX4_unfold_52 (by decide) (fun c_3 => ?_) (fun c_3 => ?_)
  · have h := kIp c_3 h
    refine kX.pick [0, 1, 2] (lv' := [(0, .ref (a 5)), (2, .int v2), (3, .int v3)]) rfl ?_
    exact hK v6 st h
  · have h := kIn c_3 h
    refine x_aload_n (pc := 55) C 0 dX4_unfold_55 rfl rfl ?_
    refine x_get (pc := 56) C inlX4 5 rfl rfl 1 (by decide) q3_5 (v := .ref (a 18)) rfl dX4_unfold_56 ?_
    refine x_iload (pc := 59) C 4 dX4_unfold_59 rfl ?_
    refine x_callS (pc := 61) C [.ref (a 18), .int v6] (mX0_get G (N := 6) (f := (gA st 18)) 18 (lwX_A18 G a rfl) (by decide) v6) ysX0_get q11_5 ⟨Nat.le_of_ble_eq_true rfl, Nat.le_of_ble_eq_true rfl, rfl, rfl⟩ ⟨Nat.zero_le _, Nat.zero_le _⟩ rfl rfl (Nat.le_of_ble_eq_true rfl) rfl dX4_unfold_61 ?_
    refine x_istore (pc := 64) C (lv' := [(7, .int (kg 6 (gA st 18) v6)), (0, .ref (a 5)), (2, .int v2), (3, .int v3), (5, .int v5), (6, .int v6)]) dX4_unfold_64 (by decide) rfl ?_
    refine x_aload_n (pc := 66) C 1 dX4_unfold_66 rfl rfl ?_
    refine x_get (pc := 67) C inlX4 5 rfl rfl 1 (by decide) q3_5 (v := .ref (a 18)) rfl dX4_unfold_67 ?_
    refine x_iload (pc := 70) C 5 dX4_unfold_70 rfl ?_
    refine x_iload (pc := 72) C 0 dX4_unfold_72 rfl ?_
    refine x_iload (pc := 74) C 4 dX4_unfold_74 rfl ?_
    refine x_icmp_lt (pc := 76) C 86 dX4_unfold_76 (by decide) (fun c_4 => ?_) (fun c_4 => ?_)
    · have h := kIp c_4 h
      refine x_iload (pc := 86) C 0 dX4_unfold_86 rfl ?_
      refine kX.pick [1, 2, 3, 4, 5] (lv' := [(0, .ref (a 5)), (2, .int v2), (3, .int v3), (5, .int v5), (6, .int v6)]) rfl ?_
      exact wX4_unfold_J88  C Zd  st v2 v3 v5 v6 (kg 6 (gA st 18) v6) v6 hK hG h
    · have h := kIn c_4 h
      refine x_iload (pc := 79) C 0 dX4_unfold_79 rfl ?_
      refine x_iconst (pc := 81) C 1 dX4_unfold_81 (by decide) ?_
      refine x_iadd (pc := 82) C dX4_unfold_82 ?_
      refine x_goto (pc := 83) C 88 dX4_unfold_83 (by decide) ?_
      refine kX.pick [1, 2, 3, 4, 5] (lv' := [(0, .ref (a 5)), (2, .int v2), (3, .int v3), (5, .int v5), (6, .int v6)]) rfl ?_
      exact wX4_unfold_J88  C Zd  st v2 v3 v5 v6 ((kg 6 (gA st 18) v6) + 1) v6 hK hG h
def fX4_unfold_L46 (K : Int32 → kS → Option (kS)) (v2 : Int32) (v3 : Int32) (v5 : Int32) : Nat → Int32 → kS → Option (kS)
  | 0, _, _ => none
  | F + 1, v6, st => fX4_unfold_L46_B K (fX4_unfold_L46 K v2 v3 v5 F) st v2 v3 v5 v6
set_option maxRecDepth 100000 in
set_option maxHeartbeats 4000000 in
theorem wX4_unfold_L46 {G : kG} {E : kE} {a : Nat → Nat} (C : kOk G E cX4_unfold RX4 8 rmfX4_unfold) {z : kS} (Zd : kEnd G E (0, 0) (some (.array .int)) (some (.ref (a 18))) (wX G a z)) {K : Int32 → kS → Option (kS)} (v2 : Int32) (v3 : Int32) (v5 : Int32) (hK : ∀ (u6 : Int32) (su : kS), K u6 su = some z → kX G E (0, 0) (wX G a su) 97 [(0, .ref (a 5)), (2, .int v2), (3, .int v3)] []) : ∀ (F : Nat) (v6 : Int32) (st : kS), fX4_unfold_L46 K v2 v3 v5 F v6 st = some z → kX G E (0, 0) (wX G a st) 46 [(0, .ref (a 5)), (2, .int v2), (3, .int v3), (5, .int v5), (6, .int v6)] [] := by
  intro F
  induction F with
  | zero =>
    intro v6 st h
    exact absurd (show none = some z from h) (fun q => by cases q)
  | succ F ih =>
    intro v6 st h
    exact wX4_unfold_L46_B  C Zd  st v2 v3 v5 v6 hK (fun v6 st h => ih v6 st h) h
def fX4_unfold_L4_B (K : Int32 → Int32 → kS → Option (kS)) (Gc : Int32 → Int32 → kS → Option (kS)) (st : kS) (v2 : Int32) (v3 : Int32) : Option (kS) := if (gI st 10) < v3 then (K v2 v3 st) else (if v3 = 0 then none else fX4_unfold_L46 (fun v6_5 st_6 => Gc (v2 / v3) (v3 + 1) st_6) (v2 / v3) v3 (kr v2 v3) kFU (((gI st 10) - v3) + 1) (sA st 18 (kp 6 (gA st 18) ((gI st 10) - v3) (kr v2 v3))))
set_option maxRecDepth 100000 in
set_option maxHeartbeats 4000000 in
theorem wX4_unfold_L4_B {G : kG} {E : kE} {a : Nat → Nat} (C : kOk G E cX4_unfold RX4 8 rmfX4_unfold) {z : kS} (Zd : kEnd G E (0, 0) (some (.array .int)) (some (.ref (a 18))) (wX G a z)) {K Gc : Int32 → Int32 → kS → Option (kS)} (st : kS) (v2 : Int32) (v3 : Int32) (hK : ∀ (u2 : Int32) (u3 : Int32) (su : kS), K u2 u3 su = some z → kX G E (0, 0) (wX G a su) 103 [(0, .ref (a 5))] []) (hG : ∀ (u2 : Int32) (u3 : Int32) (su : kS), Gc u2 u3 su = some z → kX G E (0, 0) (wX G a su) 4 [(0, .ref (a 5)), (2, .int u2), (3, .int u3)] []) (h : fX4_unfold_L4_B K Gc st v2 v3 = some z) : kX G E (0, 0) (wX G a st) 4 [(0, .ref (a 5)), (2, .int v2), (3, .int v3)] [] := by
  unfold fX4_unfold_L4_B at h
  refine x_iload_n (pc := 4) C 2 dX4_unfold_4 rfl rfl ?_
  refine x_aload_n (pc := 5) C 0 dX4_unfold_5 rfl rfl ?_
  refine x_get (pc := 6) C inlX4 5 rfl rfl 2 (by decide) q10_22 (v := .int (gI st 10)) rfl dX4_unfold_6 ?_
  refine x_icmp_gt (pc := 9) C 103 dX4_unfold_9 (by decide) (fun c_1 => ?_) (fun c_1 => ?_)
  · have h := kIp c_1 h
    refine kX.pick [0] (lv' := [(0, .ref (a 5))]) rfl ?_
    exact hK v2 v3 st h
  · have h := kIn c_1 h
    refine x_aload_n (pc := 12) C 0 dX4_unfold_12 rfl rfl ?_
    refine x_get (pc := 13) C inlX4 5 rfl rfl 2 (by decide) q10_22 (v := .int (gI st 10)) rfl dX4_unfold_13 ?_
    refine x_iload_n (pc := 16) C 2 dX4_unfold_16 rfl rfl ?_
    refine x_isub (pc := 17) C dX4_unfold_17 ?_
    refine x_istore (pc := 18) C (lv' := [(4, .int ((gI st 10) - v3)), (0, .ref (a 5)), (2, .int v2), (3, .int v3)]) dX4_unfold_18 (by decide) rfl ?_
    refine x_iload_n (pc := 20) C 2 dX4_unfold_20 rfl rfl ?_
    refine x_iload_n (pc := 21) C 3 dX4_unfold_21 rfl rfl ?_
    obtain ⟨c_2, h⟩ := kGd h
    refine y_irem (pc := 22) C dX4_unfold_22 c_2 ?_
    refine x_istore (pc := 23) C (lv' := [(5, .int (kr v2 v3)), (4, .int ((gI st 10) - v3)), (0, .ref (a 5)), (2, .int v2), (3, .int v3)]) dX4_unfold_23 (by decide) rfl ?_
    refine x_iload_n (pc := 25) C 3 dX4_unfold_25 rfl rfl ?_
    refine x_iload_n (pc := 26) C 4 dX4_unfold_26 rfl rfl ?_
    refine y_idiv (pc := 27) C dX4_unfold_27 c_2 ?_
    refine x_istore_n (pc := 28) C (lv' := [(2, .int (v2 / v3)), (5, .int (kr v2 v3)), (4, .int ((gI st 10) - v3)), (0, .ref (a 5)), (3, .int v3)]) dX4_unfold_28 rfl (by decide) rfl ?_
    refine x_aload_n (pc := 29) C 3 dX4_unfold_29 rfl rfl ?_
    refine x_get (pc := 30) C inlX4 5 rfl rfl 1 (by decide) q3_5 (v := .ref (a 18)) rfl dX4_unfold_30 ?_
    refine x_iload (pc := 33) C 2 dX4_unfold_33 rfl ?_
    refine x_iload (pc := 35) C 1 dX4_unfold_35 rfl ?_
    refine x_callS (pc := 37) C [.ref (a 18), .int ((gI st 10) - v3), .int (kr v2 v3)] (mX0_put G (N := 6) (f := (gA st 18)) 18 (lwX_A18 G a rfl) (by decide) ((gI st 10) - v3) (kr v2 v3) (swX_A18 G a _ _)) ysX0_put q11_4 ⟨Nat.le_of_ble_eq_true rfl, Nat.le_of_ble_eq_true rfl, rfl, rfl⟩ ⟨Nat.zero_le _, Nat.zero_le _⟩ rfl rfl (Nat.le_of_ble_eq_true rfl) rfl dX4_unfold_37 ?_
    refine x_iload (pc := 40) C 2 dX4_unfold_40 rfl ?_
    refine x_iconst (pc := 42) C 1 dX4_unfold_42 (by decide) ?_
    refine x_iadd (pc := 43) C dX4_unfold_43 ?_
    refine x_istore (pc := 44) C (lv' := [(6, .int (((gI st 10) - v3) + 1)), (2, .int (v2 / v3)), (5, .int (kr v2 v3)), (4, .int ((gI st 10) - v3)), (0, .ref (a 5)), (3, .int v3)]) dX4_unfold_44 (by decide) rfl ?_
    refine kX.pick [4, 1, 5, 2, 0] (lv' := [(0, .ref (a 5)), (2, .int (v2 / v3)), (3, .int v3), (5, .int (kr v2 v3)), (6, .int (((gI st 10) - v3) + 1))]) rfl ?_
    refine wX4_unfold_L46  C Zd  (v2 / v3) v3 (kr v2 v3) (fun v6_5 st_6 h => ?_) kFU (((gI st 10) - v3) + 1) (sA st 18 (kp 6 (gA st 18) ((gI st 10) - v3) (kr v2 v3))) h
    refine x_iinc (pc := 97) C 2 (v := v3 + 1) (lv' := [(3, .int (v3 + 1)), (0, .ref (a 5)), (2, .int (v2 / v3))]) dX4_unfold_97 rfl rfl (by decide) rfl ?_
    refine x_goto (pc := 100) C 4 dX4_unfold_100 (by decide) ?_
    refine kX.pick [1, 2, 0] (lv' := [(0, .ref (a 5)), (2, .int (v2 / v3)), (3, .int (v3 + 1))]) rfl ?_
    exact hG (v2 / v3) (v3 + 1) st_6 h
def fX4_unfold_L4 (K : Int32 → Int32 → kS → Option (kS)) : Nat → Int32 → Int32 → kS → Option (kS)
  | 0, _, _, _ => none
  | F + 1, v2, v3, st => fX4_unfold_L4_B K (fX4_unfold_L4 K F) st v2 v3
set_option maxRecDepth 100000 in
set_option maxHeartbeats 4000000 in
theorem wX4_unfold_L4 {G : kG} {E : kE} {a : Nat → Nat} (C : kOk G E cX4_unfold RX4 8 rmfX4_unfold) {z : kS} (Zd : kEnd G E (0, 0) (some (.array .int)) (some (.ref (a 18))) (wX G a z)) {K : Int32 → Int32 → kS → Option (kS)} (hK : ∀ (u2 : Int32) (u3 : Int32) (su : kS), K u2 u3 su = some z → kX G E (0, 0) (wX G a su) 103 [(0, .ref (a 5))] []) : ∀ (F : Nat) (v2 : Int32) (v3 : Int32) (st : kS), fX4_unfold_L4 K F v2 v3 st = some z → kX G E (0, 0) (wX G a st) 4 [(0, .ref (a 5)), (2, .int v2), (3, .int v3)] [] := by
  intro F
  induction F with
  | zero =>
    intro v2 v3 st h
    exact absurd (show none = some z from h) (fun q => by cases q)
  | succ F ih =>
    intro v2 v3 st h
    exact wX4_unfold_L4_B  C Zd  st v2 v3 hK (fun v2 v3 st h => ih v2 v3 st h) h
def fX4_unfold (st : kS) (x1 : Int32) : Option (kS) := fX4_unfold_L4 (fun v2_7 v3_8 st_9 => some st_9) kFU x1 1 st
set_option maxRecDepth 100000 in
set_option maxHeartbeats 4000000 in
theorem wX4_unfold {G : kG} {E : kE} {a : Nat → Nat} (C : kOk G E cX4_unfold RX4 8 rmfX4_unfold) {z : kS} (Zd : kEnd G E (0, 0) (some (.array .int)) (some (.ref (a 18))) (wX G a z)) (st : kS) (x1 : Int32) (h : fX4_unfold st x1 = some z) : kX G E (0, 0) (wX G a st) 0 [(0, .ref (a 5)), (1, .int x1)] [] := by
  unfold fX4_unfold at h
  refine x_iload_n (pc := 0) C 1 dX4_unfold_0 rfl rfl ?_
  refine x_istore_n (pc := 1) C (lv' := [(2, .int x1), (0, .ref (a 5)), (1, .int x1)]) dX4_unfold_1 rfl (by decide) rfl ?_
  refine x_iconst (pc := 2) C 1 dX4_unfold_2 (by decide) ?_
  refine x_istore_n (pc := 3) C (lv' := [(3, .int 1), (2, .int x1), (0, .ref (a 5)), (1, .int x1)]) dX4_unfold_3 rfl (by decide) rfl ?_
  refine kX.pick [2, 1, 0] (lv' := [(0, .ref (a 5)), (2, .int x1), (3, .int 1)]) rfl ?_
  refine wX4_unfold_L4  C Zd   (fun v2_7 v3_8 st_9 h => ?_) kFU x1 1 st h
  refine x_aload_n (pc := 103) C 0 dX4_unfold_103 rfl rfl ?_
  refine x_get (pc := 104) C inlX4 5 rfl rfl 1 (by decide) q3_5 (v := .ref (a 18)) rfl dX4_unfold_104 ?_
  obtain rfl := Option.some.inj h
  exact x_aret (pc := 107) C Zd dX4_unfold_107
set_option maxRecDepth 100000 in
theorem mX4_unfold (G : kG) (a : Nat → Nat) (st : kS) (x1 : Int32) {z : kS} (h : fX4_unfold st x1 = some z) : kMet G yX4_unfold cX4_unfold 8 (some (.array .int)) rmfX4_unfold (0, 0) [.ref (a 5), .int x1] (wX G a st) (some (.ref (a 18))) (wX G a z) := kMet.mk (by decide +kernel) (Nat.le_of_ble_eq_true rfl) (fun E C Zd => wX4_unfold  C Zd  st x1 h)
theorem yvX4_change : kYV yX4_change RX4 cX4_change 4 none 2 := ⟨q11_7, q11_8, q1_16, q11_9, by decide +kernel⟩
abbrev rmfX4_change : Room := { frames := 1, cells := 0, slots := 0, locals := 22 }
def fX4_change (st : kS) (x1 : Int32) (x2 : Int32) : kS := (sA (sA st 18 (kp 6 (gA st 18) x1 (kg 6 (gA st 18) x2))) 18 (kp 6 (kp 6 (gA st 18) x1 (kg 6 (gA st 18) x2)) x2 (kg 6 (gA st 18) x1)))
set_option maxRecDepth 100000 in
set_option maxHeartbeats 4000000 in
theorem wX4_change {G : kG} {E : kE} {a : Nat → Nat} (C : kOk G E cX4_change RX4 4 rmfX4_change) {z : kS} (Zd : kEnd G E (0, 0) none none (wX G a z)) (st : kS) (x1 : Int32) (x2 : Int32) (h : fX4_change st x1 x2 = z) : kX G E (0, 0) (wX G a st) 0 [(0, .ref (a 5)), (1, .int x1), (2, .int x2)] [] := by
  unfold fX4_change at h
  refine x_aload_n (pc := 0) C 0 dX4_change_0 rfl rfl ?_
  refine x_get (pc := 1) C inlX4 5 rfl rfl 1 (by decide) q3_5 (v := .ref (a 18)) rfl dX4_change_1 ?_
  refine x_iload_n (pc := 4) C 1 dX4_change_4 rfl rfl ?_
  refine x_callS (pc := 5) C [.ref (a 18), .int x1] (mX0_get G (N := 6) (f := (gA st 18)) 18 (lwX_A18 G a rfl) (by decide) x1) ysX0_get q11_5 ⟨Nat.le_of_ble_eq_true rfl, Nat.le_of_ble_eq_true rfl, rfl, rfl⟩ ⟨Nat.zero_le _, Nat.zero_le _⟩ rfl rfl (Nat.le_of_ble_eq_true rfl) rfl dX4_change_5 ?_
  refine x_istore_n (pc := 8) C (lv' := [(3, .int (kg 6 (gA st 18) x1)), (0, .ref (a 5)), (1, .int x1), (2, .int x2)]) dX4_change_8 rfl (by decide) rfl ?_
  refine x_aload_n (pc := 9) C 1 dX4_change_9 rfl rfl ?_
  refine x_get (pc := 10) C inlX4 5 rfl rfl 1 (by decide) q3_5 (v := .ref (a 18)) rfl dX4_change_10 ?_
  refine x_iload_n (pc := 13) C 2 dX4_change_13 rfl rfl ?_
  refine x_aload_n (pc := 14) C 1 dX4_change_14 rfl rfl ?_
  refine x_get (pc := 15) C inlX4 5 rfl rfl 1 (by decide) q3_5 (v := .ref (a 18)) rfl dX4_change_15 ?_
  refine x_iload_n (pc := 18) C 3 dX4_change_18 rfl rfl ?_
  refine x_callS (pc := 19) C [.ref (a 18), .int x2] (mX0_get G (N := 6) (f := (gA st 18)) 18 (lwX_A18 G a rfl) (by decide) x2) ysX0_get q11_5 ⟨Nat.le_of_ble_eq_true rfl, Nat.le_of_ble_eq_true rfl, rfl, rfl⟩ ⟨Nat.zero_le _, Nat.zero_le _⟩ rfl rfl (Nat.le_of_ble_eq_true rfl) rfl dX4_change_19 ?_
  refine x_callS (pc := 22) C [.ref (a 18), .int x1, .int (kg 6 (gA st 18) x2)] (mX0_put G (N := 6) (f := (gA st 18)) 18 (lwX_A18 G a rfl) (by decide) x1 (kg 6 (gA st 18) x2) (swX_A18 G a _ _)) ysX0_put q11_4 ⟨Nat.le_of_ble_eq_true rfl, Nat.le_of_ble_eq_true rfl, rfl, rfl⟩ ⟨Nat.zero_le _, Nat.zero_le _⟩ rfl rfl (Nat.le_of_ble_eq_true rfl) rfl dX4_change_22 ?_
  refine x_aload_n (pc := 25) C 1 dX4_change_25 rfl rfl ?_
  refine x_get (pc := 26) C inlX4 5 rfl rfl 1 (by decide) q3_5 (v := .ref (a 18)) rfl dX4_change_26 ?_
  refine x_iload_n (pc := 29) C 3 dX4_change_29 rfl rfl ?_
  refine x_iload_n (pc := 30) C 0 dX4_change_30 rfl rfl ?_
  refine x_callS (pc := 31) C [.ref (a 18), .int x2, .int (kg 6 (gA st 18) x1)] (mX0_put G (N := 6) (f := (kp 6 (gA st 18) x1 (kg 6 (gA st 18) x2))) 18 (lwX_A18 G a (gA_e _ _ _)) (by decide) x2 (kg 6 (gA st 18) x1) (swX_A18 G a _ _)) ysX0_put q11_4 ⟨Nat.le_of_ble_eq_true rfl, Nat.le_of_ble_eq_true rfl, rfl, rfl⟩ ⟨Nat.zero_le _, Nat.zero_le _⟩ rfl rfl (Nat.le_of_ble_eq_true rfl) rfl dX4_change_31 ?_
  subst h
  exact x_vret (pc := 34) C Zd dX4_change_34
set_option maxRecDepth 100000 in
theorem mX4_change (G : kG) (a : Nat → Nat) (st : kS) (x1 : Int32) (x2 : Int32) : kMet G yX4_change cX4_change 4 none rmfX4_change (0, 0) [.ref (a 5), .int x1, .int x2] (wX G a st) none (wX G a (fX4_change st x1 x2)) := kMet.mk (by decide +kernel) (Nat.le_of_ble_eq_true rfl) (fun E C Zd => wX4_change  C Zd  st x1 x2 rfl)
