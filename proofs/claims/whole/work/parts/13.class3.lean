theorem ysX3_placeIn : kYS yX3_placeIn cX3_placeIn 4 (some .int) 3 := ⟨q18_11, q2_3, q18_12, by decide +kernel⟩
abbrev rmfX3_placeIn : Room := { frames := 1, cells := 0, slots := 0, locals := 21 }
def fX3_placeIn_L2_B (K : Int32 → Option (Int32)) (Gc : Int32 → Option (Int32)) (N0 : Nat) (f0 : Nat → Int32) (v1 : Int32) (v2 : Int32) (v3 : Int32) : Option (Int32) := if v2 ≤ v3 then (K v3) else (if (kg N0 f0 v3) = v1 then (some v3) else (Gc (v3 + 1)))
set_option maxRecDepth 100000 in
set_option maxHeartbeats 4000000 in
theorem wX3_placeIn_L2_B {G : kG} {E : kE} {ws : va_W} {q0 a0 N0 : Nat} {f0 : Nat → Int32} (hN0 : N0 < 2 ^ 31) (C : kOk G E cX3_placeIn RX3 4 rmfX3_placeIn) {z : Int32} (Zd : kEnd G E (0, 0) (some .int) (some (.int z)) ws) (hq0 : ws[q0]? = some (a0, .inl (G.2.1, N0, .inl f0))) {K Gc : Int32 → Option (Int32)} (v1 : Int32) (v2 : Int32) (v3 : Int32) (hK : ∀ (u3 : Int32), K u3 = some z → kX G E (0, 0) ws 24 [] []) (hG : ∀ (u3 : Int32), Gc u3 = some z → kX G E (0, 0) ws 2 [(0, .ref a0), (1, .int v1), (2, .int v2), (3, .int u3)] []) (h : fX3_placeIn_L2_B K Gc N0 f0 v1 v2 v3 = some z) : kX G E (0, 0) ws 2 [(0, .ref a0), (1, .int v1), (2, .int v2), (3, .int v3)] [] := by
  unfold fX3_placeIn_L2_B at h
  refine x_iload_n (pc := 2) C 3 dX3_placeIn_2 rfl rfl ?_
  refine x_iload_n (pc := 3) C 2 dX3_placeIn_3 rfl rfl ?_
  refine x_icmp_ge (pc := 4) C 24 dX3_placeIn_4 (by decide) (fun c_1 => ?_) (fun c_1 => ?_)
  · have h := kIp c_1 h
    refine kX.pick [] (lv' := []) rfl ?_
    exact hK v3 h
  · have h := kIn c_1 h
    refine x_aload_n (pc := 7) C 0 dX3_placeIn_7 rfl rfl ?_
    refine x_iload_n (pc := 8) C 3 dX3_placeIn_8 rfl rfl ?_
    refine x_callS (pc := 9) C [.ref a0, .int v3] (mX0_get G (N := N0) (f := f0) q0 hq0 hN0 v3) ysX0_get q18_13 ⟨Nat.le_of_ble_eq_true rfl, Nat.le_of_ble_eq_true rfl, rfl, rfl⟩ ⟨Nat.zero_le _, Nat.zero_le _⟩ rfl rfl (Nat.le_of_ble_eq_true rfl) rfl dX3_placeIn_9 ?_
    refine x_iload_n (pc := 12) C 1 dX3_placeIn_12 rfl rfl ?_
    refine x_icmp_ne (pc := 13) C 18 dX3_placeIn_13 (by decide) (fun c_2 => ?_) (fun c_2 => ?_)
    · have h := kIn c_2 h
      refine x_iinc (pc := 18) C 3 (v := v3 + 1) (lv' := [(3, .int (v3 + 1)), (0, .ref a0), (1, .int v1), (2, .int v2)]) dX3_placeIn_18 rfl rfl (by decide) rfl ?_
      refine x_goto (pc := 21) C 2 dX3_placeIn_21 (by decide) ?_
      refine kX.pick [1, 2, 3, 0] (lv' := [(0, .ref a0), (1, .int v1), (2, .int v2), (3, .int (v3 + 1))]) rfl ?_
      exact hG (v3 + 1) h
    · have h := kIp c_2 h
      refine x_iload_n (pc := 16) C 3 dX3_placeIn_16 rfl rfl ?_
      obtain rfl := Option.some.inj h
      exact x_iret (pc := 17) C Zd dX3_placeIn_17
def fX3_placeIn_L2 (K : Int32 → Option (Int32)) (N0 : Nat) (f0 : Nat → Int32) (v1 : Int32) (v2 : Int32) : Nat → Int32 → Option (Int32)
  | 0, _ => none
  | F + 1, v3 => fX3_placeIn_L2_B K (fX3_placeIn_L2 K N0 f0 v1 v2 F) N0 f0 v1 v2 v3
set_option maxRecDepth 100000 in
set_option maxHeartbeats 4000000 in
theorem wX3_placeIn_L2 {G : kG} {E : kE} {ws : va_W} {q0 a0 N0 : Nat} {f0 : Nat → Int32} (hN0 : N0 < 2 ^ 31) (C : kOk G E cX3_placeIn RX3 4 rmfX3_placeIn) {z : Int32} (Zd : kEnd G E (0, 0) (some .int) (some (.int z)) ws) (hq0 : ws[q0]? = some (a0, .inl (G.2.1, N0, .inl f0))) {K : Int32 → Option (Int32)} (v1 : Int32) (v2 : Int32) (hK : ∀ (u3 : Int32), K u3 = some z → kX G E (0, 0) ws 24 [] []) : ∀ (F : Nat) (v3 : Int32), fX3_placeIn_L2 K N0 f0 v1 v2 F v3 = some z → kX G E (0, 0) ws 2 [(0, .ref a0), (1, .int v1), (2, .int v2), (3, .int v3)] [] := by
  intro F
  induction F with
  | zero =>
    intro v3 h
    exact absurd (show none = some z from h) (fun q => by cases q)
  | succ F ih =>
    intro v3 h
    exact wX3_placeIn_L2_B hN0 C Zd hq0 v1 v2 v3 hK (fun v3 h => ih v3 h) h
def fX3_placeIn (N0 : Nat) (f0 : Nat → Int32) (x1 : Int32) (x2 : Int32) : Option (Int32) := fX3_placeIn_L2 (fun v3_3 => some (-1)) N0 f0 x1 x2 kFU 0
set_option maxRecDepth 100000 in
set_option maxHeartbeats 4000000 in
theorem wX3_placeIn {G : kG} {E : kE} {ws : va_W} {q0 a0 N0 : Nat} {f0 : Nat → Int32} (hN0 : N0 < 2 ^ 31) (C : kOk G E cX3_placeIn RX3 4 rmfX3_placeIn) {z : Int32} (Zd : kEnd G E (0, 0) (some .int) (some (.int z)) ws) (hq0 : ws[q0]? = some (a0, .inl (G.2.1, N0, .inl f0))) (x1 : Int32) (x2 : Int32) (h : fX3_placeIn N0 f0 x1 x2 = some z) : kX G E (0, 0) ws 0 [(0, .ref a0), (1, .int x1), (2, .int x2)] [] := by
  unfold fX3_placeIn at h
  refine x_iconst (pc := 0) C 0 dX3_placeIn_0 (by decide) ?_
  refine x_istore_n (pc := 1) C (lv' := [(3, .int 0), (0, .ref a0), (1, .int x1), (2, .int x2)]) dX3_placeIn_1 rfl (by decide) rfl ?_
  refine kX.pick [1, 2, 3, 0] (lv' := [(0, .ref a0), (1, .int x1), (2, .int x2), (3, .int 0)]) rfl ?_
  refine wX3_placeIn_L2 hN0 C Zd hq0 x1 x2 (fun v3_3 h => ?_) kFU 0 h
  refine x_iconst (pc := 24) C (-1) dX3_placeIn_24 (by decide) ?_
  obtain rfl := Option.some.inj h
  exact x_iret (pc := 25) C Zd dX3_placeIn_25
set_option maxRecDepth 100000 in
theorem mX3_placeIn (G : kG) {ws : va_W} {a0 : Nat} {N : Nat} {f : Nat → Int32} (q0 : Nat) (hq0 : ws[q0]? = some (a0, .inl (G.2.1, N, .inl f))) (hN0 : N < 2 ^ 31) (x1 : Int32) (x2 : Int32) {z : Int32} (h : fX3_placeIn N f x1 x2 = some z) : kMet G yX3_placeIn cX3_placeIn 4 (some .int) rmfX3_placeIn (0, 0) [.ref a0, .int x1, .int x2] ws (some (.int z)) ws := kMet.mk (by decide +kernel) (Nat.le_of_ble_eq_true rfl) (fun E C Zd => wX3_placeIn hN0 C Zd hq0 x1 x2 h)
theorem yvX3_placeOf : kYV yX3_placeOf RX3 cX3_placeOf 3 (some .int) 2 := ⟨q18_7, q18_8, q2_3, q18_9, by decide +kernel⟩
abbrev rmfX3_placeOf_3 : Room := { frames := 2, cells := 0, slots := 0, locals := 44 }
def fX3_placeOf_3 (st : kS) (x1 : Int32) (x2 : Int32) : Option (Int32) := (fX3_placeIn 6 (gA st 13) x1 x2).bind (fun z_1 => some z_1)
set_option maxRecDepth 100000 in
set_option maxHeartbeats 4000000 in
theorem wX3_placeOf_3 {G : kG} {E : kE} {a : Nat → Nat} {st0 : kS} (C : kOk G E cX3_placeOf RX3 3 rmfX3_placeOf_3) {z : Int32} (Zd : kEnd G E (0, 0) (some .int) (some (.int z)) (wX G a st0)) (x1 : Int32) (x2 : Int32) (h : fX3_placeOf_3 st0 x1 x2 = some z) : kX G E (0, 0) (wX G a st0) 0 [(0, .ref (a 3)), (1, .int x1), (2, .int x2)] [] := by
  unfold fX3_placeOf_3 at h
  refine x_aload_n (pc := 0) C 0 dX3_placeOf_0 rfl rfl ?_
  refine x_get (pc := 1) C inlX3 3 rfl rfl 0 (by decide) q3_16 (v := .ref (a 13)) rfl dX3_placeOf_1 ?_
  refine x_iload_n (pc := 4) C 1 dX3_placeOf_4 rfl rfl ?_
  refine x_iload_n (pc := 5) C 2 dX3_placeOf_5 rfl rfl ?_
  obtain ⟨z_1, hz_1, h⟩ := kB h
  refine x_callS (pc := 6) C [.ref (a 13), .int x1, .int x2] (mX3_placeIn G (N := 6) (f := (gA st0 13)) 13 (lwX_A13 G a rfl) (by decide) x1 x2 hz_1) ysX3_placeIn q18_10 ⟨Nat.le_of_ble_eq_true rfl, Nat.le_of_ble_eq_true rfl, rfl, rfl⟩ ⟨Nat.zero_le _, Nat.zero_le _⟩ rfl rfl (Nat.le_of_ble_eq_true rfl) rfl dX3_placeOf_6 ?_
  obtain rfl := Option.some.inj h
  exact x_iret (pc := 9) C Zd dX3_placeOf_9
set_option maxRecDepth 100000 in
theorem mX3_placeOf_3 (G : kG) (a : Nat → Nat) (st : kS) (x1 : Int32) (x2 : Int32) {z : Int32} (h : fX3_placeOf_3 st x1 x2 = some z) : kMet G yX3_placeOf cX3_placeOf 3 (some .int) rmfX3_placeOf_3 (0, 0) [.ref (a 3), .int x1, .int x2] (wX G a st) (some (.int z)) (wX G a st) := kMet.mk (by decide +kernel) (Nat.le_of_ble_eq_true rfl) (fun E C Zd => wX3_placeOf_3  C Zd  x1 x2 h)
theorem yvX8_beside : kYV yX8_beside RX8 cX8_beside 3 (some .boolean) 2 := ⟨q19_7, q19_8, q1_15, q19_9, by decide +kernel⟩
abbrev rmfX8_beside : Room := { frames := 1, cells := 0, slots := 0, locals := 21 }
def fX8_beside (st : kS) (x1 : Int32) (x2 : Int32) : Int32 := if (fX8_next st x1) = x2 then (1) else (if (fX8_next st x2) = x1 then (1) else (0))
set_option maxRecDepth 100000 in
set_option maxHeartbeats 4000000 in
theorem wX8_beside {G : kG} {E : kE} {a : Nat → Nat} {st0 : kS} (C : kOk G E cX8_beside RX8 3 rmfX8_beside) {z : Int32} (Zd : kEnd G E (0, 0) (some .boolean) (some (.int z)) (wX G a st0)) (x1 : Int32) (x2 : Int32) (h : fX8_beside st0 x1 x2 = z) : kX G E (0, 0) (wX G a st0) 0 [(0, .ref (a 2)), (1, .int x1), (2, .int x2)] [] := by
  unfold fX8_beside at h
  refine x_aload_n (pc := 0) C 0 dX8_beside_0 rfl rfl ?_
  refine x_iload_n (pc := 1) C 1 dX8_beside_1 rfl rfl ?_
  refine x_callV (pc := 2) C 2 [.int x1] rfl rfl (mX8_next G a st0 x1) yvX8_next q12_17 ⟨Nat.le_of_ble_eq_true rfl, Nat.le_of_ble_eq_true rfl, rfl, rfl⟩ ⟨Nat.zero_le _, Nat.zero_le _⟩ rfl rfl (Nat.le_of_ble_eq_true rfl) rfl dX8_beside_2 ?_
  refine x_iload_n (pc := 5) C 2 dX8_beside_5 rfl rfl ?_
  refine x_icmp_eq (pc := 6) C 18 dX8_beside_6 (by decide) (fun c_1 => ?_) (fun c_1 => ?_)
  · have h := kIp c_1 h
    refine x_iconst (pc := 18) C 1 dX8_beside_18 (by decide) ?_
    refine x_goto (pc := 19) C 23 dX8_beside_19 (by decide) ?_
    subst h
    exact x_zret (pc := 23) C rfl Zd dX8_beside_23
  · have h := kIn c_1 h
    refine x_aload_n (pc := 9) C 0 dX8_beside_9 rfl rfl ?_
    refine x_iload_n (pc := 10) C 2 dX8_beside_10 rfl rfl ?_
    refine x_callV (pc := 11) C 2 [.int x2] rfl rfl (mX8_next G a st0 x2) yvX8_next q12_17 ⟨Nat.le_of_ble_eq_true rfl, Nat.le_of_ble_eq_true rfl, rfl, rfl⟩ ⟨Nat.zero_le _, Nat.zero_le _⟩ rfl rfl (Nat.le_of_ble_eq_true rfl) rfl dX8_beside_11 ?_
    refine x_iload_n (pc := 14) C 1 dX8_beside_14 rfl rfl ?_
    refine x_icmp_ne (pc := 15) C 22 dX8_beside_15 (by decide) (fun c_2 => ?_) (fun c_2 => ?_)
    · have h := kIn c_2 h
      refine x_iconst (pc := 22) C 0 dX8_beside_22 (by decide) ?_
      subst h
      exact x_zret (pc := 23) C rfl Zd dX8_beside_23
    · have h := kIp c_2 h
      refine x_iconst (pc := 18) C 1 dX8_beside_18 (by decide) ?_
      refine x_goto (pc := 19) C 23 dX8_beside_19 (by decide) ?_
      subst h
      exact x_zret (pc := 23) C rfl Zd dX8_beside_23
set_option maxRecDepth 100000 in
theorem mX8_beside (G : kG) (a : Nat → Nat) (st : kS) (x1 : Int32) (x2 : Int32) : kMet G yX8_beside cX8_beside 3 (some .boolean) rmfX8_beside (0, 0) [.ref (a 2), .int x1, .int x2] (wX G a st) (some (.int (fX8_beside st x1 x2))) (wX G a st) := kMet.mk (by decide +kernel) (Nat.le_of_ble_eq_true rfl) (fun E C Zd => wX8_beside  C Zd  x1 x2 rfl)
theorem yvX3_houseIn : kYV yX3_houseIn RX3 cX3_houseIn 2 (some .int) 1 := ⟨q18_23, q19_0, q2_3, q19_1, by decide +kernel⟩
abbrev rmfX3_houseIn_3 : Room := { frames := 1, cells := 0, slots := 0, locals := 21 }
def fX3_houseIn_3 (st : kS) (x1 : Int32) : Int32 := (kg 6 (gA st 13) x1)
set_option maxRecDepth 100000 in
set_option maxHeartbeats 4000000 in
theorem wX3_houseIn_3 {G : kG} {E : kE} {a : Nat → Nat} {st0 : kS} (C : kOk G E cX3_houseIn RX3 2 rmfX3_houseIn_3) {z : Int32} (Zd : kEnd G E (0, 0) (some .int) (some (.int z)) (wX G a st0)) (x1 : Int32) (h : fX3_houseIn_3 st0 x1 = z) : kX G E (0, 0) (wX G a st0) 0 [(0, .ref (a 3)), (1, .int x1)] [] := by
  unfold fX3_houseIn_3 at h
  refine x_aload_n (pc := 0) C 0 dX3_houseIn_0 rfl rfl ?_
  refine x_get (pc := 1) C inlX3 3 rfl rfl 0 (by decide) q3_16 (v := .ref (a 13)) rfl dX3_houseIn_1 ?_
  refine x_iload_n (pc := 4) C 1 dX3_houseIn_4 rfl rfl ?_
  refine x_callS (pc := 5) C [.ref (a 13), .int x1] (mX0_get G (N := 6) (f := (gA st0 13)) 13 (lwX_A13 G a rfl) (by decide) x1) ysX0_get q18_13 ⟨Nat.le_of_ble_eq_true rfl, Nat.le_of_ble_eq_true rfl, rfl, rfl⟩ ⟨Nat.zero_le _, Nat.zero_le _⟩ rfl rfl (Nat.le_of_ble_eq_true rfl) rfl dX3_houseIn_5 ?_
  subst h
  exact x_iret (pc := 8) C Zd dX3_houseIn_8
set_option maxRecDepth 100000 in
theorem mX3_houseIn_3 (G : kG) (a : Nat → Nat) (st : kS) (x1 : Int32) : kMet G yX3_houseIn cX3_houseIn 2 (some .int) rmfX3_houseIn_3 (0, 0) [.ref (a 3), .int x1] (wX G a st) (some (.int (fX3_houseIn_3 st x1))) (wX G a st) := kMet.mk (by decide +kernel) (Nat.le_of_ble_eq_true rfl) (fun E C Zd => wX3_houseIn_3  C Zd  x1 rfl)
theorem yvX9_between : kYV yX9_between RX9 cX9_between 5 (some .int) 2 := ⟨q19_3, q19_4, q1_2, q19_5, by decide +kernel⟩
abbrev rmfX9_between : Room := { frames := 2, cells := 0, slots := 0, locals := 43 }
def fX9_between_L5_B (K : Int32 → Int32 → Option (Int32)) (Gc : Int32 → Int32 → Option (Int32)) (st : kS) (v1 : Int32) (v2 : Int32) (v3 : Int32) (v4 : Int32) : Option (Int32) := if (gI st 3) ≤ v4 then (K v3 v4) else (if (fX8_beside st v4 v1) = 0 then (Gc v3 (v4 + 1)) else (if (fX8_beside st v4 v2) = 0 then (Gc v3 (v4 + 1)) else (if v3 = (-1) then (Gc (fX3_houseIn_3 st v4) (v4 + 1)) else (some (-1)))))
set_option maxRecDepth 100000 in
set_option maxHeartbeats 4000000 in
theorem wX9_between_L5_B {G : kG} {E : kE} {a : Nat → Nat} {st0 : kS} (C : kOk G E cX9_between RX9 5 rmfX9_between) {z : Int32} (Zd : kEnd G E (0, 0) (some .int) (some (.int z)) (wX G a st0)) {K Gc : Int32 → Int32 → Option (Int32)} (v1 : Int32) (v2 : Int32) (v3 : Int32) (v4 : Int32) (hK : ∀ (u3 : Int32) (u4 : Int32), K u3 u4 = some z → kX G E (0, 0) (wX G a st0) 66 [(3, .int u3)] []) (hG : ∀ (u3 : Int32) (u4 : Int32), Gc u3 u4 = some z → kX G E (0, 0) (wX G a st0) 5 [(0, .ref (a 0)), (1, .int v1), (2, .int v2), (3, .int u3), (4, .int u4)] []) (h : fX9_between_L5_B K Gc st0 v1 v2 v3 v4 = some z) : kX G E (0, 0) (wX G a st0) 5 [(0, .ref (a 0)), (1, .int v1), (2, .int v2), (3, .int v3), (4, .int v4)] [] := by
  unfold fX9_between_L5_B at h
  refine x_iload (pc := 5) C 4 dX9_between_5 rfl ?_
  refine x_aload_n (pc := 7) C 0 dX9_between_7 rfl rfl ?_
  refine x_get (pc := 8) C inlX9 0 rfl rfl 1 (by decide) q1_23 (v := .ref (a 2)) rfl dX9_between_8 ?_
  refine x_getN (pc := 11) C inlX8 2 rfl rfl 2 (by decide) nn5 (v := .int (gI st0 3)) rfl dX9_between_11 ?_
  refine x_icmp_ge (pc := 14) C 66 dX9_between_14 (by decide) (fun c_1 => ?_) (fun c_1 => ?_)
  · have h := kIp c_1 h
    refine kX.pick [3] (lv' := [(3, .int v3)]) rfl ?_
    exact hK v3 v4 h
  · have h := kIn c_1 h
    refine x_aload_n (pc := 17) C 0 dX9_between_17 rfl rfl ?_
    refine x_get (pc := 18) C inlX9 0 rfl rfl 1 (by decide) q1_23 (v := .ref (a 2)) rfl dX9_between_18 ?_
    refine x_iload (pc := 21) C 4 dX9_between_21 rfl ?_
    refine x_iload_n (pc := 23) C 1 dX9_between_23 rfl rfl ?_
    refine x_callV (pc := 24) C 2 [.int v4, .int v1] rfl rfl (mX8_beside G a st0 v4 v1) yvX8_beside q19_6 ⟨Nat.le_of_ble_eq_true rfl, Nat.le_of_ble_eq_true rfl, rfl, rfl⟩ ⟨Nat.zero_le _, Nat.zero_le _⟩ rfl rfl (Nat.le_of_ble_eq_true rfl) rfl dX9_between_24 ?_
    refine x_if_eq (pc := 27) C 60 dX9_between_27 (by decide) (fun c_2 => ?_) (fun c_2 => ?_)
    · have h := kIp c_2 h
      refine x_iinc (pc := 60) C 4 (v := v4 + 1) (lv' := [(4, .int (v4 + 1)), (0, .ref (a 0)), (1, .int v1), (2, .int v2), (3, .int v3)]) dX9_between_60 rfl rfl (by decide) rfl ?_
      refine x_goto (pc := 63) C 5 dX9_between_63 (by decide) ?_
      refine kX.pick [1, 2, 3, 4, 0] (lv' := [(0, .ref (a 0)), (1, .int v1), (2, .int v2), (3, .int v3), (4, .int (v4 + 1))]) rfl ?_
      exact hG v3 (v4 + 1) h
    · have h := kIn c_2 h
      refine x_aload_n (pc := 30) C 0 dX9_between_30 rfl rfl ?_
      refine x_get (pc := 31) C inlX9 0 rfl rfl 1 (by decide) q1_23 (v := .ref (a 2)) rfl dX9_between_31 ?_
      refine x_iload (pc := 34) C 4 dX9_between_34 rfl ?_
      refine x_iload_n (pc := 36) C 2 dX9_between_36 rfl rfl ?_
      refine x_callV (pc := 37) C 2 [.int v4, .int v2] rfl rfl (mX8_beside G a st0 v4 v2) yvX8_beside q19_6 ⟨Nat.le_of_ble_eq_true rfl, Nat.le_of_ble_eq_true rfl, rfl, rfl⟩ ⟨Nat.zero_le _, Nat.zero_le _⟩ rfl rfl (Nat.le_of_ble_eq_true rfl) rfl dX9_between_37 ?_
      refine x_if_eq (pc := 40) C 60 dX9_between_40 (by decide) (fun c_3 => ?_) (fun c_3 => ?_)
      · have h := kIp c_3 h
        refine x_iinc (pc := 60) C 4 (v := v4 + 1) (lv' := [(4, .int (v4 + 1)), (0, .ref (a 0)), (1, .int v1), (2, .int v2), (3, .int v3)]) dX9_between_60 rfl rfl (by decide) rfl ?_
        refine x_goto (pc := 63) C 5 dX9_between_63 (by decide) ?_
        refine kX.pick [1, 2, 3, 4, 0] (lv' := [(0, .ref (a 0)), (1, .int v1), (2, .int v2), (3, .int v3), (4, .int (v4 + 1))]) rfl ?_
        exact hG v3 (v4 + 1) h
      · have h := kIn c_3 h
        refine x_iload_n (pc := 43) C 3 dX9_between_43 rfl rfl ?_
        refine x_iconst (pc := 44) C (-1) dX9_between_44 (by decide) ?_
        refine x_icmp_eq (pc := 45) C 50 dX9_between_45 (by decide) (fun c_4 => ?_) (fun c_4 => ?_)
        · have h := kIp c_4 h
          refine x_aload_n (pc := 50) C 0 dX9_between_50 rfl rfl ?_
          refine x_get (pc := 51) C inlX9 0 rfl rfl 2 (by decide) q2_4 (v := .ref (a 3)) rfl dX9_between_51 ?_
          refine x_iload (pc := 54) C 4 dX9_between_54 rfl ?_
          refine x_callV (pc := 56) C 3 [.int v4] rfl rfl (mX3_houseIn_3 G a st0 v4) yvX3_houseIn q18_22 ⟨Nat.le_of_ble_eq_true rfl, Nat.le_of_ble_eq_true rfl, rfl, rfl⟩ ⟨Nat.zero_le _, Nat.zero_le _⟩ rfl rfl (Nat.le_of_ble_eq_true rfl) rfl dX9_between_56 ?_
          refine x_istore_n (pc := 59) C (lv' := [(3, .int (fX3_houseIn_3 st0 v4)), (0, .ref (a 0)), (1, .int v1), (2, .int v2), (4, .int v4)]) dX9_between_59 rfl (by decide) rfl ?_
          refine x_iinc (pc := 60) C 4 (v := v4 + 1) (lv' := [(4, .int (v4 + 1)), (3, .int (fX3_houseIn_3 st0 v4)), (0, .ref (a 0)), (1, .int v1), (2, .int v2)]) dX9_between_60 rfl rfl (by decide) rfl ?_
          refine x_goto (pc := 63) C 5 dX9_between_63 (by decide) ?_
          refine kX.pick [2, 3, 4, 1, 0] (lv' := [(0, .ref (a 0)), (1, .int v1), (2, .int v2), (3, .int (fX3_houseIn_3 st0 v4)), (4, .int (v4 + 1))]) rfl ?_
          exact hG (fX3_houseIn_3 st0 v4) (v4 + 1) h
        · have h := kIn c_4 h
          refine x_iconst (pc := 48) C (-1) dX9_between_48 (by decide) ?_
          obtain rfl := Option.some.inj h
          exact x_iret (pc := 49) C Zd dX9_between_49
def fX9_between_L5 (K : Int32 → Int32 → Option (Int32)) (st : kS) (v1 : Int32) (v2 : Int32) : Nat → Int32 → Int32 → Option (Int32)
  | 0, _, _ => none
  | F + 1, v3, v4 => fX9_between_L5_B K (fX9_between_L5 K st v1 v2 F) st v1 v2 v3 v4
set_option maxRecDepth 100000 in
set_option maxHeartbeats 4000000 in
theorem wX9_between_L5 {G : kG} {E : kE} {a : Nat → Nat} {st0 : kS} (C : kOk G E cX9_between RX9 5 rmfX9_between) {z : Int32} (Zd : kEnd G E (0, 0) (some .int) (some (.int z)) (wX G a st0)) {K : Int32 → Int32 → Option (Int32)} (v1 : Int32) (v2 : Int32) (hK : ∀ (u3 : Int32) (u4 : Int32), K u3 u4 = some z → kX G E (0, 0) (wX G a st0) 66 [(3, .int u3)] []) : ∀ (F : Nat) (v3 : Int32) (v4 : Int32), fX9_between_L5 K st0 v1 v2 F v3 v4 = some z → kX G E (0, 0) (wX G a st0) 5 [(0, .ref (a 0)), (1, .int v1), (2, .int v2), (3, .int v3), (4, .int v4)] [] := by
  intro F
  induction F with
  | zero =>
    intro v3 v4 h
    exact absurd (show none = some z from h) (fun q => by cases q)
  | succ F ih =>
    intro v3 v4 h
    exact wX9_between_L5_B  C Zd  v1 v2 v3 v4 hK (fun v3 v4 h => ih v3 v4 h) h
def fX9_between (st : kS) (x1 : Int32) (x2 : Int32) : Option (Int32) := fX9_between_L5 (fun v3_5 v4_6 => some v3_5) st x1 x2 kFU (-1) 0
set_option maxRecDepth 100000 in
set_option maxHeartbeats 4000000 in
theorem wX9_between {G : kG} {E : kE} {a : Nat → Nat} {st0 : kS} (C : kOk G E cX9_between RX9 5 rmfX9_between) {z : Int32} (Zd : kEnd G E (0, 0) (some .int) (some (.int z)) (wX G a st0)) (x1 : Int32) (x2 : Int32) (h : fX9_between st0 x1 x2 = some z) : kX G E (0, 0) (wX G a st0) 0 [(0, .ref (a 0)), (1, .int x1), (2, .int x2)] [] := by
  unfold fX9_between at h
  refine x_iconst (pc := 0) C (-1) dX9_between_0 (by decide) ?_
  refine x_istore_n (pc := 1) C (lv' := [(3, .int (-1)), (0, .ref (a 0)), (1, .int x1), (2, .int x2)]) dX9_between_1 rfl (by decide) rfl ?_
  refine x_iconst (pc := 2) C 0 dX9_between_2 (by decide) ?_
  refine x_istore (pc := 3) C (lv' := [(4, .int 0), (3, .int (-1)), (0, .ref (a 0)), (1, .int x1), (2, .int x2)]) dX9_between_3 (by decide) rfl ?_
  refine kX.pick [2, 3, 4, 1, 0] (lv' := [(0, .ref (a 0)), (1, .int x1), (2, .int x2), (3, .int (-1)), (4, .int 0)]) rfl ?_
  refine wX9_between_L5  C Zd  x1 x2 (fun v3_5 v4_6 h => ?_) kFU (-1) 0 h
  refine x_iload_n (pc := 66) C 0 dX9_between_66 rfl rfl ?_
  obtain rfl := Option.some.inj h
  exact x_iret (pc := 67) C Zd dX9_between_67
set_option maxRecDepth 100000 in
theorem mX9_between (G : kG) (a : Nat → Nat) (st : kS) (x1 : Int32) (x2 : Int32) {z : Int32} (h : fX9_between st x1 x2 = some z) : kMet G yX9_between cX9_between 5 (some .int) rmfX9_between (0, 0) [.ref (a 0), .int x1, .int x2] (wX G a st) (some (.int z)) (wX G a st) := kMet.mk (by decide +kernel) (Nat.le_of_ble_eq_true rfl) (fun E C Zd => wX9_between  C Zd  x1 x2 h)
theorem yvX8_around : kYV yX8_around RX8 cX8_around 2 (some .int) 1 := ⟨q18_15, q18_16, q1_15, q18_17, by decide +kernel⟩
abbrev rmfX8_around : Room := { frames := 1, cells := 0, slots := 0, locals := 22 }
def fX8_around (st : kS) (x1 : Int32) : Int32 := if (gI st 3) ≤ 0 then (0) else ((kfm x1 (gI st 3)))
set_option maxRecDepth 100000 in
set_option maxHeartbeats 4000000 in
theorem wX8_around {G : kG} {E : kE} {a : Nat → Nat} {st0 : kS} (C : kOk G E cX8_around RX8 2 rmfX8_around) {z : Int32} (Zd : kEnd G E (0, 0) (some .int) (some (.int z)) (wX G a st0)) (x1 : Int32) (h : fX8_around st0 x1 = z) : kX G E (0, 0) (wX G a st0) 0 [(0, .ref (a 2)), (1, .int x1)] [] := by
  unfold fX8_around at h
  refine x_aload_n (pc := 0) C 0 dX8_around_0 rfl rfl ?_
  refine x_get (pc := 1) C inlX8 2 rfl rfl 2 (by decide) q12_1 (v := .int (gI st0 3)) rfl dX8_around_1 ?_
  refine x_if_le (pc := 4) C 18 dX8_around_4 (by decide) (fun c_1 => ?_) (fun c_1 => ?_)
  · have h := kIp c_1 h
    refine x_iconst (pc := 18) C 0 dX8_around_18 (by decide) ?_
    subst h
    exact x_iret (pc := 19) C Zd dX8_around_19
  · have h := kIn c_1 h
    refine x_iload_n (pc := 7) C 1 dX8_around_7 rfl rfl ?_
    refine x_aload_n (pc := 8) C 0 dX8_around_8 rfl rfl ?_
    refine x_get (pc := 9) C inlX8 2 rfl rfl 2 (by decide) q12_1 (v := .int (gI st0 3)) rfl dX8_around_9 ?_
    refine x_callS (pc := 12) C [.int x1, .int (gI st0 3)] (mJ9_floorMod_7cf53 G x1 (gI st0 3) (k_nle0 c_1)) ysJ9_floorMod_7cf53 q18_18 ⟨Nat.le_of_ble_eq_true rfl, Nat.le_of_ble_eq_true rfl, rfl, rfl⟩ ⟨Nat.zero_le _, Nat.zero_le _⟩ rfl rfl (Nat.le_of_ble_eq_true rfl) rfl dX8_around_12 ?_
    refine x_goto (pc := 15) C 19 dX8_around_15 (by decide) ?_
    subst h
    exact x_iret (pc := 19) C Zd dX8_around_19
set_option maxRecDepth 100000 in
theorem mX8_around (G : kG) (a : Nat → Nat) (st : kS) (x1 : Int32) : kMet G yX8_around cX8_around 2 (some .int) rmfX8_around (0, 0) [.ref (a 2), .int x1] (wX G a st) (some (.int (fX8_around st x1))) (wX G a st) := kMet.mk (by decide +kernel) (Nat.le_of_ble_eq_true rfl) (fun E C Zd => wX8_around  C Zd  x1 rfl)
theorem yvX9_receiver : kYV yX9_receiver RX9 cX9_receiver 5 (some .int) 3 := ⟨q18_3, q18_4, q1_2, q18_5, by decide +kernel⟩
abbrev rmfX9_receiver : Room := { frames := 3, cells := 0, slots := 0, locals := 67 }
def fX9_receiver (st : kS) (x1 : Int32) (x2 : Int32) (x3 : Int32) : Option (Int32) := (fX3_placeOf_3 st x3 (gI st 3)).bind (fun z_1 => if x1 = 98 then ((fX3_placeOf_3 st x2 (gI st 3)).bind (fun z_3 => (fX9_between st z_3 z_1).bind (fun z_4 => some z_4))) else (if x1 = 108 then (some (fX3_houseIn_3 st (fX8_around st (z_1 - x2)))) else (if x1 = 114 then (some (fX3_houseIn_3 st (fX8_around st (z_1 + x2)))) else (some x3))))
set_option maxRecDepth 100000 in
set_option maxHeartbeats 4000000 in
theorem wX9_receiver {G : kG} {E : kE} {a : Nat → Nat} {st0 : kS} (C : kOk G E cX9_receiver RX9 5 rmfX9_receiver) {z : Int32} (Zd : kEnd G E (0, 0) (some .int) (some (.int z)) (wX G a st0)) (x1 : Int32) (x2 : Int32) (x3 : Int32) (h : fX9_receiver st0 x1 x2 x3 = some z) : kX G E (0, 0) (wX G a st0) 0 [(0, .ref (a 0)), (1, .int x1), (2, .int x2), (3, .int x3)] [] := by
  unfold fX9_receiver at h
  refine x_aload_n (pc := 0) C 0 dX9_receiver_0 rfl rfl ?_
  refine x_get (pc := 1) C inlX9 0 rfl rfl 2 (by decide) q2_4 (v := .ref (a 3)) rfl dX9_receiver_1 ?_
  refine x_iload_n (pc := 4) C 3 dX9_receiver_4 rfl rfl ?_
  refine x_aload_n (pc := 5) C 0 dX9_receiver_5 rfl rfl ?_
  refine x_get (pc := 6) C inlX9 0 rfl rfl 1 (by decide) q1_23 (v := .ref (a 2)) rfl dX9_receiver_6 ?_
  refine x_getN (pc := 9) C inlX8 2 rfl rfl 2 (by decide) nn5 (v := .int (gI st0 3)) rfl dX9_receiver_9 ?_
  obtain ⟨z_1, hz_1, h⟩ := kB h
  refine x_callV (pc := 12) C 3 [.int x3, .int (gI st0 3)] rfl rfl (mX3_placeOf_3 G a st0 x3 (gI st0 3) hz_1) yvX3_placeOf q18_6 ⟨Nat.le_of_ble_eq_true rfl, Nat.le_of_ble_eq_true rfl, rfl, rfl⟩ ⟨Nat.zero_le _, Nat.zero_le _⟩ rfl rfl (Nat.le_of_ble_eq_true rfl) rfl dX9_receiver_12 ?_
  refine x_istore (pc := 15) C (lv' := [(4, .int z_1), (0, .ref (a 0)), (1, .int x1), (2, .int x2), (3, .int x3)]) dX9_receiver_15 (by decide) rfl ?_
  refine x_iload_n (pc := 17) C 2 dX9_receiver_17 rfl rfl ?_
  rcases Decidable.em (x1 = 98) with c_2 | c_2
  · have h := kIp c_2 h
    refine x_ls (pc := 18) (off := 72) C 90 dX9_receiver_18 (by decide) (by first | (rw [c_2]; done) | (rw [c_2]; rfl)) (by decide) ?_
    refine x_aload_n (pc := 90) C 1 dX9_receiver_90 rfl rfl ?_
    refine x_aload_n (pc := 91) C 1 dX9_receiver_91 rfl rfl ?_
    refine x_get (pc := 92) C inlX9 0 rfl rfl 2 (by decide) q2_4 (v := .ref (a 3)) rfl dX9_receiver_92 ?_
    refine x_iload_n (pc := 95) C 3 dX9_receiver_95 rfl rfl ?_
    refine x_aload_n (pc := 96) C 1 dX9_receiver_96 rfl rfl ?_
    refine x_get (pc := 97) C inlX9 0 rfl rfl 1 (by decide) q1_23 (v := .ref (a 2)) rfl dX9_receiver_97 ?_
    refine x_getN (pc := 100) C inlX8 2 rfl rfl 2 (by decide) nn5 (v := .int (gI st0 3)) rfl dX9_receiver_100 ?_
    obtain ⟨z_3, hz_3, h⟩ := kB h
    refine x_callV (pc := 103) C 3 [.int x2, .int (gI st0 3)] rfl rfl (mX3_placeOf_3 G a st0 x2 (gI st0 3) hz_3) yvX3_placeOf q18_6 ⟨Nat.le_of_ble_eq_true rfl, Nat.le_of_ble_eq_true rfl, rfl, rfl⟩ ⟨Nat.zero_le _, Nat.zero_le _⟩ rfl rfl (Nat.le_of_ble_eq_true rfl) rfl dX9_receiver_103 ?_
    refine x_iload (pc := 106) C 0 dX9_receiver_106 rfl ?_
    obtain ⟨z_4, hz_4, h⟩ := kB h
    refine x_callV (pc := 108) C 0 [.int z_3, .int z_1] rfl rfl (mX9_between G a st0 z_3 z_1 hz_4) yvX9_between q19_2 ⟨Nat.le_of_ble_eq_true rfl, Nat.le_of_ble_eq_true rfl, rfl, rfl⟩ ⟨Nat.zero_le _, Nat.zero_le _⟩ rfl rfl (Nat.le_of_ble_eq_true rfl) rfl dX9_receiver_108 ?_
    obtain rfl := Option.some.inj h
    exact x_iret (pc := 111) C Zd dX9_receiver_111
  have h := kIn c_2 h
  rcases Decidable.em (x1 = 108) with c_5 | c_5
  · have h := kIp c_5 h
    refine x_ls (pc := 18) (off := 53) C 71 dX9_receiver_18 (by decide) (by first | (rw [c_5]; done) | (rw [c_5]; rfl)) (by decide) ?_
    refine x_aload_n (pc := 71) C 1 dX9_receiver_71 rfl rfl ?_
    refine x_get (pc := 72) C inlX9 0 rfl rfl 2 (by decide) q2_4 (v := .ref (a 3)) rfl dX9_receiver_72 ?_
    refine x_aload_n (pc := 75) C 1 dX9_receiver_75 rfl rfl ?_
    refine x_get (pc := 76) C inlX9 0 rfl rfl 1 (by decide) q1_23 (v := .ref (a 2)) rfl dX9_receiver_76 ?_
    refine x_iload (pc := 79) C 0 dX9_receiver_79 rfl ?_
    refine x_iload_n (pc := 81) C 3 dX9_receiver_81 rfl rfl ?_
    refine x_isub (pc := 82) C dX9_receiver_82 ?_
    refine x_callV (pc := 83) C 2 [.int (z_1 - x2)] rfl rfl (mX8_around G a st0 (z_1 - x2)) yvX8_around q18_14 ⟨Nat.le_of_ble_eq_true rfl, Nat.le_of_ble_eq_true rfl, rfl, rfl⟩ ⟨Nat.zero_le _, Nat.zero_le _⟩ rfl rfl (Nat.le_of_ble_eq_true rfl) rfl dX9_receiver_83 ?_
    refine x_callV (pc := 86) C 3 [.int (fX8_around st0 (z_1 - x2))] rfl rfl (mX3_houseIn_3 G a st0 (fX8_around st0 (z_1 - x2))) yvX3_houseIn q18_22 ⟨Nat.le_of_ble_eq_true rfl, Nat.le_of_ble_eq_true rfl, rfl, rfl⟩ ⟨Nat.zero_le _, Nat.zero_le _⟩ rfl rfl (Nat.le_of_ble_eq_true rfl) rfl dX9_receiver_86 ?_
    obtain rfl := Option.some.inj h
    exact x_iret (pc := 89) C Zd dX9_receiver_89
  have h := kIn c_5 h
  rcases Decidable.em (x1 = 114) with c_6 | c_6
  · have h := kIp c_6 h
    refine x_ls (pc := 18) (off := 34) C 52 dX9_receiver_18 (by decide) (by first | (rw [c_6]; done) | (rw [c_6]; rfl)) (by decide) ?_
    refine x_aload_n (pc := 52) C 1 dX9_receiver_52 rfl rfl ?_
    refine x_get (pc := 53) C inlX9 0 rfl rfl 2 (by decide) q2_4 (v := .ref (a 3)) rfl dX9_receiver_53 ?_
    refine x_aload_n (pc := 56) C 1 dX9_receiver_56 rfl rfl ?_
    refine x_get (pc := 57) C inlX9 0 rfl rfl 1 (by decide) q1_23 (v := .ref (a 2)) rfl dX9_receiver_57 ?_
    refine x_iload (pc := 60) C 0 dX9_receiver_60 rfl ?_
    refine x_iload_n (pc := 62) C 3 dX9_receiver_62 rfl rfl ?_
    refine x_iadd (pc := 63) C dX9_receiver_63 ?_
    refine x_callV (pc := 64) C 2 [.int (z_1 + x2)] rfl rfl (mX8_around G a st0 (z_1 + x2)) yvX8_around q18_14 ⟨Nat.le_of_ble_eq_true rfl, Nat.le_of_ble_eq_true rfl, rfl, rfl⟩ ⟨Nat.zero_le _, Nat.zero_le _⟩ rfl rfl (Nat.le_of_ble_eq_true rfl) rfl dX9_receiver_64 ?_
    refine x_callV (pc := 67) C 3 [.int (fX8_around st0 (z_1 + x2))] rfl rfl (mX3_houseIn_3 G a st0 (fX8_around st0 (z_1 + x2))) yvX3_houseIn q18_22 ⟨Nat.le_of_ble_eq_true rfl, Nat.le_of_ble_eq_true rfl, rfl, rfl⟩ ⟨Nat.zero_le _, Nat.zero_le _⟩ rfl rfl (Nat.le_of_ble_eq_true rfl) rfl dX9_receiver_67 ?_
    obtain rfl := Option.some.inj h
    exact x_iret (pc := 70) C Zd dX9_receiver_70
  have h := kIn c_6 h
  refine x_ls (pc := 18) (off := 94) C 112 dX9_receiver_18 (by decide) ((lv_osw c_2 rfl).trans ((lv_osw c_5 rfl).trans ((lv_osw c_6 rfl).trans rfl))) (by decide) ?_
  refine x_iload_n (pc := 112) C 4 dX9_receiver_112 rfl rfl ?_
  obtain rfl := Option.some.inj h
  exact x_iret (pc := 113) C Zd dX9_receiver_113
set_option maxRecDepth 100000 in
theorem mX9_receiver (G : kG) (a : Nat → Nat) (st : kS) (x1 : Int32) (x2 : Int32) (x3 : Int32) {z : Int32} (h : fX9_receiver st x1 x2 x3 = some z) : kMet G yX9_receiver cX9_receiver 5 (some .int) rmfX9_receiver (0, 0) [.ref (a 0), .int x1, .int x2, .int x3] (wX G a st) (some (.int z)) (wX G a st) := kMet.mk (by decide +kernel) (Nat.le_of_ble_eq_true rfl) (fun E C Zd => wX9_receiver  C Zd  x1 x2 x3 h)
theorem yvX9_letter : kYV yX9_letter RX9 cX9_letter 4 (some .int) 0 := ⟨q17_12, q17_13, q1_2, q17_14, by decide +kernel⟩
abbrev rmfX9_letter : Room := { frames := 6, cells := 0, slots := 0, locals := 129 }
def fX9_letter_J89 (st : kS) (v1 : Int32) (v2 : Int32) (v3 : Int32) : Option (Int32 × kS) := (fX9_receiver ((fX5_clear st).2) v1 v2 v3).bind (fun z_6 => some (z_6, (fX5_clear st).2))
set_option maxRecDepth 100000 in
set_option maxHeartbeats 4000000 in
theorem wX9_letter_J89 {G : kG} {E : kE} {a : Nat → Nat} (C : kOk G E cX9_letter RX9 4 rmfX9_letter) {z : Int32 × kS} (Zd : kEnd G E (0, 0) (some .int) (some (.int z.1)) (wX G a z.2)) (st : kS) (v1 : Int32) (v2 : Int32) (v3 : Int32) (h : fX9_letter_J89 st v1 v2 v3 = some z) : kX G E (0, 0) (wX G a st) 89 [(0, .ref (a 0)), (1, .int v1), (2, .int v2), (3, .int v3)] [] := by
  unfold fX9_letter_J89 at h
  refine x_aload_n (pc := 89) C 0 dX9_letter_89 rfl rfl ?_
  refine x_get (pc := 90) C inlX9 0 rfl rfl 0 (by decide) q1_22 (v := .ref (a 1)) rfl dX9_letter_90 ?_
  refine x_callV (pc := 93) C 1 [] rfl rfl (mX5_clear G a st) yvX5_clear q7_19 ⟨Nat.le_of_ble_eq_true rfl, Nat.le_of_ble_eq_true rfl, rfl, rfl⟩ ⟨Nat.zero_le _, Nat.zero_le _⟩ rfl rfl (Nat.le_of_ble_eq_true rfl) rfl dX9_letter_93 ?_
  refine x_pop (pc := 96) C dX9_letter_96 rfl ?_
  refine x_aload_n (pc := 97) C 0 dX9_letter_97 rfl rfl ?_
  refine x_iload_n (pc := 98) C 1 dX9_letter_98 rfl rfl ?_
  refine x_iload_n (pc := 99) C 2 dX9_letter_99 rfl rfl ?_
  refine x_iload_n (pc := 100) C 3 dX9_letter_100 rfl rfl ?_
  obtain ⟨z_6, hz_6, h⟩ := kB h
  refine x_callV (pc := 101) C 0 [.int v1, .int v2, .int v3] rfl rfl (mX9_receiver G a ((fX5_clear st).2) v1 v2 v3 hz_6) yvX9_receiver q18_2 ⟨Nat.le_of_ble_eq_true rfl, Nat.le_of_ble_eq_true rfl, rfl, rfl⟩ ⟨Nat.zero_le _, Nat.zero_le _⟩ rfl rfl (Nat.le_of_ble_eq_true rfl) rfl dX9_letter_101 ?_
  obtain rfl := Option.some.inj h
  exact x_iret (pc := 104) C Zd dX9_letter_104
def fX9_letter (st : kS) : Option (Int32 × kS) := if (fX8_stands st) = 0 then (some ((-103), st)) else ((fX5_isLetter st).bind (fun z_2 => if z_2 = 0 then (some ((-103), st)) else (if (fX8_has st (fX5_digit st ((gI st 2) - 1))) = 0 then (some ((-101), st)) else (if (fX5_code st 0) = 98 then (if (fX8_has st (fX5_digit st 1)) = 0 then (some ((-101), st)) else (fX9_letter_J89 st (fX5_code st 0) (fX5_digit st 1) (fX5_digit st ((gI st 2) - 1)))) else (fX9_letter_J89 st (fX5_code st 0) (fX5_digit st 1) (fX5_digit st ((gI st 2) - 1)))))))
set_option maxRecDepth 100000 in
set_option maxHeartbeats 4000000 in
theorem wX9_letter {G : kG} {E : kE} {a : Nat → Nat} (C : kOk G E cX9_letter RX9 4 rmfX9_letter) {z : Int32 × kS} (Zd : kEnd G E (0, 0) (some .int) (some (.int z.1)) (wX G a z.2)) (st : kS) (h : fX9_letter st = some z) : kX G E (0, 0) (wX G a st) 0 [(0, .ref (a 0))] [] := by
  unfold fX9_letter at h
  refine x_aload_n (pc := 0) C 0 dX9_letter_0 rfl rfl ?_
  refine x_get (pc := 1) C inlX9 0 rfl rfl 1 (by decide) q1_23 (v := .ref (a 2)) rfl dX9_letter_1 ?_
  refine x_callV (pc := 4) C 2 [] rfl rfl (mX8_stands G a st) yvX8_stands q16_15 ⟨Nat.le_of_ble_eq_true rfl, Nat.le_of_ble_eq_true rfl, rfl, rfl⟩ ⟨Nat.zero_le _, Nat.zero_le _⟩ rfl rfl (Nat.le_of_ble_eq_true rfl) rfl dX9_letter_4 ?_
  refine x_if_eq (pc := 7) C 20 dX9_letter_7 (by decide) (fun c_1 => ?_) (fun c_1 => ?_)
  · have h := kIp c_1 h
    refine x_bipush (pc := 20) C (-103) dX9_letter_20 (by decide) ?_
    obtain rfl := Option.some.inj h
    exact x_iret (pc := 22) C Zd dX9_letter_22
  · have h := kIn c_1 h
    refine x_aload_n (pc := 10) C 0 dX9_letter_10 rfl rfl ?_
    refine x_get (pc := 11) C inlX9 0 rfl rfl 0 (by decide) q1_22 (v := .ref (a 1)) rfl dX9_letter_11 ?_
    obtain ⟨z_2, hz_2, h⟩ := kB h
    refine x_callV (pc := 14) C 1 [] rfl rfl (mX5_isLetter G a st hz_2) yvX5_isLetter q17_15 ⟨Nat.le_of_ble_eq_true rfl, Nat.le_of_ble_eq_true rfl, rfl, rfl⟩ ⟨Nat.zero_le _, Nat.zero_le _⟩ rfl rfl (Nat.le_of_ble_eq_true rfl) rfl dX9_letter_14 ?_
    refine x_if_ne (pc := 17) C 23 dX9_letter_17 (by decide) (fun c_3 => ?_) (fun c_3 => ?_)
    · have h := kIn c_3 h
      refine x_aload_n (pc := 23) C 0 dX9_letter_23 rfl rfl ?_
      refine x_get (pc := 24) C inlX9 0 rfl rfl 0 (by decide) q1_22 (v := .ref (a 1)) rfl dX9_letter_24 ?_
      refine x_iconst (pc := 27) C 0 dX9_letter_27 (by decide) ?_
      refine x_callV (pc := 28) C 1 [.int 0] rfl rfl (mX5_code G a st 0) yvX5_code q17_20 ⟨Nat.le_of_ble_eq_true rfl, Nat.le_of_ble_eq_true rfl, rfl, rfl⟩ ⟨Nat.zero_le _, Nat.zero_le _⟩ rfl rfl (Nat.le_of_ble_eq_true rfl) rfl dX9_letter_28 ?_
      refine x_istore_n (pc := 31) C (lv' := [(1, .int (fX5_code st 0)), (0, .ref (a 0))]) dX9_letter_31 rfl (by decide) rfl ?_
      refine x_aload_n (pc := 32) C 1 dX9_letter_32 rfl rfl ?_
      refine x_get (pc := 33) C inlX9 0 rfl rfl 0 (by decide) q1_22 (v := .ref (a 1)) rfl dX9_letter_33 ?_
      refine x_iconst (pc := 36) C 1 dX9_letter_36 (by decide) ?_
      refine x_callV (pc := 37) C 1 [.int 1] rfl rfl (mX5_digit G a st 1) yvX5_digit q17_21 ⟨Nat.le_of_ble_eq_true rfl, Nat.le_of_ble_eq_true rfl, rfl, rfl⟩ ⟨Nat.zero_le _, Nat.zero_le _⟩ rfl rfl (Nat.le_of_ble_eq_true rfl) rfl dX9_letter_37 ?_
      refine x_istore_n (pc := 40) C (lv' := [(2, .int (fX5_digit st 1)), (1, .int (fX5_code st 0)), (0, .ref (a 0))]) dX9_letter_40 rfl (by decide) rfl ?_
      refine x_aload_n (pc := 41) C 2 dX9_letter_41 rfl rfl ?_
      refine x_get (pc := 42) C inlX9 0 rfl rfl 0 (by decide) q1_22 (v := .ref (a 1)) rfl dX9_letter_42 ?_
      refine x_aload_n (pc := 45) C 2 dX9_letter_45 rfl rfl ?_
      refine x_get (pc := 46) C inlX9 0 rfl rfl 0 (by decide) q1_22 (v := .ref (a 1)) rfl dX9_letter_46 ?_
      refine x_getN (pc := 49) C inlX5 1 rfl rfl 1 (by decide) nn12 (v := .int (gI st 2)) rfl dX9_letter_49 ?_
      refine x_iconst (pc := 52) C 1 dX9_letter_52 (by decide) ?_
      refine x_isub (pc := 53) C dX9_letter_53 ?_
      refine x_callV (pc := 54) C 1 [.int ((gI st 2) - 1)] rfl rfl (mX5_digit G a st ((gI st 2) - 1)) yvX5_digit q17_21 ⟨Nat.le_of_ble_eq_true rfl, Nat.le_of_ble_eq_true rfl, rfl, rfl⟩ ⟨Nat.zero_le _, Nat.zero_le _⟩ rfl rfl (Nat.le_of_ble_eq_true rfl) rfl dX9_letter_54 ?_
      refine x_istore_n (pc := 57) C (lv' := [(3, .int (fX5_digit st ((gI st 2) - 1))), (2, .int (fX5_digit st 1)), (1, .int (fX5_code st 0)), (0, .ref (a 0))]) dX9_letter_57 rfl (by decide) rfl ?_
      refine x_aload_n (pc := 58) C 3 dX9_letter_58 rfl rfl ?_
      refine x_get (pc := 59) C inlX9 0 rfl rfl 1 (by decide) q1_23 (v := .ref (a 2)) rfl dX9_letter_59 ?_
      refine x_iload_n (pc := 62) C 0 dX9_letter_62 rfl rfl ?_
      refine x_callV (pc := 63) C 2 [.int (fX5_digit st ((gI st 2) - 1))] rfl rfl (mX8_has G a st (fX5_digit st ((gI st 2) - 1))) yvX8_has q17_22 ⟨Nat.le_of_ble_eq_true rfl, Nat.le_of_ble_eq_true rfl, rfl, rfl⟩ ⟨Nat.zero_le _, Nat.zero_le _⟩ rfl rfl (Nat.le_of_ble_eq_true rfl) rfl dX9_letter_63 ?_
      refine x_if_eq (pc := 66) C 86 dX9_letter_66 (by decide) (fun c_4 => ?_) (fun c_4 => ?_)
      · have h := kIp c_4 h
        refine x_bipush (pc := 86) C (-101) dX9_letter_86 (by decide) ?_
        obtain rfl := Option.some.inj h
        exact x_iret (pc := 88) C Zd dX9_letter_88
      · have h := kIn c_4 h
        refine x_iload_n (pc := 69) C 2 dX9_letter_69 rfl rfl ?_
        refine x_bipush (pc := 70) C 98 dX9_letter_70 (by decide) ?_
        refine x_icmp_ne (pc := 72) C 89 dX9_letter_72 (by decide) (fun c_5 => ?_) (fun c_5 => ?_)
        · have h := kIn c_5 h
          refine kX.pick [3, 2, 1, 0] (lv' := [(0, .ref (a 0)), (1, .int (fX5_code st 0)), (2, .int (fX5_digit st 1)), (3, .int (fX5_digit st ((gI st 2) - 1)))]) rfl ?_
          exact wX9_letter_J89  C Zd  st (fX5_code st 0) (fX5_digit st 1) (fX5_digit st ((gI st 2) - 1)) h
        · have h := kIp c_5 h
          refine x_aload_n (pc := 75) C 3 dX9_letter_75 rfl rfl ?_
          refine x_get (pc := 76) C inlX9 0 rfl rfl 1 (by decide) q1_23 (v := .ref (a 2)) rfl dX9_letter_76 ?_
          refine x_iload_n (pc := 79) C 1 dX9_letter_79 rfl rfl ?_
          refine x_callV (pc := 80) C 2 [.int (fX5_digit st 1)] rfl rfl (mX8_has G a st (fX5_digit st 1)) yvX8_has q17_22 ⟨Nat.le_of_ble_eq_true rfl, Nat.le_of_ble_eq_true rfl, rfl, rfl⟩ ⟨Nat.zero_le _, Nat.zero_le _⟩ rfl rfl (Nat.le_of_ble_eq_true rfl) rfl dX9_letter_80 ?_
          refine x_if_ne (pc := 83) C 89 dX9_letter_83 (by decide) (fun c_7 => ?_) (fun c_7 => ?_)
          · have h := kIn c_7 h
            refine kX.pick [3, 2, 1, 0] (lv' := [(0, .ref (a 0)), (1, .int (fX5_code st 0)), (2, .int (fX5_digit st 1)), (3, .int (fX5_digit st ((gI st 2) - 1)))]) rfl ?_
            exact wX9_letter_J89  C Zd  st (fX5_code st 0) (fX5_digit st 1) (fX5_digit st ((gI st 2) - 1)) h
          · have h := kIp c_7 h
            refine x_bipush (pc := 86) C (-101) dX9_letter_86 (by decide) ?_
            obtain rfl := Option.some.inj h
            exact x_iret (pc := 88) C Zd dX9_letter_88
    · have h := kIp c_3 h
      refine x_bipush (pc := 20) C (-103) dX9_letter_20 (by decide) ?_
      obtain rfl := Option.some.inj h
      exact x_iret (pc := 22) C Zd dX9_letter_22
set_option maxRecDepth 100000 in
theorem mX9_letter (G : kG) (a : Nat → Nat) (st : kS)  {z : Int32 × kS} (h : fX9_letter st = some z) : kMet G yX9_letter cX9_letter 4 (some .int) rmfX9_letter (0, 0) [.ref (a 0)] (wX G a st) (some (.int z.1)) (wX G a z.2) := kMet.mk (by decide +kernel) (Nat.le_of_ble_eq_true rfl) (fun E C Zd => wX9_letter  C Zd  st  h)
theorem yvX8_kind : kYV yX8_kind RX8 cX8_kind 2 (some .int) 1 := ⟨q20_11, q20_12, q1_15, q20_13, by decide +kernel⟩
abbrev rmfX8_kind : Room := { frames := 1, cells := 0, slots := 0, locals := 21 }
def fX8_kind (st : kS) (x1 : Int32) : Int32 := (kg 6 (gA st 11) x1)
set_option maxRecDepth 100000 in
set_option maxHeartbeats 4000000 in
theorem wX8_kind {G : kG} {E : kE} {a : Nat → Nat} {st0 : kS} (C : kOk G E cX8_kind RX8 2 rmfX8_kind) {z : Int32} (Zd : kEnd G E (0, 0) (some .int) (some (.int z)) (wX G a st0)) (x1 : Int32) (h : fX8_kind st0 x1 = z) : kX G E (0, 0) (wX G a st0) 0 [(0, .ref (a 2)), (1, .int x1)] [] := by
  unfold fX8_kind at h
  refine x_aload_n (pc := 0) C 0 dX8_kind_0 rfl rfl ?_
  refine x_get (pc := 1) C inlX8 2 rfl rfl 0 (by decide) q3_2 (v := .ref (a 11)) rfl dX8_kind_1 ?_
  refine x_iload_n (pc := 4) C 1 dX8_kind_4 rfl rfl ?_
  refine x_callS (pc := 5) C [.ref (a 11), .int x1] (mX0_get G (N := 6) (f := (gA st0 11)) 11 (lwX_A11 G a rfl) (by decide) x1) ysX0_get q12_16 ⟨Nat.le_of_ble_eq_true rfl, Nat.le_of_ble_eq_true rfl, rfl, rfl⟩ ⟨Nat.zero_le _, Nat.zero_le _⟩ rfl rfl (Nat.le_of_ble_eq_true rfl) rfl dX8_kind_5 ?_
  subst h
  exact x_iret (pc := 8) C Zd dX8_kind_8
set_option maxRecDepth 100000 in
theorem mX8_kind (G : kG) (a : Nat → Nat) (st : kS) (x1 : Int32) : kMet G yX8_kind cX8_kind 2 (some .int) rmfX8_kind (0, 0) [.ref (a 2), .int x1] (wX G a st) (some (.int (fX8_kind st x1))) (wX G a st) := kMet.mk (by decide +kernel) (Nat.le_of_ble_eq_true rfl) (fun E C Zd => wX8_kind  C Zd  x1 rfl)
theorem yvX3_placeAhead : kYV yX3_placeAhead RX3 cX3_placeAhead 3 (some .int) 2 := ⟨q20_15, q20_16, q2_3, q20_17, by decide +kernel⟩
abbrev rmfX3_placeAhead_3 : Room := { frames := 2, cells := 0, slots := 0, locals := 44 }
def fX3_placeAhead_3 (st : kS) (x1 : Int32) (x2 : Int32) : Option (Int32) := (fX3_placeIn 6 (gA st 14) x1 x2).bind (fun z_1 => some z_1)
set_option maxRecDepth 100000 in
set_option maxHeartbeats 4000000 in
theorem wX3_placeAhead_3 {G : kG} {E : kE} {a : Nat → Nat} {st0 : kS} (C : kOk G E cX3_placeAhead RX3 3 rmfX3_placeAhead_3) {z : Int32} (Zd : kEnd G E (0, 0) (some .int) (some (.int z)) (wX G a st0)) (x1 : Int32) (x2 : Int32) (h : fX3_placeAhead_3 st0 x1 x2 = some z) : kX G E (0, 0) (wX G a st0) 0 [(0, .ref (a 3)), (1, .int x1), (2, .int x2)] [] := by
  unfold fX3_placeAhead_3 at h
  refine x_aload_n (pc := 0) C 0 dX3_placeAhead_0 rfl rfl ?_
  refine x_get (pc := 1) C inlX3 3 rfl rfl 1 (by decide) q3_17 (v := .ref (a 14)) rfl dX3_placeAhead_1 ?_
  refine x_iload_n (pc := 4) C 1 dX3_placeAhead_4 rfl rfl ?_
  refine x_iload_n (pc := 5) C 2 dX3_placeAhead_5 rfl rfl ?_
  obtain ⟨z_1, hz_1, h⟩ := kB h
  refine x_callS (pc := 6) C [.ref (a 14), .int x1, .int x2] (mX3_placeIn G (N := 6) (f := (gA st0 14)) 14 (lwX_A14 G a rfl) (by decide) x1 x2 hz_1) ysX3_placeIn q18_10 ⟨Nat.le_of_ble_eq_true rfl, Nat.le_of_ble_eq_true rfl, rfl, rfl⟩ ⟨Nat.zero_le _, Nat.zero_le _⟩ rfl rfl (Nat.le_of_ble_eq_true rfl) rfl dX3_placeAhead_6 ?_
  obtain rfl := Option.some.inj h
  exact x_iret (pc := 9) C Zd dX3_placeAhead_9
set_option maxRecDepth 100000 in
theorem mX3_placeAhead_3 (G : kG) (a : Nat → Nat) (st : kS) (x1 : Int32) (x2 : Int32) {z : Int32} (h : fX3_placeAhead_3 st x1 x2 = some z) : kMet G yX3_placeAhead cX3_placeAhead 3 (some .int) rmfX3_placeAhead_3 (0, 0) [.ref (a 3), .int x1, .int x2] (wX G a st) (some (.int z)) (wX G a st) := kMet.mk (by decide +kernel) (Nat.le_of_ble_eq_true rfl) (fun E C Zd => wX3_placeAhead_3  C Zd  x1 x2 h)
theorem yvX1_placeOf : kYV yX1_placeOf RX1 cX1_placeOf 2 (some .int) 1 := ⟨q20_19, q20_20, q2_12, q20_21, by decide +kernel⟩
abbrev rmfX1_placeOf : Room := { frames := 2, cells := 0, slots := 0, locals := 44 }
def fX1_placeOf (st : kS) (x1 : Int32) : Option (Int32) := if (gI st 13) = 0 then (some (-1)) else ((fX3_placeIn 6 (gA st 21) x1 (gI st 3)).bind (fun z_2 => some z_2))
set_option maxRecDepth 100000 in
set_option maxHeartbeats 4000000 in
theorem wX1_placeOf {G : kG} {E : kE} {a : Nat → Nat} {st0 : kS} (C : kOk G E cX1_placeOf RX1 2 rmfX1_placeOf) {z : Int32} (Zd : kEnd G E (0, 0) (some .int) (some (.int z)) (wX G a st0)) (x1 : Int32) (h : fX1_placeOf st0 x1 = some z) : kX G E (0, 0) (wX G a st0) 0 [(0, .ref (a 7)), (1, .int x1)] [] := by
  unfold fX1_placeOf at h
  refine x_aload_n (pc := 0) C 0 dX1_placeOf_0 rfl rfl ?_
  refine x_get (pc := 1) C inlX1 7 rfl rfl 6 (by decide) q14_21 (v := .int (gI st0 13)) rfl dX1_placeOf_1 ?_
  refine x_if_eq (pc := 4) C 25 dX1_placeOf_4 (by decide) (fun c_1 => ?_) (fun c_1 => ?_)
  · have h := kIp c_1 h
    refine x_iconst (pc := 25) C (-1) dX1_placeOf_25 (by decide) ?_
    obtain rfl := Option.some.inj h
    exact x_iret (pc := 26) C Zd dX1_placeOf_26
  · have h := kIn c_1 h
    refine x_aload_n (pc := 7) C 0 dX1_placeOf_7 rfl rfl ?_
    refine x_get (pc := 8) C inlX1 7 rfl rfl 2 (by decide) q4_7 (v := .ref (a 21)) rfl dX1_placeOf_8 ?_
    refine x_iload_n (pc := 11) C 1 dX1_placeOf_11 rfl rfl ?_
    refine x_aload_n (pc := 12) C 0 dX1_placeOf_12 rfl rfl ?_
    refine x_get (pc := 13) C inlX1 7 rfl rfl 0 (by decide) q4_11 (v := .ref (a 2)) rfl dX1_placeOf_13 ?_
    refine x_getN (pc := 16) C inlX8 2 rfl rfl 2 (by decide) nn2 (v := .int (gI st0 3)) rfl dX1_placeOf_16 ?_
    obtain ⟨z_2, hz_2, h⟩ := kB h
    refine x_callS (pc := 19) C [.ref (a 21), .int x1, .int (gI st0 3)] (mX3_placeIn G (N := 6) (f := (gA st0 21)) 21 (lwX_A21 G a rfl) (by decide) x1 (gI st0 3) hz_2) ysX3_placeIn q20_22 ⟨Nat.le_of_ble_eq_true rfl, Nat.le_of_ble_eq_true rfl, rfl, rfl⟩ ⟨Nat.zero_le _, Nat.zero_le _⟩ rfl rfl (Nat.le_of_ble_eq_true rfl) rfl dX1_placeOf_19 ?_
    refine x_goto (pc := 22) C 26 dX1_placeOf_22 (by decide) ?_
    obtain rfl := Option.some.inj h
    exact x_iret (pc := 26) C Zd dX1_placeOf_26
set_option maxRecDepth 100000 in
theorem mX1_placeOf (G : kG) (a : Nat → Nat) (st : kS) (x1 : Int32) {z : Int32} (h : fX1_placeOf st x1 = some z) : kMet G yX1_placeOf cX1_placeOf 2 (some .int) rmfX1_placeOf (0, 0) [.ref (a 7), .int x1] (wX G a st) (some (.int z)) (wX G a st) := kMet.mk (by decide +kernel) (Nat.le_of_ble_eq_true rfl) (fun E C Zd => wX1_placeOf  C Zd  x1 h)
theorem yvX9_house : kYV yX9_house RX9 cX9_house 3 (some .int) 2 := ⟨q20_7, q20_8, q1_2, q20_9, by decide +kernel⟩
abbrev rmfX9_house : Room := { frames := 3, cells := 0, slots := 0, locals := 66 }
def fX9_house (st : kS) (x1 : Int32) (x2 : Int32) : Option (Int32) := if (fX8_has st x1) = 0 then (some (-101)) else (if x2 = 0 then (some (fX8_kind st x1)) else (if x2 = 1 then ((fX3_placeOf_3 st x1 (gI st 3)).bind (fun z_4 => some z_4)) else (if x2 = 2 then ((fX3_placeAhead_3 st x1 (gI st 3)).bind (fun z_6 => some z_6)) else (if x2 = 3 then ((fX1_placeOf st x1).bind (fun z_8 => some z_8)) else (some (-102))))))
set_option maxRecDepth 100000 in
set_option maxHeartbeats 4000000 in
theorem wX9_house {G : kG} {E : kE} {a : Nat → Nat} {st0 : kS} (C : kOk G E cX9_house RX9 3 rmfX9_house) {z : Int32} (Zd : kEnd G E (0, 0) (some .int) (some (.int z)) (wX G a st0)) (x1 : Int32) (x2 : Int32) (h : fX9_house st0 x1 x2 = some z) : kX G E (0, 0) (wX G a st0) 0 [(0, .ref (a 0)), (1, .int x1), (2, .int x2)] [] := by
  unfold fX9_house at h
  refine x_aload_n (pc := 0) C 0 dX9_house_0 rfl rfl ?_
  refine x_get (pc := 1) C inlX9 0 rfl rfl 1 (by decide) q1_23 (v := .ref (a 2)) rfl dX9_house_1 ?_
  refine x_iload_n (pc := 4) C 1 dX9_house_4 rfl rfl ?_
  refine x_callV (pc := 5) C 2 [.int x1] rfl rfl (mX8_has G a st0 x1) yvX8_has q17_22 ⟨Nat.le_of_ble_eq_true rfl, Nat.le_of_ble_eq_true rfl, rfl, rfl⟩ ⟨Nat.zero_le _, Nat.zero_le _⟩ rfl rfl (Nat.le_of_ble_eq_true rfl) rfl dX9_house_5 ?_
  refine x_if_ne (pc := 8) C 14 dX9_house_8 (by decide) (fun c_1 => ?_) (fun c_1 => ?_)
  · have h := kIn c_1 h
    refine x_iload_n (pc := 14) C 2 dX9_house_14 rfl rfl ?_
    rcases Decidable.em (x2 = 0) with c_2 | c_2
    · have h := kIp c_2 h
      refine x_tsIn (pc := 15) C 44 dX9_house_15 (by rw [c_2]; decide) (by rw [c_2]; decide) (by rw [c_2]; rfl) (by decide) ?_
      refine x_aload_n (pc := 44) C 0 dX9_house_44 rfl rfl ?_
      refine x_get (pc := 45) C inlX9 0 rfl rfl 1 (by decide) q1_23 (v := .ref (a 2)) rfl dX9_house_45 ?_
      refine x_iload_n (pc := 48) C 1 dX9_house_48 rfl rfl ?_
      refine x_callV (pc := 49) C 2 [.int x1] rfl rfl (mX8_kind G a st0 x1) yvX8_kind q20_10 ⟨Nat.le_of_ble_eq_true rfl, Nat.le_of_ble_eq_true rfl, rfl, rfl⟩ ⟨Nat.zero_le _, Nat.zero_le _⟩ rfl rfl (Nat.le_of_ble_eq_true rfl) rfl dX9_house_49 ?_
      obtain rfl := Option.some.inj h
      exact x_iret (pc := 52) C Zd dX9_house_52
    have h := kIn c_2 h
    rcases Decidable.em (x2 = 1) with c_3 | c_3
    · have h := kIp c_3 h
      refine x_tsIn (pc := 15) C 53 dX9_house_15 (by rw [c_3]; decide) (by rw [c_3]; decide) (by rw [c_3]; rfl) (by decide) ?_
      refine x_aload_n (pc := 53) C 0 dX9_house_53 rfl rfl ?_
      refine x_get (pc := 54) C inlX9 0 rfl rfl 2 (by decide) q2_4 (v := .ref (a 3)) rfl dX9_house_54 ?_
      refine x_iload_n (pc := 57) C 1 dX9_house_57 rfl rfl ?_
      refine x_aload_n (pc := 58) C 0 dX9_house_58 rfl rfl ?_
      refine x_get (pc := 59) C inlX9 0 rfl rfl 1 (by decide) q1_23 (v := .ref (a 2)) rfl dX9_house_59 ?_
      refine x_getN (pc := 62) C inlX8 2 rfl rfl 2 (by decide) nn5 (v := .int (gI st0 3)) rfl dX9_house_62 ?_
      obtain ⟨z_4, hz_4, h⟩ := kB h
      refine x_callV (pc := 65) C 3 [.int x1, .int (gI st0 3)] rfl rfl (mX3_placeOf_3 G a st0 x1 (gI st0 3) hz_4) yvX3_placeOf q18_6 ⟨Nat.le_of_ble_eq_true rfl, Nat.le_of_ble_eq_true rfl, rfl, rfl⟩ ⟨Nat.zero_le _, Nat.zero_le _⟩ rfl rfl (Nat.le_of_ble_eq_true rfl) rfl dX9_house_65 ?_
      obtain rfl := Option.some.inj h
      exact x_iret (pc := 68) C Zd dX9_house_68
    have h := kIn c_3 h
    rcases Decidable.em (x2 = 2) with c_5 | c_5
    · have h := kIp c_5 h
      refine x_tsIn (pc := 15) C 69 dX9_house_15 (by rw [c_5]; decide) (by rw [c_5]; decide) (by rw [c_5]; rfl) (by decide) ?_
      refine x_aload_n (pc := 69) C 0 dX9_house_69 rfl rfl ?_
      refine x_get (pc := 70) C inlX9 0 rfl rfl 2 (by decide) q2_4 (v := .ref (a 3)) rfl dX9_house_70 ?_
      refine x_iload_n (pc := 73) C 1 dX9_house_73 rfl rfl ?_
      refine x_aload_n (pc := 74) C 0 dX9_house_74 rfl rfl ?_
      refine x_get (pc := 75) C inlX9 0 rfl rfl 1 (by decide) q1_23 (v := .ref (a 2)) rfl dX9_house_75 ?_
      refine x_getN (pc := 78) C inlX8 2 rfl rfl 2 (by decide) nn5 (v := .int (gI st0 3)) rfl dX9_house_78 ?_
      obtain ⟨z_6, hz_6, h⟩ := kB h
      refine x_callV (pc := 81) C 3 [.int x1, .int (gI st0 3)] rfl rfl (mX3_placeAhead_3 G a st0 x1 (gI st0 3) hz_6) yvX3_placeAhead q20_14 ⟨Nat.le_of_ble_eq_true rfl, Nat.le_of_ble_eq_true rfl, rfl, rfl⟩ ⟨Nat.zero_le _, Nat.zero_le _⟩ rfl rfl (Nat.le_of_ble_eq_true rfl) rfl dX9_house_81 ?_
      obtain rfl := Option.some.inj h
      exact x_iret (pc := 84) C Zd dX9_house_84
    have h := kIn c_5 h
    rcases Decidable.em (x2 = 3) with c_7 | c_7
    · have h := kIp c_7 h
      refine x_tsIn (pc := 15) C 85 dX9_house_15 (by rw [c_7]; decide) (by rw [c_7]; decide) (by rw [c_7]; rfl) (by decide) ?_
      refine x_aload_n (pc := 85) C 0 dX9_house_85 rfl rfl ?_
      refine x_get (pc := 86) C inlX9 0 rfl rfl 6 (by decide) q2_13 (v := .ref (a 7)) rfl dX9_house_86 ?_
      refine x_iload_n (pc := 89) C 1 dX9_house_89 rfl rfl ?_
      obtain ⟨z_8, hz_8, h⟩ := kB h
      refine x_callV (pc := 90) C 7 [.int x1] rfl rfl (mX1_placeOf G a st0 x1 hz_8) yvX1_placeOf q20_18 ⟨Nat.le_of_ble_eq_true rfl, Nat.le_of_ble_eq_true rfl, rfl, rfl⟩ ⟨Nat.zero_le _, Nat.zero_le _⟩ rfl rfl (Nat.le_of_ble_eq_true rfl) rfl dX9_house_90 ?_
      obtain rfl := Option.some.inj h
      exact x_iret (pc := 93) C Zd dX9_house_93
    have h := kIn c_7 h
    refine x_tsOut (pc := 15) C 94 dX9_house_15 (k_out (fun i hi1 hi2 => by
        have hq : i = 0 ∨ i = 1 ∨ i = 2 ∨ i = 3 := by omega
        rcases hq with rfl | rfl | rfl | rfl
        · exact lv_neT c_2 rfl
        · exact lv_neT c_3 rfl
        · exact lv_neT c_5 rfl
        · exact lv_neT c_7 rfl)) (by decide) ?_
    refine x_bipush (pc := 94) C (-102) dX9_house_94 (by decide) ?_
    obtain rfl := Option.some.inj h
    exact x_iret (pc := 96) C Zd dX9_house_96
  · have h := kIp c_1 h
    refine x_bipush (pc := 11) C (-101) dX9_house_11 (by decide) ?_
    obtain rfl := Option.some.inj h
    exact x_iret (pc := 13) C Zd dX9_house_13
set_option maxRecDepth 100000 in
theorem mX9_house (G : kG) (a : Nat → Nat) (st : kS) (x1 : Int32) (x2 : Int32) {z : Int32} (h : fX9_house st x1 x2 = some z) : kMet G yX9_house cX9_house 3 (some .int) rmfX9_house (0, 0) [.ref (a 0), .int x1, .int x2] (wX G a st) (some (.int z)) (wX G a st) := kMet.mk (by decide +kernel) (Nat.le_of_ble_eq_true rfl) (fun E C Zd => wX9_house  C Zd  x1 x2 h)
theorem yvX9_as : kYV yX9_as RX9 cX9_as 3 (some .int) 2 := ⟨q21_8, q21_9, q1_2, q21_10, by decide +kernel⟩
abbrev rmfX9_as : Room := { frames := 2, cells := 0, slots := 0, locals := 44 }
def fX9_as (st : kS) (x1 : Int32) (x2 : Int32) : Int32 := if (fX8_has st x1) = 0 then ((-101)) else (if x2 < 0 then ((-102)) else (if x2 ≤ 3 then (if (fX8_is st x1 x2) = 0 then ((-1)) else (x1)) else ((-102))))
set_option maxRecDepth 100000 in
set_option maxHeartbeats 4000000 in
theorem wX9_as {G : kG} {E : kE} {a : Nat → Nat} {st0 : kS} (C : kOk G E cX9_as RX9 3 rmfX9_as) {z : Int32} (Zd : kEnd G E (0, 0) (some .int) (some (.int z)) (wX G a st0)) (x1 : Int32) (x2 : Int32) (h : fX9_as st0 x1 x2 = z) : kX G E (0, 0) (wX G a st0) 0 [(0, .ref (a 0)), (1, .int x1), (2, .int x2)] [] := by
  unfold fX9_as at h
  refine x_aload_n (pc := 0) C 0 dX9_as_0 rfl rfl ?_
  refine x_get (pc := 1) C inlX9 0 rfl rfl 1 (by decide) q1_23 (v := .ref (a 2)) rfl dX9_as_1 ?_
  refine x_iload_n (pc := 4) C 1 dX9_as_4 rfl rfl ?_
  refine x_callV (pc := 5) C 2 [.int x1] rfl rfl (mX8_has G a st0 x1) yvX8_has q17_22 ⟨Nat.le_of_ble_eq_true rfl, Nat.le_of_ble_eq_true rfl, rfl, rfl⟩ ⟨Nat.zero_le _, Nat.zero_le _⟩ rfl rfl (Nat.le_of_ble_eq_true rfl) rfl dX9_as_5 ?_
  refine x_if_ne (pc := 8) C 14 dX9_as_8 (by decide) (fun c_1 => ?_) (fun c_1 => ?_)
  · have h := kIn c_1 h
    refine x_iload_n (pc := 14) C 2 dX9_as_14 rfl rfl ?_
    refine x_if_lt (pc := 15) C 23 dX9_as_15 (by decide) (fun c_2 => ?_) (fun c_2 => ?_)
    · have h := kIp c_2 h
      refine x_bipush (pc := 23) C (-102) dX9_as_23 (by decide) ?_
      subst h
      exact x_iret (pc := 25) C Zd dX9_as_25
    · have h := kIn c_2 h
      refine x_iload_n (pc := 18) C 2 dX9_as_18 rfl rfl ?_
      refine x_iconst (pc := 19) C 3 dX9_as_19 (by decide) ?_
      refine x_icmp_le (pc := 20) C 26 dX9_as_20 (by decide) (fun c_3 => ?_) (fun c_3 => ?_)
      · have h := kIp c_3 h
        refine x_aload_n (pc := 26) C 0 dX9_as_26 rfl rfl ?_
        refine x_get (pc := 27) C inlX9 0 rfl rfl 1 (by decide) q1_23 (v := .ref (a 2)) rfl dX9_as_27 ?_
        refine x_iload_n (pc := 30) C 1 dX9_as_30 rfl rfl ?_
        refine x_iload_n (pc := 31) C 2 dX9_as_31 rfl rfl ?_
        refine x_callV (pc := 32) C 2 [.int x1, .int x2] rfl rfl (mX8_is G a st0 x1 x2) yvX8_is q21_11 ⟨Nat.le_of_ble_eq_true rfl, Nat.le_of_ble_eq_true rfl, rfl, rfl⟩ ⟨Nat.zero_le _, Nat.zero_le _⟩ rfl rfl (Nat.le_of_ble_eq_true rfl) rfl dX9_as_32 ?_
        refine x_if_eq (pc := 35) C 42 dX9_as_35 (by decide) (fun c_4 => ?_) (fun c_4 => ?_)
        · have h := kIp c_4 h
          refine x_iconst (pc := 42) C (-1) dX9_as_42 (by decide) ?_
          subst h
          exact x_iret (pc := 43) C Zd dX9_as_43
        · have h := kIn c_4 h
          refine x_iload_n (pc := 38) C 1 dX9_as_38 rfl rfl ?_
          refine x_goto (pc := 39) C 43 dX9_as_39 (by decide) ?_
          subst h
          exact x_iret (pc := 43) C Zd dX9_as_43
      · have h := kIn c_3 h
        refine x_bipush (pc := 23) C (-102) dX9_as_23 (by decide) ?_
        subst h
        exact x_iret (pc := 25) C Zd dX9_as_25
  · have h := kIp c_1 h
    refine x_bipush (pc := 11) C (-101) dX9_as_11 (by decide) ?_
    subst h
    exact x_iret (pc := 13) C Zd dX9_as_13
set_option maxRecDepth 100000 in
theorem mX9_as (G : kG) (a : Nat → Nat) (st : kS) (x1 : Int32) (x2 : Int32) : kMet G yX9_as cX9_as 3 (some .int) rmfX9_as (0, 0) [.ref (a 0), .int x1, .int x2] (wX G a st) (some (.int (fX9_as st x1 x2))) (wX G a st) := kMet.mk (by decide +kernel) (Nat.le_of_ble_eq_true rfl) (fun E C Zd => wX9_as  C Zd  x1 x2 rfl)
theorem yvX9_at : kYV yX9_at RX9 cX9_at 2 (some .int) 1 := ⟨q21_17, q21_18, q1_2, q21_19, by decide +kernel⟩
abbrev rmfX9_at : Room := { frames := 2, cells := 0, slots := 0, locals := 42 }
def fX9_at (st : kS) (x1 : Int32) : Int32 := if (fX8_has st x1) = 0 then ((-101)) else ((fX3_houseIn_3 st x1))
set_option maxRecDepth 100000 in
set_option maxHeartbeats 4000000 in
theorem wX9_at {G : kG} {E : kE} {a : Nat → Nat} {st0 : kS} (C : kOk G E cX9_at RX9 2 rmfX9_at) {z : Int32} (Zd : kEnd G E (0, 0) (some .int) (some (.int z)) (wX G a st0)) (x1 : Int32) (h : fX9_at st0 x1 = z) : kX G E (0, 0) (wX G a st0) 0 [(0, .ref (a 0)), (1, .int x1)] [] := by
  unfold fX9_at at h
  refine x_aload_n (pc := 0) C 0 dX9_at_0 rfl rfl ?_
  refine x_get (pc := 1) C inlX9 0 rfl rfl 1 (by decide) q1_23 (v := .ref (a 2)) rfl dX9_at_1 ?_
  refine x_iload_n (pc := 4) C 1 dX9_at_4 rfl rfl ?_
  refine x_callV (pc := 5) C 2 [.int x1] rfl rfl (mX8_has G a st0 x1) yvX8_has q17_22 ⟨Nat.le_of_ble_eq_true rfl, Nat.le_of_ble_eq_true rfl, rfl, rfl⟩ ⟨Nat.zero_le _, Nat.zero_le _⟩ rfl rfl (Nat.le_of_ble_eq_true rfl) rfl dX9_at_5 ?_
  refine x_if_eq (pc := 8) C 22 dX9_at_8 (by decide) (fun c_1 => ?_) (fun c_1 => ?_)
  · have h := kIp c_1 h
    refine x_bipush (pc := 22) C (-101) dX9_at_22 (by decide) ?_
    subst h
    exact x_iret (pc := 24) C Zd dX9_at_24
  · have h := kIn c_1 h
    refine x_aload_n (pc := 11) C 0 dX9_at_11 rfl rfl ?_
    refine x_get (pc := 12) C inlX9 0 rfl rfl 2 (by decide) q2_4 (v := .ref (a 3)) rfl dX9_at_12 ?_
    refine x_iload_n (pc := 15) C 1 dX9_at_15 rfl rfl ?_
    refine x_callV (pc := 16) C 3 [.int x1] rfl rfl (mX3_houseIn_3 G a st0 x1) yvX3_houseIn q18_22 ⟨Nat.le_of_ble_eq_true rfl, Nat.le_of_ble_eq_true rfl, rfl, rfl⟩ ⟨Nat.zero_le _, Nat.zero_le _⟩ rfl rfl (Nat.le_of_ble_eq_true rfl) rfl dX9_at_16 ?_
    refine x_goto (pc := 19) C 24 dX9_at_19 (by decide) ?_
    subst h
    exact x_iret (pc := 24) C Zd dX9_at_24
set_option maxRecDepth 100000 in
theorem mX9_at (G : kG) (a : Nat → Nat) (st : kS) (x1 : Int32) : kMet G yX9_at cX9_at 2 (some .int) rmfX9_at (0, 0) [.ref (a 0), .int x1] (wX G a st) (some (.int (fX9_at st x1))) (wX G a st) := kMet.mk (by decide +kernel) (Nat.le_of_ble_eq_true rfl) (fun E C Zd => wX9_at  C Zd  x1 rfl)
theorem yvX9_feud : kYV yX9_feud RX9 cX9_feud 3 (some .int) 2 := ⟨q22_1, q22_2, q1_2, q22_3, by decide +kernel⟩
abbrev rmfX9_feud : Room := { frames := 2, cells := 0, slots := 0, locals := 43 }
def fX9_feud (st : kS) (x1 : Int32) (x2 : Int32) : Int32 := if (fX8_has st x1) = 0 then ((-101)) else (if (fX8_has st x2) = 0 then ((-101)) else (if (fX8_hate st x1 x2) = 0 then (0) else (1)))
set_option maxRecDepth 100000 in
set_option maxHeartbeats 4000000 in
theorem wX9_feud {G : kG} {E : kE} {a : Nat → Nat} {st0 : kS} (C : kOk G E cX9_feud RX9 3 rmfX9_feud) {z : Int32} (Zd : kEnd G E (0, 0) (some .int) (some (.int z)) (wX G a st0)) (x1 : Int32) (x2 : Int32) (h : fX9_feud st0 x1 x2 = z) : kX G E (0, 0) (wX G a st0) 0 [(0, .ref (a 0)), (1, .int x1), (2, .int x2)] [] := by
  unfold fX9_feud at h
  refine x_aload_n (pc := 0) C 0 dX9_feud_0 rfl rfl ?_
  refine x_get (pc := 1) C inlX9 0 rfl rfl 1 (by decide) q1_23 (v := .ref (a 2)) rfl dX9_feud_1 ?_
  refine x_iload_n (pc := 4) C 1 dX9_feud_4 rfl rfl ?_
  refine x_callV (pc := 5) C 2 [.int x1] rfl rfl (mX8_has G a st0 x1) yvX8_has q17_22 ⟨Nat.le_of_ble_eq_true rfl, Nat.le_of_ble_eq_true rfl, rfl, rfl⟩ ⟨Nat.zero_le _, Nat.zero_le _⟩ rfl rfl (Nat.le_of_ble_eq_true rfl) rfl dX9_feud_5 ?_
  refine x_if_eq (pc := 8) C 22 dX9_feud_8 (by decide) (fun c_1 => ?_) (fun c_1 => ?_)
  · have h := kIp c_1 h
    refine x_bipush (pc := 22) C (-101) dX9_feud_22 (by decide) ?_
    subst h
    exact x_iret (pc := 24) C Zd dX9_feud_24
  · have h := kIn c_1 h
    refine x_aload_n (pc := 11) C 0 dX9_feud_11 rfl rfl ?_
    refine x_get (pc := 12) C inlX9 0 rfl rfl 1 (by decide) q1_23 (v := .ref (a 2)) rfl dX9_feud_12 ?_
    refine x_iload_n (pc := 15) C 2 dX9_feud_15 rfl rfl ?_
    refine x_callV (pc := 16) C 2 [.int x2] rfl rfl (mX8_has G a st0 x2) yvX8_has q17_22 ⟨Nat.le_of_ble_eq_true rfl, Nat.le_of_ble_eq_true rfl, rfl, rfl⟩ ⟨Nat.zero_le _, Nat.zero_le _⟩ rfl rfl (Nat.le_of_ble_eq_true rfl) rfl dX9_feud_16 ?_
    refine x_if_ne (pc := 19) C 25 dX9_feud_19 (by decide) (fun c_2 => ?_) (fun c_2 => ?_)
    · have h := kIn c_2 h
      refine x_aload_n (pc := 25) C 0 dX9_feud_25 rfl rfl ?_
      refine x_get (pc := 26) C inlX9 0 rfl rfl 1 (by decide) q1_23 (v := .ref (a 2)) rfl dX9_feud_26 ?_
      refine x_iload_n (pc := 29) C 1 dX9_feud_29 rfl rfl ?_
      refine x_iload_n (pc := 30) C 2 dX9_feud_30 rfl rfl ?_
      refine x_callV (pc := 31) C 2 [.int x1, .int x2] rfl rfl (mX8_hate G a st0 x1 x2) yvX8_hate q22_4 ⟨Nat.le_of_ble_eq_true rfl, Nat.le_of_ble_eq_true rfl, rfl, rfl⟩ ⟨Nat.zero_le _, Nat.zero_le _⟩ rfl rfl (Nat.le_of_ble_eq_true rfl) rfl dX9_feud_31 ?_
      refine x_if_eq (pc := 34) C 41 dX9_feud_34 (by decide) (fun c_3 => ?_) (fun c_3 => ?_)
      · have h := kIp c_3 h
        refine x_iconst (pc := 41) C 0 dX9_feud_41 (by decide) ?_
        subst h
        exact x_iret (pc := 42) C Zd dX9_feud_42
      · have h := kIn c_3 h
        refine x_iconst (pc := 37) C 1 dX9_feud_37 (by decide) ?_
        refine x_goto (pc := 38) C 42 dX9_feud_38 (by decide) ?_
        subst h
        exact x_iret (pc := 42) C Zd dX9_feud_42
    · have h := kIp c_2 h
      refine x_bipush (pc := 22) C (-101) dX9_feud_22 (by decide) ?_
      subst h
      exact x_iret (pc := 24) C Zd dX9_feud_24
set_option maxRecDepth 100000 in
theorem mX9_feud (G : kG) (a : Nat → Nat) (st : kS) (x1 : Int32) (x2 : Int32) : kMet G yX9_feud cX9_feud 3 (some .int) rmfX9_feud (0, 0) [.ref (a 0), .int x1, .int x2] (wX G a st) (some (.int (fX9_feud st x1 x2))) (wX G a st) := kMet.mk (by decide +kernel) (Nat.le_of_ble_eq_true rfl) (fun E C Zd => wX9_feud  C Zd  x1 x2 rfl)
