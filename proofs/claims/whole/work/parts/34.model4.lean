theorem yvX10_joinsNow : kYV yX10_joinsNow RX10 cX10_joinsNow 4 (some .int) 0 := ⟨q23_11, q23_12, q1_5, q23_13, by decide +kernel⟩
abbrev rmfX10_joinsNow : Room := { frames := 2, cells := 0, slots := 0, locals := 47 }
def fX10_joinsNow_L16_B (K : Int32 → Int32 → Option (Int32)) (Gc : Int32 → Int32 → Option (Int32)) (st : kS) (v1 : Int32) (v2 : Int32) (v3 : Int32) : Option (Int32) := if (gI st 0) ≤ v3 then (K v1 v3) else ((fX10_areBeside 6 (gA st 3) st v2 v3).bind (fun z_3 => if z_3 = 0 then (Gc (v1 + 0) (v3 + 1)) else ((fX10_areBeside 6 (gA st 4) st v2 v3).bind (fun z_5 => if z_5 = 0 then (Gc (v1 + 1) (v3 + 1)) else (Gc (v1 + 0) (v3 + 1))))))
set_option maxRecDepth 100000 in
set_option maxHeartbeats 4000000 in
theorem wX10_joinsNow_L16_B {G : kG} {E : kE} {a : Nat → Nat} {st0 : kS} (C : kOk G E cX10_joinsNow RX10 4 rmfX10_joinsNow) {z : Int32} (Zd : kEnd G E (0, 0) (some .int) (some (.int z)) (wM G a st0)) {K Gc : Int32 → Int32 → Option (Int32)} (v1 : Int32) (v2 : Int32) (v3 : Int32) (hK : ∀ (u1 : Int32) (u3 : Int32), K u1 u3 = some z → kX G E (0, 0) (wM G a st0) 64 [(0, .ref (a 0)), (1, .int u1), (2, .int v2)] []) (hG : ∀ (u1 : Int32) (u3 : Int32), Gc u1 u3 = some z → kX G E (0, 0) (wM G a st0) 16 [(0, .ref (a 0)), (1, .int u1), (2, .int v2), (3, .int u3)] []) (h : fX10_joinsNow_L16_B K Gc st0 v1 v2 v3 = some z) : kX G E (0, 0) (wM G a st0) 16 [(0, .ref (a 0)), (1, .int v1), (2, .int v2), (3, .int v3)] [] := by
  unfold fX10_joinsNow_L16_B at h
  refine x_iload_n (pc := 16) C 3 dX10_joinsNow_16 rfl rfl ?_
  refine x_aload_n (pc := 17) C 0 dX10_joinsNow_17 rfl rfl ?_
  refine x_get (pc := 18) C inlX10 0 rfl rfl 0 (by decide) q15_2 (v := .int (gI st0 0)) rfl dX10_joinsNow_18 ?_
  refine x_icmp_ge (pc := 21) C 64 dX10_joinsNow_21 (by decide) (fun c_2 => ?_) (fun c_2 => ?_)
  · have h := kIp c_2 h
    refine kX.pick [0, 1, 2] (lv' := [(0, .ref (a 0)), (1, .int v1), (2, .int v2)]) rfl ?_
    exact hK v1 v3 h
  · have h := kIn c_2 h
    refine x_iload_n (pc := 24) C 1 dX10_joinsNow_24 rfl rfl ?_
    refine x_aload_n (pc := 25) C 0 dX10_joinsNow_25 rfl rfl ?_
    refine x_aload_n (pc := 26) C 0 dX10_joinsNow_26 rfl rfl ?_
    refine x_get (pc := 27) C inlX10 0 rfl rfl 4 (by decide) q5_14 (v := .ref (a 3)) rfl dX10_joinsNow_27 ?_
    refine x_iload_n (pc := 30) C 2 dX10_joinsNow_30 rfl rfl ?_
    refine x_iload_n (pc := 31) C 3 dX10_joinsNow_31 rfl rfl ?_
    obtain ⟨z_3, hz_3, h⟩ := kB h
    refine x_callV (pc := 32) C 0 [.ref (a 3), .int v2, .int v3] rfl rfl (mX10_areBeside G a (N := 6) (f := (gA st0 3)) 3 (lwM_A3 G a rfl) (by decide) st0 v2 v3 hz_3) yvX10_areBeside q20_2 ⟨Nat.le_of_ble_eq_true rfl, Nat.le_of_ble_eq_true rfl, rfl, rfl⟩ ⟨Nat.zero_le _, Nat.zero_le _⟩ rfl rfl (Nat.le_of_ble_eq_true rfl) rfl dX10_joinsNow_32 ?_
    refine x_if_eq (pc := 35) C 55 dX10_joinsNow_35 (by decide) (fun c_4 => ?_) (fun c_4 => ?_)
    · have h := kIp c_4 h
      refine x_iconst (pc := 55) C 0 dX10_joinsNow_55 (by decide) ?_
      refine x_iadd (pc := 56) C dX10_joinsNow_56 ?_
      refine x_istore_n (pc := 57) C (lv' := [(1, .int (v1 + 0)), (0, .ref (a 0)), (2, .int v2), (3, .int v3)]) dX10_joinsNow_57 rfl (by decide) rfl ?_
      refine x_iinc (pc := 58) C 3 (v := v3 + 1) (lv' := [(3, .int (v3 + 1)), (1, .int (v1 + 0)), (0, .ref (a 0)), (2, .int v2)]) dX10_joinsNow_58 rfl rfl (by decide) rfl ?_
      refine x_goto (pc := 61) C 16 dX10_joinsNow_61 (by decide) ?_
      refine kX.pick [2, 1, 3, 0] (lv' := [(0, .ref (a 0)), (1, .int (v1 + 0)), (2, .int v2), (3, .int (v3 + 1))]) rfl ?_
      exact hG (v1 + 0) (v3 + 1) h
    · have h := kIn c_4 h
      refine x_aload_n (pc := 38) C 0 dX10_joinsNow_38 rfl rfl ?_
      refine x_aload_n (pc := 39) C 0 dX10_joinsNow_39 rfl rfl ?_
      refine x_get (pc := 40) C inlX10 0 rfl rfl 5 (by decide) q5_15 (v := .ref (a 4)) rfl dX10_joinsNow_40 ?_
      refine x_iload_n (pc := 43) C 2 dX10_joinsNow_43 rfl rfl ?_
      refine x_iload_n (pc := 44) C 3 dX10_joinsNow_44 rfl rfl ?_
      obtain ⟨z_5, hz_5, h⟩ := kB h
      refine x_callV (pc := 45) C 0 [.ref (a 4), .int v2, .int v3] rfl rfl (mX10_areBeside G a (N := 6) (f := (gA st0 4)) 4 (lwM_A4 G a rfl) (by decide) st0 v2 v3 hz_5) yvX10_areBeside q20_2 ⟨Nat.le_of_ble_eq_true rfl, Nat.le_of_ble_eq_true rfl, rfl, rfl⟩ ⟨Nat.zero_le _, Nat.zero_le _⟩ rfl rfl (Nat.le_of_ble_eq_true rfl) rfl dX10_joinsNow_45 ?_
      refine x_if_ne (pc := 48) C 55 dX10_joinsNow_48 (by decide) (fun c_6 => ?_) (fun c_6 => ?_)
      · have h := kIn c_6 h
        refine x_iconst (pc := 55) C 0 dX10_joinsNow_55 (by decide) ?_
        refine x_iadd (pc := 56) C dX10_joinsNow_56 ?_
        refine x_istore_n (pc := 57) C (lv' := [(1, .int (v1 + 0)), (0, .ref (a 0)), (2, .int v2), (3, .int v3)]) dX10_joinsNow_57 rfl (by decide) rfl ?_
        refine x_iinc (pc := 58) C 3 (v := v3 + 1) (lv' := [(3, .int (v3 + 1)), (1, .int (v1 + 0)), (0, .ref (a 0)), (2, .int v2)]) dX10_joinsNow_58 rfl rfl (by decide) rfl ?_
        refine x_goto (pc := 61) C 16 dX10_joinsNow_61 (by decide) ?_
        refine kX.pick [2, 1, 3, 0] (lv' := [(0, .ref (a 0)), (1, .int (v1 + 0)), (2, .int v2), (3, .int (v3 + 1))]) rfl ?_
        exact hG (v1 + 0) (v3 + 1) h
      · have h := kIp c_6 h
        refine x_iconst (pc := 51) C 1 dX10_joinsNow_51 (by decide) ?_
        refine x_goto (pc := 52) C 56 dX10_joinsNow_52 (by decide) ?_
        refine x_iadd (pc := 56) C dX10_joinsNow_56 ?_
        refine x_istore_n (pc := 57) C (lv' := [(1, .int (v1 + 1)), (0, .ref (a 0)), (2, .int v2), (3, .int v3)]) dX10_joinsNow_57 rfl (by decide) rfl ?_
        refine x_iinc (pc := 58) C 3 (v := v3 + 1) (lv' := [(3, .int (v3 + 1)), (1, .int (v1 + 1)), (0, .ref (a 0)), (2, .int v2)]) dX10_joinsNow_58 rfl rfl (by decide) rfl ?_
        refine x_goto (pc := 61) C 16 dX10_joinsNow_61 (by decide) ?_
        refine kX.pick [2, 1, 3, 0] (lv' := [(0, .ref (a 0)), (1, .int (v1 + 1)), (2, .int v2), (3, .int (v3 + 1))]) rfl ?_
        exact hG (v1 + 1) (v3 + 1) h
def fX10_joinsNow_L16 (K : Int32 → Int32 → Option (Int32)) (st : kS) (v2 : Int32) : Nat → Int32 → Int32 → Option (Int32)
  | 0, _, _ => none
  | F + 1, v1, v3 => fX10_joinsNow_L16_B K (fX10_joinsNow_L16 K st v2 F) st v1 v2 v3
set_option maxRecDepth 100000 in
set_option maxHeartbeats 4000000 in
theorem wX10_joinsNow_L16 {G : kG} {E : kE} {a : Nat → Nat} {st0 : kS} (C : kOk G E cX10_joinsNow RX10 4 rmfX10_joinsNow) {z : Int32} (Zd : kEnd G E (0, 0) (some .int) (some (.int z)) (wM G a st0)) {K : Int32 → Int32 → Option (Int32)} (v2 : Int32) (hK : ∀ (u1 : Int32) (u3 : Int32), K u1 u3 = some z → kX G E (0, 0) (wM G a st0) 64 [(0, .ref (a 0)), (1, .int u1), (2, .int v2)] []) : ∀ (F : Nat) (v1 : Int32) (v3 : Int32), fX10_joinsNow_L16 K st0 v2 F v1 v3 = some z → kX G E (0, 0) (wM G a st0) 16 [(0, .ref (a 0)), (1, .int v1), (2, .int v2), (3, .int v3)] [] := by
  intro F
  induction F with
  | zero =>
    intro v1 v3 h
    exact absurd (show none = some z from h) (fun q => by cases q)
  | succ F ih =>
    intro v1 v3 h
    exact wX10_joinsNow_L16_B  C Zd  v1 v2 v3 hK (fun v1 v3 h => ih v1 v3 h) h
def fX10_joinsNow_L4_B (K : Int32 → Int32 → Option (Int32)) (Gc : Int32 → Int32 → Option (Int32)) (st : kS) (v1 : Int32) (v2 : Int32) : Option (Int32) := if (gI st 0) ≤ v2 then (K v1 v2) else (fX10_joinsNow_L16 (fun v1_7 v3_8 => Gc v1_7 (v2 + 1)) st v2 kFU v1 (v2 + 1))
set_option maxRecDepth 100000 in
set_option maxHeartbeats 4000000 in
theorem wX10_joinsNow_L4_B {G : kG} {E : kE} {a : Nat → Nat} {st0 : kS} (C : kOk G E cX10_joinsNow RX10 4 rmfX10_joinsNow) {z : Int32} (Zd : kEnd G E (0, 0) (some .int) (some (.int z)) (wM G a st0)) {K Gc : Int32 → Int32 → Option (Int32)} (v1 : Int32) (v2 : Int32) (hK : ∀ (u1 : Int32) (u2 : Int32), K u1 u2 = some z → kX G E (0, 0) (wM G a st0) 70 [(1, .int u1)] []) (hG : ∀ (u1 : Int32) (u2 : Int32), Gc u1 u2 = some z → kX G E (0, 0) (wM G a st0) 4 [(0, .ref (a 0)), (1, .int u1), (2, .int u2)] []) (h : fX10_joinsNow_L4_B K Gc st0 v1 v2 = some z) : kX G E (0, 0) (wM G a st0) 4 [(0, .ref (a 0)), (1, .int v1), (2, .int v2)] [] := by
  unfold fX10_joinsNow_L4_B at h
  refine x_iload_n (pc := 4) C 2 dX10_joinsNow_4 rfl rfl ?_
  refine x_aload_n (pc := 5) C 0 dX10_joinsNow_5 rfl rfl ?_
  refine x_get (pc := 6) C inlX10 0 rfl rfl 0 (by decide) q15_2 (v := .int (gI st0 0)) rfl dX10_joinsNow_6 ?_
  refine x_icmp_ge (pc := 9) C 70 dX10_joinsNow_9 (by decide) (fun c_1 => ?_) (fun c_1 => ?_)
  · have h := kIp c_1 h
    refine kX.pick [1] (lv' := [(1, .int v1)]) rfl ?_
    exact hK v1 v2 h
  · have h := kIn c_1 h
    refine x_iload_n (pc := 12) C 2 dX10_joinsNow_12 rfl rfl ?_
    refine x_iconst (pc := 13) C 1 dX10_joinsNow_13 (by decide) ?_
    refine x_iadd (pc := 14) C dX10_joinsNow_14 ?_
    refine x_istore_n (pc := 15) C (lv' := [(3, .int (v2 + 1)), (0, .ref (a 0)), (1, .int v1), (2, .int v2)]) dX10_joinsNow_15 rfl (by decide) rfl ?_
    refine kX.pick [1, 2, 3, 0] (lv' := [(0, .ref (a 0)), (1, .int v1), (2, .int v2), (3, .int (v2 + 1))]) rfl ?_
    refine wX10_joinsNow_L16  C Zd  v2 (fun v1_7 v3_8 h => ?_) kFU v1 (v2 + 1) h
    refine x_iinc (pc := 64) C 2 (v := v2 + 1) (lv' := [(2, .int (v2 + 1)), (0, .ref (a 0)), (1, .int v1_7)]) dX10_joinsNow_64 rfl rfl (by decide) rfl ?_
    refine x_goto (pc := 67) C 4 dX10_joinsNow_67 (by decide) ?_
    refine kX.pick [1, 2, 0] (lv' := [(0, .ref (a 0)), (1, .int v1_7), (2, .int (v2 + 1))]) rfl ?_
    exact hG v1_7 (v2 + 1) h
def fX10_joinsNow_L4 (K : Int32 → Int32 → Option (Int32)) (st : kS) : Nat → Int32 → Int32 → Option (Int32)
  | 0, _, _ => none
  | F + 1, v1, v2 => fX10_joinsNow_L4_B K (fX10_joinsNow_L4 K st F) st v1 v2
set_option maxRecDepth 100000 in
set_option maxHeartbeats 4000000 in
theorem wX10_joinsNow_L4 {G : kG} {E : kE} {a : Nat → Nat} {st0 : kS} (C : kOk G E cX10_joinsNow RX10 4 rmfX10_joinsNow) {z : Int32} (Zd : kEnd G E (0, 0) (some .int) (some (.int z)) (wM G a st0)) {K : Int32 → Int32 → Option (Int32)} (hK : ∀ (u1 : Int32) (u2 : Int32), K u1 u2 = some z → kX G E (0, 0) (wM G a st0) 70 [(1, .int u1)] []) : ∀ (F : Nat) (v1 : Int32) (v2 : Int32), fX10_joinsNow_L4 K st0 F v1 v2 = some z → kX G E (0, 0) (wM G a st0) 4 [(0, .ref (a 0)), (1, .int v1), (2, .int v2)] [] := by
  intro F
  induction F with
  | zero =>
    intro v1 v2 h
    exact absurd (show none = some z from h) (fun q => by cases q)
  | succ F ih =>
    intro v1 v2 h
    exact wX10_joinsNow_L4_B  C Zd  v1 v2 hK (fun v1 v2 h => ih v1 v2 h) h
def fX10_joinsNow (st : kS) : Option (Int32) := fX10_joinsNow_L4 (fun v1_9 v2_10 => some v1_9) st kFU 0 0
set_option maxRecDepth 100000 in
set_option maxHeartbeats 4000000 in
theorem wX10_joinsNow {G : kG} {E : kE} {a : Nat → Nat} {st0 : kS} (C : kOk G E cX10_joinsNow RX10 4 rmfX10_joinsNow) {z : Int32} (Zd : kEnd G E (0, 0) (some .int) (some (.int z)) (wM G a st0)) (h : fX10_joinsNow st0 = some z) : kX G E (0, 0) (wM G a st0) 0 [(0, .ref (a 0))] [] := by
  unfold fX10_joinsNow at h
  refine x_iconst (pc := 0) C 0 dX10_joinsNow_0 (by decide) ?_
  refine x_istore_n (pc := 1) C (lv' := [(1, .int 0), (0, .ref (a 0))]) dX10_joinsNow_1 rfl (by decide) rfl ?_
  refine x_iconst (pc := 2) C 0 dX10_joinsNow_2 (by decide) ?_
  refine x_istore_n (pc := 3) C (lv' := [(2, .int 0), (1, .int 0), (0, .ref (a 0))]) dX10_joinsNow_3 rfl (by decide) rfl ?_
  refine kX.pick [2, 1, 0] (lv' := [(0, .ref (a 0)), (1, .int 0), (2, .int 0)]) rfl ?_
  refine wX10_joinsNow_L4  C Zd   (fun v1_9 v2_10 h => ?_) kFU 0 0 h
  refine x_iload_n (pc := 70) C 0 dX10_joinsNow_70 rfl rfl ?_
  obtain rfl := Option.some.inj h
  exact x_iret (pc := 71) C Zd dX10_joinsNow_71
set_option maxRecDepth 100000 in
theorem mX10_joinsNow (G : kG) (a : Nat → Nat) (st : kS)  {z : Int32} (h : fX10_joinsNow st = some z) : kMet G yX10_joinsNow cX10_joinsNow 4 (some .int) rmfX10_joinsNow (0, 0) [.ref (a 0)] (wM G a st) (some (.int z)) (wM G a st) := kMet.mk (by decide +kernel) (Nat.le_of_ble_eq_true rfl) (fun E C Zd => wX10_joinsNow  C Zd   h)
theorem yvX10_joins : kYV yX10_joins RX10 cX10_joins 1 (some .int) 0 := ⟨q23_7, q23_8, q1_5, q23_9, by decide +kernel⟩
abbrev rmfX10_joins : Room := { frames := 3, cells := 0, slots := 0, locals := 70 }
def fX10_joins (st : kS) : Option (Int32) := if (gI st 0) = 0 then (some (-103)) else ((fX10_joinsNow st).bind (fun z_2 => some z_2))
set_option maxRecDepth 100000 in
set_option maxHeartbeats 4000000 in
theorem wX10_joins {G : kG} {E : kE} {a : Nat → Nat} {st0 : kS} (C : kOk G E cX10_joins RX10 1 rmfX10_joins) {z : Int32} (Zd : kEnd G E (0, 0) (some .int) (some (.int z)) (wM G a st0)) (h : fX10_joins st0 = some z) : kX G E (0, 0) (wM G a st0) 0 [(0, .ref (a 0))] [] := by
  unfold fX10_joins at h
  refine x_aload_n (pc := 0) C 0 dX10_joins_0 rfl rfl ?_
  refine x_get (pc := 1) C inlX10 0 rfl rfl 0 (by decide) q15_2 (v := .int (gI st0 0)) rfl dX10_joins_1 ?_
  refine x_if_ne (pc := 4) C 12 dX10_joins_4 (by decide) (fun c_1 => ?_) (fun c_1 => ?_)
  · have h := kIn c_1 h
    refine x_aload_n (pc := 12) C 0 dX10_joins_12 rfl rfl ?_
    obtain ⟨z_2, hz_2, h⟩ := kB h
    refine x_callV (pc := 13) C 0 [] rfl rfl (mX10_joinsNow G a st0 hz_2) yvX10_joinsNow q23_10 ⟨Nat.le_of_ble_eq_true rfl, Nat.le_of_ble_eq_true rfl, rfl, rfl⟩ ⟨Nat.zero_le _, Nat.zero_le _⟩ rfl rfl (Nat.le_of_ble_eq_true rfl) rfl dX10_joins_13 ?_
    obtain rfl := Option.some.inj h
    exact x_iret (pc := 16) C Zd dX10_joins_16
  · have h := kIp c_1 h
    refine x_bipush (pc := 7) C (-103) dX10_joins_7 (by decide) ?_
    refine x_goto (pc := 9) C 16 dX10_joins_9 (by decide) ?_
    obtain rfl := Option.some.inj h
    exact x_iret (pc := 16) C Zd dX10_joins_16
set_option maxRecDepth 100000 in
theorem mX10_joins (G : kG) (a : Nat → Nat) (st : kS)  {z : Int32} (h : fX10_joins st = some z) : kMet G yX10_joins cX10_joins 1 (some .int) rmfX10_joins (0, 0) [.ref (a 0)] (wM G a st) (some (.int z)) (wM G a st) := kMet.mk (by decide +kernel) (Nat.le_of_ble_eq_true rfl) (fun E C Zd => wX10_joins  C Zd   h)
theorem yvX10_round : kYV yX10_round RX10 cX10_round 4 (some .int) 2 := ⟨q24_14, q24_15, q1_5, q24_16, by decide +kernel⟩
abbrev rmfX10_round : Room := { frames := 0, cells := 0, slots := 0, locals := 0 }
def fX10_round_J14 (st : kS) (s0 : Int32) : Int32 := if ((gI st 0) - s0) ≤ s0 then (((gI st 0) - s0)) else (s0)
set_option maxRecDepth 100000 in
set_option maxHeartbeats 4000000 in
theorem wX10_round_J14 {G : kG} {E : kE} {a : Nat → Nat} {st0 : kS} (C : kOk G E cX10_round RX10 4 rmfX10_round) {z : Int32} (Zd : kEnd G E (0, 0) (some .int) (some (.int z)) (wM G a st0)) (s0 : Int32) (h : fX10_round_J14 st0 s0 = z) : kX G E (0, 0) (wM G a st0) 14 [(0, .ref (a 0))] [.int s0] := by
  unfold fX10_round_J14 at h
  refine x_istore_n (pc := 14) C (lv' := [(3, .int s0), (0, .ref (a 0))]) dX10_round_14 rfl (by decide) rfl ?_
  refine x_iload_n (pc := 15) C 0 dX10_round_15 rfl rfl ?_
  refine x_aload_n (pc := 16) C 1 dX10_round_16 rfl rfl ?_
  refine x_get (pc := 17) C inlX10 0 rfl rfl 0 (by decide) q15_2 (v := .int (gI st0 0)) rfl dX10_round_17 ?_
  refine x_iload_n (pc := 20) C 0 dX10_round_20 rfl rfl ?_
  refine x_isub (pc := 21) C dX10_round_21 ?_
  refine x_icmp_ge (pc := 22) C 29 dX10_round_22 (by decide) (fun c_2 => ?_) (fun c_2 => ?_)
  · have h := kIp c_2 h
    refine x_aload_n (pc := 29) C 1 dX10_round_29 rfl rfl ?_
    refine x_get (pc := 30) C inlX10 0 rfl rfl 0 (by decide) q15_2 (v := .int (gI st0 0)) rfl dX10_round_30 ?_
    refine x_iload_n (pc := 33) C 0 dX10_round_33 rfl rfl ?_
    refine x_isub (pc := 34) C dX10_round_34 ?_
    subst h
    exact x_iret (pc := 35) C Zd dX10_round_35
  · have h := kIn c_2 h
    refine x_iload_n (pc := 25) C 0 dX10_round_25 rfl rfl ?_
    refine x_goto (pc := 26) C 35 dX10_round_26 (by decide) ?_
    subst h
    exact x_iret (pc := 35) C Zd dX10_round_35
def fX10_round (st : kS) (x1 : Int32) (x2 : Int32) : Int32 := if x2 ≤ x1 then (fX10_round_J14 st (x1 - x2)) else (fX10_round_J14 st (x2 - x1))
set_option maxRecDepth 100000 in
set_option maxHeartbeats 4000000 in
theorem wX10_round {G : kG} {E : kE} {a : Nat → Nat} {st0 : kS} (C : kOk G E cX10_round RX10 4 rmfX10_round) {z : Int32} (Zd : kEnd G E (0, 0) (some .int) (some (.int z)) (wM G a st0)) (x1 : Int32) (x2 : Int32) (h : fX10_round st0 x1 x2 = z) : kX G E (0, 0) (wM G a st0) 0 [(0, .ref (a 0)), (1, .int x1), (2, .int x2)] [] := by
  unfold fX10_round at h
  refine x_iload_n (pc := 0) C 1 dX10_round_0 rfl rfl ?_
  refine x_iload_n (pc := 1) C 2 dX10_round_1 rfl rfl ?_
  refine x_icmp_ge (pc := 2) C 11 dX10_round_2 (by decide) (fun c_1 => ?_) (fun c_1 => ?_)
  · have h := kIp c_1 h
    refine x_iload_n (pc := 11) C 1 dX10_round_11 rfl rfl ?_
    refine x_iload_n (pc := 12) C 2 dX10_round_12 rfl rfl ?_
    refine x_isub (pc := 13) C dX10_round_13 ?_
    refine kX.pick [0] (lv' := [(0, .ref (a 0))]) rfl ?_
    exact wX10_round_J14  C Zd  (x1 - x2) h
  · have h := kIn c_1 h
    refine x_iload_n (pc := 5) C 2 dX10_round_5 rfl rfl ?_
    refine x_iload_n (pc := 6) C 1 dX10_round_6 rfl rfl ?_
    refine x_isub (pc := 7) C dX10_round_7 ?_
    refine x_goto (pc := 8) C 14 dX10_round_8 (by decide) ?_
    refine kX.pick [0] (lv' := [(0, .ref (a 0))]) rfl ?_
    exact wX10_round_J14  C Zd  (x2 - x1) h
set_option maxRecDepth 100000 in
theorem mX10_round (G : kG) (a : Nat → Nat) (st : kS) (x1 : Int32) (x2 : Int32) : kMet G yX10_round cX10_round 4 (some .int) rmfX10_round (0, 0) [.ref (a 0), .int x1, .int x2] (wM G a st) (some (.int (fX10_round st x1 x2))) (wM G a st) := kMet.mk (by decide +kernel) (Nat.le_of_ble_eq_true rfl) (fun E C Zd => wX10_round  C Zd  x1 x2 rfl)
theorem yvX10_walkOf : kYV yX10_walkOf RX10 cX10_walkOf 3 (some .int) 1 := ⟨q24_10, q24_11, q1_5, q24_12, by decide +kernel⟩
abbrev rmfX10_walkOf : Room := { frames := 1, cells := 0, slots := 0, locals := 23 }
def fX10_walkOf (st : kS) (x1 : Int32) : Option (Int32) := (fX10_placeIn 6 (gA st 4) st x1).bind (fun z_1 => (fX10_placeIn 6 (gA st 3) st x1).bind (fun z_2 => some ((fX10_round st 0 z_1) + (fX10_round st z_1 z_2))))
set_option maxRecDepth 100000 in
set_option maxHeartbeats 4000000 in
theorem wX10_walkOf {G : kG} {E : kE} {a : Nat → Nat} {st0 : kS} (C : kOk G E cX10_walkOf RX10 3 rmfX10_walkOf) {z : Int32} (Zd : kEnd G E (0, 0) (some .int) (some (.int z)) (wM G a st0)) (x1 : Int32) (h : fX10_walkOf st0 x1 = some z) : kX G E (0, 0) (wM G a st0) 0 [(0, .ref (a 0)), (1, .int x1)] [] := by
  unfold fX10_walkOf at h
  refine x_aload_n (pc := 0) C 0 dX10_walkOf_0 rfl rfl ?_
  refine x_aload_n (pc := 1) C 0 dX10_walkOf_1 rfl rfl ?_
  refine x_get (pc := 2) C inlX10 0 rfl rfl 5 (by decide) q5_15 (v := .ref (a 4)) rfl dX10_walkOf_2 ?_
  refine x_iload_n (pc := 5) C 1 dX10_walkOf_5 rfl rfl ?_
  obtain ⟨z_1, hz_1, h⟩ := kB h
  refine x_callV (pc := 6) C 0 [.ref (a 4), .int x1] rfl rfl (mX10_placeIn G a (N := 6) (f := (gA st0 4)) 4 (lwM_A4 G a rfl) (by decide) st0 x1 hz_1) yvX10_placeIn q19_18 ⟨Nat.le_of_ble_eq_true rfl, Nat.le_of_ble_eq_true rfl, rfl, rfl⟩ ⟨Nat.zero_le _, Nat.zero_le _⟩ rfl rfl (Nat.le_of_ble_eq_true rfl) rfl dX10_walkOf_6 ?_
  refine x_istore_n (pc := 9) C (lv' := [(2, .int z_1), (0, .ref (a 0)), (1, .int x1)]) dX10_walkOf_9 rfl (by decide) rfl ?_
  refine x_aload_n (pc := 10) C 1 dX10_walkOf_10 rfl rfl ?_
  refine x_iconst (pc := 11) C 0 dX10_walkOf_11 (by decide) ?_
  refine x_iload_n (pc := 12) C 0 dX10_walkOf_12 rfl rfl ?_
  refine x_callV (pc := 13) C 0 [.int 0, .int z_1] rfl rfl (mX10_round G a st0 0 z_1) yvX10_round q24_13 ⟨Nat.le_of_ble_eq_true rfl, Nat.le_of_ble_eq_true rfl, rfl, rfl⟩ ⟨Nat.zero_le _, Nat.zero_le _⟩ rfl rfl (Nat.le_of_ble_eq_true rfl) rfl dX10_walkOf_13 ?_
  refine x_aload_n (pc := 16) C 1 dX10_walkOf_16 rfl rfl ?_
  refine x_iload_n (pc := 17) C 0 dX10_walkOf_17 rfl rfl ?_
  refine x_aload_n (pc := 18) C 1 dX10_walkOf_18 rfl rfl ?_
  refine x_aload_n (pc := 19) C 1 dX10_walkOf_19 rfl rfl ?_
  refine x_get (pc := 20) C inlX10 0 rfl rfl 4 (by decide) q5_14 (v := .ref (a 3)) rfl dX10_walkOf_20 ?_
  refine x_iload_n (pc := 23) C 2 dX10_walkOf_23 rfl rfl ?_
  obtain ⟨z_2, hz_2, h⟩ := kB h
  refine x_callV (pc := 24) C 0 [.ref (a 3), .int x1] rfl rfl (mX10_placeIn G a (N := 6) (f := (gA st0 3)) 3 (lwM_A3 G a rfl) (by decide) st0 x1 hz_2) yvX10_placeIn q19_18 ⟨Nat.le_of_ble_eq_true rfl, Nat.le_of_ble_eq_true rfl, rfl, rfl⟩ ⟨Nat.zero_le _, Nat.zero_le _⟩ rfl rfl (Nat.le_of_ble_eq_true rfl) rfl dX10_walkOf_24 ?_
  refine x_callV (pc := 27) C 0 [.int z_1, .int z_2] rfl rfl (mX10_round G a st0 z_1 z_2) yvX10_round q24_13 ⟨Nat.le_of_ble_eq_true rfl, Nat.le_of_ble_eq_true rfl, rfl, rfl⟩ ⟨Nat.zero_le _, Nat.zero_le _⟩ rfl rfl (Nat.le_of_ble_eq_true rfl) rfl dX10_walkOf_27 ?_
  refine x_iadd (pc := 30) C dX10_walkOf_30 ?_
  obtain rfl := Option.some.inj h
  exact x_iret (pc := 31) C Zd dX10_walkOf_31
set_option maxRecDepth 100000 in
theorem mX10_walkOf (G : kG) (a : Nat → Nat) (st : kS) (x1 : Int32) {z : Int32} (h : fX10_walkOf st x1 = some z) : kMet G yX10_walkOf cX10_walkOf 3 (some .int) rmfX10_walkOf (0, 0) [.ref (a 0), .int x1] (wM G a st) (some (.int z)) (wM G a st) := kMet.mk (by decide +kernel) (Nat.le_of_ble_eq_true rfl) (fun E C Zd => wX10_walkOf  C Zd  x1 h)
theorem yvX10_walk : kYV yX10_walk RX10 cX10_walk 2 (some .int) 1 := ⟨q24_6, q24_7, q1_5, q24_8, by decide +kernel⟩
abbrev rmfX10_walk : Room := { frames := 2, cells := 0, slots := 0, locals := 45 }
def fX10_walk (st : kS) (x1 : Int32) : Option (Int32) := (fX10_isHouse st x1).bind (fun z_1 => if z_1 = 0 then (some (-101)) else ((fX10_walkOf st x1).bind (fun z_3 => some z_3)))
set_option maxRecDepth 100000 in
set_option maxHeartbeats 4000000 in
theorem wX10_walk {G : kG} {E : kE} {a : Nat → Nat} {st0 : kS} (C : kOk G E cX10_walk RX10 2 rmfX10_walk) {z : Int32} (Zd : kEnd G E (0, 0) (some .int) (some (.int z)) (wM G a st0)) (x1 : Int32) (h : fX10_walk st0 x1 = some z) : kX G E (0, 0) (wM G a st0) 0 [(0, .ref (a 0)), (1, .int x1)] [] := by
  unfold fX10_walk at h
  refine x_aload_n (pc := 0) C 0 dX10_walk_0 rfl rfl ?_
  refine x_iload_n (pc := 1) C 1 dX10_walk_1 rfl rfl ?_
  obtain ⟨z_1, hz_1, h⟩ := kB h
  refine x_callV (pc := 2) C 0 [.int x1] rfl rfl (mX10_isHouse G a st0 x1 hz_1) yvX10_isHouse q19_14 ⟨Nat.le_of_ble_eq_true rfl, Nat.le_of_ble_eq_true rfl, rfl, rfl⟩ ⟨Nat.zero_le _, Nat.zero_le _⟩ rfl rfl (Nat.le_of_ble_eq_true rfl) rfl dX10_walk_2 ?_
  refine x_if_eq (pc := 5) C 16 dX10_walk_5 (by decide) (fun c_2 => ?_) (fun c_2 => ?_)
  · have h := kIp c_2 h
    refine x_bipush (pc := 16) C (-101) dX10_walk_16 (by decide) ?_
    obtain rfl := Option.some.inj h
    exact x_iret (pc := 18) C Zd dX10_walk_18
  · have h := kIn c_2 h
    refine x_aload_n (pc := 8) C 0 dX10_walk_8 rfl rfl ?_
    refine x_iload_n (pc := 9) C 1 dX10_walk_9 rfl rfl ?_
    obtain ⟨z_3, hz_3, h⟩ := kB h
    refine x_callV (pc := 10) C 0 [.int x1] rfl rfl (mX10_walkOf G a st0 x1 hz_3) yvX10_walkOf q24_9 ⟨Nat.le_of_ble_eq_true rfl, Nat.le_of_ble_eq_true rfl, rfl, rfl⟩ ⟨Nat.zero_le _, Nat.zero_le _⟩ rfl rfl (Nat.le_of_ble_eq_true rfl) rfl dX10_walk_10 ?_
    refine x_goto (pc := 13) C 18 dX10_walk_13 (by decide) ?_
    obtain rfl := Option.some.inj h
    exact x_iret (pc := 18) C Zd dX10_walk_18
set_option maxRecDepth 100000 in
theorem mX10_walk (G : kG) (a : Nat → Nat) (st : kS) (x1 : Int32) {z : Int32} (h : fX10_walk st x1 = some z) : kMet G yX10_walk cX10_walk 2 (some .int) rmfX10_walk (0, 0) [.ref (a 0), .int x1] (wM G a st) (some (.int z)) (wM G a st) := kMet.mk (by decide +kernel) (Nat.le_of_ble_eq_true rfl) (fun E C Zd => wX10_walk  C Zd  x1 h)
theorem yvX10_indexNow : kYV yX10_indexNow RX10 cX10_indexNow 1 (some .int) 0 := ⟨q25_23, q26_0, q1_5, q26_1, by decide +kernel⟩
abbrev rmfX10_indexNow : Room := { frames := 1, cells := 0, slots := 0, locals := 23 }
def fX10_indexNow (st : kS) : Option (Int32) := (fX10_code 6 (gA st 3) st).bind (fun z_1 => (ka 46656 (gA st 13) z_1).bind (fun x_2 => some x_2))
set_option maxRecDepth 100000 in
set_option maxHeartbeats 4000000 in
theorem wX10_indexNow {G : kG} {E : kE} {a : Nat → Nat} {st0 : kS} (C : kOk G E cX10_indexNow RX10 1 rmfX10_indexNow) {z : Int32} (Zd : kEnd G E (0, 0) (some .int) (some (.int z)) (wM G a st0)) (h : fX10_indexNow st0 = some z) : kX G E (0, 0) (wM G a st0) 0 [(0, .ref (a 0))] [] := by
  unfold fX10_indexNow at h
  refine x_aload_n (pc := 0) C 0 dX10_indexNow_0 rfl rfl ?_
  refine x_get (pc := 1) C inlX10 0 rfl rfl 31 (by decide) q6_3 (v := .ref (a 13)) rfl dX10_indexNow_1 ?_
  refine x_aload_n (pc := 4) C 0 dX10_indexNow_4 rfl rfl ?_
  refine x_aload_n (pc := 5) C 0 dX10_indexNow_5 rfl rfl ?_
  refine x_get (pc := 6) C inlX10 0 rfl rfl 4 (by decide) q5_14 (v := .ref (a 3)) rfl dX10_indexNow_6 ?_
  obtain ⟨z_1, hz_1, h⟩ := kB h
  refine x_callV (pc := 9) C 0 [.ref (a 3)] rfl rfl (mX10_code G a (N := 6) (f := (gA st0 3)) 3 (lwM_A3 G a rfl) (by decide) st0 hz_1) yvX10_code q16_7 ⟨Nat.le_of_ble_eq_true rfl, Nat.le_of_ble_eq_true rfl, rfl, rfl⟩ ⟨Nat.zero_le _, Nat.zero_le _⟩ rfl rfl (Nat.le_of_ble_eq_true rfl) rfl dX10_indexNow_9 ?_
  obtain ⟨x_2, hx_2, h⟩ := kB h
  obtain ⟨hi_3, hx_2⟩ := ka_some hx_2
  refine y_iald (pc := 12) C 13 (lwM_A13 G a rfl) hi_3 hx_2 dX10_indexNow_12 ?_
  obtain rfl := Option.some.inj h
  exact x_iret (pc := 13) C Zd dX10_indexNow_13
set_option maxRecDepth 100000 in
theorem mX10_indexNow (G : kG) (a : Nat → Nat) (st : kS)  {z : Int32} (h : fX10_indexNow st = some z) : kMet G yX10_indexNow cX10_indexNow 1 (some .int) rmfX10_indexNow (0, 0) [.ref (a 0)] (wM G a st) (some (.int z)) (wM G a st) := kMet.mk (by decide +kernel) (Nat.le_of_ble_eq_true rfl) (fun E C Zd => wX10_indexNow  C Zd   h)
theorem yvX10_placeBy : kYV yX10_placeBy RX10 cX10_placeBy 3 (some .int) 2 := ⟨q26_3, q26_4, q1_5, q26_5, by decide +kernel⟩
abbrev rmfX10_placeBy : Room := { frames := 0, cells := 0, slots := 0, locals := 0 }
def fX10_placeBy (st : kS) (x1 : Int32) (x2 : Int32) : Option (Int32) := if (gI st 0) = 0 then none else some (kr ((x1 + x2) + (gI st 0)) (gI st 0))
set_option maxRecDepth 100000 in
set_option maxHeartbeats 4000000 in
theorem wX10_placeBy {G : kG} {E : kE} {a : Nat → Nat} {st0 : kS} (C : kOk G E cX10_placeBy RX10 3 rmfX10_placeBy) {z : Int32} (Zd : kEnd G E (0, 0) (some .int) (some (.int z)) (wM G a st0)) (x1 : Int32) (x2 : Int32) (h : fX10_placeBy st0 x1 x2 = some z) : kX G E (0, 0) (wM G a st0) 0 [(0, .ref (a 0)), (1, .int x1), (2, .int x2)] [] := by
  unfold fX10_placeBy at h
  refine x_iload_n (pc := 0) C 1 dX10_placeBy_0 rfl rfl ?_
  refine x_iload_n (pc := 1) C 2 dX10_placeBy_1 rfl rfl ?_
  refine x_iadd (pc := 2) C dX10_placeBy_2 ?_
  refine x_aload_n (pc := 3) C 0 dX10_placeBy_3 rfl rfl ?_
  refine x_get (pc := 4) C inlX10 0 rfl rfl 0 (by decide) q15_2 (v := .int (gI st0 0)) rfl dX10_placeBy_4 ?_
  refine x_iadd (pc := 7) C dX10_placeBy_7 ?_
  refine x_aload_n (pc := 8) C 0 dX10_placeBy_8 rfl rfl ?_
  refine x_get (pc := 9) C inlX10 0 rfl rfl 0 (by decide) q15_2 (v := .int (gI st0 0)) rfl dX10_placeBy_9 ?_
  obtain ⟨c_1, h⟩ := kGd h
  refine y_irem (pc := 12) C dX10_placeBy_12 c_1 ?_
  obtain rfl := Option.some.inj h
  exact x_iret (pc := 13) C Zd dX10_placeBy_13
set_option maxRecDepth 100000 in
theorem mX10_placeBy (G : kG) (a : Nat → Nat) (st : kS) (x1 : Int32) (x2 : Int32) {z : Int32} (h : fX10_placeBy st x1 x2 = some z) : kMet G yX10_placeBy cX10_placeBy 3 (some .int) rmfX10_placeBy (0, 0) [.ref (a 0), .int x1, .int x2] (wM G a st) (some (.int z)) (wM G a st) := kMet.mk (by decide +kernel) (Nat.le_of_ble_eq_true rfl) (fun E C Zd => wX10_placeBy  C Zd  x1 x2 h)
theorem yvX10_behind : kYV yX10_behind RX10 cX10_behind 3 (some .int) 2 := ⟨q26_7, q26_8, q1_5, q26_9, by decide +kernel⟩
abbrev rmfX10_behind : Room := { frames := 0, cells := 0, slots := 0, locals := 0 }
def fX10_behind (st : kS) (x1 : Int32) (x2 : Int32) : Option (Int32) := (ka 4320 (gA st 14) ((6 * x1) + x2)).bind (fun x_1 => some x_1)
set_option maxRecDepth 100000 in
set_option maxHeartbeats 4000000 in
theorem wX10_behind {G : kG} {E : kE} {a : Nat → Nat} {st0 : kS} (C : kOk G E cX10_behind RX10 3 rmfX10_behind) {z : Int32} (Zd : kEnd G E (0, 0) (some .int) (some (.int z)) (wM G a st0)) (x1 : Int32) (x2 : Int32) (h : fX10_behind st0 x1 x2 = some z) : kX G E (0, 0) (wM G a st0) 0 [(0, .ref (a 0)), (1, .int x1), (2, .int x2)] [] := by
  unfold fX10_behind at h
  refine x_aload_n (pc := 0) C 0 dX10_behind_0 rfl rfl ?_
  refine x_get (pc := 1) C inlX10 0 rfl rfl 32 (by decide) q6_4 (v := .ref (a 14)) rfl dX10_behind_1 ?_
  refine x_bipush (pc := 4) C 6 dX10_behind_4 (by decide) ?_
  refine x_iload_n (pc := 6) C 1 dX10_behind_6 rfl rfl ?_
  refine x_imul (pc := 7) C dX10_behind_7 ?_
  refine x_iload_n (pc := 8) C 2 dX10_behind_8 rfl rfl ?_
  refine x_iadd (pc := 9) C dX10_behind_9 ?_
  obtain ⟨x_1, hx_1, h⟩ := kB h
  obtain ⟨hi_2, hx_1⟩ := ka_some hx_1
  refine y_iald (pc := 10) C 14 (lwM_A14 G a rfl) hi_2 hx_1 dX10_behind_10 ?_
  obtain rfl := Option.some.inj h
  exact x_iret (pc := 11) C Zd dX10_behind_11
set_option maxRecDepth 100000 in
theorem mX10_behind (G : kG) (a : Nat → Nat) (st : kS) (x1 : Int32) (x2 : Int32) {z : Int32} (h : fX10_behind st x1 x2 = some z) : kMet G yX10_behind cX10_behind 3 (some .int) rmfX10_behind (0, 0) [.ref (a 0), .int x1, .int x2] (wM G a st) (some (.int z)) (wM G a st) := kMet.mk (by decide +kernel) (Nat.le_of_ble_eq_true rfl) (fun E C Zd => wX10_behind  C Zd  x1 x2 h)
theorem yvX10_goNight : kYV yX10_goNight RX10 cX10_goNight 6 (some .int) 2 := ⟨q25_19, q25_20, q1_5, q25_21, by decide +kernel⟩
abbrev rmfX10_goNight : Room := { frames := 2, cells := 0, slots := 0, locals := 43 }
def fX10_goNight_L21_B (K : Int32 → kS → Option (Int32 × kS)) (Gc : Int32 → kS → Option (Int32 × kS)) (st : kS) (v3 : Int32) (v4 : Int32) (v5 : Int32) : Option (Int32 × kS) := if (gI st 0) ≤ v5 then (K v5 st) else ((ka 6 (gA st 3) v5).bind (fun x_5 => if v5 < 0 ∨ 6 ≤ v5.toNatClampNeg then none else Gc (v5 + 1) (sA st 4 (upd (gA st 4) v5.toNatClampNeg x_5))))
set_option maxRecDepth 100000 in
set_option maxHeartbeats 4000000 in
theorem wX10_goNight_L21_B {G : kG} {E : kE} {a : Nat → Nat} (C : kOk G E cX10_goNight RX10 6 rmfX10_goNight) {z : Int32 × kS} (Zd : kEnd G E (0, 0) (some .int) (some (.int z.1)) (wM G a z.2)) {K Gc : Int32 → kS → Option (Int32 × kS)} (st : kS) (v3 : Int32) (v4 : Int32) (v5 : Int32) (hK : ∀ (u5 : Int32) (su : kS), K u5 su = some z → kX G E (0, 0) (wM G a su) 50 [(0, .ref (a 0)), (3, .int v3), (4, .int v4)] []) (hG : ∀ (u5 : Int32) (su : kS), Gc u5 su = some z → kX G E (0, 0) (wM G a su) 21 [(0, .ref (a 0)), (3, .int v3), (4, .int v4), (5, .int u5)] []) (h : fX10_goNight_L21_B K Gc st v3 v4 v5 = some z) : kX G E (0, 0) (wM G a st) 21 [(0, .ref (a 0)), (3, .int v3), (4, .int v4), (5, .int v5)] [] := by
  unfold fX10_goNight_L21_B at h
  refine x_iload (pc := 21) C 3 dX10_goNight_21 rfl ?_
  refine x_aload_n (pc := 23) C 0 dX10_goNight_23 rfl rfl ?_
  refine x_get (pc := 24) C inlX10 0 rfl rfl 0 (by decide) q15_2 (v := .int (gI st 0)) rfl dX10_goNight_24 ?_
  refine x_icmp_ge (pc := 27) C 50 dX10_goNight_27 (by decide) (fun c_4 => ?_) (fun c_4 => ?_)
  · have h := kIp c_4 h
    refine kX.pick [0, 1, 2] (lv' := [(0, .ref (a 0)), (3, .int v3), (4, .int v4)]) rfl ?_
    exact hK v5 st h
  · have h := kIn c_4 h
    refine x_aload_n (pc := 30) C 0 dX10_goNight_30 rfl rfl ?_
    refine x_get (pc := 31) C inlX10 0 rfl rfl 5 (by decide) q5_15 (v := .ref (a 4)) rfl dX10_goNight_31 ?_
    refine x_iload (pc := 34) C 3 dX10_goNight_34 rfl ?_
    refine x_aload_n (pc := 36) C 0 dX10_goNight_36 rfl rfl ?_
    refine x_get (pc := 37) C inlX10 0 rfl rfl 4 (by decide) q5_14 (v := .ref (a 3)) rfl dX10_goNight_37 ?_
    refine x_iload (pc := 40) C 3 dX10_goNight_40 rfl ?_
    obtain ⟨x_5, hx_5, h⟩ := kB h
    obtain ⟨hi_6, hx_5⟩ := ka_some hx_5
    refine y_iald (pc := 42) C 3 (lwM_A3 G a rfl) hi_6 hx_5 dX10_goNight_42 ?_
    obtain ⟨hi_7, h⟩ := kGn h
    refine x_iast (pc := 43) C 4 (lwM_A4 G a rfl) hi_7 (swM_A4 G a _ _) dX10_goNight_43 ?_
    refine x_iinc (pc := 44) C 3 (v := v5 + 1) (lv' := [(5, .int (v5 + 1)), (0, .ref (a 0)), (3, .int v3), (4, .int v4)]) dX10_goNight_44 rfl rfl (by decide) rfl ?_
    refine x_goto (pc := 47) C 21 dX10_goNight_47 (by decide) ?_
    refine kX.pick [1, 2, 3, 0] (lv' := [(0, .ref (a 0)), (3, .int v3), (4, .int v4), (5, .int (v5 + 1))]) rfl ?_
    exact hG (v5 + 1) (sA st 4 (upd (gA st 4) v5.toNatClampNeg x_5)) h
def fX10_goNight_L21 (K : Int32 → kS → Option (Int32 × kS)) (v3 : Int32) (v4 : Int32) : Nat → Int32 → kS → Option (Int32 × kS)
  | 0, _, _ => none
  | F + 1, v5, st => fX10_goNight_L21_B K (fX10_goNight_L21 K v3 v4 F) st v3 v4 v5
set_option maxRecDepth 100000 in
set_option maxHeartbeats 4000000 in
theorem wX10_goNight_L21 {G : kG} {E : kE} {a : Nat → Nat} (C : kOk G E cX10_goNight RX10 6 rmfX10_goNight) {z : Int32 × kS} (Zd : kEnd G E (0, 0) (some .int) (some (.int z.1)) (wM G a z.2)) {K : Int32 → kS → Option (Int32 × kS)} (v3 : Int32) (v4 : Int32) (hK : ∀ (u5 : Int32) (su : kS), K u5 su = some z → kX G E (0, 0) (wM G a su) 50 [(0, .ref (a 0)), (3, .int v3), (4, .int v4)] []) : ∀ (F : Nat) (v5 : Int32) (st : kS), fX10_goNight_L21 K v3 v4 F v5 st = some z → kX G E (0, 0) (wM G a st) 21 [(0, .ref (a 0)), (3, .int v3), (4, .int v4), (5, .int v5)] [] := by
  intro F
  induction F with
  | zero =>
    intro v5 st h
    exact absurd (show none = some z from h) (fun q => by cases q)
  | succ F ih =>
    intro v5 st h
    exact wX10_goNight_L21_B  C Zd  st v3 v4 v5 hK (fun v5 st h => ih v5 st h) h
def fX10_goNight_L65_B (K : Int32 → kS → Option (Int32 × kS)) (Gc : Int32 → kS → Option (Int32 × kS)) (st : kS) (v3 : Int32) (v4 : Int32) (v5 : Int32) : Option (Int32 × kS) := if (gI st 0) ≤ v5 then (K v5 st) else ((ka 6 (gA st 15) v5).bind (fun x_14 => if v5 < 0 ∨ 6 ≤ v5.toNatClampNeg then none else Gc (v5 + 1) (sA st 3 (upd (gA st 3) v5.toNatClampNeg x_14))))
set_option maxRecDepth 100000 in
set_option maxHeartbeats 4000000 in
theorem wX10_goNight_L65_B {G : kG} {E : kE} {a : Nat → Nat} (C : kOk G E cX10_goNight RX10 6 rmfX10_goNight) {z : Int32 × kS} (Zd : kEnd G E (0, 0) (some .int) (some (.int z.1)) (wM G a z.2)) {K Gc : Int32 → kS → Option (Int32 × kS)} (st : kS) (v3 : Int32) (v4 : Int32) (v5 : Int32) (hK : ∀ (u5 : Int32) (su : kS), K u5 su = some z → kX G E (0, 0) (wM G a su) 94 [(0, .ref (a 0)), (3, .int v3), (4, .int v4)] []) (hG : ∀ (u5 : Int32) (su : kS), Gc u5 su = some z → kX G E (0, 0) (wM G a su) 65 [(0, .ref (a 0)), (3, .int v3), (4, .int v4), (5, .int u5)] []) (h : fX10_goNight_L65_B K Gc st v3 v4 v5 = some z) : kX G E (0, 0) (wM G a st) 65 [(0, .ref (a 0)), (3, .int v3), (4, .int v4), (5, .int v5)] [] := by
  unfold fX10_goNight_L65_B at h
  refine x_iload (pc := 65) C 3 dX10_goNight_65 rfl ?_
  refine x_aload_n (pc := 67) C 0 dX10_goNight_67 rfl rfl ?_
  refine x_get (pc := 68) C inlX10 0 rfl rfl 0 (by decide) q15_2 (v := .int (gI st 0)) rfl dX10_goNight_68 ?_
  refine x_icmp_ge (pc := 71) C 94 dX10_goNight_71 (by decide) (fun c_13 => ?_) (fun c_13 => ?_)
  · have h := kIp c_13 h
    refine kX.pick [0, 1, 2] (lv' := [(0, .ref (a 0)), (3, .int v3), (4, .int v4)]) rfl ?_
    exact hK v5 st h
  · have h := kIn c_13 h
    refine x_aload_n (pc := 74) C 0 dX10_goNight_74 rfl rfl ?_
    refine x_get (pc := 75) C inlX10 0 rfl rfl 4 (by decide) q5_14 (v := .ref (a 3)) rfl dX10_goNight_75 ?_
    refine x_iload (pc := 78) C 3 dX10_goNight_78 rfl ?_
    refine x_aload_n (pc := 80) C 0 dX10_goNight_80 rfl rfl ?_
    refine x_get (pc := 81) C inlX10 0 rfl rfl 33 (by decide) q6_5 (v := .ref (a 15)) rfl dX10_goNight_81 ?_
    refine x_iload (pc := 84) C 3 dX10_goNight_84 rfl ?_
    obtain ⟨x_14, hx_14, h⟩ := kB h
    obtain ⟨hi_15, hx_14⟩ := ka_some hx_14
    refine y_iald (pc := 86) C 15 (lwM_A15 G a rfl) hi_15 hx_14 dX10_goNight_86 ?_
    obtain ⟨hi_16, h⟩ := kGn h
    refine x_iast (pc := 87) C 3 (lwM_A3 G a rfl) hi_16 (swM_A3 G a _ _) dX10_goNight_87 ?_
    refine x_iinc (pc := 88) C 3 (v := v5 + 1) (lv' := [(5, .int (v5 + 1)), (0, .ref (a 0)), (3, .int v3), (4, .int v4)]) dX10_goNight_88 rfl rfl (by decide) rfl ?_
    refine x_goto (pc := 91) C 65 dX10_goNight_91 (by decide) ?_
    refine kX.pick [1, 2, 3, 0] (lv' := [(0, .ref (a 0)), (3, .int v3), (4, .int v4), (5, .int (v5 + 1))]) rfl ?_
    exact hG (v5 + 1) (sA st 3 (upd (gA st 3) v5.toNatClampNeg x_14)) h
def fX10_goNight_L65 (K : Int32 → kS → Option (Int32 × kS)) (v3 : Int32) (v4 : Int32) : Nat → Int32 → kS → Option (Int32 × kS)
  | 0, _, _ => none
  | F + 1, v5, st => fX10_goNight_L65_B K (fX10_goNight_L65 K v3 v4 F) st v3 v4 v5
set_option maxRecDepth 100000 in
set_option maxHeartbeats 4000000 in
theorem wX10_goNight_L65 {G : kG} {E : kE} {a : Nat → Nat} (C : kOk G E cX10_goNight RX10 6 rmfX10_goNight) {z : Int32 × kS} (Zd : kEnd G E (0, 0) (some .int) (some (.int z.1)) (wM G a z.2)) {K : Int32 → kS → Option (Int32 × kS)} (v3 : Int32) (v4 : Int32) (hK : ∀ (u5 : Int32) (su : kS), K u5 su = some z → kX G E (0, 0) (wM G a su) 94 [(0, .ref (a 0)), (3, .int v3), (4, .int v4)] []) : ∀ (F : Nat) (v5 : Int32) (st : kS), fX10_goNight_L65 K v3 v4 F v5 st = some z → kX G E (0, 0) (wM G a st) 65 [(0, .ref (a 0)), (3, .int v3), (4, .int v4), (5, .int v5)] [] := by
  intro F
  induction F with
  | zero =>
    intro v5 st h
    exact absurd (show none = some z from h) (fun q => by cases q)
  | succ F ih =>
    intro v5 st h
    exact wX10_goNight_L65_B  C Zd  st v3 v4 v5 hK (fun v5 st h => ih v5 st h) h
def fX10_goNight (st : kS) (x1 : Int32) (x2 : Int32) : Option (Int32 × kS) := (fX10_indexNow st).bind (fun z_1 => (fX10_placeBy st x1 x2).bind (fun z_2 => (fX10_behind st z_1 z_2).bind (fun z_3 => fX10_goNight_L21 (fun v5_8 st_9 => (ka 720 (gA st_9 12) z_3).bind (fun x_10 => (fX10_think st_9 x_10).bind (fun z_12 => fX10_goNight_L65 (fun v5_17 st_18 => if z_3 = z_1 then (some (0, (sI st_18 2 ((gI st_18 2) + 1)))) else (some (1, (sI st_18 2 ((gI st_18 2) + 1))))) z_1 z_3 kFU 0 z_12.2))) z_1 z_3 kFU 0 st)))
set_option maxRecDepth 100000 in
set_option maxHeartbeats 4000000 in
theorem wX10_goNight {G : kG} {E : kE} {a : Nat → Nat} (C : kOk G E cX10_goNight RX10 6 rmfX10_goNight) {z : Int32 × kS} (Zd : kEnd G E (0, 0) (some .int) (some (.int z.1)) (wM G a z.2)) (st : kS) (x1 : Int32) (x2 : Int32) (h : fX10_goNight st x1 x2 = some z) : kX G E (0, 0) (wM G a st) 0 [(0, .ref (a 0)), (1, .int x1), (2, .int x2)] [] := by
  unfold fX10_goNight at h
  refine x_aload_n (pc := 0) C 0 dX10_goNight_0 rfl rfl ?_
  obtain ⟨z_1, hz_1, h⟩ := kB h
  refine x_callV (pc := 1) C 0 [] rfl rfl (mX10_indexNow G a st hz_1) yvX10_indexNow q25_22 ⟨Nat.le_of_ble_eq_true rfl, Nat.le_of_ble_eq_true rfl, rfl, rfl⟩ ⟨Nat.zero_le _, Nat.zero_le _⟩ rfl rfl (Nat.le_of_ble_eq_true rfl) rfl dX10_goNight_1 ?_
  refine x_istore_n (pc := 4) C (lv' := [(3, .int z_1), (0, .ref (a 0)), (1, .int x1), (2, .int x2)]) dX10_goNight_4 rfl (by decide) rfl ?_
  refine x_aload_n (pc := 5) C 1 dX10_goNight_5 rfl rfl ?_
  refine x_iload_n (pc := 6) C 0 dX10_goNight_6 rfl rfl ?_
  refine x_aload_n (pc := 7) C 1 dX10_goNight_7 rfl rfl ?_
  refine x_iload_n (pc := 8) C 2 dX10_goNight_8 rfl rfl ?_
  refine x_iload_n (pc := 9) C 3 dX10_goNight_9 rfl rfl ?_
  obtain ⟨z_2, hz_2, h⟩ := kB h
  refine x_callV (pc := 10) C 0 [.int x1, .int x2] rfl rfl (mX10_placeBy G a st x1 x2 hz_2) yvX10_placeBy q26_2 ⟨Nat.le_of_ble_eq_true rfl, Nat.le_of_ble_eq_true rfl, rfl, rfl⟩ ⟨Nat.zero_le _, Nat.zero_le _⟩ rfl rfl (Nat.le_of_ble_eq_true rfl) rfl dX10_goNight_10 ?_
  obtain ⟨z_3, hz_3, h⟩ := kB h
  refine x_callV (pc := 13) C 0 [.int z_1, .int z_2] rfl rfl (mX10_behind G a st z_1 z_2 hz_3) yvX10_behind q26_6 ⟨Nat.le_of_ble_eq_true rfl, Nat.le_of_ble_eq_true rfl, rfl, rfl⟩ ⟨Nat.zero_le _, Nat.zero_le _⟩ rfl rfl (Nat.le_of_ble_eq_true rfl) rfl dX10_goNight_13 ?_
  refine x_istore (pc := 16) C (lv' := [(4, .int z_3), (3, .int z_1), (0, .ref (a 0)), (1, .int x1), (2, .int x2)]) dX10_goNight_16 (by decide) rfl ?_
  refine x_iconst (pc := 18) C 0 dX10_goNight_18 (by decide) ?_
  refine x_istore (pc := 19) C (lv' := [(5, .int 0), (4, .int z_3), (3, .int z_1), (0, .ref (a 0)), (1, .int x1), (2, .int x2)]) dX10_goNight_19 (by decide) rfl ?_
  refine kX.pick [3, 2, 1, 0] (lv' := [(0, .ref (a 0)), (3, .int z_1), (4, .int z_3), (5, .int 0)]) rfl ?_
  refine wX10_goNight_L21  C Zd  z_1 z_3 (fun v5_8 st_9 h => ?_) kFU 0 st h
  refine x_aload_n (pc := 50) C 0 dX10_goNight_50 rfl rfl ?_
  refine x_aload_n (pc := 51) C 0 dX10_goNight_51 rfl rfl ?_
  refine x_get (pc := 52) C inlX10 0 rfl rfl 30 (by decide) q6_1 (v := .ref (a 12)) rfl dX10_goNight_52 ?_
  refine x_iload (pc := 55) C 2 dX10_goNight_55 rfl ?_
  obtain ⟨x_10, hx_10, h⟩ := kB h
  obtain ⟨hi_11, hx_10⟩ := ka_some hx_10
  refine y_iald (pc := 57) C 12 (lwM_A12 G a rfl) hi_11 hx_10 dX10_goNight_57 ?_
  obtain ⟨z_12, hz_12, h⟩ := kB h
  refine x_callV (pc := 58) C 0 [.int x_10] rfl rfl (mX10_think G a st_9 x_10 hz_12) yvX10_think q15_11 ⟨Nat.le_of_ble_eq_true rfl, Nat.le_of_ble_eq_true rfl, rfl, rfl⟩ ⟨Nat.zero_le _, Nat.zero_le _⟩ rfl rfl (Nat.le_of_ble_eq_true rfl) rfl dX10_goNight_58 ?_
  refine x_pop (pc := 61) C dX10_goNight_61 rfl ?_
  refine x_iconst (pc := 62) C 0 dX10_goNight_62 (by decide) ?_
  refine x_istore (pc := 63) C (lv' := [(5, .int 0), (0, .ref (a 0)), (3, .int z_1), (4, .int z_3)]) dX10_goNight_63 (by decide) rfl ?_
  refine kX.pick [1, 2, 3, 0] (lv' := [(0, .ref (a 0)), (3, .int z_1), (4, .int z_3), (5, .int 0)]) rfl ?_
  refine wX10_goNight_L65  C Zd  z_1 z_3 (fun v5_17 st_18 h => ?_) kFU 0 z_12.2 h
  refine x_aload_n (pc := 94) C 0 dX10_goNight_94 rfl rfl ?_
  refine x_dup (pc := 95) C dX10_goNight_95 rfl ?_
  refine x_get (pc := 96) C inlX10 0 rfl rfl 6 (by decide) q15_3 (v := .int (gI st_18 2)) rfl dX10_goNight_96 ?_
  refine x_iconst (pc := 99) C 1 dX10_goNight_99 (by decide) ?_
  refine x_iadd (pc := 100) C dX10_goNight_100 ?_
  refine x_put (pc := 101) C inlX10 tyX10 tyX10_ok nmX10 0 rfl rfl 6 (by decide) q15_3 rfl .int (v := .int ((gI st_18 2) + 1)) (by decide +kernel) rfl rfl (Nat.le_of_ble_eq_true rfl) (swM_I2 G a _ _) dX10_goNight_101 ?_
  refine x_iload (pc := 104) C 2 dX10_goNight_104 rfl ?_
  refine x_iload_n (pc := 106) C 1 dX10_goNight_106 rfl rfl ?_
  refine x_icmp_ne (pc := 107) C 114 dX10_goNight_107 (by decide) (fun c_19 => ?_) (fun c_19 => ?_)
  · have h := kIn c_19 h
    refine x_iconst (pc := 114) C 1 dX10_goNight_114 (by decide) ?_
    obtain rfl := Option.some.inj h
    exact x_iret (pc := 115) C Zd dX10_goNight_115
  · have h := kIp c_19 h
    refine x_iconst (pc := 110) C 0 dX10_goNight_110 (by decide) ?_
    refine x_goto (pc := 111) C 115 dX10_goNight_111 (by decide) ?_
    obtain rfl := Option.some.inj h
    exact x_iret (pc := 115) C Zd dX10_goNight_115
set_option maxRecDepth 100000 in
theorem mX10_goNight (G : kG) (a : Nat → Nat) (st : kS) (x1 : Int32) (x2 : Int32) {z : Int32 × kS} (h : fX10_goNight st x1 x2 = some z) : kMet G yX10_goNight cX10_goNight 6 (some .int) rmfX10_goNight (0, 0) [.ref (a 0), .int x1, .int x2] (wM G a st) (some (.int z.1)) (wM G a z.2) := kMet.mk (by decide +kernel) (Nat.le_of_ble_eq_true rfl) (fun E C Zd => wX10_goNight  C Zd  st x1 x2 h)
theorem yvX10_night : kYV yX10_night RX10 cX10_night 3 (some .int) 2 := ⟨q25_15, q25_16, q1_5, q25_17, by decide +kernel⟩
abbrev rmfX10_night : Room := { frames := 3, cells := 0, slots := 0, locals := 68 }
def fX10_night (st : kS) (x1 : Int32) (x2 : Int32) : Option (Int32 × kS) := (fX10_isHouse st x1).bind (fun z_1 => if z_1 = 0 then (some ((-101), st)) else (if (fX10_within x2 (-1) 1) = 0 then (some ((-102), st)) else ((fX10_goNight st x1 x2).bind (fun z_4 => some (z_4.1, z_4.2)))))
set_option maxRecDepth 100000 in
set_option maxHeartbeats 4000000 in
theorem wX10_night {G : kG} {E : kE} {a : Nat → Nat} (C : kOk G E cX10_night RX10 3 rmfX10_night) {z : Int32 × kS} (Zd : kEnd G E (0, 0) (some .int) (some (.int z.1)) (wM G a z.2)) (st : kS) (x1 : Int32) (x2 : Int32) (h : fX10_night st x1 x2 = some z) : kX G E (0, 0) (wM G a st) 0 [(0, .ref (a 0)), (1, .int x1), (2, .int x2)] [] := by
  unfold fX10_night at h
  refine x_aload_n (pc := 0) C 0 dX10_night_0 rfl rfl ?_
  refine x_iload_n (pc := 1) C 1 dX10_night_1 rfl rfl ?_
  obtain ⟨z_1, hz_1, h⟩ := kB h
  refine x_callV (pc := 2) C 0 [.int x1] rfl rfl (mX10_isHouse G a st x1 hz_1) yvX10_isHouse q19_14 ⟨Nat.le_of_ble_eq_true rfl, Nat.le_of_ble_eq_true rfl, rfl, rfl⟩ ⟨Nat.zero_le _, Nat.zero_le _⟩ rfl rfl (Nat.le_of_ble_eq_true rfl) rfl dX10_night_2 ?_
  refine x_if_ne (pc := 5) C 11 dX10_night_5 (by decide) (fun c_2 => ?_) (fun c_2 => ?_)
  · have h := kIn c_2 h
    refine x_iload_n (pc := 11) C 2 dX10_night_11 rfl rfl ?_
    refine x_iconst (pc := 12) C (-1) dX10_night_12 (by decide) ?_
    refine x_iconst (pc := 13) C 1 dX10_night_13 (by decide) ?_
    refine x_callS (pc := 14) C [.int x2, .int (-1), .int 1] (mX10_within G x2 (-1) 1) ysX10_within q10_2 ⟨Nat.le_of_ble_eq_true rfl, Nat.le_of_ble_eq_true rfl, rfl, rfl⟩ ⟨Nat.zero_le _, Nat.zero_le _⟩ rfl rfl (Nat.le_of_ble_eq_true rfl) rfl dX10_night_14 ?_
    refine x_if_eq (pc := 17) C 29 dX10_night_17 (by decide) (fun c_3 => ?_) (fun c_3 => ?_)
    · have h := kIp c_3 h
      refine x_bipush (pc := 29) C (-102) dX10_night_29 (by decide) ?_
      obtain rfl := Option.some.inj h
      exact x_iret (pc := 31) C Zd dX10_night_31
    · have h := kIn c_3 h
      refine x_aload_n (pc := 20) C 0 dX10_night_20 rfl rfl ?_
      refine x_iload_n (pc := 21) C 1 dX10_night_21 rfl rfl ?_
      refine x_iload_n (pc := 22) C 2 dX10_night_22 rfl rfl ?_
      obtain ⟨z_4, hz_4, h⟩ := kB h
      refine x_callV (pc := 23) C 0 [.int x1, .int x2] rfl rfl (mX10_goNight G a st x1 x2 hz_4) yvX10_goNight q25_18 ⟨Nat.le_of_ble_eq_true rfl, Nat.le_of_ble_eq_true rfl, rfl, rfl⟩ ⟨Nat.zero_le _, Nat.zero_le _⟩ rfl rfl (Nat.le_of_ble_eq_true rfl) rfl dX10_night_23 ?_
      refine x_goto (pc := 26) C 31 dX10_night_26 (by decide) ?_
      obtain rfl := Option.some.inj h
      exact x_iret (pc := 31) C Zd dX10_night_31
  · have h := kIp c_2 h
    refine x_bipush (pc := 8) C (-101) dX10_night_8 (by decide) ?_
    obtain rfl := Option.some.inj h
    exact x_iret (pc := 10) C Zd dX10_night_10
set_option maxRecDepth 100000 in
theorem mX10_night (G : kG) (a : Nat → Nat) (st : kS) (x1 : Int32) (x2 : Int32) {z : Int32 × kS} (h : fX10_night st x1 x2 = some z) : kMet G yX10_night cX10_night 3 (some .int) rmfX10_night (0, 0) [.ref (a 0), .int x1, .int x2] (wM G a st) (some (.int z.1)) (wM G a z.2) := kMet.mk (by decide +kernel) (Nat.le_of_ble_eq_true rfl) (fun E C Zd => wX10_night  C Zd  st x1 x2 h)
theorem yvX10_draw : kYV yX10_draw RX10 cX10_draw 1 (some .int) 0 := ⟨q28_16, q28_17, q1_5, q28_18, by decide +kernel⟩
abbrev rmfX10_draw : Room := { frames := 0, cells := 0, slots := 0, locals := 0 }
def fX10_draw (st : kS) : Option (Int32 × kS) := if ((gI st 0).toInt64) = 0 then none else some (((klr ((((1103515245 * (gJ st 0)) + 12345) &&& 2147483647) / 65536) ((gI st 0).toInt64)).toInt32), (sJ st 0 (((1103515245 * (gJ st 0)) + 12345) &&& 2147483647)))
set_option maxRecDepth 100000 in
set_option maxHeartbeats 4000000 in
theorem wX10_draw {G : kG} {E : kE} {a : Nat → Nat} (C : kOk G E cX10_draw RX10 1 rmfX10_draw) {z : Int32 × kS} (Zd : kEnd G E (0, 0) (some .int) (some (.int z.1)) (wM G a z.2)) (st : kS) (h : fX10_draw st = some z) : kX G E (0, 0) (wM G a st) 0 [(0, .ref (a 0))] [] := by
  unfold fX10_draw at h
  refine x_aload_n (pc := 0) C 0 dX10_draw_0 rfl rfl ?_
  refine x_ldc2 (pc := 1) C q28_19 dX10_draw_1 ?_
  refine x_aload_n (pc := 4) C 0 dX10_draw_4 rfl rfl ?_
  refine x_get (pc := 5) C inlX10 0 rfl rfl 9 (by decide) q5_17 (v := .long (gJ st 0)) rfl dX10_draw_5 ?_
  refine x_lmul (pc := 8) C dX10_draw_8 ?_
  refine x_ldc2 (pc := 9) C q28_20 dX10_draw_9 ?_
  refine x_ladd (pc := 12) C dX10_draw_12 ?_
  refine x_ldc2 (pc := 13) C q28_21 dX10_draw_13 ?_
  refine x_land (pc := 16) C dX10_draw_16 ?_
  refine x_put (pc := 17) C inlX10 tyX10 tyX10_ok nmX10 0 rfl rfl 9 (by decide) q5_17 rfl .long (v := .long (((1103515245 * (gJ st 0)) + 12345) &&& 2147483647)) (by decide +kernel) rfl rfl (Nat.le_of_ble_eq_true rfl) (swM_J0 G a _ _) dX10_draw_17 ?_
  refine x_aload_n (pc := 20) C 0 dX10_draw_20 rfl rfl ?_
  refine x_get (pc := 21) C inlX10 0 rfl rfl 9 (by decide) q5_17 (v := .long (((1103515245 * (gJ st 0)) + 12345) &&& 2147483647)) rfl dX10_draw_21 ?_
  refine x_ldc2 (pc := 24) C q28_22 dX10_draw_24 ?_
  refine y_ldiv (pc := 27) C dX10_draw_27 (by decide) ?_
  refine x_aload_n (pc := 28) C 0 dX10_draw_28 rfl rfl ?_
  refine x_get (pc := 29) C inlX10 0 rfl rfl 0 (by decide) q15_2 (v := .int (gI st 0)) rfl dX10_draw_29 ?_
  refine x_i2l (pc := 32) C dX10_draw_32 ?_
  obtain ⟨c_1, h⟩ := kGd h
  refine y_lrem (pc := 33) C dX10_draw_33 c_1 ?_
  refine x_l2i (pc := 34) C dX10_draw_34 ?_
  obtain rfl := Option.some.inj h
  exact x_iret (pc := 35) C Zd dX10_draw_35
set_option maxRecDepth 100000 in
theorem mX10_draw (G : kG) (a : Nat → Nat) (st : kS)  {z : Int32 × kS} (h : fX10_draw st = some z) : kMet G yX10_draw cX10_draw 1 (some .int) rmfX10_draw (0, 0) [.ref (a 0)] (wM G a st) (some (.int z.1)) (wM G a z.2) := kMet.mk (by decide +kernel) (Nat.le_of_ble_eq_true rfl) (fun E C Zd => wX10_draw  C Zd  st  h)
theorem yvX10_bestFor : kYV yX10_bestFor RX10 cX10_bestFor 6 (some .int) 2 := ⟨q29_8, q29_9, q1_5, q29_10, by decide +kernel⟩
abbrev rmfX10_bestFor : Room := { frames := 1, cells := 0, slots := 0, locals := 22 }
def fX10_bestFor_L5_B (K : Int32 → Int32 → Option (Int32)) (Gc : Int32 → Int32 → Option (Int32)) (st : kS) (v1 : Int32) (v2 : Int32) (v3 : Int32) (v4 : Int32) : Option (Int32) := if 2 ≤ v4 then (K v3 v4) else ((fX10_placeBy st v2 v4).bind (fun z_2 => (fX10_behind st v1 z_2).bind (fun z_3 => (ka 720 (gA st 16) z_3).bind (fun x_4 => if x_4 ≤ v3 then (Gc v3 (v4 + 1)) else (Gc x_4 (v4 + 1))))))
set_option maxRecDepth 100000 in
set_option maxHeartbeats 4000000 in
theorem wX10_bestFor_L5_B {G : kG} {E : kE} {a : Nat → Nat} {st0 : kS} (C : kOk G E cX10_bestFor RX10 6 rmfX10_bestFor) {z : Int32} (Zd : kEnd G E (0, 0) (some .int) (some (.int z)) (wM G a st0)) {K Gc : Int32 → Int32 → Option (Int32)} (v1 : Int32) (v2 : Int32) (v3 : Int32) (v4 : Int32) (hK : ∀ (u3 : Int32) (u4 : Int32), K u3 u4 = some z → kX G E (0, 0) (wM G a st0) 49 [(3, .int u3)] []) (hG : ∀ (u3 : Int32) (u4 : Int32), Gc u3 u4 = some z → kX G E (0, 0) (wM G a st0) 5 [(0, .ref (a 0)), (1, .int v1), (2, .int v2), (3, .int u3), (4, .int u4)] []) (h : fX10_bestFor_L5_B K Gc st0 v1 v2 v3 v4 = some z) : kX G E (0, 0) (wM G a st0) 5 [(0, .ref (a 0)), (1, .int v1), (2, .int v2), (3, .int v3), (4, .int v4)] [] := by
  unfold fX10_bestFor_L5_B at h
  refine x_iload (pc := 5) C 4 dX10_bestFor_5 rfl ?_
  refine x_iconst (pc := 7) C 2 dX10_bestFor_7 (by decide) ?_
  refine x_icmp_ge (pc := 8) C 49 dX10_bestFor_8 (by decide) (fun c_1 => ?_) (fun c_1 => ?_)
  · have h := kIp c_1 h
    refine kX.pick [3] (lv' := [(3, .int v3)]) rfl ?_
    exact hK v3 v4 h
  · have h := kIn c_1 h
    refine x_aload_n (pc := 11) C 0 dX10_bestFor_11 rfl rfl ?_
    refine x_get (pc := 12) C inlX10 0 rfl rfl 34 (by decide) q6_6 (v := .ref (a 16)) rfl dX10_bestFor_12 ?_
    refine x_aload_n (pc := 15) C 0 dX10_bestFor_15 rfl rfl ?_
    refine x_iload_n (pc := 16) C 1 dX10_bestFor_16 rfl rfl ?_
    refine x_aload_n (pc := 17) C 0 dX10_bestFor_17 rfl rfl ?_
    refine x_iload_n (pc := 18) C 2 dX10_bestFor_18 rfl rfl ?_
    refine x_iload (pc := 19) C 4 dX10_bestFor_19 rfl ?_
    obtain ⟨z_2, hz_2, h⟩ := kB h
    refine x_callV (pc := 21) C 0 [.int v2, .int v4] rfl rfl (mX10_placeBy G a st0 v2 v4 hz_2) yvX10_placeBy q26_2 ⟨Nat.le_of_ble_eq_true rfl, Nat.le_of_ble_eq_true rfl, rfl, rfl⟩ ⟨Nat.zero_le _, Nat.zero_le _⟩ rfl rfl (Nat.le_of_ble_eq_true rfl) rfl dX10_bestFor_21 ?_
    obtain ⟨z_3, hz_3, h⟩ := kB h
    refine x_callV (pc := 24) C 0 [.int v1, .int z_2] rfl rfl (mX10_behind G a st0 v1 z_2 hz_3) yvX10_behind q26_6 ⟨Nat.le_of_ble_eq_true rfl, Nat.le_of_ble_eq_true rfl, rfl, rfl⟩ ⟨Nat.zero_le _, Nat.zero_le _⟩ rfl rfl (Nat.le_of_ble_eq_true rfl) rfl dX10_bestFor_24 ?_
    obtain ⟨x_4, hx_4, h⟩ := kB h
    obtain ⟨hi_5, hx_4⟩ := ka_some hx_4
    refine y_iald (pc := 27) C 16 (lwM_A16 G a rfl) hi_5 hx_4 dX10_bestFor_27 ?_
    refine x_istore (pc := 28) C (lv' := [(5, .int x_4), (0, .ref (a 0)), (1, .int v1), (2, .int v2), (3, .int v3), (4, .int v4)]) dX10_bestFor_28 (by decide) rfl ?_
    refine x_iload (pc := 30) C 0 dX10_bestFor_30 rfl ?_
    refine x_iload_n (pc := 32) C 4 dX10_bestFor_32 rfl rfl ?_
    refine x_icmp_le (pc := 33) C 41 dX10_bestFor_33 (by decide) (fun c_6 => ?_) (fun c_6 => ?_)
    · have h := kIp c_6 h
      refine x_iload_n (pc := 41) C 4 dX10_bestFor_41 rfl rfl ?_
      refine x_istore_n (pc := 42) C (lv' := [(3, .int v3), (5, .int x_4), (0, .ref (a 0)), (1, .int v1), (2, .int v2), (4, .int v4)]) dX10_bestFor_42 rfl (by decide) rfl ?_
      refine x_iinc (pc := 43) C 5 (v := v4 + 1) (lv' := [(4, .int (v4 + 1)), (3, .int v3), (5, .int x_4), (0, .ref (a 0)), (1, .int v1), (2, .int v2)]) dX10_bestFor_43 rfl rfl (by decide) rfl ?_
      refine x_goto (pc := 46) C 5 dX10_bestFor_46 (by decide) ?_
      refine kX.pick [3, 4, 5, 1, 0] (lv' := [(0, .ref (a 0)), (1, .int v1), (2, .int v2), (3, .int v3), (4, .int (v4 + 1))]) rfl ?_
      exact hG v3 (v4 + 1) h
    · have h := kIn c_6 h
      refine x_iload (pc := 36) C 0 dX10_bestFor_36 rfl ?_
      refine x_goto (pc := 38) C 42 dX10_bestFor_38 (by decide) ?_
      refine x_istore_n (pc := 42) C (lv' := [(3, .int x_4), (5, .int x_4), (0, .ref (a 0)), (1, .int v1), (2, .int v2), (4, .int v4)]) dX10_bestFor_42 rfl (by decide) rfl ?_
      refine x_iinc (pc := 43) C 5 (v := v4 + 1) (lv' := [(4, .int (v4 + 1)), (3, .int x_4), (5, .int x_4), (0, .ref (a 0)), (1, .int v1), (2, .int v2)]) dX10_bestFor_43 rfl rfl (by decide) rfl ?_
      refine x_goto (pc := 46) C 5 dX10_bestFor_46 (by decide) ?_
      refine kX.pick [3, 4, 5, 1, 0] (lv' := [(0, .ref (a 0)), (1, .int v1), (2, .int v2), (3, .int x_4), (4, .int (v4 + 1))]) rfl ?_
      exact hG x_4 (v4 + 1) h
def fX10_bestFor_L5 (K : Int32 → Int32 → Option (Int32)) (st : kS) (v1 : Int32) (v2 : Int32) : Nat → Int32 → Int32 → Option (Int32)
  | 0, _, _ => none
  | F + 1, v3, v4 => fX10_bestFor_L5_B K (fX10_bestFor_L5 K st v1 v2 F) st v1 v2 v3 v4
set_option maxRecDepth 100000 in
set_option maxHeartbeats 4000000 in
theorem wX10_bestFor_L5 {G : kG} {E : kE} {a : Nat → Nat} {st0 : kS} (C : kOk G E cX10_bestFor RX10 6 rmfX10_bestFor) {z : Int32} (Zd : kEnd G E (0, 0) (some .int) (some (.int z)) (wM G a st0)) {K : Int32 → Int32 → Option (Int32)} (v1 : Int32) (v2 : Int32) (hK : ∀ (u3 : Int32) (u4 : Int32), K u3 u4 = some z → kX G E (0, 0) (wM G a st0) 49 [(3, .int u3)] []) : ∀ (F : Nat) (v3 : Int32) (v4 : Int32), fX10_bestFor_L5 K st0 v1 v2 F v3 v4 = some z → kX G E (0, 0) (wM G a st0) 5 [(0, .ref (a 0)), (1, .int v1), (2, .int v2), (3, .int v3), (4, .int v4)] [] := by
  intro F
  induction F with
  | zero =>
    intro v3 v4 h
    exact absurd (show none = some z from h) (fun q => by cases q)
  | succ F ih =>
    intro v3 v4 h
    exact wX10_bestFor_L5_B  C Zd  v1 v2 v3 v4 hK (fun v3 v4 h => ih v3 v4 h) h
def fX10_bestFor (st : kS) (x1 : Int32) (x2 : Int32) : Option (Int32) := fX10_bestFor_L5 (fun v3_7 v4_8 => some v3_7) st x1 x2 kFU 0 (-1)
set_option maxRecDepth 100000 in
set_option maxHeartbeats 4000000 in
theorem wX10_bestFor {G : kG} {E : kE} {a : Nat → Nat} {st0 : kS} (C : kOk G E cX10_bestFor RX10 6 rmfX10_bestFor) {z : Int32} (Zd : kEnd G E (0, 0) (some .int) (some (.int z)) (wM G a st0)) (x1 : Int32) (x2 : Int32) (h : fX10_bestFor st0 x1 x2 = some z) : kX G E (0, 0) (wM G a st0) 0 [(0, .ref (a 0)), (1, .int x1), (2, .int x2)] [] := by
  unfold fX10_bestFor at h
  refine x_iconst (pc := 0) C 0 dX10_bestFor_0 (by decide) ?_
  refine x_istore_n (pc := 1) C (lv' := [(3, .int 0), (0, .ref (a 0)), (1, .int x1), (2, .int x2)]) dX10_bestFor_1 rfl (by decide) rfl ?_
  refine x_iconst (pc := 2) C (-1) dX10_bestFor_2 (by decide) ?_
  refine x_istore (pc := 3) C (lv' := [(4, .int (-1)), (3, .int 0), (0, .ref (a 0)), (1, .int x1), (2, .int x2)]) dX10_bestFor_3 (by decide) rfl ?_
  refine kX.pick [2, 3, 4, 1, 0] (lv' := [(0, .ref (a 0)), (1, .int x1), (2, .int x2), (3, .int 0), (4, .int (-1))]) rfl ?_
  refine wX10_bestFor_L5  C Zd  x1 x2 (fun v3_7 v4_8 h => ?_) kFU 0 (-1) h
  refine x_iload_n (pc := 49) C 0 dX10_bestFor_49 rfl rfl ?_
  obtain rfl := Option.some.inj h
  exact x_iret (pc := 50) C Zd dX10_bestFor_50
set_option maxRecDepth 100000 in
theorem mX10_bestFor (G : kG) (a : Nat → Nat) (st : kS) (x1 : Int32) (x2 : Int32) {z : Int32} (h : fX10_bestFor st x1 x2 = some z) : kMet G yX10_bestFor cX10_bestFor 6 (some .int) rmfX10_bestFor (0, 0) [.ref (a 0), .int x1, .int x2] (wM G a st) (some (.int z)) (wM G a st) := kMet.mk (by decide +kernel) (Nat.le_of_ble_eq_true rfl) (fun E C Zd => wX10_bestFor  C Zd  x1 x2 h)
