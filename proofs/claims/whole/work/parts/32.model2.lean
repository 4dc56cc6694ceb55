theorem yvX10_layNext : kYV yX10_layNext RX10 cX10_layNext 4 none 1 := ⟨q15_16, q15_17, q1_5, q15_18, by decide +kernel⟩
abbrev rmfX10_layNext : Room := { frames := 2, cells := 0, slots := 0, locals := 42 }
def fX10_layNext_J36 (K : Int32 → kS → Option (kS)) (Gc : Int32 → kS → Option (kS)) (st : kS) (v1 : Int32) (v2 : Int32) (v3 : Int32) : Option (kS) := (fX10_code 6 (gA st 15) st).bind (fun z_7 => (ka 46656 (gA st 13) z_7).bind (fun x_8 => if ((6 * v1) + v2) < 0 ∨ 4320 ≤ ((6 * v1) + v2).toNatClampNeg then none else if v3 = 0 then (Gc (v2 + 1) (sA st 14 (upd (gA st 14) ((6 * v1) + v2).toNatClampNeg x_8))) else ((fX10_change (sA st 14 (upd (gA st 14) ((6 * v1) + v2).toNatClampNeg x_8)) v2).bind (fun z_12 => Gc (v2 + 1) z_12))))
set_option maxRecDepth 100000 in
set_option maxHeartbeats 4000000 in
theorem wX10_layNext_J36 {G : kG} {E : kE} {a : Nat → Nat} (C : kOk G E cX10_layNext RX10 4 rmfX10_layNext) {z : kS} (Zd : kEnd G E (0, 0) none none (wM G a z)) {K Gc : Int32 → kS → Option (kS)} (st : kS) (v1 : Int32) (v2 : Int32) (v3 : Int32) (hK : ∀ (u2 : Int32) (su : kS), K u2 su = some z → kX G E (0, 0) (wM G a su) 75 [] []) (hG : ∀ (u2 : Int32) (su : kS), Gc u2 su = some z → kX G E (0, 0) (wM G a su) 13 [(0, .ref (a 0)), (1, .int v1), (2, .int u2)] []) (h : fX10_layNext_J36 K Gc st v1 v2 v3 = some z) : kX G E (0, 0) (wM G a st) 36 [(0, .ref (a 0)), (1, .int v1), (2, .int v2), (3, .int v3)] [] := by
  unfold fX10_layNext_J36 at h
  refine x_aload_n (pc := 36) C 0 dX10_layNext_36 rfl rfl ?_
  refine x_get (pc := 37) C inlX10 0 rfl rfl 32 (by decide) q6_4 (v := .ref (a 14)) rfl dX10_layNext_37 ?_
  refine x_bipush (pc := 40) C 6 dX10_layNext_40 (by decide) ?_
  refine x_iload_n (pc := 42) C 1 dX10_layNext_42 rfl rfl ?_
  refine x_imul (pc := 43) C dX10_layNext_43 ?_
  refine x_iload_n (pc := 44) C 2 dX10_layNext_44 rfl rfl ?_
  refine x_iadd (pc := 45) C dX10_layNext_45 ?_
  refine x_aload_n (pc := 46) C 0 dX10_layNext_46 rfl rfl ?_
  refine x_get (pc := 47) C inlX10 0 rfl rfl 31 (by decide) q6_3 (v := .ref (a 13)) rfl dX10_layNext_47 ?_
  refine x_aload_n (pc := 50) C 0 dX10_layNext_50 rfl rfl ?_
  refine x_aload_n (pc := 51) C 0 dX10_layNext_51 rfl rfl ?_
  refine x_get (pc := 52) C inlX10 0 rfl rfl 33 (by decide) q6_5 (v := .ref (a 15)) rfl dX10_layNext_52 ?_
  obtain ⟨z_7, hz_7, h⟩ := kB h
  refine x_callV (pc := 55) C 0 [.ref (a 15)] rfl rfl (mX10_code G a (N := 6) (f := (gA st 15)) 15 (lwM_A15 G a rfl) (by decide) st hz_7) yvX10_code q16_7 ⟨Nat.le_of_ble_eq_true rfl, Nat.le_of_ble_eq_true rfl, rfl, rfl⟩ ⟨Nat.zero_le _, Nat.zero_le _⟩ rfl rfl (Nat.le_of_ble_eq_true rfl) rfl dX10_layNext_55 ?_
  obtain ⟨x_8, hx_8, h⟩ := kB h
  obtain ⟨hi_9, hx_8⟩ := ka_some hx_8
  refine y_iald (pc := 58) C 13 (lwM_A13 G a rfl) hi_9 hx_8 dX10_layNext_58 ?_
  obtain ⟨hi_10, h⟩ := kGn h
  refine x_iast (pc := 59) C 14 (lwM_A14 G a rfl) hi_10 (swM_A14 G a _ _) dX10_layNext_59 ?_
  refine x_iload_n (pc := 60) C 3 dX10_layNext_60 rfl rfl ?_
  refine x_if_eq (pc := 61) C 69 dX10_layNext_61 (by decide) (fun c_11 => ?_) (fun c_11 => ?_)
  · have h := kIp c_11 h
    refine x_iinc (pc := 69) C 2 (v := v2 + 1) (lv' := [(2, .int (v2 + 1)), (0, .ref (a 0)), (1, .int v1), (3, .int v3)]) dX10_layNext_69 rfl rfl (by decide) rfl ?_
    refine x_goto (pc := 72) C 13 dX10_layNext_72 (by decide) ?_
    refine kX.pick [1, 2, 0] (lv' := [(0, .ref (a 0)), (1, .int v1), (2, .int (v2 + 1))]) rfl ?_
    exact hG (v2 + 1) (sA st 14 (upd (gA st 14) ((6 * v1) + v2).toNatClampNeg x_8)) h
  · have h := kIn c_11 h
    refine x_aload_n (pc := 64) C 0 dX10_layNext_64 rfl rfl ?_
    refine x_iload_n (pc := 65) C 2 dX10_layNext_65 rfl rfl ?_
    obtain ⟨z_12, hz_12, h⟩ := kB h
    refine x_callV (pc := 66) C 0 [.int v2] rfl rfl (mX10_change G a (sA st 14 (upd (gA st 14) ((6 * v1) + v2).toNatClampNeg x_8)) v2 hz_12) yvX10_change q16_3 ⟨Nat.le_of_ble_eq_true rfl, Nat.le_of_ble_eq_true rfl, rfl, rfl⟩ ⟨Nat.zero_le _, Nat.zero_le _⟩ rfl rfl (Nat.le_of_ble_eq_true rfl) rfl dX10_layNext_66 ?_
    refine x_iinc (pc := 69) C 2 (v := v2 + 1) (lv' := [(2, .int (v2 + 1)), (0, .ref (a 0)), (1, .int v1), (3, .int v3)]) dX10_layNext_69 rfl rfl (by decide) rfl ?_
    refine x_goto (pc := 72) C 13 dX10_layNext_72 (by decide) ?_
    refine kX.pick [1, 2, 0] (lv' := [(0, .ref (a 0)), (1, .int v1), (2, .int (v2 + 1))]) rfl ?_
    exact hG (v2 + 1) z_12 h
def fX10_layNext_L13_B (K : Int32 → kS → Option (kS)) (Gc : Int32 → kS → Option (kS)) (st : kS) (v1 : Int32) (v2 : Int32) : Option (kS) := if (gI st 0) ≤ v2 then (K v2 st) else ((fX10_changes st v2).bind (fun z_5 => if z_5 = 0 then (fX10_layNext_J36 K Gc st v1 v2 z_5) else ((fX10_change st v2).bind (fun z_13 => fX10_layNext_J36 K Gc z_13 v1 v2 z_5))))
set_option maxRecDepth 100000 in
set_option maxHeartbeats 4000000 in
theorem wX10_layNext_L13_B {G : kG} {E : kE} {a : Nat → Nat} (C : kOk G E cX10_layNext RX10 4 rmfX10_layNext) {z : kS} (Zd : kEnd G E (0, 0) none none (wM G a z)) {K Gc : Int32 → kS → Option (kS)} (st : kS) (v1 : Int32) (v2 : Int32) (hK : ∀ (u2 : Int32) (su : kS), K u2 su = some z → kX G E (0, 0) (wM G a su) 75 [] []) (hG : ∀ (u2 : Int32) (su : kS), Gc u2 su = some z → kX G E (0, 0) (wM G a su) 13 [(0, .ref (a 0)), (1, .int v1), (2, .int u2)] []) (h : fX10_layNext_L13_B K Gc st v1 v2 = some z) : kX G E (0, 0) (wM G a st) 13 [(0, .ref (a 0)), (1, .int v1), (2, .int v2)] [] := by
  unfold fX10_layNext_L13_B at h
  refine x_iload_n (pc := 13) C 2 dX10_layNext_13 rfl rfl ?_
  refine x_aload_n (pc := 14) C 0 dX10_layNext_14 rfl rfl ?_
  refine x_get (pc := 15) C inlX10 0 rfl rfl 0 (by decide) q15_2 (v := .int (gI st 0)) rfl dX10_layNext_15 ?_
  refine x_icmp_ge (pc := 18) C 75 dX10_layNext_18 (by decide) (fun c_4 => ?_) (fun c_4 => ?_)
  · have h := kIp c_4 h
    refine kX.pick [] (lv' := []) rfl ?_
    exact hK v2 st h
  · have h := kIn c_4 h
    refine x_aload_n (pc := 21) C 0 dX10_layNext_21 rfl rfl ?_
    refine x_iload_n (pc := 22) C 2 dX10_layNext_22 rfl rfl ?_
    obtain ⟨z_5, hz_5, h⟩ := kB h
    refine x_callV (pc := 23) C 0 [.int v2] rfl rfl (mX10_changes G a st v2 hz_5) yvX10_changes q15_19 ⟨Nat.le_of_ble_eq_true rfl, Nat.le_of_ble_eq_true rfl, rfl, rfl⟩ ⟨Nat.zero_le _, Nat.zero_le _⟩ rfl rfl (Nat.le_of_ble_eq_true rfl) rfl dX10_layNext_23 ?_
    refine x_istore_n (pc := 26) C (lv' := [(3, .int z_5), (0, .ref (a 0)), (1, .int v1), (2, .int v2)]) dX10_layNext_26 rfl (by decide) rfl ?_
    refine x_iload_n (pc := 27) C 0 dX10_layNext_27 rfl rfl ?_
    refine x_if_eq (pc := 28) C 36 dX10_layNext_28 (by decide) (fun c_6 => ?_) (fun c_6 => ?_)
    · have h := kIp c_6 h
      refine kX.pick [1, 2, 3, 0] (lv' := [(0, .ref (a 0)), (1, .int v1), (2, .int v2), (3, .int z_5)]) rfl ?_
      exact wX10_layNext_J36  C Zd  st v1 v2 z_5 hK hG h
    · have h := kIn c_6 h
      refine x_aload_n (pc := 31) C 1 dX10_layNext_31 rfl rfl ?_
      refine x_iload_n (pc := 32) C 3 dX10_layNext_32 rfl rfl ?_
      obtain ⟨z_13, hz_13, h⟩ := kB h
      refine x_callV (pc := 33) C 0 [.int v2] rfl rfl (mX10_change G a st v2 hz_13) yvX10_change q16_3 ⟨Nat.le_of_ble_eq_true rfl, Nat.le_of_ble_eq_true rfl, rfl, rfl⟩ ⟨Nat.zero_le _, Nat.zero_le _⟩ rfl rfl (Nat.le_of_ble_eq_true rfl) rfl dX10_layNext_33 ?_
      refine kX.pick [1, 2, 3, 0] (lv' := [(0, .ref (a 0)), (1, .int v1), (2, .int v2), (3, .int z_5)]) rfl ?_
      exact wX10_layNext_J36  C Zd  z_13 v1 v2 z_5 hK hG h
def fX10_layNext_L13 (K : Int32 → kS → Option (kS)) (v1 : Int32) : Nat → Int32 → kS → Option (kS)
  | 0, _, _ => none
  | F + 1, v2, st => fX10_layNext_L13_B K (fX10_layNext_L13 K v1 F) st v1 v2
set_option maxRecDepth 100000 in
set_option maxHeartbeats 4000000 in
theorem wX10_layNext_L13 {G : kG} {E : kE} {a : Nat → Nat} (C : kOk G E cX10_layNext RX10 4 rmfX10_layNext) {z : kS} (Zd : kEnd G E (0, 0) none none (wM G a z)) {K : Int32 → kS → Option (kS)} (v1 : Int32) (hK : ∀ (u2 : Int32) (su : kS), K u2 su = some z → kX G E (0, 0) (wM G a su) 75 [] []) : ∀ (F : Nat) (v2 : Int32) (st : kS), fX10_layNext_L13 K v1 F v2 st = some z → kX G E (0, 0) (wM G a st) 13 [(0, .ref (a 0)), (1, .int v1), (2, .int v2)] [] := by
  intro F
  induction F with
  | zero =>
    intro v2 st h
    exact absurd (show none = some z from h) (fun q => by cases q)
  | succ F ih =>
    intro v2 st h
    exact wX10_layNext_L13_B  C Zd  st v1 v2 hK (fun v2 st h => ih v2 st h) h
def fX10_layNext (st : kS) (x1 : Int32) : Option (kS) := (ka 720 (gA st 12) x1).bind (fun x_1 => (fX10_think st x_1).bind (fun z_3 => fX10_layNext_L13 (fun v2_14 st_15 => some st_15) x1 kFU 0 z_3.2))
set_option maxRecDepth 100000 in
set_option maxHeartbeats 4000000 in
theorem wX10_layNext {G : kG} {E : kE} {a : Nat → Nat} (C : kOk G E cX10_layNext RX10 4 rmfX10_layNext) {z : kS} (Zd : kEnd G E (0, 0) none none (wM G a z)) (st : kS) (x1 : Int32) (h : fX10_layNext st x1 = some z) : kX G E (0, 0) (wM G a st) 0 [(0, .ref (a 0)), (1, .int x1)] [] := by
  unfold fX10_layNext at h
  refine x_aload_n (pc := 0) C 0 dX10_layNext_0 rfl rfl ?_
  refine x_aload_n (pc := 1) C 0 dX10_layNext_1 rfl rfl ?_
  refine x_get (pc := 2) C inlX10 0 rfl rfl 30 (by decide) q6_1 (v := .ref (a 12)) rfl dX10_layNext_2 ?_
  refine x_iload_n (pc := 5) C 1 dX10_layNext_5 rfl rfl ?_
  obtain ⟨x_1, hx_1, h⟩ := kB h
  obtain ⟨hi_2, hx_1⟩ := ka_some hx_1
  refine y_iald (pc := 6) C 12 (lwM_A12 G a rfl) hi_2 hx_1 dX10_layNext_6 ?_
  obtain ⟨z_3, hz_3, h⟩ := kB h
  refine x_callV (pc := 7) C 0 [.int x_1] rfl rfl (mX10_think G a st x_1 hz_3) yvX10_think q15_11 ⟨Nat.le_of_ble_eq_true rfl, Nat.le_of_ble_eq_true rfl, rfl, rfl⟩ ⟨Nat.zero_le _, Nat.zero_le _⟩ rfl rfl (Nat.le_of_ble_eq_true rfl) rfl dX10_layNext_7 ?_
  refine x_pop (pc := 10) C dX10_layNext_10 rfl ?_
  refine x_iconst (pc := 11) C 0 dX10_layNext_11 (by decide) ?_
  refine x_istore_n (pc := 12) C (lv' := [(2, .int 0), (0, .ref (a 0)), (1, .int x1)]) dX10_layNext_12 rfl (by decide) rfl ?_
  refine kX.pick [1, 2, 0] (lv' := [(0, .ref (a 0)), (1, .int x1), (2, .int 0)]) rfl ?_
  refine wX10_layNext_L13  C Zd  x1 (fun v2_14 st_15 h => ?_) kFU 0 z_3.2 h
  obtain rfl := Option.some.inj h
  exact x_vret (pc := 75) C Zd dX10_layNext_75
set_option maxRecDepth 100000 in
theorem mX10_layNext (G : kG) (a : Nat → Nat) (st : kS) (x1 : Int32) {z : kS} (h : fX10_layNext st x1 = some z) : kMet G yX10_layNext cX10_layNext 4 none rmfX10_layNext (0, 0) [.ref (a 0), .int x1] (wM G a st) none (wM G a z) := kMet.mk (by decide +kernel) (Nat.le_of_ble_eq_true rfl) (fun E C Zd => wX10_layNext  C Zd  st x1 h)
theorem yvX10_layOrders : kYV yX10_layOrders RX10 cX10_layOrders 3 none 0 := ⟨q15_7, q15_8, q1_5, q15_9, by decide +kernel⟩
abbrev rmfX10_layOrders : Room := { frames := 3, cells := 0, slots := 0, locals := 65 }
def fX10_layOrders_L9_B (K : Int32 → Int32 → Option (kS)) (Gc : Int32 → Int32 → Option (kS)) (st : kS) (v1 : Int32) (v2 : Int32) : Option (kS) := if (gI st 0) ≤ v2 then (K v1 v2) else (Gc (v1 * 6) (v2 + 1))
set_option maxRecDepth 100000 in
set_option maxHeartbeats 4000000 in
theorem wX10_layOrders_L9_B {G : kG} {E : kE} {a : Nat → Nat} (C : kOk G E cX10_layOrders RX10 3 rmfX10_layOrders) {z : kS} (Zd : kEnd G E (0, 0) none none (wM G a z)) {K Gc : Int32 → Int32 → Option (kS)} (st : kS) (v1 : Int32) (v2 : Int32) (hK : ∀ (u1 : Int32) (u2 : Int32), K u1 u2 = some z → kX G E (0, 0) (wM G a st) 28 [(0, .ref (a 0)), (1, .int u1)] []) (hG : ∀ (u1 : Int32) (u2 : Int32), Gc u1 u2 = some z → kX G E (0, 0) (wM G a st) 9 [(0, .ref (a 0)), (1, .int u1), (2, .int u2)] []) (h : fX10_layOrders_L9_B K Gc st v1 v2 = some z) : kX G E (0, 0) (wM G a st) 9 [(0, .ref (a 0)), (1, .int v1), (2, .int v2)] [] := by
  unfold fX10_layOrders_L9_B at h
  refine x_iload_n (pc := 9) C 2 dX10_layOrders_9 rfl rfl ?_
  refine x_aload_n (pc := 10) C 0 dX10_layOrders_10 rfl rfl ?_
  refine x_get (pc := 11) C inlX10 0 rfl rfl 0 (by decide) q15_2 (v := .int (gI st 0)) rfl dX10_layOrders_11 ?_
  refine x_icmp_ge (pc := 14) C 28 dX10_layOrders_14 (by decide) (fun c_1 => ?_) (fun c_1 => ?_)
  · have h := kIp c_1 h
    refine kX.pick [0, 1] (lv' := [(0, .ref (a 0)), (1, .int v1)]) rfl ?_
    exact hK v1 v2 h
  · have h := kIn c_1 h
    refine x_iload_n (pc := 17) C 1 dX10_layOrders_17 rfl rfl ?_
    refine x_bipush (pc := 18) C 6 dX10_layOrders_18 (by decide) ?_
    refine x_imul (pc := 20) C dX10_layOrders_20 ?_
    refine x_istore_n (pc := 21) C (lv' := [(1, .int (v1 * 6)), (0, .ref (a 0)), (2, .int v2)]) dX10_layOrders_21 rfl (by decide) rfl ?_
    refine x_iinc (pc := 22) C 2 (v := v2 + 1) (lv' := [(2, .int (v2 + 1)), (1, .int (v1 * 6)), (0, .ref (a 0))]) dX10_layOrders_22 rfl rfl (by decide) rfl ?_
    refine x_goto (pc := 25) C 9 dX10_layOrders_25 (by decide) ?_
    refine kX.pick [2, 1, 0] (lv' := [(0, .ref (a 0)), (1, .int (v1 * 6)), (2, .int (v2 + 1))]) rfl ?_
    exact hG (v1 * 6) (v2 + 1) h
def fX10_layOrders_L9 (K : Int32 → Int32 → Option (kS)) (st : kS) : Nat → Int32 → Int32 → Option (kS)
  | 0, _, _ => none
  | F + 1, v1, v2 => fX10_layOrders_L9_B K (fX10_layOrders_L9 K st F) st v1 v2
set_option maxRecDepth 100000 in
set_option maxHeartbeats 4000000 in
theorem wX10_layOrders_L9 {G : kG} {E : kE} {a : Nat → Nat} (C : kOk G E cX10_layOrders RX10 3 rmfX10_layOrders) {z : kS} (Zd : kEnd G E (0, 0) none none (wM G a z)) {K : Int32 → Int32 → Option (kS)} (st : kS) (hK : ∀ (u1 : Int32) (u2 : Int32), K u1 u2 = some z → kX G E (0, 0) (wM G a st) 28 [(0, .ref (a 0)), (1, .int u1)] []) : ∀ (F : Nat) (v1 : Int32) (v2 : Int32), fX10_layOrders_L9 K st F v1 v2 = some z → kX G E (0, 0) (wM G a st) 9 [(0, .ref (a 0)), (1, .int v1), (2, .int v2)] [] := by
  intro F
  induction F with
  | zero =>
    intro v1 v2 h
    exact absurd (show none = some z from h) (fun q => by cases q)
  | succ F ih =>
    intro v1 v2 h
    exact wX10_layOrders_L9_B  C Zd  st v1 v2 hK (fun v1 v2 h => ih v1 v2 h) h
def fX10_layOrders_L30_B (K : Int32 → kS → Option (kS)) (Gc : Int32 → kS → Option (kS)) (st : kS) (v1 : Int32) (v2 : Int32) : Option (kS) := if v1 ≤ v2 then (K v2 st) else ((fX10_think st v2).bind (fun z_5 => if z_5.1 = 0 then (Gc (v2 + 1) z_5.2) else (if (gI z_5.2 16) < 0 ∨ 720 ≤ (gI z_5.2 16).toNatClampNeg then none else if v2 < 0 ∨ 46656 ≤ v2.toNatClampNeg then none else Gc (v2 + 1) (sI (sA (sA z_5.2 12 (upd (gA z_5.2 12) (gI z_5.2 16).toNatClampNeg v2)) 13 (upd (gA z_5.2 13) v2.toNatClampNeg (gI z_5.2 16))) 16 ((gI z_5.2 16) + 1)))))
set_option maxRecDepth 100000 in
set_option maxHeartbeats 4000000 in
theorem wX10_layOrders_L30_B {G : kG} {E : kE} {a : Nat → Nat} (C : kOk G E cX10_layOrders RX10 3 rmfX10_layOrders) {z : kS} (Zd : kEnd G E (0, 0) none none (wM G a z)) {K Gc : Int32 → kS → Option (kS)} (st : kS) (v1 : Int32) (v2 : Int32) (hK : ∀ (u2 : Int32) (su : kS), K u2 su = some z → kX G E (0, 0) (wM G a su) 79 [(0, .ref (a 0))] []) (hG : ∀ (u2 : Int32) (su : kS), Gc u2 su = some z → kX G E (0, 0) (wM G a su) 30 [(0, .ref (a 0)), (1, .int v1), (2, .int u2)] []) (h : fX10_layOrders_L30_B K Gc st v1 v2 = some z) : kX G E (0, 0) (wM G a st) 30 [(0, .ref (a 0)), (1, .int v1), (2, .int v2)] [] := by
  unfold fX10_layOrders_L30_B at h
  refine x_iload_n (pc := 30) C 2 dX10_layOrders_30 rfl rfl ?_
  refine x_iload_n (pc := 31) C 1 dX10_layOrders_31 rfl rfl ?_
  refine x_icmp_ge (pc := 32) C 79 dX10_layOrders_32 (by decide) (fun c_4 => ?_) (fun c_4 => ?_)
  · have h := kIp c_4 h
    refine kX.pick [0] (lv' := [(0, .ref (a 0))]) rfl ?_
    exact hK v2 st h
  · have h := kIn c_4 h
    refine x_aload_n (pc := 35) C 0 dX10_layOrders_35 rfl rfl ?_
    refine x_iload_n (pc := 36) C 2 dX10_layOrders_36 rfl rfl ?_
    obtain ⟨z_5, hz_5, h⟩ := kB h
    refine x_callV (pc := 37) C 0 [.int v2] rfl rfl (mX10_think G a st v2 hz_5) yvX10_think q15_11 ⟨Nat.le_of_ble_eq_true rfl, Nat.le_of_ble_eq_true rfl, rfl, rfl⟩ ⟨Nat.zero_le _, Nat.zero_le _⟩ rfl rfl (Nat.le_of_ble_eq_true rfl) rfl dX10_layOrders_37 ?_
    refine x_if_eq (pc := 40) C 73 dX10_layOrders_40 (by decide) (fun c_6 => ?_) (fun c_6 => ?_)
    · have h := kIp c_6 h
      refine x_iinc (pc := 73) C 2 (v := v2 + 1) (lv' := [(2, .int (v2 + 1)), (0, .ref (a 0)), (1, .int v1)]) dX10_layOrders_73 rfl rfl (by decide) rfl ?_
      refine x_goto (pc := 76) C 30 dX10_layOrders_76 (by decide) ?_
      refine kX.pick [1, 2, 0] (lv' := [(0, .ref (a 0)), (1, .int v1), (2, .int (v2 + 1))]) rfl ?_
      exact hG (v2 + 1) z_5.2 h
    · have h := kIn c_6 h
      refine x_aload_n (pc := 43) C 0 dX10_layOrders_43 rfl rfl ?_
      refine x_get (pc := 44) C inlX10 0 rfl rfl 30 (by decide) q6_1 (v := .ref (a 12)) rfl dX10_layOrders_44 ?_
      refine x_aload_n (pc := 47) C 0 dX10_layOrders_47 rfl rfl ?_
      refine x_get (pc := 48) C inlX10 0 rfl rfl 29 (by decide) q15_10 (v := .int (gI z_5.2 16)) rfl dX10_layOrders_48 ?_
      refine x_iload_n (pc := 51) C 2 dX10_layOrders_51 rfl rfl ?_
      obtain ⟨hi_7, h⟩ := kGn h
      refine x_iast (pc := 52) C 12 (lwM_A12 G a rfl) hi_7 (swM_A12 G a _ _) dX10_layOrders_52 ?_
      refine x_aload_n (pc := 53) C 0 dX10_layOrders_53 rfl rfl ?_
      refine x_get (pc := 54) C inlX10 0 rfl rfl 31 (by decide) q6_3 (v := .ref (a 13)) rfl dX10_layOrders_54 ?_
      refine x_iload_n (pc := 57) C 2 dX10_layOrders_57 rfl rfl ?_
      refine x_aload_n (pc := 58) C 0 dX10_layOrders_58 rfl rfl ?_
      refine x_get (pc := 59) C inlX10 0 rfl rfl 29 (by decide) q15_10 (v := .int (gI z_5.2 16)) rfl dX10_layOrders_59 ?_
      obtain ⟨hi_8, h⟩ := kGn h
      refine x_iast (pc := 62) C 13 (lwM_A13 G a (gA_n (by decide))) hi_8 (swM_A13 G a _ _) dX10_layOrders_62 ?_
      refine x_aload_n (pc := 63) C 0 dX10_layOrders_63 rfl rfl ?_
      refine x_dup (pc := 64) C dX10_layOrders_64 rfl ?_
      refine x_get (pc := 65) C inlX10 0 rfl rfl 29 (by decide) q15_10 (v := .int (gI z_5.2 16)) rfl dX10_layOrders_65 ?_
      refine x_iconst (pc := 68) C 1 dX10_layOrders_68 (by decide) ?_
      refine x_iadd (pc := 69) C dX10_layOrders_69 ?_
      refine x_put (pc := 70) C inlX10 tyX10 tyX10_ok nmX10 0 rfl rfl 29 (by decide) q15_10 rfl .int (v := .int ((gI z_5.2 16) + 1)) (by decide +kernel) rfl rfl (Nat.le_of_ble_eq_true rfl) (swM_I16 G a _ _) dX10_layOrders_70 ?_
      refine x_iinc (pc := 73) C 2 (v := v2 + 1) (lv' := [(2, .int (v2 + 1)), (0, .ref (a 0)), (1, .int v1)]) dX10_layOrders_73 rfl rfl (by decide) rfl ?_
      refine x_goto (pc := 76) C 30 dX10_layOrders_76 (by decide) ?_
      refine kX.pick [1, 2, 0] (lv' := [(0, .ref (a 0)), (1, .int v1), (2, .int (v2 + 1))]) rfl ?_
      exact hG (v2 + 1) (sI (sA (sA z_5.2 12 (upd (gA z_5.2 12) (gI z_5.2 16).toNatClampNeg v2)) 13 (upd (gA z_5.2 13) v2.toNatClampNeg (gI z_5.2 16))) 16 ((gI z_5.2 16) + 1)) h
def fX10_layOrders_L30 (K : Int32 → kS → Option (kS)) (v1 : Int32) : Nat → Int32 → kS → Option (kS)
  | 0, _, _ => none
  | F + 1, v2, st => fX10_layOrders_L30_B K (fX10_layOrders_L30 K v1 F) st v1 v2
set_option maxRecDepth 100000 in
set_option maxHeartbeats 4000000 in
theorem wX10_layOrders_L30 {G : kG} {E : kE} {a : Nat → Nat} (C : kOk G E cX10_layOrders RX10 3 rmfX10_layOrders) {z : kS} (Zd : kEnd G E (0, 0) none none (wM G a z)) {K : Int32 → kS → Option (kS)} (v1 : Int32) (hK : ∀ (u2 : Int32) (su : kS), K u2 su = some z → kX G E (0, 0) (wM G a su) 79 [(0, .ref (a 0))] []) : ∀ (F : Nat) (v2 : Int32) (st : kS), fX10_layOrders_L30 K v1 F v2 st = some z → kX G E (0, 0) (wM G a st) 30 [(0, .ref (a 0)), (1, .int v1), (2, .int v2)] [] := by
  intro F
  induction F with
  | zero =>
    intro v2 st h
    exact absurd (show none = some z from h) (fun q => by cases q)
  | succ F ih =>
    intro v2 st h
    exact wX10_layOrders_L30_B  C Zd  st v1 v2 hK (fun v2 st h => ih v2 st h) h
def fX10_layOrders_L81_B (K : Int32 → kS → Option (kS)) (Gc : Int32 → kS → Option (kS)) (st : kS) (v2 : Int32) : Option (kS) := if (gI st 16) ≤ v2 then (K v2 st) else ((fX10_layNext st v2).bind (fun z_12 => Gc (v2 + 1) z_12))
set_option maxRecDepth 100000 in
set_option maxHeartbeats 4000000 in
theorem wX10_layOrders_L81_B {G : kG} {E : kE} {a : Nat → Nat} (C : kOk G E cX10_layOrders RX10 3 rmfX10_layOrders) {z : kS} (Zd : kEnd G E (0, 0) none none (wM G a z)) {K Gc : Int32 → kS → Option (kS)} (st : kS) (v2 : Int32) (hK : ∀ (u2 : Int32) (su : kS), K u2 su = some z → kX G E (0, 0) (wM G a su) 100 [] []) (hG : ∀ (u2 : Int32) (su : kS), Gc u2 su = some z → kX G E (0, 0) (wM G a su) 81 [(0, .ref (a 0)), (2, .int u2)] []) (h : fX10_layOrders_L81_B K Gc st v2 = some z) : kX G E (0, 0) (wM G a st) 81 [(0, .ref (a 0)), (2, .int v2)] [] := by
  unfold fX10_layOrders_L81_B at h
  refine x_iload_n (pc := 81) C 1 dX10_layOrders_81 rfl rfl ?_
  refine x_aload_n (pc := 82) C 0 dX10_layOrders_82 rfl rfl ?_
  refine x_get (pc := 83) C inlX10 0 rfl rfl 29 (by decide) q15_10 (v := .int (gI st 16)) rfl dX10_layOrders_83 ?_
  refine x_icmp_ge (pc := 86) C 100 dX10_layOrders_86 (by decide) (fun c_11 => ?_) (fun c_11 => ?_)
  · have h := kIp c_11 h
    refine kX.pick [] (lv' := []) rfl ?_
    exact hK v2 st h
  · have h := kIn c_11 h
    refine x_aload_n (pc := 89) C 0 dX10_layOrders_89 rfl rfl ?_
    refine x_iload_n (pc := 90) C 1 dX10_layOrders_90 rfl rfl ?_
    obtain ⟨z_12, hz_12, h⟩ := kB h
    refine x_callV (pc := 91) C 0 [.int v2] rfl rfl (mX10_layNext G a st v2 hz_12) yvX10_layNext q15_15 ⟨Nat.le_of_ble_eq_true rfl, Nat.le_of_ble_eq_true rfl, rfl, rfl⟩ ⟨Nat.zero_le _, Nat.zero_le _⟩ rfl rfl (Nat.le_of_ble_eq_true rfl) rfl dX10_layOrders_91 ?_
    refine x_iinc (pc := 94) C 1 (v := v2 + 1) (lv' := [(2, .int (v2 + 1)), (0, .ref (a 0))]) dX10_layOrders_94 rfl rfl (by decide) rfl ?_
    refine x_goto (pc := 97) C 81 dX10_layOrders_97 (by decide) ?_
    refine kX.pick [1, 0] (lv' := [(0, .ref (a 0)), (2, .int (v2 + 1))]) rfl ?_
    exact hG (v2 + 1) z_12 h
def fX10_layOrders_L81 (K : Int32 → kS → Option (kS)) : Nat → Int32 → kS → Option (kS)
  | 0, _, _ => none
  | F + 1, v2, st => fX10_layOrders_L81_B K (fX10_layOrders_L81 K F) st v2
set_option maxRecDepth 100000 in
set_option maxHeartbeats 4000000 in
theorem wX10_layOrders_L81 {G : kG} {E : kE} {a : Nat → Nat} (C : kOk G E cX10_layOrders RX10 3 rmfX10_layOrders) {z : kS} (Zd : kEnd G E (0, 0) none none (wM G a z)) {K : Int32 → kS → Option (kS)} (hK : ∀ (u2 : Int32) (su : kS), K u2 su = some z → kX G E (0, 0) (wM G a su) 100 [] []) : ∀ (F : Nat) (v2 : Int32) (st : kS), fX10_layOrders_L81 K F v2 st = some z → kX G E (0, 0) (wM G a st) 81 [(0, .ref (a 0)), (2, .int v2)] [] := by
  intro F
  induction F with
  | zero =>
    intro v2 st h
    exact absurd (show none = some z from h) (fun q => by cases q)
  | succ F ih =>
    intro v2 st h
    exact wX10_layOrders_L81_B  C Zd  st v2 hK (fun v2 st h => ih v2 st h) h
def fX10_layOrders (st : kS) : Option (kS) := fX10_layOrders_L9 (fun v1_2 v2_3 => fX10_layOrders_L30 (fun v2_9 st_10 => fX10_layOrders_L81 (fun v2_13 st_14 => some st_14) kFU 0 st_10) v1_2 kFU 0 (sI st 16 0)) (sI st 16 0) kFU 1 0
set_option maxRecDepth 100000 in
set_option maxHeartbeats 4000000 in
theorem wX10_layOrders {G : kG} {E : kE} {a : Nat → Nat} (C : kOk G E cX10_layOrders RX10 3 rmfX10_layOrders) {z : kS} (Zd : kEnd G E (0, 0) none none (wM G a z)) (st : kS) (h : fX10_layOrders st = some z) : kX G E (0, 0) (wM G a st) 0 [(0, .ref (a 0))] [] := by
  unfold fX10_layOrders at h
  refine x_aload_n (pc := 0) C 0 dX10_layOrders_0 rfl rfl ?_
  refine x_iconst (pc := 1) C 0 dX10_layOrders_1 (by decide) ?_
  refine x_put (pc := 2) C inlX10 tyX10 tyX10_ok nmX10 0 rfl rfl 29 (by decide) q15_10 rfl .int (v := .int 0) (by decide +kernel) rfl rfl (Nat.le_of_ble_eq_true rfl) (swM_I16 G a _ _) dX10_layOrders_2 ?_
  refine x_iconst (pc := 5) C 1 dX10_layOrders_5 (by decide) ?_
  refine x_istore_n (pc := 6) C (lv' := [(1, .int 1), (0, .ref (a 0))]) dX10_layOrders_6 rfl (by decide) rfl ?_
  refine x_iconst (pc := 7) C 0 dX10_layOrders_7 (by decide) ?_
  refine x_istore_n (pc := 8) C (lv' := [(2, .int 0), (1, .int 1), (0, .ref (a 0))]) dX10_layOrders_8 rfl (by decide) rfl ?_
  refine kX.pick [2, 1, 0] (lv' := [(0, .ref (a 0)), (1, .int 1), (2, .int 0)]) rfl ?_
  refine wX10_layOrders_L9  C Zd  (sI st 16 0)  (fun v1_2 v2_3 h => ?_) kFU 1 0 h
  refine x_iconst (pc := 28) C 0 dX10_layOrders_28 (by decide) ?_
  refine x_istore_n (pc := 29) C (lv' := [(2, .int 0), (0, .ref (a 0)), (1, .int v1_2)]) dX10_layOrders_29 rfl (by decide) rfl ?_
  refine kX.pick [1, 2, 0] (lv' := [(0, .ref (a 0)), (1, .int v1_2), (2, .int 0)]) rfl ?_
  refine wX10_layOrders_L30  C Zd  v1_2 (fun v2_9 st_10 h => ?_) kFU 0 (sI st 16 0) h
  refine x_iconst (pc := 79) C 0 dX10_layOrders_79 (by decide) ?_
  refine x_istore_n (pc := 80) C (lv' := [(2, .int 0), (0, .ref (a 0))]) dX10_layOrders_80 rfl (by decide) rfl ?_
  refine kX.pick [1, 0] (lv' := [(0, .ref (a 0)), (2, .int 0)]) rfl ?_
  refine wX10_layOrders_L81  C Zd   (fun v2_13 st_14 h => ?_) kFU 0 st_10 h
  obtain rfl := Option.some.inj h
  exact x_vret (pc := 100) C Zd dX10_layOrders_100
set_option maxRecDepth 100000 in
theorem mX10_layOrders (G : kG) (a : Nat → Nat) (st : kS)  {z : kS} (h : fX10_layOrders st = some z) : kMet G yX10_layOrders cX10_layOrders 3 none rmfX10_layOrders (0, 0) [.ref (a 0)] (wM G a st) none (wM G a z) := kMet.mk (by decide +kernel) (Nat.le_of_ble_eq_true rfl) (fun E C Zd => wX10_layOrders  C Zd  st  h)
theorem yvX10_ring : kYV yX10_ring RX10 cX10_ring 2 (some .int) 0 := ⟨q14_23, q15_0, q1_5, q15_1, by decide +kernel⟩
abbrev rmfX10_ring : Room := { frames := 4, cells := 0, slots := 0, locals := 87 }
def fX10_ring_L24_B (K : Int32 → kS → Option (Int32 × kS)) (Gc : Int32 → kS → Option (Int32 × kS)) (st : kS) (v1 : Int32) : Option (Int32 × kS) := if 36 ≤ v1 then (K v1 st) else (if v1 < 0 ∨ 36 ≤ v1.toNatClampNeg then none else Gc (v1 + 1) (sA st 2 (upd (gA st 2) v1.toNatClampNeg (vp_nar .boolean 0))))
set_option maxRecDepth 100000 in
set_option maxHeartbeats 4000000 in
theorem wX10_ring_L24_B {G : kG} {E : kE} {a : Nat → Nat} (C : kOk G E cX10_ring RX10 2 rmfX10_ring) {z : Int32 × kS} (Zd : kEnd G E (0, 0) (some .int) (some (.int z.1)) (wM G a z.2)) {K Gc : Int32 → kS → Option (Int32 × kS)} (st : kS) (v1 : Int32) (hK : ∀ (u1 : Int32) (su : kS), K u1 su = some z → kX G E (0, 0) (wM G a su) 43 [(0, .ref (a 0))] []) (hG : ∀ (u1 : Int32) (su : kS), Gc u1 su = some z → kX G E (0, 0) (wM G a su) 24 [(0, .ref (a 0)), (1, .int u1)] []) (h : fX10_ring_L24_B K Gc st v1 = some z) : kX G E (0, 0) (wM G a st) 24 [(0, .ref (a 0)), (1, .int v1)] [] := by
  unfold fX10_ring_L24_B at h
  refine x_iload_n (pc := 24) C 1 dX10_ring_24 rfl rfl ?_
  refine x_bipush (pc := 25) C 36 dX10_ring_25 (by decide) ?_
  refine x_icmp_ge (pc := 27) C 43 dX10_ring_27 (by decide) (fun c_3 => ?_) (fun c_3 => ?_)
  · have h := kIp c_3 h
    refine kX.pick [0] (lv' := [(0, .ref (a 0))]) rfl ?_
    exact hK v1 st h
  · have h := kIn c_3 h
    refine x_aload_n (pc := 30) C 0 dX10_ring_30 rfl rfl ?_
    refine x_get (pc := 31) C inlX10 0 rfl rfl 3 (by decide) q5_13 (v := .ref (a 2)) rfl dX10_ring_31 ?_
    refine x_iload_n (pc := 34) C 1 dX10_ring_34 rfl rfl ?_
    refine x_iconst (pc := 35) C 0 dX10_ring_35 (by decide) ?_
    obtain ⟨hi_4, h⟩ := kGn h
    refine x_zast (pc := 36) C 2 (lwM_A2 G a rfl) hi_4 (swM_A2 G a _ _) dX10_ring_36 ?_
    refine x_iinc (pc := 37) C 1 (v := v1 + 1) (lv' := [(1, .int (v1 + 1)), (0, .ref (a 0))]) dX10_ring_37 rfl rfl (by decide) rfl ?_
    refine x_goto (pc := 40) C 24 dX10_ring_40 (by decide) ?_
    refine kX.pick [1, 0] (lv' := [(0, .ref (a 0)), (1, .int (v1 + 1))]) rfl ?_
    exact hG (v1 + 1) (sA st 2 (upd (gA st 2) v1.toNatClampNeg (vp_nar .boolean 0))) h
def fX10_ring_L24 (K : Int32 → kS → Option (Int32 × kS)) : Nat → Int32 → kS → Option (Int32 × kS)
  | 0, _, _ => none
  | F + 1, v1, st => fX10_ring_L24_B K (fX10_ring_L24 K F) st v1
set_option maxRecDepth 100000 in
set_option maxHeartbeats 4000000 in
theorem wX10_ring_L24 {G : kG} {E : kE} {a : Nat → Nat} (C : kOk G E cX10_ring RX10 2 rmfX10_ring) {z : Int32 × kS} (Zd : kEnd G E (0, 0) (some .int) (some (.int z.1)) (wM G a z.2)) {K : Int32 → kS → Option (Int32 × kS)} (hK : ∀ (u1 : Int32) (su : kS), K u1 su = some z → kX G E (0, 0) (wM G a su) 43 [(0, .ref (a 0))] []) : ∀ (F : Nat) (v1 : Int32) (st : kS), fX10_ring_L24 K F v1 st = some z → kX G E (0, 0) (wM G a st) 24 [(0, .ref (a 0)), (1, .int v1)] [] := by
  intro F
  induction F with
  | zero =>
    intro v1 st h
    exact absurd (show none = some z from h) (fun q => by cases q)
  | succ F ih =>
    intro v1 st h
    exact wX10_ring_L24_B  C Zd  st v1 hK (fun v1 st h => ih v1 st h) h
def fX10_ring_L45_B (K : Int32 → kS → Option (Int32 × kS)) (Gc : Int32 → kS → Option (Int32 × kS)) (st : kS) (v1 : Int32) : Option (Int32 × kS) := if (gI st 11) ≤ v1 then (K v1 st) else ((ka 6 (gA st 10) v1).bind (fun x_8 => (ka 6 (gA st 11) v1).bind (fun x_10 => if ((6 * x_8) + x_10) < 0 ∨ 36 ≤ ((6 * x_8) + x_10).toNatClampNeg then none else (ka 6 (gA st 11) v1).bind (fun x_13 => (ka 6 (gA st 10) v1).bind (fun x_15 => if ((6 * x_13) + x_15) < 0 ∨ 36 ≤ ((6 * x_13) + x_15).toNatClampNeg then none else Gc (v1 + 1) (sA (sA st 2 (upd (gA st 2) ((6 * x_8) + x_10).toNatClampNeg (vp_nar .boolean 1))) 2 (upd (upd (gA st 2) ((6 * x_8) + x_10).toNatClampNeg (vp_nar .boolean 1)) ((6 * x_13) + x_15).toNatClampNeg (vp_nar .boolean 1))))))))
set_option maxRecDepth 100000 in
set_option maxHeartbeats 4000000 in
theorem wX10_ring_L45_B {G : kG} {E : kE} {a : Nat → Nat} (C : kOk G E cX10_ring RX10 2 rmfX10_ring) {z : Int32 × kS} (Zd : kEnd G E (0, 0) (some .int) (some (.int z.1)) (wM G a z.2)) {K Gc : Int32 → kS → Option (Int32 × kS)} (st : kS) (v1 : Int32) (hK : ∀ (u1 : Int32) (su : kS), K u1 su = some z → kX G E (0, 0) (wM G a su) 103 [(0, .ref (a 0))] []) (hG : ∀ (u1 : Int32) (su : kS), Gc u1 su = some z → kX G E (0, 0) (wM G a su) 45 [(0, .ref (a 0)), (1, .int u1)] []) (h : fX10_ring_L45_B K Gc st v1 = some z) : kX G E (0, 0) (wM G a st) 45 [(0, .ref (a 0)), (1, .int v1)] [] := by
  unfold fX10_ring_L45_B at h
  refine x_iload_n (pc := 45) C 1 dX10_ring_45 rfl rfl ?_
  refine x_aload_n (pc := 46) C 0 dX10_ring_46 rfl rfl ?_
  refine x_get (pc := 47) C inlX10 0 rfl rfl 21 (by decide) q10_10 (v := .int (gI st 11)) rfl dX10_ring_47 ?_
  refine x_icmp_ge (pc := 50) C 103 dX10_ring_50 (by decide) (fun c_7 => ?_) (fun c_7 => ?_)
  · have h := kIp c_7 h
    refine kX.pick [0] (lv' := [(0, .ref (a 0))]) rfl ?_
    exact hK v1 st h
  · have h := kIn c_7 h
    refine x_aload_n (pc := 53) C 0 dX10_ring_53 rfl rfl ?_
    refine x_get (pc := 54) C inlX10 0 rfl rfl 3 (by decide) q5_13 (v := .ref (a 2)) rfl dX10_ring_54 ?_
    refine x_bipush (pc := 57) C 6 dX10_ring_57 (by decide) ?_
    refine x_aload_n (pc := 59) C 0 dX10_ring_59 rfl rfl ?_
    refine x_get (pc := 60) C inlX10 0 rfl rfl 23 (by decide) q5_23 (v := .ref (a 10)) rfl dX10_ring_60 ?_
    refine x_iload_n (pc := 63) C 1 dX10_ring_63 rfl rfl ?_
    obtain ⟨x_8, hx_8, h⟩ := kB h
    obtain ⟨hi_9, hx_8⟩ := ka_some hx_8
    refine y_iald (pc := 64) C 10 (lwM_A10 G a rfl) hi_9 hx_8 dX10_ring_64 ?_
    refine x_imul (pc := 65) C dX10_ring_65 ?_
    refine x_aload_n (pc := 66) C 0 dX10_ring_66 rfl rfl ?_
    refine x_get (pc := 67) C inlX10 0 rfl rfl 24 (by decide) q6_0 (v := .ref (a 11)) rfl dX10_ring_67 ?_
    refine x_iload_n (pc := 70) C 1 dX10_ring_70 rfl rfl ?_
    obtain ⟨x_10, hx_10, h⟩ := kB h
    obtain ⟨hi_11, hx_10⟩ := ka_some hx_10
    refine y_iald (pc := 71) C 11 (lwM_A11 G a rfl) hi_11 hx_10 dX10_ring_71 ?_
    refine x_iadd (pc := 72) C dX10_ring_72 ?_
    refine x_iconst (pc := 73) C 1 dX10_ring_73 (by decide) ?_
    obtain ⟨hi_12, h⟩ := kGn h
    refine x_zast (pc := 74) C 2 (lwM_A2 G a rfl) hi_12 (swM_A2 G a _ _) dX10_ring_74 ?_
    refine x_aload_n (pc := 75) C 0 dX10_ring_75 rfl rfl ?_
    refine x_get (pc := 76) C inlX10 0 rfl rfl 3 (by decide) q5_13 (v := .ref (a 2)) rfl dX10_ring_76 ?_
    refine x_bipush (pc := 79) C 6 dX10_ring_79 (by decide) ?_
    refine x_aload_n (pc := 81) C 0 dX10_ring_81 rfl rfl ?_
    refine x_get (pc := 82) C inlX10 0 rfl rfl 24 (by decide) q6_0 (v := .ref (a 11)) rfl dX10_ring_82 ?_
    refine x_iload_n (pc := 85) C 1 dX10_ring_85 rfl rfl ?_
    obtain ⟨x_13, hx_13, h⟩ := kB h
    obtain ⟨hi_14, hx_13⟩ := ka_some hx_13
    refine y_iald (pc := 86) C 11 (lwM_A11 G a (gA_n (by decide))) hi_14 hx_13 dX10_ring_86 ?_
    refine x_imul (pc := 87) C dX10_ring_87 ?_
    refine x_aload_n (pc := 88) C 0 dX10_ring_88 rfl rfl ?_
    refine x_get (pc := 89) C inlX10 0 rfl rfl 23 (by decide) q5_23 (v := .ref (a 10)) rfl dX10_ring_89 ?_
    refine x_iload_n (pc := 92) C 1 dX10_ring_92 rfl rfl ?_
    obtain ⟨x_15, hx_15, h⟩ := kB h
    obtain ⟨hi_16, hx_15⟩ := ka_some hx_15
    refine y_iald (pc := 93) C 10 (lwM_A10 G a (gA_n (by decide))) hi_16 hx_15 dX10_ring_93 ?_
    refine x_iadd (pc := 94) C dX10_ring_94 ?_
    refine x_iconst (pc := 95) C 1 dX10_ring_95 (by decide) ?_
    obtain ⟨hi_17, h⟩ := kGn h
    refine x_zast (pc := 96) C 2 (lwM_A2 G a (gA_e _ _ _)) hi_17 (swM_A2 G a _ _) dX10_ring_96 ?_
    refine x_iinc (pc := 97) C 1 (v := v1 + 1) (lv' := [(1, .int (v1 + 1)), (0, .ref (a 0))]) dX10_ring_97 rfl rfl (by decide) rfl ?_
    refine x_goto (pc := 100) C 45 dX10_ring_100 (by decide) ?_
    refine kX.pick [1, 0] (lv' := [(0, .ref (a 0)), (1, .int (v1 + 1))]) rfl ?_
    exact hG (v1 + 1) (sA (sA st 2 (upd (gA st 2) ((6 * x_8) + x_10).toNatClampNeg (vp_nar .boolean 1))) 2 (upd (upd (gA st 2) ((6 * x_8) + x_10).toNatClampNeg (vp_nar .boolean 1)) ((6 * x_13) + x_15).toNatClampNeg (vp_nar .boolean 1))) h
def fX10_ring_L45 (K : Int32 → kS → Option (Int32 × kS)) : Nat → Int32 → kS → Option (Int32 × kS)
  | 0, _, _ => none
  | F + 1, v1, st => fX10_ring_L45_B K (fX10_ring_L45 K F) st v1
set_option maxRecDepth 100000 in
set_option maxHeartbeats 4000000 in
theorem wX10_ring_L45 {G : kG} {E : kE} {a : Nat → Nat} (C : kOk G E cX10_ring RX10 2 rmfX10_ring) {z : Int32 × kS} (Zd : kEnd G E (0, 0) (some .int) (some (.int z.1)) (wM G a z.2)) {K : Int32 → kS → Option (Int32 × kS)} (hK : ∀ (u1 : Int32) (su : kS), K u1 su = some z → kX G E (0, 0) (wM G a su) 103 [(0, .ref (a 0))] []) : ∀ (F : Nat) (v1 : Int32) (st : kS), fX10_ring_L45 K F v1 st = some z → kX G E (0, 0) (wM G a st) 45 [(0, .ref (a 0)), (1, .int v1)] [] := by
  intro F
  induction F with
  | zero =>
    intro v1 st h
    exact absurd (show none = some z from h) (fun q => by cases q)
  | succ F ih =>
    intro v1 st h
    exact wX10_ring_L45_B  C Zd  st v1 hK (fun v1 st h => ih v1 st h) h
def fX10_ring_L105_B (K : Int32 → kS → Option (Int32 × kS)) (Gc : Int32 → kS → Option (Int32 × kS)) (st : kS) (v1 : Int32) : Option (Int32 × kS) := if 6 ≤ v1 then (K v1 st) else ((ka 6 (gA st 9) v1).bind (fun x_21 => if v1 < 0 ∨ 6 ≤ v1.toNatClampNeg then none else if v1 < 0 ∨ 6 ≤ v1.toNatClampNeg then none else if v1 < 0 ∨ 6 ≤ v1.toNatClampNeg then none else Gc (v1 + 1) (sA (sA (sA st 1 (upd (gA st 1) v1.toNatClampNeg x_21)) 3 (upd (gA st 3) v1.toNatClampNeg v1)) 4 (upd (gA st 4) v1.toNatClampNeg v1))))
set_option maxRecDepth 100000 in
set_option maxHeartbeats 4000000 in
theorem wX10_ring_L105_B {G : kG} {E : kE} {a : Nat → Nat} (C : kOk G E cX10_ring RX10 2 rmfX10_ring) {z : Int32 × kS} (Zd : kEnd G E (0, 0) (some .int) (some (.int z.1)) (wM G a z.2)) {K Gc : Int32 → kS → Option (Int32 × kS)} (st : kS) (v1 : Int32) (hK : ∀ (u1 : Int32) (su : kS), K u1 su = some z → kX G E (0, 0) (wM G a su) 143 [(0, .ref (a 0))] []) (hG : ∀ (u1 : Int32) (su : kS), Gc u1 su = some z → kX G E (0, 0) (wM G a su) 105 [(0, .ref (a 0)), (1, .int u1)] []) (h : fX10_ring_L105_B K Gc st v1 = some z) : kX G E (0, 0) (wM G a st) 105 [(0, .ref (a 0)), (1, .int v1)] [] := by
  unfold fX10_ring_L105_B at h
  refine x_iload_n (pc := 105) C 1 dX10_ring_105 rfl rfl ?_
  refine x_bipush (pc := 106) C 6 dX10_ring_106 (by decide) ?_
  refine x_icmp_ge (pc := 108) C 143 dX10_ring_108 (by decide) (fun c_20 => ?_) (fun c_20 => ?_)
  · have h := kIp c_20 h
    refine kX.pick [0] (lv' := [(0, .ref (a 0))]) rfl ?_
    exact hK v1 st h
  · have h := kIn c_20 h
    refine x_aload_n (pc := 111) C 0 dX10_ring_111 rfl rfl ?_
    refine x_get (pc := 112) C inlX10 0 rfl rfl 2 (by decide) q5_11 (v := .ref (a 1)) rfl dX10_ring_112 ?_
    refine x_iload_n (pc := 115) C 1 dX10_ring_115 rfl rfl ?_
    refine x_aload_n (pc := 116) C 0 dX10_ring_116 rfl rfl ?_
    refine x_get (pc := 117) C inlX10 0 rfl rfl 22 (by decide) q5_22 (v := .ref (a 9)) rfl dX10_ring_117 ?_
    refine x_iload_n (pc := 120) C 1 dX10_ring_120 rfl rfl ?_
    obtain ⟨x_21, hx_21, h⟩ := kB h
    obtain ⟨hi_22, hx_21⟩ := ka_some hx_21
    refine y_iald (pc := 121) C 9 (lwM_A9 G a rfl) hi_22 hx_21 dX10_ring_121 ?_
    obtain ⟨hi_23, h⟩ := kGn h
    refine x_iast (pc := 122) C 1 (lwM_A1 G a rfl) hi_23 (swM_A1 G a _ _) dX10_ring_122 ?_
    refine x_aload_n (pc := 123) C 0 dX10_ring_123 rfl rfl ?_
    refine x_get (pc := 124) C inlX10 0 rfl rfl 4 (by decide) q5_14 (v := .ref (a 3)) rfl dX10_ring_124 ?_
    refine x_iload_n (pc := 127) C 1 dX10_ring_127 rfl rfl ?_
    refine x_iload_n (pc := 128) C 1 dX10_ring_128 rfl rfl ?_
    obtain ⟨hi_24, h⟩ := kGn h
    refine x_iast (pc := 129) C 3 (lwM_A3 G a (gA_n (by decide))) hi_24 (swM_A3 G a _ _) dX10_ring_129 ?_
    refine x_aload_n (pc := 130) C 0 dX10_ring_130 rfl rfl ?_
    refine x_get (pc := 131) C inlX10 0 rfl rfl 5 (by decide) q5_15 (v := .ref (a 4)) rfl dX10_ring_131 ?_
    refine x_iload_n (pc := 134) C 1 dX10_ring_134 rfl rfl ?_
    refine x_iload_n (pc := 135) C 1 dX10_ring_135 rfl rfl ?_
    obtain ⟨hi_25, h⟩ := kGn h
    refine x_iast (pc := 136) C 4 (lwM_A4 G a (Eq.trans (gA_n (by decide)) (gA_n (by decide)))) hi_25 (swM_A4 G a _ _) dX10_ring_136 ?_
    refine x_iinc (pc := 137) C 1 (v := v1 + 1) (lv' := [(1, .int (v1 + 1)), (0, .ref (a 0))]) dX10_ring_137 rfl rfl (by decide) rfl ?_
    refine x_goto (pc := 140) C 105 dX10_ring_140 (by decide) ?_
    refine kX.pick [1, 0] (lv' := [(0, .ref (a 0)), (1, .int (v1 + 1))]) rfl ?_
    exact hG (v1 + 1) (sA (sA (sA st 1 (upd (gA st 1) v1.toNatClampNeg x_21)) 3 (upd (gA st 3) v1.toNatClampNeg v1)) 4 (upd (gA st 4) v1.toNatClampNeg v1)) h
def fX10_ring_L105 (K : Int32 → kS → Option (Int32 × kS)) : Nat → Int32 → kS → Option (Int32 × kS)
  | 0, _, _ => none
  | F + 1, v1, st => fX10_ring_L105_B K (fX10_ring_L105 K F) st v1
set_option maxRecDepth 100000 in
set_option maxHeartbeats 4000000 in
theorem wX10_ring_L105 {G : kG} {E : kE} {a : Nat → Nat} (C : kOk G E cX10_ring RX10 2 rmfX10_ring) {z : Int32 × kS} (Zd : kEnd G E (0, 0) (some .int) (some (.int z.1)) (wM G a z.2)) {K : Int32 → kS → Option (Int32 × kS)} (hK : ∀ (u1 : Int32) (su : kS), K u1 su = some z → kX G E (0, 0) (wM G a su) 143 [(0, .ref (a 0))] []) : ∀ (F : Nat) (v1 : Int32) (st : kS), fX10_ring_L105 K F v1 st = some z → kX G E (0, 0) (wM G a st) 105 [(0, .ref (a 0)), (1, .int v1)] [] := by
  intro F
  induction F with
  | zero =>
    intro v1 st h
    exact absurd (show none = some z from h) (fun q => by cases q)
  | succ F ih =>
    intro v1 st h
    exact wX10_ring_L105_B  C Zd  st v1 hK (fun v1 st h => ih v1 st h) h
def fX10_ring (st : kS) : Option (Int32 × kS) := (fX10_readRing st).bind (fun z_1 => if (gI z_1 9) = 0 then (some ((-103), z_1)) else (fX10_ring_L24 (fun v1_5 st_6 => fX10_ring_L45 (fun v1_18 st_19 => fX10_ring_L105 (fun v1_26 st_27 => (fX10_layOrders (sI (sI (sI (sI st_27 2 0) 3 0) 1 ((gI st_27 1) + 1)) 4 0)).bind (fun z_28 => some ((gI z_28 0), z_28))) kFU 0 st_19) kFU 0 st_6) kFU 0 (sI z_1 0 (gI z_1 10))))
set_option maxRecDepth 100000 in
set_option maxHeartbeats 4000000 in
theorem wX10_ring {G : kG} {E : kE} {a : Nat → Nat} (C : kOk G E cX10_ring RX10 2 rmfX10_ring) {z : Int32 × kS} (Zd : kEnd G E (0, 0) (some .int) (some (.int z.1)) (wM G a z.2)) (st : kS) (h : fX10_ring st = some z) : kX G E (0, 0) (wM G a st) 0 [(0, .ref (a 0))] [] := by
  unfold fX10_ring at h
  refine x_aload_n (pc := 0) C 0 dX10_ring_0 rfl rfl ?_
  obtain ⟨z_1, hz_1, h⟩ := kB h
  refine x_callV (pc := 1) C 0 [] rfl rfl (mX10_readRing G a st hz_1) yvX10_readRing q10_5 ⟨Nat.le_of_ble_eq_true rfl, Nat.le_of_ble_eq_true rfl, rfl, rfl⟩ ⟨Nat.zero_le _, Nat.zero_le _⟩ rfl rfl (Nat.le_of_ble_eq_true rfl) rfl dX10_ring_1 ?_
  refine x_aload_n (pc := 4) C 0 dX10_ring_4 rfl rfl ?_
  refine x_get (pc := 5) C inlX10 0 rfl rfl 19 (by decide) q10_11 (v := .int (gI z_1 9)) rfl dX10_ring_5 ?_
  refine x_if_ne (pc := 8) C 14 dX10_ring_8 (by decide) (fun c_2 => ?_) (fun c_2 => ?_)
  · have h := kIn c_2 h
    refine x_aload_n (pc := 14) C 0 dX10_ring_14 rfl rfl ?_
    refine x_aload_n (pc := 15) C 0 dX10_ring_15 rfl rfl ?_
    refine x_get (pc := 16) C inlX10 0 rfl rfl 20 (by decide) q10_9 (v := .int (gI z_1 10)) rfl dX10_ring_16 ?_
    refine x_put (pc := 19) C inlX10 tyX10 tyX10_ok nmX10 0 rfl rfl 0 (by decide) q15_2 rfl .int (v := .int (gI z_1 10)) (by decide +kernel) rfl rfl (Nat.le_of_ble_eq_true rfl) (swM_I0 G a _ _) dX10_ring_19 ?_
    refine x_iconst (pc := 22) C 0 dX10_ring_22 (by decide) ?_
    refine x_istore_n (pc := 23) C (lv' := [(1, .int 0), (0, .ref (a 0))]) dX10_ring_23 rfl (by decide) rfl ?_
    refine kX.pick [1, 0] (lv' := [(0, .ref (a 0)), (1, .int 0)]) rfl ?_
    refine wX10_ring_L24  C Zd   (fun v1_5 st_6 h => ?_) kFU 0 (sI z_1 0 (gI z_1 10)) h
    refine x_iconst (pc := 43) C 0 dX10_ring_43 (by decide) ?_
    refine x_istore_n (pc := 44) C (lv' := [(1, .int 0), (0, .ref (a 0))]) dX10_ring_44 rfl (by decide) rfl ?_
    refine kX.pick [1, 0] (lv' := [(0, .ref (a 0)), (1, .int 0)]) rfl ?_
    refine wX10_ring_L45  C Zd   (fun v1_18 st_19 h => ?_) kFU 0 st_6 h
    refine x_iconst (pc := 103) C 0 dX10_ring_103 (by decide) ?_
    refine x_istore_n (pc := 104) C (lv' := [(1, .int 0), (0, .ref (a 0))]) dX10_ring_104 rfl (by decide) rfl ?_
    refine kX.pick [1, 0] (lv' := [(0, .ref (a 0)), (1, .int 0)]) rfl ?_
    refine wX10_ring_L105  C Zd   (fun v1_26 st_27 h => ?_) kFU 0 st_19 h
    refine x_aload_n (pc := 143) C 0 dX10_ring_143 rfl rfl ?_
    refine x_iconst (pc := 144) C 0 dX10_ring_144 (by decide) ?_
    refine x_put (pc := 145) C inlX10 tyX10 tyX10_ok nmX10 0 rfl rfl 6 (by decide) q15_3 rfl .int (v := .int 0) (by decide +kernel) rfl rfl (Nat.le_of_ble_eq_true rfl) (swM_I2 G a _ _) dX10_ring_145 ?_
    refine x_aload_n (pc := 148) C 0 dX10_ring_148 rfl rfl ?_
    refine x_iconst (pc := 149) C 0 dX10_ring_149 (by decide) ?_
    refine x_put (pc := 150) C inlX10 tyX10 tyX10_ok nmX10 0 rfl rfl 8 (by decide) q15_4 rfl .boolean (v := .int 0) (by decide +kernel) rfl rfl (Nat.le_of_ble_eq_true rfl) (swM_I3 G a _ _) dX10_ring_150 ?_
    refine x_aload_n (pc := 153) C 0 dX10_ring_153 rfl rfl ?_
    refine x_dup (pc := 154) C dX10_ring_154 rfl ?_
    refine x_get (pc := 155) C inlX10 0 rfl rfl 1 (by decide) q15_5 (v := .int (gI st_27 1)) rfl dX10_ring_155 ?_
    refine x_iconst (pc := 158) C 1 dX10_ring_158 (by decide) ?_
    refine x_iadd (pc := 159) C dX10_ring_159 ?_
    refine x_put (pc := 160) C inlX10 tyX10 tyX10_ok nmX10 0 rfl rfl 1 (by decide) q15_5 rfl .int (v := .int ((gI st_27 1) + 1)) (by decide +kernel) rfl rfl (Nat.le_of_ble_eq_true rfl) (swM_I1 G a _ _) dX10_ring_160 ?_
    refine x_aload_n (pc := 163) C 0 dX10_ring_163 rfl rfl ?_
    refine x_iconst (pc := 164) C 0 dX10_ring_164 (by decide) ?_
    refine x_put (pc := 165) C inlX10 tyX10 tyX10_ok nmX10 0 rfl rfl 10 (by decide) q7_14 rfl .int (v := .int 0) (by decide +kernel) rfl rfl (Nat.le_of_ble_eq_true rfl) (swM_I4 G a _ _) dX10_ring_165 ?_
    refine x_aload_n (pc := 168) C 0 dX10_ring_168 rfl rfl ?_
    obtain ⟨z_28, hz_28, h⟩ := kB h
    refine x_callV (pc := 169) C 0 [] rfl rfl (mX10_layOrders G a (sI (sI (sI (sI st_27 2 0) 3 0) 1 ((gI st_27 1) + 1)) 4 0) hz_28) yvX10_layOrders q15_6 ⟨Nat.le_of_ble_eq_true rfl, Nat.le_of_ble_eq_true rfl, rfl, rfl⟩ ⟨Nat.zero_le _, Nat.zero_le _⟩ rfl rfl (Nat.le_of_ble_eq_true rfl) rfl dX10_ring_169 ?_
    refine x_aload_n (pc := 172) C 0 dX10_ring_172 rfl rfl ?_
    refine x_get (pc := 173) C inlX10 0 rfl rfl 0 (by decide) q15_2 (v := .int (gI z_28 0)) rfl dX10_ring_173 ?_
    obtain rfl := Option.some.inj h
    exact x_iret (pc := 176) C Zd dX10_ring_176
  · have h := kIp c_2 h
    refine x_bipush (pc := 11) C (-103) dX10_ring_11 (by decide) ?_
    obtain rfl := Option.some.inj h
    exact x_iret (pc := 13) C Zd dX10_ring_13
set_option maxRecDepth 100000 in
theorem mX10_ring (G : kG) (a : Nat → Nat) (st : kS)  {z : Int32 × kS} (h : fX10_ring st = some z) : kMet G yX10_ring cX10_ring 2 (some .int) rmfX10_ring (0, 0) [.ref (a 0)] (wM G a st) (some (.int z.1)) (wM G a z.2) := kMet.mk (by decide +kernel) (Nat.le_of_ble_eq_true rfl) (fun E C Zd => wX10_ring  C Zd  st  h)
theorem yvX10_aim : kYV yX10_aim RX10 cX10_aim 3 (some .int) 0 := ⟨q17_8, q17_9, q1_5, q17_10, by decide +kernel⟩
abbrev rmfX10_aim : Room := { frames := 1, cells := 0, slots := 0, locals := 22 }
def fX10_aim_L4_B (K : Int32 → Int32 → Option (Int32 × kS)) (Gc : Int32 → Int32 → Option (Int32 × kS)) (st : kS) (v1 : Int32) (v2 : Int32) : Option (Int32 × kS) := if (gI st 4) ≤ v2 then (K v1 v2) else ((ka 26 (gA st 6) v2).bind (fun x_2 => if (fX10_within x_2 48 53) = 0 then (Gc (v1 ||| 0) (v2 + 1)) else ((ka 26 (gA st 6) v2).bind (fun x_5 => Gc (v1 ||| (kshl 1 (x_5 - 48))) (v2 + 1)))))
set_option maxRecDepth 100000 in
set_option maxHeartbeats 4000000 in
theorem wX10_aim_L4_B {G : kG} {E : kE} {a : Nat → Nat} (C : kOk G E cX10_aim RX10 3 rmfX10_aim) {z : Int32 × kS} (Zd : kEnd G E (0, 0) (some .int) (some (.int z.1)) (wM G a z.2)) {K Gc : Int32 → Int32 → Option (Int32 × kS)} (st : kS) (v1 : Int32) (v2 : Int32) (hK : ∀ (u1 : Int32) (u2 : Int32), K u1 u2 = some z → kX G E (0, 0) (wM G a st) 52 [(0, .ref (a 0)), (1, .int u1)] []) (hG : ∀ (u1 : Int32) (u2 : Int32), Gc u1 u2 = some z → kX G E (0, 0) (wM G a st) 4 [(0, .ref (a 0)), (1, .int u1), (2, .int u2)] []) (h : fX10_aim_L4_B K Gc st v1 v2 = some z) : kX G E (0, 0) (wM G a st) 4 [(0, .ref (a 0)), (1, .int v1), (2, .int v2)] [] := by
  unfold fX10_aim_L4_B at h
  refine x_iload_n (pc := 4) C 2 dX10_aim_4 rfl rfl ?_
  refine x_aload_n (pc := 5) C 0 dX10_aim_5 rfl rfl ?_
  refine x_get (pc := 6) C inlX10 0 rfl rfl 10 (by decide) q7_14 (v := .int (gI st 4)) rfl dX10_aim_6 ?_
  refine x_icmp_ge (pc := 9) C 52 dX10_aim_9 (by decide) (fun c_1 => ?_) (fun c_1 => ?_)
  · have h := kIp c_1 h
    refine kX.pick [0, 1] (lv' := [(0, .ref (a 0)), (1, .int v1)]) rfl ?_
    exact hK v1 v2 h
  · have h := kIn c_1 h
    refine x_iload_n (pc := 12) C 1 dX10_aim_12 rfl rfl ?_
    refine x_aload_n (pc := 13) C 0 dX10_aim_13 rfl rfl ?_
    refine x_get (pc := 14) C inlX10 0 rfl rfl 11 (by decide) q5_19 (v := .ref (a 6)) rfl dX10_aim_14 ?_
    refine x_iload_n (pc := 17) C 2 dX10_aim_17 rfl rfl ?_
    obtain ⟨x_2, hx_2, h⟩ := kB h
    obtain ⟨hi_3, hx_2⟩ := ka_some hx_2
    refine y_bald (pc := 18) C 6 (lwM_A6 G a rfl) hi_3 hx_2 dX10_aim_18 ?_
    refine x_bipush (pc := 19) C 48 dX10_aim_19 (by decide) ?_
    refine x_bipush (pc := 21) C 53 dX10_aim_21 (by decide) ?_
    refine x_callS (pc := 23) C [.int x_2, .int 48, .int 53] (mX10_within G x_2 48 53) ysX10_within q10_2 ⟨Nat.le_of_ble_eq_true rfl, Nat.le_of_ble_eq_true rfl, rfl, rfl⟩ ⟨Nat.zero_le _, Nat.zero_le _⟩ rfl rfl (Nat.le_of_ble_eq_true rfl) rfl dX10_aim_23 ?_
    refine x_if_eq (pc := 26) C 43 dX10_aim_26 (by decide) (fun c_4 => ?_) (fun c_4 => ?_)
    · have h := kIp c_4 h
      refine x_iconst (pc := 43) C 0 dX10_aim_43 (by decide) ?_
      refine x_ior (pc := 44) C dX10_aim_44 ?_
      refine x_istore_n (pc := 45) C (lv' := [(1, .int (v1 ||| 0)), (0, .ref (a 0)), (2, .int v2)]) dX10_aim_45 rfl (by decide) rfl ?_
      refine x_iinc (pc := 46) C 2 (v := v2 + 1) (lv' := [(2, .int (v2 + 1)), (1, .int (v1 ||| 0)), (0, .ref (a 0))]) dX10_aim_46 rfl rfl (by decide) rfl ?_
      refine x_goto (pc := 49) C 4 dX10_aim_49 (by decide) ?_
      refine kX.pick [2, 1, 0] (lv' := [(0, .ref (a 0)), (1, .int (v1 ||| 0)), (2, .int (v2 + 1))]) rfl ?_
      exact hG (v1 ||| 0) (v2 + 1) h
    · have h := kIn c_4 h
      refine x_iconst (pc := 29) C 1 dX10_aim_29 (by decide) ?_
      refine x_aload_n (pc := 30) C 0 dX10_aim_30 rfl rfl ?_
      refine x_get (pc := 31) C inlX10 0 rfl rfl 11 (by decide) q5_19 (v := .ref (a 6)) rfl dX10_aim_31 ?_
      refine x_iload_n (pc := 34) C 2 dX10_aim_34 rfl rfl ?_
      obtain ⟨x_5, hx_5, h⟩ := kB h
      obtain ⟨hi_6, hx_5⟩ := ka_some hx_5
      refine y_bald (pc := 35) C 6 (lwM_A6 G a rfl) hi_6 hx_5 dX10_aim_35 ?_
      refine x_bipush (pc := 36) C 48 dX10_aim_36 (by decide) ?_
      refine x_isub (pc := 38) C dX10_aim_38 ?_
      refine y_ishl (pc := 39) C dX10_aim_39 ?_
      refine x_goto (pc := 40) C 44 dX10_aim_40 (by decide) ?_
      refine x_ior (pc := 44) C dX10_aim_44 ?_
      refine x_istore_n (pc := 45) C (lv' := [(1, .int (v1 ||| (kshl 1 (x_5 - 48)))), (0, .ref (a 0)), (2, .int v2)]) dX10_aim_45 rfl (by decide) rfl ?_
      refine x_iinc (pc := 46) C 2 (v := v2 + 1) (lv' := [(2, .int (v2 + 1)), (1, .int (v1 ||| (kshl 1 (x_5 - 48)))), (0, .ref (a 0))]) dX10_aim_46 rfl rfl (by decide) rfl ?_
      refine x_goto (pc := 49) C 4 dX10_aim_49 (by decide) ?_
      refine kX.pick [2, 1, 0] (lv' := [(0, .ref (a 0)), (1, .int (v1 ||| (kshl 1 (x_5 - 48)))), (2, .int (v2 + 1))]) rfl ?_
      exact hG (v1 ||| (kshl 1 (x_5 - 48))) (v2 + 1) h
def fX10_aim_L4 (K : Int32 → Int32 → Option (Int32 × kS)) (st : kS) : Nat → Int32 → Int32 → Option (Int32 × kS)
  | 0, _, _ => none
  | F + 1, v1, v2 => fX10_aim_L4_B K (fX10_aim_L4 K st F) st v1 v2
set_option maxRecDepth 100000 in
set_option maxHeartbeats 4000000 in
theorem wX10_aim_L4 {G : kG} {E : kE} {a : Nat → Nat} (C : kOk G E cX10_aim RX10 3 rmfX10_aim) {z : Int32 × kS} (Zd : kEnd G E (0, 0) (some .int) (some (.int z.1)) (wM G a z.2)) {K : Int32 → Int32 → Option (Int32 × kS)} (st : kS) (hK : ∀ (u1 : Int32) (u2 : Int32), K u1 u2 = some z → kX G E (0, 0) (wM G a st) 52 [(0, .ref (a 0)), (1, .int u1)] []) : ∀ (F : Nat) (v1 : Int32) (v2 : Int32), fX10_aim_L4 K st F v1 v2 = some z → kX G E (0, 0) (wM G a st) 4 [(0, .ref (a 0)), (1, .int v1), (2, .int v2)] [] := by
  intro F
  induction F with
  | zero =>
    intro v1 v2 h
    exact absurd (show none = some z from h) (fun q => by cases q)
  | succ F ih =>
    intro v1 v2 h
    exact wX10_aim_L4_B  C Zd  st v1 v2 hK (fun v1 v2 h => ih v1 v2 h) h
def fX10_aim_L87_B (K : Int32 → kS → Option (Int32 × kS)) (Gc : Int32 → kS → Option (Int32 × kS)) (st : kS) (v2 : Int32) : Option (Int32 × kS) := if (gI st 0) ≤ v2 then (K v2 st) else ((ka 26 (gA st 6) v2).bind (fun x_13 => if v2 < 0 ∨ 6 ≤ v2.toNatClampNeg then none else Gc (v2 + 1) (sA st 5 (upd (gA st 5) v2.toNatClampNeg (x_13 - 48)))))
set_option maxRecDepth 100000 in
set_option maxHeartbeats 4000000 in
theorem wX10_aim_L87_B {G : kG} {E : kE} {a : Nat → Nat} (C : kOk G E cX10_aim RX10 3 rmfX10_aim) {z : Int32 × kS} (Zd : kEnd G E (0, 0) (some .int) (some (.int z.1)) (wM G a z.2)) {K Gc : Int32 → kS → Option (Int32 × kS)} (st : kS) (v2 : Int32) (hK : ∀ (u2 : Int32) (su : kS), K u2 su = some z → kX G E (0, 0) (wM G a su) 116 [(0, .ref (a 0))] []) (hG : ∀ (u2 : Int32) (su : kS), Gc u2 su = some z → kX G E (0, 0) (wM G a su) 87 [(0, .ref (a 0)), (2, .int u2)] []) (h : fX10_aim_L87_B K Gc st v2 = some z) : kX G E (0, 0) (wM G a st) 87 [(0, .ref (a 0)), (2, .int v2)] [] := by
  unfold fX10_aim_L87_B at h
  refine x_iload_n (pc := 87) C 1 dX10_aim_87 rfl rfl ?_
  refine x_aload_n (pc := 88) C 0 dX10_aim_88 rfl rfl ?_
  refine x_get (pc := 89) C inlX10 0 rfl rfl 0 (by decide) q15_2 (v := .int (gI st 0)) rfl dX10_aim_89 ?_
  refine x_icmp_ge (pc := 92) C 116 dX10_aim_92 (by decide) (fun c_12 => ?_) (fun c_12 => ?_)
  · have h := kIp c_12 h
    refine kX.pick [0] (lv' := [(0, .ref (a 0))]) rfl ?_
    exact hK v2 st h
  · have h := kIn c_12 h
    refine x_aload_n (pc := 95) C 0 dX10_aim_95 rfl rfl ?_
    refine x_get (pc := 96) C inlX10 0 rfl rfl 7 (by decide) q5_16 (v := .ref (a 5)) rfl dX10_aim_96 ?_
    refine x_iload_n (pc := 99) C 1 dX10_aim_99 rfl rfl ?_
    refine x_aload_n (pc := 100) C 0 dX10_aim_100 rfl rfl ?_
    refine x_get (pc := 101) C inlX10 0 rfl rfl 11 (by decide) q5_19 (v := .ref (a 6)) rfl dX10_aim_101 ?_
    refine x_iload_n (pc := 104) C 1 dX10_aim_104 rfl rfl ?_
    obtain ⟨x_13, hx_13, h⟩ := kB h
    obtain ⟨hi_14, hx_13⟩ := ka_some hx_13
    refine y_bald (pc := 105) C 6 (lwM_A6 G a rfl) hi_14 hx_13 dX10_aim_105 ?_
    refine x_bipush (pc := 106) C 48 dX10_aim_106 (by decide) ?_
    refine x_isub (pc := 108) C dX10_aim_108 ?_
    obtain ⟨hi_15, h⟩ := kGn h
    refine x_iast (pc := 109) C 5 (lwM_A5 G a rfl) hi_15 (swM_A5 G a _ _) dX10_aim_109 ?_
    refine x_iinc (pc := 110) C 1 (v := v2 + 1) (lv' := [(2, .int (v2 + 1)), (0, .ref (a 0))]) dX10_aim_110 rfl rfl (by decide) rfl ?_
    refine x_goto (pc := 113) C 87 dX10_aim_113 (by decide) ?_
    refine kX.pick [1, 0] (lv' := [(0, .ref (a 0)), (2, .int (v2 + 1))]) rfl ?_
    exact hG (v2 + 1) (sA st 5 (upd (gA st 5) v2.toNatClampNeg (x_13 - 48))) h
def fX10_aim_L87 (K : Int32 → kS → Option (Int32 × kS)) : Nat → Int32 → kS → Option (Int32 × kS)
  | 0, _, _ => none
  | F + 1, v2, st => fX10_aim_L87_B K (fX10_aim_L87 K F) st v2
set_option maxRecDepth 100000 in
set_option maxHeartbeats 4000000 in
theorem wX10_aim_L87 {G : kG} {E : kE} {a : Nat → Nat} (C : kOk G E cX10_aim RX10 3 rmfX10_aim) {z : Int32 × kS} (Zd : kEnd G E (0, 0) (some .int) (some (.int z.1)) (wM G a z.2)) {K : Int32 → kS → Option (Int32 × kS)} (hK : ∀ (u2 : Int32) (su : kS), K u2 su = some z → kX G E (0, 0) (wM G a su) 116 [(0, .ref (a 0))] []) : ∀ (F : Nat) (v2 : Int32) (st : kS), fX10_aim_L87 K F v2 st = some z → kX G E (0, 0) (wM G a st) 87 [(0, .ref (a 0)), (2, .int v2)] [] := by
  intro F
  induction F with
  | zero =>
    intro v2 st h
    exact absurd (show none = some z from h) (fun q => by cases q)
  | succ F ih =>
    intro v2 st h
    exact wX10_aim_L87_B  C Zd  st v2 hK (fun v2 st h => ih v2 st h) h
def fX10_aim (st : kS) : Option (Int32 × kS) := fX10_aim_L4 (fun v1_7 v2_8 => if (gI st 0) = 0 then (some ((-103), st)) else (if (gI st 4) = (gI st 0) then (if v1_7 = ((kshl 1 (gI st 0)) - 1) then (fX10_aim_L87 (fun v2_16 st_17 => some ((gI st_17 0), (sI (sI st_17 3 1) 4 0))) kFU 0 st) else (some ((-103), st))) else (some ((-103), st)))) st kFU 0 0
set_option maxRecDepth 100000 in
set_option maxHeartbeats 4000000 in
theorem wX10_aim {G : kG} {E : kE} {a : Nat → Nat} (C : kOk G E cX10_aim RX10 3 rmfX10_aim) {z : Int32 × kS} (Zd : kEnd G E (0, 0) (some .int) (some (.int z.1)) (wM G a z.2)) (st : kS) (h : fX10_aim st = some z) : kX G E (0, 0) (wM G a st) 0 [(0, .ref (a 0))] [] := by
  unfold fX10_aim at h
  refine x_iconst (pc := 0) C 0 dX10_aim_0 (by decide) ?_
  refine x_istore_n (pc := 1) C (lv' := [(1, .int 0), (0, .ref (a 0))]) dX10_aim_1 rfl (by decide) rfl ?_
  refine x_iconst (pc := 2) C 0 dX10_aim_2 (by decide) ?_
  refine x_istore_n (pc := 3) C (lv' := [(2, .int 0), (1, .int 0), (0, .ref (a 0))]) dX10_aim_3 rfl (by decide) rfl ?_
  refine kX.pick [2, 1, 0] (lv' := [(0, .ref (a 0)), (1, .int 0), (2, .int 0)]) rfl ?_
  refine wX10_aim_L4  C Zd  st  (fun v1_7 v2_8 h => ?_) kFU 0 0 h
  refine x_aload_n (pc := 52) C 0 dX10_aim_52 rfl rfl ?_
  refine x_get (pc := 53) C inlX10 0 rfl rfl 0 (by decide) q15_2 (v := .int (gI st 0)) rfl dX10_aim_53 ?_
  refine x_if_eq (pc := 56) C 82 dX10_aim_56 (by decide) (fun c_9 => ?_) (fun c_9 => ?_)
  · have h := kIp c_9 h
    refine x_bipush (pc := 82) C (-103) dX10_aim_82 (by decide) ?_
    obtain rfl := Option.some.inj h
    exact x_iret (pc := 84) C Zd dX10_aim_84
  · have h := kIn c_9 h
    refine x_aload_n (pc := 59) C 0 dX10_aim_59 rfl rfl ?_
    refine x_get (pc := 60) C inlX10 0 rfl rfl 10 (by decide) q7_14 (v := .int (gI st 4)) rfl dX10_aim_60 ?_
    refine x_aload_n (pc := 63) C 0 dX10_aim_63 rfl rfl ?_
    refine x_get (pc := 64) C inlX10 0 rfl rfl 0 (by decide) q15_2 (v := .int (gI st 0)) rfl dX10_aim_64 ?_
    refine x_icmp_ne (pc := 67) C 82 dX10_aim_67 (by decide) (fun c_10 => ?_) (fun c_10 => ?_)
    · have h := kIn c_10 h
      refine x_bipush (pc := 82) C (-103) dX10_aim_82 (by decide) ?_
      obtain rfl := Option.some.inj h
      exact x_iret (pc := 84) C Zd dX10_aim_84
    · have h := kIp c_10 h
      refine x_iload_n (pc := 70) C 1 dX10_aim_70 rfl rfl ?_
      refine x_iconst (pc := 71) C 1 dX10_aim_71 (by decide) ?_
      refine x_aload_n (pc := 72) C 0 dX10_aim_72 rfl rfl ?_
      refine x_get (pc := 73) C inlX10 0 rfl rfl 0 (by decide) q15_2 (v := .int (gI st 0)) rfl dX10_aim_73 ?_
      refine y_ishl (pc := 76) C dX10_aim_76 ?_
      refine x_iconst (pc := 77) C 1 dX10_aim_77 (by decide) ?_
      refine x_isub (pc := 78) C dX10_aim_78 ?_
      refine x_icmp_eq (pc := 79) C 85 dX10_aim_79 (by decide) (fun c_11 => ?_) (fun c_11 => ?_)
      · have h := kIp c_11 h
        refine x_iconst (pc := 85) C 0 dX10_aim_85 (by decide) ?_
        refine x_istore_n (pc := 86) C (lv' := [(2, .int 0), (0, .ref (a 0)), (1, .int v1_7)]) dX10_aim_86 rfl (by decide) rfl ?_
        refine kX.pick [1, 0] (lv' := [(0, .ref (a 0)), (2, .int 0)]) rfl ?_
        refine wX10_aim_L87  C Zd   (fun v2_16 st_17 h => ?_) kFU 0 st h
        refine x_aload_n (pc := 116) C 0 dX10_aim_116 rfl rfl ?_
        refine x_iconst (pc := 117) C 1 dX10_aim_117 (by decide) ?_
        refine x_put (pc := 118) C inlX10 tyX10 tyX10_ok nmX10 0 rfl rfl 8 (by decide) q15_4 rfl .boolean (v := .int 1) (by decide +kernel) rfl rfl (Nat.le_of_ble_eq_true rfl) (swM_I3 G a _ _) dX10_aim_118 ?_
        refine x_aload_n (pc := 121) C 0 dX10_aim_121 rfl rfl ?_
        refine x_iconst (pc := 122) C 0 dX10_aim_122 (by decide) ?_
        refine x_put (pc := 123) C inlX10 tyX10 tyX10_ok nmX10 0 rfl rfl 10 (by decide) q7_14 rfl .int (v := .int 0) (by decide +kernel) rfl rfl (Nat.le_of_ble_eq_true rfl) (swM_I4 G a _ _) dX10_aim_123 ?_
        refine x_aload_n (pc := 126) C 0 dX10_aim_126 rfl rfl ?_
        refine x_get (pc := 127) C inlX10 0 rfl rfl 0 (by decide) q15_2 (v := .int (gI st_17 0)) rfl dX10_aim_127 ?_
        obtain rfl := Option.some.inj h
        exact x_iret (pc := 130) C Zd dX10_aim_130
      · have h := kIn c_11 h
        refine x_bipush (pc := 82) C (-103) dX10_aim_82 (by decide) ?_
        obtain rfl := Option.some.inj h
        exact x_iret (pc := 84) C Zd dX10_aim_84
set_option maxRecDepth 100000 in
theorem mX10_aim (G : kG) (a : Nat → Nat) (st : kS)  {z : Int32 × kS} (h : fX10_aim st = some z) : kMet G yX10_aim cX10_aim 3 (some .int) rmfX10_aim (0, 0) [.ref (a 0)] (wM G a st) (some (.int z.1)) (wM G a z.2) := kMet.mk (by decide +kernel) (Nat.le_of_ble_eq_true rfl) (fun E C Zd => wX10_aim  C Zd  st  h)
theorem yvX10_isHouse : kYV yX10_isHouse RX10 cX10_isHouse 2 (some .boolean) 1 := ⟨q19_15, q19_16, q1_5, q19_17, by decide +kernel⟩
abbrev rmfX10_isHouse : Room := { frames := 1, cells := 0, slots := 0, locals := 22 }
def fX10_isHouse (st : kS) (x1 : Int32) : Option (Int32) := if ¬ ((fX10_within x1 0 ((gI st 0) - 1)) = 0 ∨ (fX10_within x1 0 ((gI st 0) - 1)) = 1) then none else some (fX10_within x1 0 ((gI st 0) - 1))
set_option maxRecDepth 100000 in
set_option maxHeartbeats 4000000 in
theorem wX10_isHouse {G : kG} {E : kE} {a : Nat → Nat} {st0 : kS} (C : kOk G E cX10_isHouse RX10 2 rmfX10_isHouse) {z : Int32} (Zd : kEnd G E (0, 0) (some .boolean) (some (.int z)) (wM G a st0)) (x1 : Int32) (h : fX10_isHouse st0 x1 = some z) : kX G E (0, 0) (wM G a st0) 0 [(0, .ref (a 0)), (1, .int x1)] [] := by
  unfold fX10_isHouse at h
  refine x_iload_n (pc := 0) C 1 dX10_isHouse_0 rfl rfl ?_
  refine x_iconst (pc := 1) C 0 dX10_isHouse_1 (by decide) ?_
  refine x_aload_n (pc := 2) C 0 dX10_isHouse_2 rfl rfl ?_
  refine x_get (pc := 3) C inlX10 0 rfl rfl 0 (by decide) q15_2 (v := .int (gI st0 0)) rfl dX10_isHouse_3 ?_
  refine x_iconst (pc := 6) C 1 dX10_isHouse_6 (by decide) ?_
  refine x_isub (pc := 7) C dX10_isHouse_7 ?_
  refine x_callS (pc := 8) C [.int x1, .int 0, .int ((gI st0 0) - 1)] (mX10_within G x1 0 ((gI st0 0) - 1)) ysX10_within q10_2 ⟨Nat.le_of_ble_eq_true rfl, Nat.le_of_ble_eq_true rfl, rfl, rfl⟩ ⟨Nat.zero_le _, Nat.zero_le _⟩ rfl rfl (Nat.le_of_ble_eq_true rfl) rfl dX10_isHouse_8 ?_
  obtain ⟨c_1, h⟩ := kGn h
  obtain rfl := Option.some.inj h
  exact x_zret (pc := 11) C (kBn c_1) Zd dX10_isHouse_11
set_option maxRecDepth 100000 in
theorem mX10_isHouse (G : kG) (a : Nat → Nat) (st : kS) (x1 : Int32) {z : Int32} (h : fX10_isHouse st x1 = some z) : kMet G yX10_isHouse cX10_isHouse 2 (some .boolean) rmfX10_isHouse (0, 0) [.ref (a 0), .int x1] (wM G a st) (some (.int z)) (wM G a st) := kMet.mk (by decide +kernel) (Nat.le_of_ble_eq_true rfl) (fun E C Zd => wX10_isHouse  C Zd  x1 h)
theorem yvX10_placeIn : kYV yX10_placeIn RX10 cX10_placeIn 4 (some .int) 2 := ⟨q19_19, q19_20, q1_5, q19_21, by decide +kernel⟩
abbrev rmfX10_placeIn : Room := { frames := 0, cells := 0, slots := 0, locals := 0 }
def fX10_placeIn_L2_B (K : Int32 → Option (Int32)) (Gc : Int32 → Option (Int32)) (N1 : Nat) (f1 : Nat → Int32) (st : kS) (v2 : Int32) (v3 : Int32) : Option (Int32) := (ka N1 f1 v3).bind (fun x_1 => if x_1 = v2 then (K v3) else (Gc (v3 + 1)))
set_option maxRecDepth 100000 in
set_option maxHeartbeats 4000000 in
theorem wX10_placeIn_L2_B {G : kG} {E : kE} {a : Nat → Nat} {st0 : kS} {q1 a1 N1 : Nat} {f1 : Nat → Int32} (hN1 : N1 < 2 ^ 31) (C : kOk G E cX10_placeIn RX10 4 rmfX10_placeIn) {z : Int32} (Zd : kEnd G E (0, 0) (some .int) (some (.int z)) (wM G a st0)) (hq1 : (wM G a st0)[q1]? = some (a1, .inl (G.2.1, N1, .inl f1))) {K Gc : Int32 → Option (Int32)} (v2 : Int32) (v3 : Int32) (hK : ∀ (u3 : Int32), K u3 = some z → kX G E (0, 0) (wM G a st0) 15 [(3, .int u3)] []) (hG : ∀ (u3 : Int32), Gc u3 = some z → kX G E (0, 0) (wM G a st0) 2 [(1, .ref a1), (2, .int v2), (3, .int u3)] []) (h : fX10_placeIn_L2_B K Gc N1 f1 st0 v2 v3 = some z) : kX G E (0, 0) (wM G a st0) 2 [(1, .ref a1), (2, .int v2), (3, .int v3)] [] := by
  unfold fX10_placeIn_L2_B at h
  refine x_aload_n (pc := 2) C 0 dX10_placeIn_2 rfl rfl ?_
  refine x_iload_n (pc := 3) C 2 dX10_placeIn_3 rfl rfl ?_
  obtain ⟨x_1, hx_1, h⟩ := kB h
  obtain ⟨hi_2, hx_1⟩ := ka_some hx_1
  refine y_iald (pc := 4) C q1 hq1 hi_2 hx_1 dX10_placeIn_4 ?_
  refine x_iload_n (pc := 5) C 1 dX10_placeIn_5 rfl rfl ?_
  refine x_icmp_eq (pc := 6) C 15 dX10_placeIn_6 (by decide) (fun c_3 => ?_) (fun c_3 => ?_)
  · have h := kIp c_3 h
    refine kX.pick [2] (lv' := [(3, .int v3)]) rfl ?_
    exact hK v3 h
  · have h := kIn c_3 h
    refine x_iinc (pc := 9) C 2 (v := v3 + 1) (lv' := [(3, .int (v3 + 1)), (1, .ref a1), (2, .int v2)]) dX10_placeIn_9 rfl rfl (by decide) rfl ?_
    refine x_goto (pc := 12) C 2 dX10_placeIn_12 (by decide) ?_
    refine kX.pick [1, 2, 0] (lv' := [(1, .ref a1), (2, .int v2), (3, .int (v3 + 1))]) rfl ?_
    exact hG (v3 + 1) h
def fX10_placeIn_L2 (K : Int32 → Option (Int32)) (N1 : Nat) (f1 : Nat → Int32) (st : kS) (v2 : Int32) : Nat → Int32 → Option (Int32)
  | 0, _ => none
  | F + 1, v3 => fX10_placeIn_L2_B K (fX10_placeIn_L2 K N1 f1 st v2 F) N1 f1 st v2 v3
set_option maxRecDepth 100000 in
set_option maxHeartbeats 4000000 in
theorem wX10_placeIn_L2 {G : kG} {E : kE} {a : Nat → Nat} {st0 : kS} {q1 a1 N1 : Nat} {f1 : Nat → Int32} (hN1 : N1 < 2 ^ 31) (C : kOk G E cX10_placeIn RX10 4 rmfX10_placeIn) {z : Int32} (Zd : kEnd G E (0, 0) (some .int) (some (.int z)) (wM G a st0)) (hq1 : (wM G a st0)[q1]? = some (a1, .inl (G.2.1, N1, .inl f1))) {K : Int32 → Option (Int32)} (v2 : Int32) (hK : ∀ (u3 : Int32), K u3 = some z → kX G E (0, 0) (wM G a st0) 15 [(3, .int u3)] []) : ∀ (F : Nat) (v3 : Int32), fX10_placeIn_L2 K N1 f1 st0 v2 F v3 = some z → kX G E (0, 0) (wM G a st0) 2 [(1, .ref a1), (2, .int v2), (3, .int v3)] [] := by
  intro F
  induction F with
  | zero =>
    intro v3 h
    exact absurd (show none = some z from h) (fun q => by cases q)
  | succ F ih =>
    intro v3 h
    exact wX10_placeIn_L2_B hN1 C Zd hq1 v2 v3 hK (fun v3 h => ih v3 h) h
def fX10_placeIn (N1 : Nat) (f1 : Nat → Int32) (st : kS) (x2 : Int32) : Option (Int32) := fX10_placeIn_L2 (fun v3_4 => some v3_4) N1 f1 st x2 kFU 0
set_option maxRecDepth 100000 in
set_option maxHeartbeats 4000000 in
theorem wX10_placeIn {G : kG} {E : kE} {a : Nat → Nat} {st0 : kS} {q1 a1 N1 : Nat} {f1 : Nat → Int32} (hN1 : N1 < 2 ^ 31) (C : kOk G E cX10_placeIn RX10 4 rmfX10_placeIn) {z : Int32} (Zd : kEnd G E (0, 0) (some .int) (some (.int z)) (wM G a st0)) (hq1 : (wM G a st0)[q1]? = some (a1, .inl (G.2.1, N1, .inl f1))) (x2 : Int32) (h : fX10_placeIn N1 f1 st0 x2 = some z) : kX G E (0, 0) (wM G a st0) 0 [(0, .ref (a 0)), (1, .ref a1), (2, .int x2)] [] := by
  unfold fX10_placeIn at h
  refine x_iconst (pc := 0) C 0 dX10_placeIn_0 (by decide) ?_
  refine x_istore_n (pc := 1) C (lv' := [(3, .int 0), (0, .ref (a 0)), (1, .ref a1), (2, .int x2)]) dX10_placeIn_1 rfl (by decide) rfl ?_
  refine kX.pick [2, 3, 0] (lv' := [(1, .ref a1), (2, .int x2), (3, .int 0)]) rfl ?_
  refine wX10_placeIn_L2 hN1 C Zd hq1 x2 (fun v3_4 h => ?_) kFU 0 h
  refine x_iload_n (pc := 15) C 0 dX10_placeIn_15 rfl rfl ?_
  obtain rfl := Option.some.inj h
  exact x_iret (pc := 16) C Zd dX10_placeIn_16
set_option maxRecDepth 100000 in
theorem mX10_placeIn (G : kG) (a : Nat → Nat) {st : kS} {a1 : Nat} {N : Nat} {f : Nat → Int32} (q1 : Nat) (hq1 : (wM G a st)[q1]? = some (a1, .inl (G.2.1, N, .inl f))) (hN1 : N < 2 ^ 31) (_ : kS) (x2 : Int32) {z : Int32} (h : fX10_placeIn N f st x2 = some z) : kMet G yX10_placeIn cX10_placeIn 4 (some .int) rmfX10_placeIn (0, 0) [.ref (a 0), .ref a1, .int x2] (wM G a st) (some (.int z)) (wM G a st) := kMet.mk (by decide +kernel) (Nat.le_of_ble_eq_true rfl) (fun E C Zd => wX10_placeIn hN1 C Zd hq1 x2 h)
