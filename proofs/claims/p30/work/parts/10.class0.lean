theorem ysX5_codeIn : kYS yX5_codeIn cX5_codeIn 3 (some .int) 2 := ⟨q5_23, q1_19, q6_0, by decide +kernel⟩
abbrev rmfX5_codeIn : Room := { frames := 0, cells := 0, slots := 0, locals := 0 }
def fX5_codeIn (x0 : Int64) (x2 : Int32) : Int32 := (((klushr x0 (8 * x2)).toInt32) &&& 255)
set_option maxRecDepth 100000 in
set_option maxHeartbeats 4000000 in
theorem wX5_codeIn {G : kG} {E : kE} {ws : va_W} (C : kOk G E cX5_codeIn RX5 3 rmfX5_codeIn) {z : Int32} (Zd : kEnd G E (0, 0) (some .int) (some (.int z)) ws) (x0 : Int64) (x2 : Int32) (h : fX5_codeIn x0 x2 = z) : kX G E (0, 0) ws 0 [(0, .long x0), (2, .int x2)] [] := by
  unfold fX5_codeIn at h
  refine x_lload_n (pc := 0) C 0 dX5_codeIn_0 rfl rfl ?_
  refine x_bipush (pc := 1) C 8 dX5_codeIn_1 (by decide) ?_
  refine x_iload_n (pc := 3) C 1 dX5_codeIn_3 rfl rfl ?_
  refine x_imul (pc := 4) C dX5_codeIn_4 ?_
  refine y_lushr (pc := 5) C dX5_codeIn_5 ?_
  refine x_l2i (pc := 6) C dX5_codeIn_6 ?_
  refine x_sipush (pc := 7) C 255 dX5_codeIn_7 (by decide) ?_
  refine x_iand (pc := 10) C dX5_codeIn_10 ?_
  subst h
  exact x_iret (pc := 11) C Zd dX5_codeIn_11
set_option maxRecDepth 100000 in
theorem mX5_codeIn (G : kG) {ws : va_W} (x0 : Int64) (x2 : Int32) : kMet G yX5_codeIn cX5_codeIn 3 (some .int) rmfX5_codeIn (0, 0) [.long x0, .int x2] ws (some (.int (fX5_codeIn x0 x2))) ws := kMet.mk (by decide +kernel) (Nat.le_of_ble_eq_true rfl) (fun E C Zd => wX5_codeIn  C Zd  x0 x2 rfl)
theorem ysX5_told : kYS yX5_told cX5_told 6 (some .int) 1 := ⟨q5_20, q1_19, q5_21, by decide +kernel⟩
abbrev rmfX5_told : Room := { frames := 1, cells := 0, slots := 0, locals := 22 }
def fX5_told_J40 (K : Int32 → Int32 → Int32 → Option (Int32)) (Gc : Int32 → Int32 → Int32 → Option (Int32)) (v0 : Int64) (v2 : Int32) (v3 : Int32) (v4 : Int32) (v5 : Int32) : Option (Int32) := if v5 = 0 then (Gc v2 1 (v4 + 1)) else (Gc (v2 + 1) v3 (v4 + 1))
set_option maxRecDepth 100000 in
set_option maxHeartbeats 4000000 in
theorem wX5_told_J40 {G : kG} {E : kE} {ws : va_W} (C : kOk G E cX5_told RX5 6 rmfX5_told) {z : Int32} (Zd : kEnd G E (0, 0) (some .int) (some (.int z)) ws) {K Gc : Int32 → Int32 → Int32 → Option (Int32)} (v0 : Int64) (v2 : Int32) (v3 : Int32) (v4 : Int32) (v5 : Int32) (hK : ∀ (u2 : Int32) (u3 : Int32) (u4 : Int32), K u2 u3 u4 = some z → kX G E (0, 0) ws 59 [(2, .int u2)] []) (hG : ∀ (u2 : Int32) (u3 : Int32) (u4 : Int32), Gc u2 u3 u4 = some z → kX G E (0, 0) ws 7 [(0, .long v0), (2, .int u2), (3, .int u3), (4, .int u4)] []) (h : fX5_told_J40 K Gc v0 v2 v3 v4 v5 = some z) : kX G E (0, 0) ws 40 [(0, .long v0), (2, .int v2), (3, .int v3), (4, .int v4), (5, .int v5)] [] := by
  unfold fX5_told_J40 at h
  refine x_iload (pc := 40) C 4 dX5_told_40 rfl ?_
  refine x_if_ne (pc := 42) C 50 dX5_told_42 (by decide) (fun c_4 => ?_) (fun c_4 => ?_)
  · have h := kIn c_4 h
    refine x_iinc (pc := 50) C 1 (v := v2 + 1) (lv' := [(2, .int (v2 + 1)), (0, .long v0), (3, .int v3), (4, .int v4), (5, .int v5)]) dX5_told_50 rfl rfl (by decide) rfl ?_
    refine x_iinc (pc := 53) C 3 (v := v4 + 1) (lv' := [(4, .int (v4 + 1)), (2, .int (v2 + 1)), (0, .long v0), (3, .int v3), (5, .int v5)]) dX5_told_53 rfl rfl (by decide) rfl ?_
    refine x_goto (pc := 56) C 7 dX5_told_56 (by decide) ?_
    refine kX.pick [2, 1, 3, 0] (lv' := [(0, .long v0), (2, .int (v2 + 1)), (3, .int v3), (4, .int (v4 + 1))]) rfl ?_
    exact hG (v2 + 1) v3 (v4 + 1) h
  · have h := kIp c_4 h
    refine x_iconst (pc := 45) C 1 dX5_told_45 (by decide) ?_
    refine x_istore_n (pc := 46) C (lv' := [(3, .int 1), (0, .long v0), (2, .int v2), (4, .int v4), (5, .int v5)]) dX5_told_46 rfl (by decide) rfl ?_
    refine x_goto (pc := 47) C 53 dX5_told_47 (by decide) ?_
    refine x_iinc (pc := 53) C 3 (v := v4 + 1) (lv' := [(4, .int (v4 + 1)), (3, .int 1), (0, .long v0), (2, .int v2), (5, .int v5)]) dX5_told_53 rfl rfl (by decide) rfl ?_
    refine x_goto (pc := 56) C 7 dX5_told_56 (by decide) ?_
    refine kX.pick [2, 3, 1, 0] (lv' := [(0, .long v0), (2, .int v2), (3, .int 1), (4, .int (v4 + 1))]) rfl ?_
    exact hG v2 1 (v4 + 1) h
def fX5_told_L7_B (K : Int32 → Int32 → Int32 → Option (Int32)) (Gc : Int32 → Int32 → Int32 → Option (Int32)) (v0 : Int64) (v2 : Int32) (v3 : Int32) (v4 : Int32) : Option (Int32) := if 8 ≤ v4 then (K v2 v3 v4) else (if 126 < (fX5_codeIn v0 v4) then (some (-1)) else (if v3 = 0 then (fX5_told_J40 K Gc v0 v2 v3 v4 (fX5_codeIn v0 v4)) else (if (fX5_codeIn v0 v4) = 0 then (fX5_told_J40 K Gc v0 v2 v3 v4 (fX5_codeIn v0 v4)) else (some (-1)))))
set_option maxRecDepth 100000 in
set_option maxHeartbeats 4000000 in
theorem wX5_told_L7_B {G : kG} {E : kE} {ws : va_W} (C : kOk G E cX5_told RX5 6 rmfX5_told) {z : Int32} (Zd : kEnd G E (0, 0) (some .int) (some (.int z)) ws) {K Gc : Int32 → Int32 → Int32 → Option (Int32)} (v0 : Int64) (v2 : Int32) (v3 : Int32) (v4 : Int32) (hK : ∀ (u2 : Int32) (u3 : Int32) (u4 : Int32), K u2 u3 u4 = some z → kX G E (0, 0) ws 59 [(2, .int u2)] []) (hG : ∀ (u2 : Int32) (u3 : Int32) (u4 : Int32), Gc u2 u3 u4 = some z → kX G E (0, 0) ws 7 [(0, .long v0), (2, .int u2), (3, .int u3), (4, .int u4)] []) (h : fX5_told_L7_B K Gc v0 v2 v3 v4 = some z) : kX G E (0, 0) ws 7 [(0, .long v0), (2, .int v2), (3, .int v3), (4, .int v4)] [] := by
  unfold fX5_told_L7_B at h
  refine x_iload (pc := 7) C 3 dX5_told_7 rfl ?_
  refine x_bipush (pc := 9) C 8 dX5_told_9 (by decide) ?_
  refine x_icmp_ge (pc := 11) C 59 dX5_told_11 (by decide) (fun c_1 => ?_) (fun c_1 => ?_)
  · have h := kIp c_1 h
    refine kX.pick [1] (lv' := [(2, .int v2)]) rfl ?_
    exact hK v2 v3 v4 h
  · have h := kIn c_1 h
    refine x_lload_n (pc := 14) C 0 dX5_told_14 rfl rfl ?_
    refine x_iload (pc := 15) C 3 dX5_told_15 rfl ?_
    refine x_callS (pc := 17) C [.long v0, .int v4] (mX5_codeIn G v0 v4) ysX5_codeIn q5_22 ⟨Nat.le_of_ble_eq_true rfl, Nat.le_of_ble_eq_true rfl, rfl, rfl⟩ ⟨Nat.zero_le _, Nat.zero_le _⟩ rfl rfl (Nat.le_of_ble_eq_true rfl) rfl dX5_told_17 ?_
    refine x_istore (pc := 20) C (lv' := [(5, .int (fX5_codeIn v0 v4)), (0, .long v0), (2, .int v2), (3, .int v3), (4, .int v4)]) dX5_told_20 (by decide) rfl ?_
    refine x_iload (pc := 22) C 0 dX5_told_22 rfl ?_
    refine x_bipush (pc := 24) C 126 dX5_told_24 (by decide) ?_
    refine x_icmp_gt (pc := 26) C 38 dX5_told_26 (by decide) (fun c_2 => ?_) (fun c_2 => ?_)
    · have h := kIp c_2 h
      refine x_iconst (pc := 38) C (-1) dX5_told_38 (by decide) ?_
      obtain rfl := Option.some.inj h
      exact x_iret (pc := 39) C Zd dX5_told_39
    · have h := kIn c_2 h
      refine x_iload_n (pc := 29) C 3 dX5_told_29 rfl rfl ?_
      refine x_if_eq (pc := 30) C 40 dX5_told_30 (by decide) (fun c_3 => ?_) (fun c_3 => ?_)
      · have h := kIp c_3 h
        refine kX.pick [1, 2, 3, 4, 0] (lv' := [(0, .long v0), (2, .int v2), (3, .int v3), (4, .int v4), (5, .int (fX5_codeIn v0 v4))]) rfl ?_
        exact wX5_told_J40  C Zd  v0 v2 v3 v4 (fX5_codeIn v0 v4) hK hG h
      · have h := kIn c_3 h
        refine x_iload (pc := 33) C 0 dX5_told_33 rfl ?_
        refine x_if_eq (pc := 35) C 40 dX5_told_35 (by decide) (fun c_5 => ?_) (fun c_5 => ?_)
        · have h := kIp c_5 h
          refine kX.pick [1, 2, 3, 4, 0] (lv' := [(0, .long v0), (2, .int v2), (3, .int v3), (4, .int v4), (5, .int (fX5_codeIn v0 v4))]) rfl ?_
          exact wX5_told_J40  C Zd  v0 v2 v3 v4 (fX5_codeIn v0 v4) hK hG h
        · have h := kIn c_5 h
          refine x_iconst (pc := 38) C (-1) dX5_told_38 (by decide) ?_
          obtain rfl := Option.some.inj h
          exact x_iret (pc := 39) C Zd dX5_told_39
def fX5_told_L7 (K : Int32 → Int32 → Int32 → Option (Int32)) (v0 : Int64) : Nat → Int32 → Int32 → Int32 → Option (Int32)
  | 0, _, _, _ => none
  | F + 1, v2, v3, v4 => fX5_told_L7_B K (fX5_told_L7 K v0 F) v0 v2 v3 v4
set_option maxRecDepth 100000 in
set_option maxHeartbeats 4000000 in
theorem wX5_told_L7 {G : kG} {E : kE} {ws : va_W} (C : kOk G E cX5_told RX5 6 rmfX5_told) {z : Int32} (Zd : kEnd G E (0, 0) (some .int) (some (.int z)) ws) {K : Int32 → Int32 → Int32 → Option (Int32)} (v0 : Int64) (hK : ∀ (u2 : Int32) (u3 : Int32) (u4 : Int32), K u2 u3 u4 = some z → kX G E (0, 0) ws 59 [(2, .int u2)] []) : ∀ (F : Nat) (v2 : Int32) (v3 : Int32) (v4 : Int32), fX5_told_L7 K v0 F v2 v3 v4 = some z → kX G E (0, 0) ws 7 [(0, .long v0), (2, .int v2), (3, .int v3), (4, .int v4)] [] := by
  intro F
  induction F with
  | zero =>
    intro v2 v3 v4 h
    exact absurd (show none = some z from h) (fun q => by cases q)
  | succ F ih =>
    intro v2 v3 v4 h
    exact wX5_told_L7_B  C Zd  v0 v2 v3 v4 hK (fun v2 v3 v4 h => ih v2 v3 v4 h) h
def fX5_told (x0 : Int64) : Option (Int32) := fX5_told_L7 (fun v2_6 v3_7 v4_8 => some v2_6) x0 kFU 0 0 0
set_option maxRecDepth 100000 in
set_option maxHeartbeats 4000000 in
theorem wX5_told {G : kG} {E : kE} {ws : va_W} (C : kOk G E cX5_told RX5 6 rmfX5_told) {z : Int32} (Zd : kEnd G E (0, 0) (some .int) (some (.int z)) ws) (x0 : Int64) (h : fX5_told x0 = some z) : kX G E (0, 0) ws 0 [(0, .long x0)] [] := by
  unfold fX5_told at h
  refine x_iconst (pc := 0) C 0 dX5_told_0 (by decide) ?_
  refine x_istore_n (pc := 1) C (lv' := [(2, .int 0), (0, .long x0)]) dX5_told_1 rfl (by decide) rfl ?_
  refine x_iconst (pc := 2) C 0 dX5_told_2 (by decide) ?_
  refine x_istore_n (pc := 3) C (lv' := [(3, .int 0), (2, .int 0), (0, .long x0)]) dX5_told_3 rfl (by decide) rfl ?_
  refine x_iconst (pc := 4) C 0 dX5_told_4 (by decide) ?_
  refine x_istore (pc := 5) C (lv' := [(4, .int 0), (3, .int 0), (2, .int 0), (0, .long x0)]) dX5_told_5 (by decide) rfl ?_
  refine kX.pick [3, 2, 1, 0] (lv' := [(0, .long x0), (2, .int 0), (3, .int 0), (4, .int 0)]) rfl ?_
  refine wX5_told_L7  C Zd  x0 (fun v2_6 v3_7 v4_8 h => ?_) kFU 0 0 0 h
  refine x_iload_n (pc := 59) C 0 dX5_told_59 rfl rfl ?_
  obtain rfl := Option.some.inj h
  exact x_iret (pc := 60) C Zd dX5_told_60
set_option maxRecDepth 100000 in
theorem mX5_told (G : kG) {ws : va_W} (x0 : Int64) {z : Int32} (h : fX5_told x0 = some z) : kMet G yX5_told cX5_told 6 (some .int) rmfX5_told (0, 0) [.long x0] ws (some (.int z)) ws := kMet.mk (by decide +kernel) (Nat.le_of_ble_eq_true rfl) (fun E C Zd => wX5_told  C Zd  x0 h)
theorem yvX5_append : kYV yX5_append RX5 cX5_append 5 none 2 := ⟨q6_2, q6_3, q1_19, q6_4, by decide +kernel⟩
abbrev rmfX5_append : Room := { frames := 1, cells := 0, slots := 0, locals := 22 }
def fX5_append_L3_B (K : Int32 → kS → Option (kS)) (Gc : Int32 → kS → Option (kS)) (st : kS) (v1 : Int64) (v3 : Int32) (v4 : Int32) : Option (kS) := if v3 ≤ v4 then (K v4 st) else (Gc (v4 + 1) (sA st 10 (kp 26 (gA st 10) ((gI st 2) + v4) (fX5_codeIn v1 v4))))
set_option maxRecDepth 100000 in
set_option maxHeartbeats 4000000 in
theorem wX5_append_L3_B {G : kG} {E : kE} {a : Nat → Nat} (C : kOk G E cX5_append RX5 5 rmfX5_append) {z : kS} (Zd : kEnd G E (0, 0) none none (wX G a z)) {K Gc : Int32 → kS → Option (kS)} (st : kS) (v1 : Int64) (v3 : Int32) (v4 : Int32) (hK : ∀ (u4 : Int32) (su : kS), K u4 su = some z → kX G E (0, 0) (wX G a su) 35 [(0, .ref (a 1)), (3, .int v3)] []) (hG : ∀ (u4 : Int32) (su : kS), Gc u4 su = some z → kX G E (0, 0) (wX G a su) 3 [(0, .ref (a 1)), (1, .long v1), (3, .int v3), (4, .int u4)] []) (h : fX5_append_L3_B K Gc st v1 v3 v4 = some z) : kX G E (0, 0) (wX G a st) 3 [(0, .ref (a 1)), (1, .long v1), (3, .int v3), (4, .int v4)] [] := by
  unfold fX5_append_L3_B at h
  refine x_iload (pc := 3) C 3 dX5_append_3 rfl ?_
  refine x_iload_n (pc := 5) C 2 dX5_append_5 rfl rfl ?_
  refine x_icmp_ge (pc := 6) C 35 dX5_append_6 (by decide) (fun c_1 => ?_) (fun c_1 => ?_)
  · have h := kIp c_1 h
    refine kX.pick [0, 2] (lv' := [(0, .ref (a 1)), (3, .int v3)]) rfl ?_
    exact hK v4 st h
  · have h := kIn c_1 h
    refine x_aload_n (pc := 9) C 0 dX5_append_9 rfl rfl ?_
    refine x_get (pc := 10) C inlX5 1 rfl rfl 0 (by decide) q3_9 (v := .ref (a 10)) rfl dX5_append_10 ?_
    refine x_aload_n (pc := 13) C 0 dX5_append_13 rfl rfl ?_
    refine x_get (pc := 14) C inlX5 1 rfl rfl 1 (by decide) q6_5 (v := .int (gI st 2)) rfl dX5_append_14 ?_
    refine x_iload (pc := 17) C 3 dX5_append_17 rfl ?_
    refine x_iadd (pc := 19) C dX5_append_19 ?_
    refine x_lload_n (pc := 20) C 1 dX5_append_20 rfl rfl ?_
    refine x_iload (pc := 21) C 3 dX5_append_21 rfl ?_
    refine x_callS (pc := 23) C [.long v1, .int v4] (mX5_codeIn G v1 v4) ysX5_codeIn q5_22 ⟨Nat.le_of_ble_eq_true rfl, Nat.le_of_ble_eq_true rfl, rfl, rfl⟩ ⟨Nat.zero_le _, Nat.zero_le _⟩ rfl rfl (Nat.le_of_ble_eq_true rfl) rfl dX5_append_23 ?_
    refine x_callS (pc := 26) C [.ref (a 10), .int ((gI st 2) + v4), .int (fX5_codeIn v1 v4)] (mX0_put G (N := 26) (f := (gA st 10)) 10 (lwX_A10 G a rfl) (by decide) ((gI st 2) + v4) (fX5_codeIn v1 v4) (swX_A10 G a _ _)) ysX0_put q6_6 ⟨Nat.le_of_ble_eq_true rfl, Nat.le_of_ble_eq_true rfl, rfl, rfl⟩ ⟨Nat.zero_le _, Nat.zero_le _⟩ rfl rfl (Nat.le_of_ble_eq_true rfl) rfl dX5_append_26 ?_
    refine x_iinc (pc := 29) C 3 (v := v4 + 1) (lv' := [(4, .int (v4 + 1)), (0, .ref (a 1)), (1, .long v1), (3, .int v3)]) dX5_append_29 rfl rfl (by decide) rfl ?_
    refine x_goto (pc := 32) C 3 dX5_append_32 (by decide) ?_
    refine kX.pick [1, 2, 3, 0] (lv' := [(0, .ref (a 1)), (1, .long v1), (3, .int v3), (4, .int (v4 + 1))]) rfl ?_
    exact hG (v4 + 1) (sA st 10 (kp 26 (gA st 10) ((gI st 2) + v4) (fX5_codeIn v1 v4))) h
def fX5_append_L3 (K : Int32 → kS → Option (kS)) (v1 : Int64) (v3 : Int32) : Nat → Int32 → kS → Option (kS)
  | 0, _, _ => none
  | F + 1, v4, st => fX5_append_L3_B K (fX5_append_L3 K v1 v3 F) st v1 v3 v4
set_option maxRecDepth 100000 in
set_option maxHeartbeats 4000000 in
theorem wX5_append_L3 {G : kG} {E : kE} {a : Nat → Nat} (C : kOk G E cX5_append RX5 5 rmfX5_append) {z : kS} (Zd : kEnd G E (0, 0) none none (wX G a z)) {K : Int32 → kS → Option (kS)} (v1 : Int64) (v3 : Int32) (hK : ∀ (u4 : Int32) (su : kS), K u4 su = some z → kX G E (0, 0) (wX G a su) 35 [(0, .ref (a 1)), (3, .int v3)] []) : ∀ (F : Nat) (v4 : Int32) (st : kS), fX5_append_L3 K v1 v3 F v4 st = some z → kX G E (0, 0) (wX G a st) 3 [(0, .ref (a 1)), (1, .long v1), (3, .int v3), (4, .int v4)] [] := by
  intro F
  induction F with
  | zero =>
    intro v4 st h
    exact absurd (show none = some z from h) (fun q => by cases q)
  | succ F ih =>
    intro v4 st h
    exact wX5_append_L3_B  C Zd  st v1 v3 v4 hK (fun v4 st h => ih v4 st h) h
def fX5_append (st : kS) (x1 : Int64) (x3 : Int32) : Option (kS) := fX5_append_L3 (fun v4_2 st_3 => some (sI st_3 2 ((gI st_3 2) + x3))) x1 x3 kFU 0 st
set_option maxRecDepth 100000 in
set_option maxHeartbeats 4000000 in
theorem wX5_append {G : kG} {E : kE} {a : Nat → Nat} (C : kOk G E cX5_append RX5 5 rmfX5_append) {z : kS} (Zd : kEnd G E (0, 0) none none (wX G a z)) (st : kS) (x1 : Int64) (x3 : Int32) (h : fX5_append st x1 x3 = some z) : kX G E (0, 0) (wX G a st) 0 [(0, .ref (a 1)), (1, .long x1), (3, .int x3)] [] := by
  unfold fX5_append at h
  refine x_iconst (pc := 0) C 0 dX5_append_0 (by decide) ?_
  refine x_istore (pc := 1) C (lv' := [(4, .int 0), (0, .ref (a 1)), (1, .long x1), (3, .int x3)]) dX5_append_1 (by decide) rfl ?_
  refine kX.pick [1, 2, 3, 0] (lv' := [(0, .ref (a 1)), (1, .long x1), (3, .int x3), (4, .int 0)]) rfl ?_
  refine wX5_append_L3  C Zd  x1 x3 (fun v4_2 st_3 h => ?_) kFU 0 st h
  refine x_aload_n (pc := 35) C 0 dX5_append_35 rfl rfl ?_
  refine x_dup (pc := 36) C dX5_append_36 rfl ?_
  refine x_get (pc := 37) C inlX5 1 rfl rfl 1 (by decide) q6_5 (v := .int (gI st_3 2)) rfl dX5_append_37 ?_
  refine x_iload_n (pc := 40) C 1 dX5_append_40 rfl rfl ?_
  refine x_iadd (pc := 41) C dX5_append_41 ?_
  refine x_put (pc := 42) C inlX5 tyX5 tyX5_ok nmX5 1 rfl rfl 1 (by decide) q6_5 rfl .int (v := .int ((gI st_3 2) + x3)) (by decide +kernel) rfl rfl (Nat.le_of_ble_eq_true rfl) (swX_I2 G a _ _) dX5_append_42 ?_
  obtain rfl := Option.some.inj h
  exact x_vret (pc := 45) C Zd dX5_append_45
set_option maxRecDepth 100000 in
theorem mX5_append (G : kG) (a : Nat → Nat) (st : kS) (x1 : Int64) (x3 : Int32) {z : kS} (h : fX5_append st x1 x3 = some z) : kMet G yX5_append cX5_append 5 none rmfX5_append (0, 0) [.ref (a 1), .long x1, .int x3] (wX G a st) none (wX G a z) := kMet.mk (by decide +kernel) (Nat.le_of_ble_eq_true rfl) (fun E C Zd => wX5_append  C Zd  st x1 x3 h)
theorem yvX9_letters : kYV yX9_letters RX9 cX9_letters 4 (some .int) 1 := ⟨q5_16, q5_17, q1_2, q5_18, by decide +kernel⟩
abbrev rmfX9_letters : Room := { frames := 2, cells := 0, slots := 0, locals := 47 }
def fX9_letters (st : kS) (x1 : Int64) : Option (Int32 × kS) := (fX5_told x1).bind (fun z_1 => if 0 ≤ z_1 then (if ((gI st 2) + z_1) ≤ 26 then ((fX5_append st x1 z_1).bind (fun z_4 => some ((gI z_4 2), z_4))) else (some ((-104), st))) else (some ((-102), st)))
set_option maxRecDepth 100000 in
set_option maxHeartbeats 4000000 in
theorem wX9_letters {G : kG} {E : kE} {a : Nat → Nat} (C : kOk G E cX9_letters RX9 4 rmfX9_letters) {z : Int32 × kS} (Zd : kEnd G E (0, 0) (some .int) (some (.int z.1)) (wX G a z.2)) (st : kS) (x1 : Int64) (h : fX9_letters st x1 = some z) : kX G E (0, 0) (wX G a st) 0 [(0, .ref (a 0)), (1, .long x1)] [] := by
  unfold fX9_letters at h
  refine x_lload_n (pc := 0) C 1 dX9_letters_0 rfl rfl ?_
  obtain ⟨z_1, hz_1, h⟩ := kB h
  refine x_callS (pc := 1) C [.long x1] (mX5_told G x1 hz_1) ysX5_told q5_19 ⟨Nat.le_of_ble_eq_true rfl, Nat.le_of_ble_eq_true rfl, rfl, rfl⟩ ⟨Nat.zero_le _, Nat.zero_le _⟩ rfl rfl (Nat.le_of_ble_eq_true rfl) rfl dX9_letters_1 ?_
  refine x_istore_n (pc := 4) C (lv' := [(3, .int z_1), (0, .ref (a 0)), (1, .long x1)]) dX9_letters_4 rfl (by decide) rfl ?_
  refine x_iload_n (pc := 5) C 0 dX9_letters_5 rfl rfl ?_
  refine x_if_ge (pc := 6) C 12 dX9_letters_6 (by decide) (fun c_2 => ?_) (fun c_2 => ?_)
  · have h := kIp c_2 h
    refine x_aload_n (pc := 12) C 1 dX9_letters_12 rfl rfl ?_
    refine x_get (pc := 13) C inlX9 0 rfl rfl 0 (by decide) q1_20 (v := .ref (a 1)) rfl dX9_letters_13 ?_
    refine x_getN (pc := 16) C inlX5 1 rfl rfl 1 (by decide) nn12 (v := .int (gI st 2)) rfl dX9_letters_16 ?_
    refine x_iload_n (pc := 19) C 0 dX9_letters_19 rfl rfl ?_
    refine x_iadd (pc := 20) C dX9_letters_20 ?_
    refine x_bipush (pc := 21) C 26 dX9_letters_21 (by decide) ?_
    refine x_icmp_le (pc := 23) C 29 dX9_letters_23 (by decide) (fun c_3 => ?_) (fun c_3 => ?_)
    · have h := kIp c_3 h
      refine x_aload_n (pc := 29) C 1 dX9_letters_29 rfl rfl ?_
      refine x_get (pc := 30) C inlX9 0 rfl rfl 0 (by decide) q1_20 (v := .ref (a 1)) rfl dX9_letters_30 ?_
      refine x_lload_n (pc := 33) C 2 dX9_letters_33 rfl rfl ?_
      refine x_iload_n (pc := 34) C 0 dX9_letters_34 rfl rfl ?_
      obtain ⟨z_4, hz_4, h⟩ := kB h
      refine x_callV (pc := 35) C 1 [.long x1, .int z_1] rfl rfl (mX5_append G a st x1 z_1 hz_4) yvX5_append q6_1 ⟨Nat.le_of_ble_eq_true rfl, Nat.le_of_ble_eq_true rfl, rfl, rfl⟩ ⟨Nat.zero_le _, Nat.zero_le _⟩ rfl rfl (Nat.le_of_ble_eq_true rfl) rfl dX9_letters_35 ?_
      refine x_aload_n (pc := 38) C 1 dX9_letters_38 rfl rfl ?_
      refine x_get (pc := 39) C inlX9 0 rfl rfl 0 (by decide) q1_20 (v := .ref (a 1)) rfl dX9_letters_39 ?_
      refine x_getN (pc := 42) C inlX5 1 rfl rfl 1 (by decide) nn12 (v := .int (gI z_4 2)) rfl dX9_letters_42 ?_
      obtain rfl := Option.some.inj h
      exact x_iret (pc := 45) C Zd dX9_letters_45
    · have h := kIn c_3 h
      refine x_bipush (pc := 26) C (-104) dX9_letters_26 (by decide) ?_
      obtain rfl := Option.some.inj h
      exact x_iret (pc := 28) C Zd dX9_letters_28
  · have h := kIn c_2 h
    refine x_bipush (pc := 9) C (-102) dX9_letters_9 (by decide) ?_
    obtain rfl := Option.some.inj h
    exact x_iret (pc := 11) C Zd dX9_letters_11
set_option maxRecDepth 100000 in
theorem mX9_letters (G : kG) (a : Nat → Nat) (st : kS) (x1 : Int64) {z : Int32 × kS} (h : fX9_letters st x1 = some z) : kMet G yX9_letters cX9_letters 4 (some .int) rmfX9_letters (0, 0) [.ref (a 0), .long x1] (wX G a st) (some (.int z.1)) (wX G a z.2) := kMet.mk (by decide +kernel) (Nat.le_of_ble_eq_true rfl) (fun E C Zd => wX9_letters  C Zd  st x1 h)
theorem yvX5_code : kYV yX5_code RX5 cX5_code 2 (some .int) 1 := ⟨q6_23, q7_0, q1_19, q7_1, by decide +kernel⟩
abbrev rmfX5_code : Room := { frames := 1, cells := 0, slots := 0, locals := 21 }
def fX5_code (st : kS) (x1 : Int32) : Int32 := (kg 26 (gA st 10) x1)
set_option maxRecDepth 100000 in
set_option maxHeartbeats 4000000 in
theorem wX5_code {G : kG} {E : kE} {a : Nat → Nat} {st0 : kS} (C : kOk G E cX5_code RX5 2 rmfX5_code) {z : Int32} (Zd : kEnd G E (0, 0) (some .int) (some (.int z)) (wX G a st0)) (x1 : Int32) (h : fX5_code st0 x1 = z) : kX G E (0, 0) (wX G a st0) 0 [(0, .ref (a 1)), (1, .int x1)] [] := by
  unfold fX5_code at h
  refine x_aload_n (pc := 0) C 0 dX5_code_0 rfl rfl ?_
  refine x_get (pc := 1) C inlX5 1 rfl rfl 0 (by decide) q3_9 (v := .ref (a 10)) rfl dX5_code_1 ?_
  refine x_iload_n (pc := 4) C 1 dX5_code_4 rfl rfl ?_
  refine x_callS (pc := 5) C [.ref (a 10), .int x1] (mX0_get G (N := 26) (f := (gA st0 10)) 10 (lwX_A10 G a rfl) (by decide) x1) ysX0_get q7_2 ⟨Nat.le_of_ble_eq_true rfl, Nat.le_of_ble_eq_true rfl, rfl, rfl⟩ ⟨Nat.zero_le _, Nat.zero_le _⟩ rfl rfl (Nat.le_of_ble_eq_true rfl) rfl dX5_code_5 ?_
  subst h
  exact x_iret (pc := 8) C Zd dX5_code_8
set_option maxRecDepth 100000 in
theorem mX5_code (G : kG) (a : Nat → Nat) (st : kS) (x1 : Int32) : kMet G yX5_code cX5_code 2 (some .int) rmfX5_code (0, 0) [.ref (a 1), .int x1] (wX G a st) (some (.int (fX5_code st x1))) (wX G a st) := kMet.mk (by decide +kernel) (Nat.le_of_ble_eq_true rfl) (fun E C Zd => wX5_code  C Zd  x1 rfl)
theorem yvX5_digit : kYV yX5_digit RX5 cX5_digit 2 (some .int) 1 := ⟨q7_17, q7_18, q1_19, q7_19, by decide +kernel⟩
abbrev rmfX5_digit : Room := { frames := 1, cells := 0, slots := 0, locals := 21 }
def fX5_digit (st : kS) (x1 : Int32) : Int32 := ((kg 26 (gA st 10) x1) - 48)
set_option maxRecDepth 100000 in
set_option maxHeartbeats 4000000 in
theorem wX5_digit {G : kG} {E : kE} {a : Nat → Nat} {st0 : kS} (C : kOk G E cX5_digit RX5 2 rmfX5_digit) {z : Int32} (Zd : kEnd G E (0, 0) (some .int) (some (.int z)) (wX G a st0)) (x1 : Int32) (h : fX5_digit st0 x1 = z) : kX G E (0, 0) (wX G a st0) 0 [(0, .ref (a 1)), (1, .int x1)] [] := by
  unfold fX5_digit at h
  refine x_aload_n (pc := 0) C 0 dX5_digit_0 rfl rfl ?_
  refine x_get (pc := 1) C inlX5 1 rfl rfl 0 (by decide) q3_9 (v := .ref (a 10)) rfl dX5_digit_1 ?_
  refine x_iload_n (pc := 4) C 1 dX5_digit_4 rfl rfl ?_
  refine x_callS (pc := 5) C [.ref (a 10), .int x1] (mX0_get G (N := 26) (f := (gA st0 10)) 10 (lwX_A10 G a rfl) (by decide) x1) ysX0_get q7_2 ⟨Nat.le_of_ble_eq_true rfl, Nat.le_of_ble_eq_true rfl, rfl, rfl⟩ ⟨Nat.zero_le _, Nat.zero_le _⟩ rfl rfl (Nat.le_of_ble_eq_true rfl) rfl dX5_digit_5 ?_
  refine x_bipush (pc := 8) C 48 dX5_digit_8 (by decide) ?_
  refine x_isub (pc := 10) C dX5_digit_10 ?_
  subst h
  exact x_iret (pc := 11) C Zd dX5_digit_11
set_option maxRecDepth 100000 in
theorem mX5_digit (G : kG) (a : Nat → Nat) (st : kS) (x1 : Int32) : kMet G yX5_digit cX5_digit 2 (some .int) rmfX5_digit (0, 0) [.ref (a 1), .int x1] (wX G a st) (some (.int (fX5_digit st x1))) (wX G a st) := kMet.mk (by decide +kernel) (Nat.le_of_ble_eq_true rfl) (fun E C Zd => wX5_digit  C Zd  x1 rfl)
theorem yvX5_isDigit : kYV yX5_isDigit RX5 cX5_isDigit 4 (some .boolean) 3 := ⟨q7_13, q7_14, q1_19, q7_15, by decide +kernel⟩
abbrev rmfX5_isDigit : Room := { frames := 2, cells := 0, slots := 0, locals := 42 }
def fX5_isDigit (st : kS) (x1 : Int32) (x2 : Int32) (x3 : Int32) : Int32 := if (fX5_digit st x1) < x2 then (0) else (if x3 < (fX5_digit st x1) then (0) else (1))
set_option maxRecDepth 100000 in
set_option maxHeartbeats 4000000 in
theorem wX5_isDigit {G : kG} {E : kE} {a : Nat → Nat} {st0 : kS} (C : kOk G E cX5_isDigit RX5 4 rmfX5_isDigit) {z : Int32} (Zd : kEnd G E (0, 0) (some .boolean) (some (.int z)) (wX G a st0)) (x1 : Int32) (x2 : Int32) (x3 : Int32) (h : fX5_isDigit st0 x1 x2 x3 = z) : kX G E (0, 0) (wX G a st0) 0 [(0, .ref (a 1)), (1, .int x1), (2, .int x2), (3, .int x3)] [] := by
  unfold fX5_isDigit at h
  refine x_aload_n (pc := 0) C 0 dX5_isDigit_0 rfl rfl ?_
  refine x_iload_n (pc := 1) C 1 dX5_isDigit_1 rfl rfl ?_
  refine x_callV (pc := 2) C 1 [.int x1] rfl rfl (mX5_digit G a st0 x1) yvX5_digit q7_16 ⟨Nat.le_of_ble_eq_true rfl, Nat.le_of_ble_eq_true rfl, rfl, rfl⟩ ⟨Nat.zero_le _, Nat.zero_le _⟩ rfl rfl (Nat.le_of_ble_eq_true rfl) rfl dX5_isDigit_2 ?_
  refine x_iload_n (pc := 5) C 2 dX5_isDigit_5 rfl rfl ?_
  refine x_icmp_lt (pc := 6) C 22 dX5_isDigit_6 (by decide) (fun c_1 => ?_) (fun c_1 => ?_)
  · have h := kIp c_1 h
    refine x_iconst (pc := 22) C 0 dX5_isDigit_22 (by decide) ?_
    subst h
    exact x_zret (pc := 23) C rfl Zd dX5_isDigit_23
  · have h := kIn c_1 h
    refine x_aload_n (pc := 9) C 0 dX5_isDigit_9 rfl rfl ?_
    refine x_iload_n (pc := 10) C 1 dX5_isDigit_10 rfl rfl ?_
    refine x_callV (pc := 11) C 1 [.int x1] rfl rfl (mX5_digit G a st0 x1) yvX5_digit q7_16 ⟨Nat.le_of_ble_eq_true rfl, Nat.le_of_ble_eq_true rfl, rfl, rfl⟩ ⟨Nat.zero_le _, Nat.zero_le _⟩ rfl rfl (Nat.le_of_ble_eq_true rfl) rfl dX5_isDigit_11 ?_
    refine x_iload_n (pc := 14) C 3 dX5_isDigit_14 rfl rfl ?_
    refine x_icmp_gt (pc := 15) C 22 dX5_isDigit_15 (by decide) (fun c_2 => ?_) (fun c_2 => ?_)
    · have h := kIp c_2 h
      refine x_iconst (pc := 22) C 0 dX5_isDigit_22 (by decide) ?_
      subst h
      exact x_zret (pc := 23) C rfl Zd dX5_isDigit_23
    · have h := kIn c_2 h
      refine x_iconst (pc := 18) C 1 dX5_isDigit_18 (by decide) ?_
      refine x_goto (pc := 19) C 23 dX5_isDigit_19 (by decide) ?_
      subst h
      exact x_zret (pc := 23) C rfl Zd dX5_isDigit_23
set_option maxRecDepth 100000 in
theorem mX5_isDigit (G : kG) (a : Nat → Nat) (st : kS) (x1 : Int32) (x2 : Int32) (x3 : Int32) : kMet G yX5_isDigit cX5_isDigit 4 (some .boolean) rmfX5_isDigit (0, 0) [.ref (a 1), .int x1, .int x2, .int x3] (wX G a st) (some (.int (fX5_isDigit st x1 x2 x3))) (wX G a st) := kMet.mk (by decide +kernel) (Nat.le_of_ble_eq_true rfl) (fun E C Zd => wX5_isDigit  C Zd  x1 x2 x3 rfl)
theorem yvX5_fitsLetter : kYV yX5_fitsLetter RX5 cX5_fitsLetter 4 (some .boolean) 1 := ⟨q8_1, q8_2, q1_19, q8_3, by decide +kernel⟩
abbrev rmfX5_fitsLetter : Room := { frames := 3, cells := 0, slots := 0, locals := 65 }
def fX5_fitsLetter_J23 (st : kS) (v1 : Int32) (v2 : Int32) (s0 : Int32) : Option (Int32) := if v1 = 0 then (if s0 = 0 then (if v2 = 110 then (some 1) else (if v2 = 98 then (some 1) else (some 0))) else (some 1)) else (if v1 = 1 then (if s0 = 0 then (if ¬ ((fX5_isDigit st 1 0 5) = 0 ∨ (fX5_isDigit st 1 0 5) = 1) then none else some (fX5_isDigit st 1 0 5)) else (if ¬ ((fX5_isDigit st 1 1 9) = 0 ∨ (fX5_isDigit st 1 1 9) = 1) then none else some (fX5_isDigit st 1 1 9))) else (if v1 = 2 then (if v2 = 110 then (some 0) else (if (fX5_isDigit st 2 0 5) = 0 then (some 0) else (if s0 = 0 then (if (fX5_code st 2) = (fX5_code st 1) then (some 0) else (some 1)) else (some 1)))) else (some 0)))
set_option maxRecDepth 100000 in
set_option maxHeartbeats 4000000 in
theorem wX5_fitsLetter_J23 {G : kG} {E : kE} {a : Nat → Nat} {st0 : kS} (C : kOk G E cX5_fitsLetter RX5 4 rmfX5_fitsLetter) {z : Int32} (Zd : kEnd G E (0, 0) (some .boolean) (some (.int z)) (wX G a st0)) (v1 : Int32) (v2 : Int32) (s0 : Int32) (h : fX5_fitsLetter_J23 st0 v1 v2 s0 = some z) : kX G E (0, 0) (wX G a st0) 23 [(0, .ref (a 1)), (1, .int v1), (2, .int v2)] [.int s0] := by
  unfold fX5_fitsLetter_J23 at h
  refine x_istore_n (pc := 23) C (lv' := [(3, .int s0), (0, .ref (a 1)), (1, .int v1), (2, .int v2)]) dX5_fitsLetter_23 rfl (by decide) rfl ?_
  refine x_iload_n (pc := 24) C 2 dX5_fitsLetter_24 rfl rfl ?_
  rcases Decidable.em (v1 = 0) with c_2 | c_2
  · have h := kIp c_2 h
    refine x_tsIn (pc := 25) C 52 dX5_fitsLetter_25 (by rw [c_2]; decide) (by rw [c_2]; decide) (by rw [c_2]; rfl) (by decide) ?_
    refine x_iload_n (pc := 52) C 0 dX5_fitsLetter_52 rfl rfl ?_
    refine x_if_ne (pc := 53) C 68 dX5_fitsLetter_53 (by decide) (fun c_3 => ?_) (fun c_3 => ?_)
    · have h := kIn c_3 h
      refine x_iconst (pc := 68) C 1 dX5_fitsLetter_68 (by decide) ?_
      refine x_goto (pc := 69) C 73 dX5_fitsLetter_69 (by decide) ?_
      obtain rfl := Option.some.inj h
      exact x_zret (pc := 73) C rfl Zd dX5_fitsLetter_73
    · have h := kIp c_3 h
      refine x_iload_n (pc := 56) C 3 dX5_fitsLetter_56 rfl rfl ?_
      refine x_bipush (pc := 57) C 110 dX5_fitsLetter_57 (by decide) ?_
      refine x_icmp_eq (pc := 59) C 68 dX5_fitsLetter_59 (by decide) (fun c_4 => ?_) (fun c_4 => ?_)
      · have h := kIp c_4 h
        refine x_iconst (pc := 68) C 1 dX5_fitsLetter_68 (by decide) ?_
        refine x_goto (pc := 69) C 73 dX5_fitsLetter_69 (by decide) ?_
        obtain rfl := Option.some.inj h
        exact x_zret (pc := 73) C rfl Zd dX5_fitsLetter_73
      · have h := kIn c_4 h
        refine x_iload_n (pc := 62) C 3 dX5_fitsLetter_62 rfl rfl ?_
        refine x_bipush (pc := 63) C 98 dX5_fitsLetter_63 (by decide) ?_
        refine x_icmp_ne (pc := 65) C 72 dX5_fitsLetter_65 (by decide) (fun c_5 => ?_) (fun c_5 => ?_)
        · have h := kIn c_5 h
          refine x_iconst (pc := 72) C 0 dX5_fitsLetter_72 (by decide) ?_
          obtain rfl := Option.some.inj h
          exact x_zret (pc := 73) C rfl Zd dX5_fitsLetter_73
        · have h := kIp c_5 h
          refine x_iconst (pc := 68) C 1 dX5_fitsLetter_68 (by decide) ?_
          refine x_goto (pc := 69) C 73 dX5_fitsLetter_69 (by decide) ?_
          obtain rfl := Option.some.inj h
          exact x_zret (pc := 73) C rfl Zd dX5_fitsLetter_73
  have h := kIn c_2 h
  rcases Decidable.em (v1 = 1) with c_6 | c_6
  · have h := kIp c_6 h
    refine x_tsIn (pc := 25) C 74 dX5_fitsLetter_25 (by rw [c_6]; decide) (by rw [c_6]; decide) (by rw [c_6]; rfl) (by decide) ?_
    refine x_iload_n (pc := 74) C 0 dX5_fitsLetter_74 rfl rfl ?_
    refine x_if_eq (pc := 75) C 89 dX5_fitsLetter_75 (by decide) (fun c_7 => ?_) (fun c_7 => ?_)
    · have h := kIp c_7 h
      refine x_aload_n (pc := 89) C 1 dX5_fitsLetter_89 rfl rfl ?_
      refine x_iconst (pc := 90) C 1 dX5_fitsLetter_90 (by decide) ?_
      refine x_iconst (pc := 91) C 0 dX5_fitsLetter_91 (by decide) ?_
      refine x_iconst (pc := 92) C 5 dX5_fitsLetter_92 (by decide) ?_
      refine x_callV (pc := 93) C 1 [.int 1, .int 0, .int 5] rfl rfl (mX5_isDigit G a st0 1 0 5) yvX5_isDigit q7_12 ⟨Nat.le_of_ble_eq_true rfl, Nat.le_of_ble_eq_true rfl, rfl, rfl⟩ ⟨Nat.zero_le _, Nat.zero_le _⟩ rfl rfl (Nat.le_of_ble_eq_true rfl) rfl dX5_fitsLetter_93 ?_
      obtain ⟨c_8, h⟩ := kGn h
      obtain rfl := Option.some.inj h
      exact x_zret (pc := 96) C (kBn c_8) Zd dX5_fitsLetter_96
    · have h := kIn c_7 h
      refine x_aload_n (pc := 78) C 1 dX5_fitsLetter_78 rfl rfl ?_
      refine x_iconst (pc := 79) C 1 dX5_fitsLetter_79 (by decide) ?_
      refine x_iconst (pc := 80) C 1 dX5_fitsLetter_80 (by decide) ?_
      refine x_bipush (pc := 81) C 9 dX5_fitsLetter_81 (by decide) ?_
      refine x_callV (pc := 83) C 1 [.int 1, .int 1, .int 9] rfl rfl (mX5_isDigit G a st0 1 1 9) yvX5_isDigit q7_12 ⟨Nat.le_of_ble_eq_true rfl, Nat.le_of_ble_eq_true rfl, rfl, rfl⟩ ⟨Nat.zero_le _, Nat.zero_le _⟩ rfl rfl (Nat.le_of_ble_eq_true rfl) rfl dX5_fitsLetter_83 ?_
      refine x_goto (pc := 86) C 96 dX5_fitsLetter_86 (by decide) ?_
      obtain ⟨c_9, h⟩ := kGn h
      obtain rfl := Option.some.inj h
      exact x_zret (pc := 96) C (kBn c_9) Zd dX5_fitsLetter_96
  have h := kIn c_6 h
  rcases Decidable.em (v1 = 2) with c_10 | c_10
  · have h := kIp c_10 h
    refine x_tsIn (pc := 25) C 97 dX5_fitsLetter_25 (by rw [c_10]; decide) (by rw [c_10]; decide) (by rw [c_10]; rfl) (by decide) ?_
    refine x_iload_n (pc := 97) C 3 dX5_fitsLetter_97 rfl rfl ?_
    refine x_bipush (pc := 98) C 110 dX5_fitsLetter_98 (by decide) ?_
    refine x_icmp_eq (pc := 100) C 134 dX5_fitsLetter_100 (by decide) (fun c_11 => ?_) (fun c_11 => ?_)
    · have h := kIp c_11 h
      refine x_iconst (pc := 134) C 0 dX5_fitsLetter_134 (by decide) ?_
      obtain rfl := Option.some.inj h
      exact x_zret (pc := 135) C rfl Zd dX5_fitsLetter_135
    · have h := kIn c_11 h
      refine x_aload_n (pc := 103) C 1 dX5_fitsLetter_103 rfl rfl ?_
      refine x_iconst (pc := 104) C 2 dX5_fitsLetter_104 (by decide) ?_
      refine x_iconst (pc := 105) C 0 dX5_fitsLetter_105 (by decide) ?_
      refine x_iconst (pc := 106) C 5 dX5_fitsLetter_106 (by decide) ?_
      refine x_callV (pc := 107) C 1 [.int 2, .int 0, .int 5] rfl rfl (mX5_isDigit G a st0 2 0 5) yvX5_isDigit q7_12 ⟨Nat.le_of_ble_eq_true rfl, Nat.le_of_ble_eq_true rfl, rfl, rfl⟩ ⟨Nat.zero_le _, Nat.zero_le _⟩ rfl rfl (Nat.le_of_ble_eq_true rfl) rfl dX5_fitsLetter_107 ?_
      refine x_if_eq (pc := 110) C 134 dX5_fitsLetter_110 (by decide) (fun c_12 => ?_) (fun c_12 => ?_)
      · have h := kIp c_12 h
        refine x_iconst (pc := 134) C 0 dX5_fitsLetter_134 (by decide) ?_
        obtain rfl := Option.some.inj h
        exact x_zret (pc := 135) C rfl Zd dX5_fitsLetter_135
      · have h := kIn c_12 h
        refine x_iload_n (pc := 113) C 0 dX5_fitsLetter_113 rfl rfl ?_
        refine x_if_ne (pc := 114) C 130 dX5_fitsLetter_114 (by decide) (fun c_13 => ?_) (fun c_13 => ?_)
        · have h := kIn c_13 h
          refine x_iconst (pc := 130) C 1 dX5_fitsLetter_130 (by decide) ?_
          refine x_goto (pc := 131) C 135 dX5_fitsLetter_131 (by decide) ?_
          obtain rfl := Option.some.inj h
          exact x_zret (pc := 135) C rfl Zd dX5_fitsLetter_135
        · have h := kIp c_13 h
          refine x_aload_n (pc := 117) C 1 dX5_fitsLetter_117 rfl rfl ?_
          refine x_iconst (pc := 118) C 2 dX5_fitsLetter_118 (by decide) ?_
          refine x_callV (pc := 119) C 1 [.int 2] rfl rfl (mX5_code G a st0 2) yvX5_code q6_22 ⟨Nat.le_of_ble_eq_true rfl, Nat.le_of_ble_eq_true rfl, rfl, rfl⟩ ⟨Nat.zero_le _, Nat.zero_le _⟩ rfl rfl (Nat.le_of_ble_eq_true rfl) rfl dX5_fitsLetter_119 ?_
          refine x_aload_n (pc := 122) C 1 dX5_fitsLetter_122 rfl rfl ?_
          refine x_iconst (pc := 123) C 1 dX5_fitsLetter_123 (by decide) ?_
          refine x_callV (pc := 124) C 1 [.int 1] rfl rfl (mX5_code G a st0 1) yvX5_code q6_22 ⟨Nat.le_of_ble_eq_true rfl, Nat.le_of_ble_eq_true rfl, rfl, rfl⟩ ⟨Nat.zero_le _, Nat.zero_le _⟩ rfl rfl (Nat.le_of_ble_eq_true rfl) rfl dX5_fitsLetter_124 ?_
          refine x_icmp_eq (pc := 127) C 134 dX5_fitsLetter_127 (by decide) (fun c_14 => ?_) (fun c_14 => ?_)
          · have h := kIp c_14 h
            refine x_iconst (pc := 134) C 0 dX5_fitsLetter_134 (by decide) ?_
            obtain rfl := Option.some.inj h
            exact x_zret (pc := 135) C rfl Zd dX5_fitsLetter_135
          · have h := kIn c_14 h
            refine x_iconst (pc := 130) C 1 dX5_fitsLetter_130 (by decide) ?_
            refine x_goto (pc := 131) C 135 dX5_fitsLetter_131 (by decide) ?_
            obtain rfl := Option.some.inj h
            exact x_zret (pc := 135) C rfl Zd dX5_fitsLetter_135
  have h := kIn c_10 h
  refine x_tsOut (pc := 25) C 136 dX5_fitsLetter_25 (k_out (fun i hi1 hi2 => by
      have hq : i = 0 ∨ i = 1 ∨ i = 2 := by omega
      rcases hq with rfl | rfl | rfl
      · exact lv_neT c_2 rfl
      · exact lv_neT c_6 rfl
      · exact lv_neT c_10 rfl)) (by decide) ?_
  refine x_iconst (pc := 136) C 0 dX5_fitsLetter_136 (by decide) ?_
  obtain rfl := Option.some.inj h
  exact x_zret (pc := 137) C rfl Zd dX5_fitsLetter_137
def fX5_fitsLetter_J18 (st : kS) (v1 : Int32) (v2 : Int32) : Option (Int32) := fX5_fitsLetter_J23 st v1 v2 1
set_option maxRecDepth 100000 in
set_option maxHeartbeats 4000000 in
theorem wX5_fitsLetter_J18 {G : kG} {E : kE} {a : Nat → Nat} {st0 : kS} (C : kOk G E cX5_fitsLetter RX5 4 rmfX5_fitsLetter) {z : Int32} (Zd : kEnd G E (0, 0) (some .boolean) (some (.int z)) (wX G a st0)) (v1 : Int32) (v2 : Int32) (h : fX5_fitsLetter_J18 st0 v1 v2 = some z) : kX G E (0, 0) (wX G a st0) 18 [(0, .ref (a 1)), (1, .int v1), (2, .int v2)] [] := by
  unfold fX5_fitsLetter_J18 at h
  refine x_iconst (pc := 18) C 1 dX5_fitsLetter_18 (by decide) ?_
  refine x_goto (pc := 19) C 23 dX5_fitsLetter_19 (by decide) ?_
  exact wX5_fitsLetter_J23  C Zd  v1 v2 1 h
def fX5_fitsLetter (st : kS) (x1 : Int32) : Option (Int32) := if (fX5_code st 0) = 114 then (fX5_fitsLetter_J18 st x1 (fX5_code st 0)) else (if (fX5_code st 0) = 108 then (fX5_fitsLetter_J18 st x1 (fX5_code st 0)) else (fX5_fitsLetter_J23 st x1 (fX5_code st 0) 0))
set_option maxRecDepth 100000 in
set_option maxHeartbeats 4000000 in
theorem wX5_fitsLetter {G : kG} {E : kE} {a : Nat → Nat} {st0 : kS} (C : kOk G E cX5_fitsLetter RX5 4 rmfX5_fitsLetter) {z : Int32} (Zd : kEnd G E (0, 0) (some .boolean) (some (.int z)) (wX G a st0)) (x1 : Int32) (h : fX5_fitsLetter st0 x1 = some z) : kX G E (0, 0) (wX G a st0) 0 [(0, .ref (a 1)), (1, .int x1)] [] := by
  unfold fX5_fitsLetter at h
  refine x_aload_n (pc := 0) C 0 dX5_fitsLetter_0 rfl rfl ?_
  refine x_iconst (pc := 1) C 0 dX5_fitsLetter_1 (by decide) ?_
  refine x_callV (pc := 2) C 1 [.int 0] rfl rfl (mX5_code G a st0 0) yvX5_code q6_22 ⟨Nat.le_of_ble_eq_true rfl, Nat.le_of_ble_eq_true rfl, rfl, rfl⟩ ⟨Nat.zero_le _, Nat.zero_le _⟩ rfl rfl (Nat.le_of_ble_eq_true rfl) rfl dX5_fitsLetter_2 ?_
  refine x_istore_n (pc := 5) C (lv' := [(2, .int (fX5_code st0 0)), (0, .ref (a 1)), (1, .int x1)]) dX5_fitsLetter_5 rfl (by decide) rfl ?_
  refine x_iload_n (pc := 6) C 0 dX5_fitsLetter_6 rfl rfl ?_
  refine x_bipush (pc := 7) C 114 dX5_fitsLetter_7 (by decide) ?_
  refine x_icmp_eq (pc := 9) C 18 dX5_fitsLetter_9 (by decide) (fun c_1 => ?_) (fun c_1 => ?_)
  · have h := kIp c_1 h
    refine kX.pick [1, 2, 0] (lv' := [(0, .ref (a 1)), (1, .int x1), (2, .int (fX5_code st0 0))]) rfl ?_
    exact wX5_fitsLetter_J18  C Zd  x1 (fX5_code st0 0) h
  · have h := kIn c_1 h
    refine x_iload_n (pc := 12) C 0 dX5_fitsLetter_12 rfl rfl ?_
    refine x_bipush (pc := 13) C 108 dX5_fitsLetter_13 (by decide) ?_
    refine x_icmp_ne (pc := 15) C 22 dX5_fitsLetter_15 (by decide) (fun c_15 => ?_) (fun c_15 => ?_)
    · have h := kIn c_15 h
      refine x_iconst (pc := 22) C 0 dX5_fitsLetter_22 (by decide) ?_
      refine kX.pick [1, 2, 0] (lv' := [(0, .ref (a 1)), (1, .int x1), (2, .int (fX5_code st0 0))]) rfl ?_
      exact wX5_fitsLetter_J23  C Zd  x1 (fX5_code st0 0) 0 h
    · have h := kIp c_15 h
      refine kX.pick [1, 2, 0] (lv' := [(0, .ref (a 1)), (1, .int x1), (2, .int (fX5_code st0 0))]) rfl ?_
      exact wX5_fitsLetter_J18  C Zd  x1 (fX5_code st0 0) h
set_option maxRecDepth 100000 in
theorem mX5_fitsLetter (G : kG) (a : Nat → Nat) (st : kS) (x1 : Int32) {z : Int32} (h : fX5_fitsLetter st x1 = some z) : kMet G yX5_fitsLetter cX5_fitsLetter 4 (some .boolean) rmfX5_fitsLetter (0, 0) [.ref (a 1), .int x1] (wX G a st) (some (.int z)) (wX G a st) := kMet.mk (by decide +kernel) (Nat.le_of_ble_eq_true rfl) (fun E C Zd => wX5_fitsLetter  C Zd  x1 h)
theorem yvX5_firstNoLetter : kYV yX5_firstNoLetter RX5 cX5_firstNoLetter 2 (some .int) 0 := ⟨q7_21, q7_22, q1_19, q7_23, by decide +kernel⟩
abbrev rmfX5_firstNoLetter : Room := { frames := 4, cells := 0, slots := 0, locals := 88 }
def fX5_firstNoLetter_L2_B (K : Int32 → Option (Int32)) (Gc : Int32 → Option (Int32)) (st : kS) (v1 : Int32) : Option (Int32) := if (gI st 2) ≤ v1 then (K v1) else ((fX5_fitsLetter st v1).bind (fun z_2 => if z_2 = 0 then (some v1) else (Gc (v1 + 1))))
set_option maxRecDepth 100000 in
set_option maxHeartbeats 4000000 in
theorem wX5_firstNoLetter_L2_B {G : kG} {E : kE} {a : Nat → Nat} {st0 : kS} (C : kOk G E cX5_firstNoLetter RX5 2 rmfX5_firstNoLetter) {z : Int32} (Zd : kEnd G E (0, 0) (some .int) (some (.int z)) (wX G a st0)) {K Gc : Int32 → Option (Int32)} (v1 : Int32) (hK : ∀ (u1 : Int32), K u1 = some z → kX G E (0, 0) (wX G a st0) 26 [(0, .ref (a 1))] []) (hG : ∀ (u1 : Int32), Gc u1 = some z → kX G E (0, 0) (wX G a st0) 2 [(0, .ref (a 1)), (1, .int u1)] []) (h : fX5_firstNoLetter_L2_B K Gc st0 v1 = some z) : kX G E (0, 0) (wX G a st0) 2 [(0, .ref (a 1)), (1, .int v1)] [] := by
  unfold fX5_firstNoLetter_L2_B at h
  refine x_iload_n (pc := 2) C 1 dX5_firstNoLetter_2 rfl rfl ?_
  refine x_aload_n (pc := 3) C 0 dX5_firstNoLetter_3 rfl rfl ?_
  refine x_get (pc := 4) C inlX5 1 rfl rfl 1 (by decide) q6_5 (v := .int (gI st0 2)) rfl dX5_firstNoLetter_4 ?_
  refine x_icmp_ge (pc := 7) C 26 dX5_firstNoLetter_7 (by decide) (fun c_1 => ?_) (fun c_1 => ?_)
  · have h := kIp c_1 h
    refine kX.pick [0] (lv' := [(0, .ref (a 1))]) rfl ?_
    exact hK v1 h
  · have h := kIn c_1 h
    refine x_aload_n (pc := 10) C 0 dX5_firstNoLetter_10 rfl rfl ?_
    refine x_iload_n (pc := 11) C 1 dX5_firstNoLetter_11 rfl rfl ?_
    obtain ⟨z_2, hz_2, h⟩ := kB h
    refine x_callV (pc := 12) C 1 [.int v1] rfl rfl (mX5_fitsLetter G a st0 v1 hz_2) yvX5_fitsLetter q8_0 ⟨Nat.le_of_ble_eq_true rfl, Nat.le_of_ble_eq_true rfl, rfl, rfl⟩ ⟨Nat.zero_le _, Nat.zero_le _⟩ rfl rfl (Nat.le_of_ble_eq_true rfl) rfl dX5_firstNoLetter_12 ?_
    refine x_if_ne (pc := 15) C 20 dX5_firstNoLetter_15 (by decide) (fun c_3 => ?_) (fun c_3 => ?_)
    · have h := kIn c_3 h
      refine x_iinc (pc := 20) C 1 (v := v1 + 1) (lv' := [(1, .int (v1 + 1)), (0, .ref (a 1))]) dX5_firstNoLetter_20 rfl rfl (by decide) rfl ?_
      refine x_goto (pc := 23) C 2 dX5_firstNoLetter_23 (by decide) ?_
      refine kX.pick [1, 0] (lv' := [(0, .ref (a 1)), (1, .int (v1 + 1))]) rfl ?_
      exact hG (v1 + 1) h
    · have h := kIp c_3 h
      refine x_iload_n (pc := 18) C 1 dX5_firstNoLetter_18 rfl rfl ?_
      obtain rfl := Option.some.inj h
      exact x_iret (pc := 19) C Zd dX5_firstNoLetter_19
def fX5_firstNoLetter_L2 (K : Int32 → Option (Int32)) (st : kS) : Nat → Int32 → Option (Int32)
  | 0, _ => none
  | F + 1, v1 => fX5_firstNoLetter_L2_B K (fX5_firstNoLetter_L2 K st F) st v1
set_option maxRecDepth 100000 in
set_option maxHeartbeats 4000000 in
theorem wX5_firstNoLetter_L2 {G : kG} {E : kE} {a : Nat → Nat} {st0 : kS} (C : kOk G E cX5_firstNoLetter RX5 2 rmfX5_firstNoLetter) {z : Int32} (Zd : kEnd G E (0, 0) (some .int) (some (.int z)) (wX G a st0)) {K : Int32 → Option (Int32)} (hK : ∀ (u1 : Int32), K u1 = some z → kX G E (0, 0) (wX G a st0) 26 [(0, .ref (a 1))] []) : ∀ (F : Nat) (v1 : Int32), fX5_firstNoLetter_L2 K st0 F v1 = some z → kX G E (0, 0) (wX G a st0) 2 [(0, .ref (a 1)), (1, .int v1)] [] := by
  intro F
  induction F with
  | zero =>
    intro v1 h
    exact absurd (show none = some z from h) (fun q => by cases q)
  | succ F ih =>
    intro v1 h
    exact wX5_firstNoLetter_L2_B  C Zd  v1 hK (fun v1 h => ih v1 h) h
def fX5_firstNoLetter (st : kS) : Option (Int32) := fX5_firstNoLetter_L2 (fun v1_4 => some (gI st 2)) st kFU 0
set_option maxRecDepth 100000 in
set_option maxHeartbeats 4000000 in
theorem wX5_firstNoLetter {G : kG} {E : kE} {a : Nat → Nat} {st0 : kS} (C : kOk G E cX5_firstNoLetter RX5 2 rmfX5_firstNoLetter) {z : Int32} (Zd : kEnd G E (0, 0) (some .int) (some (.int z)) (wX G a st0)) (h : fX5_firstNoLetter st0 = some z) : kX G E (0, 0) (wX G a st0) 0 [(0, .ref (a 1))] [] := by
  unfold fX5_firstNoLetter at h
  refine x_iconst (pc := 0) C 0 dX5_firstNoLetter_0 (by decide) ?_
  refine x_istore_n (pc := 1) C (lv' := [(1, .int 0), (0, .ref (a 1))]) dX5_firstNoLetter_1 rfl (by decide) rfl ?_
  refine kX.pick [1, 0] (lv' := [(0, .ref (a 1)), (1, .int 0)]) rfl ?_
  refine wX5_firstNoLetter_L2  C Zd   (fun v1_4 h => ?_) kFU 0 h
  refine x_aload_n (pc := 26) C 0 dX5_firstNoLetter_26 rfl rfl ?_
  refine x_get (pc := 27) C inlX5 1 rfl rfl 1 (by decide) q6_5 (v := .int (gI st0 2)) rfl dX5_firstNoLetter_27 ?_
  obtain rfl := Option.some.inj h
  exact x_iret (pc := 30) C Zd dX5_firstNoLetter_30
set_option maxRecDepth 100000 in
theorem mX5_firstNoLetter (G : kG) (a : Nat → Nat) (st : kS)  {z : Int32} (h : fX5_firstNoLetter st = some z) : kMet G yX5_firstNoLetter cX5_firstNoLetter 2 (some .int) rmfX5_firstNoLetter (0, 0) [.ref (a 1)] (wX G a st) (some (.int z)) (wX G a st) := kMet.mk (by decide +kernel) (Nat.le_of_ble_eq_true rfl) (fun E C Zd => wX5_firstNoLetter  C Zd   h)
theorem ysX5_kindTold : kYS yX5_kindTold cX5_kindTold 1 (some .int) 1 := ⟨q7_6, q1_19, q7_7, by decide +kernel⟩
abbrev rmfX5_kindTold : Room := { frames := 0, cells := 0, slots := 0, locals := 0 }
def fX5_kindTold (x0 : Int32) : Int32 := if x0 = 101 then (2) else (if x0 = 102 then (1) else (if x0 = 104 then (0) else (if x0 = 119 then (3) else ((-1)))))
set_option maxRecDepth 100000 in
set_option maxHeartbeats 4000000 in
theorem wX5_kindTold {G : kG} {E : kE} {ws : va_W} (C : kOk G E cX5_kindTold RX5 1 rmfX5_kindTold) {z : Int32} (Zd : kEnd G E (0, 0) (some .int) (some (.int z)) ws) (x0 : Int32) (h : fX5_kindTold x0 = z) : kX G E (0, 0) ws 0 [(0, .int x0)] [] := by
  unfold fX5_kindTold at h
  refine x_iload_n (pc := 0) C 0 dX5_kindTold_0 rfl rfl ?_
  rcases Decidable.em (x0 = 101) with c_1 | c_1
  · have h := kIp c_1 h
    refine x_ls (pc := 1) (off := 47) C 48 dX5_kindTold_1 (by decide) (by first | (rw [c_1]; done) | (rw [c_1]; rfl)) (by decide) ?_
    refine x_iconst (pc := 48) C 2 dX5_kindTold_48 (by decide) ?_
    subst h
    exact x_iret (pc := 49) C Zd dX5_kindTold_49
  have h := kIn c_1 h
  rcases Decidable.em (x0 = 102) with c_2 | c_2
  · have h := kIp c_2 h
    refine x_ls (pc := 1) (off := 45) C 46 dX5_kindTold_1 (by decide) (by first | (rw [c_2]; done) | (rw [c_2]; rfl)) (by decide) ?_
    refine x_iconst (pc := 46) C 1 dX5_kindTold_46 (by decide) ?_
    subst h
    exact x_iret (pc := 47) C Zd dX5_kindTold_47
  have h := kIn c_2 h
  rcases Decidable.em (x0 = 104) with c_3 | c_3
  · have h := kIp c_3 h
    refine x_ls (pc := 1) (off := 43) C 44 dX5_kindTold_1 (by decide) (by first | (rw [c_3]; done) | (rw [c_3]; rfl)) (by decide) ?_
    refine x_iconst (pc := 44) C 0 dX5_kindTold_44 (by decide) ?_
    subst h
    exact x_iret (pc := 45) C Zd dX5_kindTold_45
  have h := kIn c_3 h
  rcases Decidable.em (x0 = 119) with c_4 | c_4
  · have h := kIp c_4 h
    refine x_ls (pc := 1) (off := 49) C 50 dX5_kindTold_1 (by decide) (by first | (rw [c_4]; done) | (rw [c_4]; rfl)) (by decide) ?_
    refine x_iconst (pc := 50) C 3 dX5_kindTold_50 (by decide) ?_
    subst h
    exact x_iret (pc := 51) C Zd dX5_kindTold_51
  have h := kIn c_4 h
  refine x_ls (pc := 1) (off := 51) C 52 dX5_kindTold_1 (by decide) ((lv_osw c_1 rfl).trans ((lv_osw c_2 rfl).trans ((lv_osw c_3 rfl).trans ((lv_osw c_4 rfl).trans rfl)))) (by decide) ?_
  refine x_iconst (pc := 52) C (-1) dX5_kindTold_52 (by decide) ?_
  subst h
  exact x_iret (pc := 53) C Zd dX5_kindTold_53
set_option maxRecDepth 100000 in
theorem mX5_kindTold (G : kG) {ws : va_W} (x0 : Int32) : kMet G yX5_kindTold cX5_kindTold 1 (some .int) rmfX5_kindTold (0, 0) [.int x0] ws (some (.int (fX5_kindTold x0))) ws := kMet.mk (by decide +kernel) (Nat.le_of_ble_eq_true rfl) (fun E C Zd => wX5_kindTold  C Zd  x0 rfl)
theorem yvX5_housesTold : kYV yX5_housesTold RX5 cX5_housesTold 2 (some .int) 0 := ⟨q6_19, q6_20, q1_19, q6_21, by decide +kernel⟩
abbrev rmfX5_housesTold : Room := { frames := 2, cells := 0, slots := 0, locals := 42 }
def fX5_housesTold_L2_B (K : Int32 → Option (Int32)) (Gc : Int32 → Option (Int32)) (st : kS) (v1 : Int32) : Option (Int32) := if (gI st 2) ≤ v1 then (K v1) else (if 6 ≤ v1 then (K v1) else (if (fX5_kindTold (fX5_code st v1)) = (-1) then (K v1) else (Gc (v1 + 1))))
set_option maxRecDepth 100000 in
set_option maxHeartbeats 4000000 in
theorem wX5_housesTold_L2_B {G : kG} {E : kE} {a : Nat → Nat} {st0 : kS} (C : kOk G E cX5_housesTold RX5 2 rmfX5_housesTold) {z : Int32} (Zd : kEnd G E (0, 0) (some .int) (some (.int z)) (wX G a st0)) {K Gc : Int32 → Option (Int32)} (v1 : Int32) (hK : ∀ (u1 : Int32), K u1 = some z → kX G E (0, 0) (wX G a st0) 34 [(1, .int u1)] []) (hG : ∀ (u1 : Int32), Gc u1 = some z → kX G E (0, 0) (wX G a st0) 2 [(0, .ref (a 1)), (1, .int u1)] []) (h : fX5_housesTold_L2_B K Gc st0 v1 = some z) : kX G E (0, 0) (wX G a st0) 2 [(0, .ref (a 1)), (1, .int v1)] [] := by
  unfold fX5_housesTold_L2_B at h
  refine x_iload_n (pc := 2) C 1 dX5_housesTold_2 rfl rfl ?_
  refine x_aload_n (pc := 3) C 0 dX5_housesTold_3 rfl rfl ?_
  refine x_get (pc := 4) C inlX5 1 rfl rfl 1 (by decide) q6_5 (v := .int (gI st0 2)) rfl dX5_housesTold_4 ?_
  refine x_icmp_ge (pc := 7) C 34 dX5_housesTold_7 (by decide) (fun c_1 => ?_) (fun c_1 => ?_)
  · have h := kIp c_1 h
    refine kX.pick [1] (lv' := [(1, .int v1)]) rfl ?_
    exact hK v1 h
  · have h := kIn c_1 h
    refine x_iload_n (pc := 10) C 1 dX5_housesTold_10 rfl rfl ?_
    refine x_bipush (pc := 11) C 6 dX5_housesTold_11 (by decide) ?_
    refine x_icmp_ge (pc := 13) C 34 dX5_housesTold_13 (by decide) (fun c_2 => ?_) (fun c_2 => ?_)
    · have h := kIp c_2 h
      refine kX.pick [1] (lv' := [(1, .int v1)]) rfl ?_
      exact hK v1 h
    · have h := kIn c_2 h
      refine x_aload_n (pc := 16) C 0 dX5_housesTold_16 rfl rfl ?_
      refine x_iload_n (pc := 17) C 1 dX5_housesTold_17 rfl rfl ?_
      refine x_callV (pc := 18) C 1 [.int v1] rfl rfl (mX5_code G a st0 v1) yvX5_code q6_22 ⟨Nat.le_of_ble_eq_true rfl, Nat.le_of_ble_eq_true rfl, rfl, rfl⟩ ⟨Nat.zero_le _, Nat.zero_le _⟩ rfl rfl (Nat.le_of_ble_eq_true rfl) rfl dX5_housesTold_18 ?_
      refine x_callS (pc := 21) C [.int (fX5_code st0 v1)] (mX5_kindTold G (fX5_code st0 v1)) ysX5_kindTold q7_5 ⟨Nat.le_of_ble_eq_true rfl, Nat.le_of_ble_eq_true rfl, rfl, rfl⟩ ⟨Nat.zero_le _, Nat.zero_le _⟩ rfl rfl (Nat.le_of_ble_eq_true rfl) rfl dX5_housesTold_21 ?_
      refine x_iconst (pc := 24) C (-1) dX5_housesTold_24 (by decide) ?_
      refine x_icmp_eq (pc := 25) C 34 dX5_housesTold_25 (by decide) (fun c_3 => ?_) (fun c_3 => ?_)
      · have h := kIp c_3 h
        refine kX.pick [1] (lv' := [(1, .int v1)]) rfl ?_
        exact hK v1 h
      · have h := kIn c_3 h
        refine x_iinc (pc := 28) C 1 (v := v1 + 1) (lv' := [(1, .int (v1 + 1)), (0, .ref (a 1))]) dX5_housesTold_28 rfl rfl (by decide) rfl ?_
        refine x_goto (pc := 31) C 2 dX5_housesTold_31 (by decide) ?_
        refine kX.pick [1, 0] (lv' := [(0, .ref (a 1)), (1, .int (v1 + 1))]) rfl ?_
        exact hG (v1 + 1) h
def fX5_housesTold_L2 (K : Int32 → Option (Int32)) (st : kS) : Nat → Int32 → Option (Int32)
  | 0, _ => none
  | F + 1, v1 => fX5_housesTold_L2_B K (fX5_housesTold_L2 K st F) st v1
set_option maxRecDepth 100000 in
set_option maxHeartbeats 4000000 in
theorem wX5_housesTold_L2 {G : kG} {E : kE} {a : Nat → Nat} {st0 : kS} (C : kOk G E cX5_housesTold RX5 2 rmfX5_housesTold) {z : Int32} (Zd : kEnd G E (0, 0) (some .int) (some (.int z)) (wX G a st0)) {K : Int32 → Option (Int32)} (hK : ∀ (u1 : Int32), K u1 = some z → kX G E (0, 0) (wX G a st0) 34 [(1, .int u1)] []) : ∀ (F : Nat) (v1 : Int32), fX5_housesTold_L2 K st0 F v1 = some z → kX G E (0, 0) (wX G a st0) 2 [(0, .ref (a 1)), (1, .int v1)] [] := by
  intro F
  induction F with
  | zero =>
    intro v1 h
    exact absurd (show none = some z from h) (fun q => by cases q)
  | succ F ih =>
    intro v1 h
    exact wX5_housesTold_L2_B  C Zd  v1 hK (fun v1 h => ih v1 h) h
def fX5_housesTold (st : kS) : Option (Int32) := fX5_housesTold_L2 (fun v1_4 => some v1_4) st kFU 0
set_option maxRecDepth 100000 in
set_option maxHeartbeats 4000000 in
theorem wX5_housesTold {G : kG} {E : kE} {a : Nat → Nat} {st0 : kS} (C : kOk G E cX5_housesTold RX5 2 rmfX5_housesTold) {z : Int32} (Zd : kEnd G E (0, 0) (some .int) (some (.int z)) (wX G a st0)) (h : fX5_housesTold st0 = some z) : kX G E (0, 0) (wX G a st0) 0 [(0, .ref (a 1))] [] := by
  unfold fX5_housesTold at h
  refine x_iconst (pc := 0) C 0 dX5_housesTold_0 (by decide) ?_
  refine x_istore_n (pc := 1) C (lv' := [(1, .int 0), (0, .ref (a 1))]) dX5_housesTold_1 rfl (by decide) rfl ?_
  refine kX.pick [1, 0] (lv' := [(0, .ref (a 1)), (1, .int 0)]) rfl ?_
  refine wX5_housesTold_L2  C Zd   (fun v1_4 h => ?_) kFU 0 h
  refine x_iload_n (pc := 34) C 0 dX5_housesTold_34 rfl rfl ?_
  obtain rfl := Option.some.inj h
  exact x_iret (pc := 35) C Zd dX5_housesTold_35
set_option maxRecDepth 100000 in
theorem mX5_housesTold (G : kG) (a : Nat → Nat) (st : kS)  {z : Int32} (h : fX5_housesTold st = some z) : kMet G yX5_housesTold cX5_housesTold 2 (some .int) rmfX5_housesTold (0, 0) [.ref (a 1)] (wX G a st) (some (.int z)) (wX G a st) := kMet.mk (by decide +kernel) (Nat.le_of_ble_eq_true rfl) (fun E C Zd => wX5_housesTold  C Zd   h)
theorem yvX5_fitsFeuds : kYV yX5_fitsFeuds RX5 cX5_fitsFeuds 4 (some .boolean) 2 := ⟨q7_9, q7_10, q1_19, q7_11, by decide +kernel⟩
abbrev rmfX5_fitsFeuds : Room := { frames := 3, cells := 0, slots := 0, locals := 65 }
def fX5_fitsFeuds (st : kS) (x1 : Int32) (x2 : Int32) : Option (Int32) := if ((x1 - x2) - 1) < 17 then (if (kr ((x1 - x2) - 1) 3) = 0 then (if ¬ ((fX5_isDigit st x1 0 (x2 - 1)) = 0 ∨ (fX5_isDigit st x1 0 (x2 - 1)) = 1) then none else some (fX5_isDigit st x1 0 (x2 - 1))) else (if (kr ((x1 - x2) - 1) 3) = 1 then (if (fX5_isDigit st x1 0 (x2 - 1)) = 0 then (some 0) else (if (fX5_code st x1) = (fX5_code st (x1 - 1)) then (some 0) else (some 1))) else (if (fX5_code st x1) = 44 then (some 1) else (some 0)))) else (some 0)
set_option maxRecDepth 100000 in
set_option maxHeartbeats 4000000 in
theorem wX5_fitsFeuds {G : kG} {E : kE} {a : Nat → Nat} {st0 : kS} (C : kOk G E cX5_fitsFeuds RX5 4 rmfX5_fitsFeuds) {z : Int32} (Zd : kEnd G E (0, 0) (some .boolean) (some (.int z)) (wX G a st0)) (x1 : Int32) (x2 : Int32) (h : fX5_fitsFeuds st0 x1 x2 = some z) : kX G E (0, 0) (wX G a st0) 0 [(0, .ref (a 1)), (1, .int x1), (2, .int x2)] [] := by
  unfold fX5_fitsFeuds at h
  refine x_iload_n (pc := 0) C 1 dX5_fitsFeuds_0 rfl rfl ?_
  refine x_iload_n (pc := 1) C 2 dX5_fitsFeuds_1 rfl rfl ?_
  refine x_isub (pc := 2) C dX5_fitsFeuds_2 ?_
  refine x_iconst (pc := 3) C 1 dX5_fitsFeuds_3 (by decide) ?_
  refine x_isub (pc := 4) C dX5_fitsFeuds_4 ?_
  refine x_istore_n (pc := 5) C (lv' := [(3, .int ((x1 - x2) - 1)), (0, .ref (a 1)), (1, .int x1), (2, .int x2)]) dX5_fitsFeuds_5 rfl (by decide) rfl ?_
  refine x_iload_n (pc := 6) C 0 dX5_fitsFeuds_6 rfl rfl ?_
  refine x_bipush (pc := 7) C 17 dX5_fitsFeuds_7 (by decide) ?_
  refine x_icmp_lt (pc := 9) C 14 dX5_fitsFeuds_9 (by decide) (fun c_1 => ?_) (fun c_1 => ?_)
  · have h := kIp c_1 h
    refine x_iload_n (pc := 14) C 0 dX5_fitsFeuds_14 rfl rfl ?_
    refine x_iconst (pc := 15) C 3 dX5_fitsFeuds_15 (by decide) ?_
    refine y_irem (pc := 16) C dX5_fitsFeuds_16 (by decide) ?_
    rcases Decidable.em ((kr ((x1 - x2) - 1) 3) = 0) with c_2 | c_2
    · have h := kIp c_2 h
      refine x_ls (pc := 17) (off := 27) C 44 dX5_fitsFeuds_17 (by decide) (by first | (rw [c_2]; done) | (rw [c_2]; rfl)) (by decide) ?_
      refine x_aload_n (pc := 44) C 1 dX5_fitsFeuds_44 rfl rfl ?_
      refine x_iload_n (pc := 45) C 2 dX5_fitsFeuds_45 rfl rfl ?_
      refine x_iconst (pc := 46) C 0 dX5_fitsFeuds_46 (by decide) ?_
      refine x_iload_n (pc := 47) C 3 dX5_fitsFeuds_47 rfl rfl ?_
      refine x_iconst (pc := 48) C 1 dX5_fitsFeuds_48 (by decide) ?_
      refine x_isub (pc := 49) C dX5_fitsFeuds_49 ?_
      refine x_callV (pc := 50) C 1 [.int x1, .int 0, .int (x2 - 1)] rfl rfl (mX5_isDigit G a st0 x1 0 (x2 - 1)) yvX5_isDigit q7_12 ⟨Nat.le_of_ble_eq_true rfl, Nat.le_of_ble_eq_true rfl, rfl, rfl⟩ ⟨Nat.zero_le _, Nat.zero_le _⟩ rfl rfl (Nat.le_of_ble_eq_true rfl) rfl dX5_fitsFeuds_50 ?_
      obtain ⟨c_3, h⟩ := kGn h
      obtain rfl := Option.some.inj h
      exact x_zret (pc := 53) C (kBn c_3) Zd dX5_fitsFeuds_53
    have h := kIn c_2 h
    rcases Decidable.em ((kr ((x1 - x2) - 1) 3) = 1) with c_4 | c_4
    · have h := kIp c_4 h
      refine x_ls (pc := 17) (off := 37) C 54 dX5_fitsFeuds_17 (by decide) (by first | (rw [c_4]; done) | (rw [c_4]; rfl)) (by decide) ?_
      refine x_aload_n (pc := 54) C 1 dX5_fitsFeuds_54 rfl rfl ?_
      refine x_iload_n (pc := 55) C 2 dX5_fitsFeuds_55 rfl rfl ?_
      refine x_iconst (pc := 56) C 0 dX5_fitsFeuds_56 (by decide) ?_
      refine x_iload_n (pc := 57) C 3 dX5_fitsFeuds_57 rfl rfl ?_
      refine x_iconst (pc := 58) C 1 dX5_fitsFeuds_58 (by decide) ?_
      refine x_isub (pc := 59) C dX5_fitsFeuds_59 ?_
      refine x_callV (pc := 60) C 1 [.int x1, .int 0, .int (x2 - 1)] rfl rfl (mX5_isDigit G a st0 x1 0 (x2 - 1)) yvX5_isDigit q7_12 ⟨Nat.le_of_ble_eq_true rfl, Nat.le_of_ble_eq_true rfl, rfl, rfl⟩ ⟨Nat.zero_le _, Nat.zero_le _⟩ rfl rfl (Nat.le_of_ble_eq_true rfl) rfl dX5_fitsFeuds_60 ?_
      refine x_if_eq (pc := 63) C 85 dX5_fitsFeuds_63 (by decide) (fun c_5 => ?_) (fun c_5 => ?_)
      · have h := kIp c_5 h
        refine x_iconst (pc := 85) C 0 dX5_fitsFeuds_85 (by decide) ?_
        obtain rfl := Option.some.inj h
        exact x_zret (pc := 86) C rfl Zd dX5_fitsFeuds_86
      · have h := kIn c_5 h
        refine x_aload_n (pc := 66) C 1 dX5_fitsFeuds_66 rfl rfl ?_
        refine x_iload_n (pc := 67) C 2 dX5_fitsFeuds_67 rfl rfl ?_
        refine x_callV (pc := 68) C 1 [.int x1] rfl rfl (mX5_code G a st0 x1) yvX5_code q6_22 ⟨Nat.le_of_ble_eq_true rfl, Nat.le_of_ble_eq_true rfl, rfl, rfl⟩ ⟨Nat.zero_le _, Nat.zero_le _⟩ rfl rfl (Nat.le_of_ble_eq_true rfl) rfl dX5_fitsFeuds_68 ?_
        refine x_aload_n (pc := 71) C 1 dX5_fitsFeuds_71 rfl rfl ?_
        refine x_iload_n (pc := 72) C 2 dX5_fitsFeuds_72 rfl rfl ?_
        refine x_iconst (pc := 73) C 1 dX5_fitsFeuds_73 (by decide) ?_
        refine x_isub (pc := 74) C dX5_fitsFeuds_74 ?_
        refine x_callV (pc := 75) C 1 [.int (x1 - 1)] rfl rfl (mX5_code G a st0 (x1 - 1)) yvX5_code q6_22 ⟨Nat.le_of_ble_eq_true rfl, Nat.le_of_ble_eq_true rfl, rfl, rfl⟩ ⟨Nat.zero_le _, Nat.zero_le _⟩ rfl rfl (Nat.le_of_ble_eq_true rfl) rfl dX5_fitsFeuds_75 ?_
        refine x_icmp_eq (pc := 78) C 85 dX5_fitsFeuds_78 (by decide) (fun c_6 => ?_) (fun c_6 => ?_)
        · have h := kIp c_6 h
          refine x_iconst (pc := 85) C 0 dX5_fitsFeuds_85 (by decide) ?_
          obtain rfl := Option.some.inj h
          exact x_zret (pc := 86) C rfl Zd dX5_fitsFeuds_86
        · have h := kIn c_6 h
          refine x_iconst (pc := 81) C 1 dX5_fitsFeuds_81 (by decide) ?_
          refine x_goto (pc := 82) C 86 dX5_fitsFeuds_82 (by decide) ?_
          obtain rfl := Option.some.inj h
          exact x_zret (pc := 86) C rfl Zd dX5_fitsFeuds_86
    have h := kIn c_4 h
    refine x_ls (pc := 17) (off := 70) C 87 dX5_fitsFeuds_17 (by decide) ((lv_osw c_2 rfl).trans ((lv_osw c_4 rfl).trans rfl)) (by decide) ?_
    refine x_aload_n (pc := 87) C 1 dX5_fitsFeuds_87 rfl rfl ?_
    refine x_iload_n (pc := 88) C 2 dX5_fitsFeuds_88 rfl rfl ?_
    refine x_callV (pc := 89) C 1 [.int x1] rfl rfl (mX5_code G a st0 x1) yvX5_code q6_22 ⟨Nat.le_of_ble_eq_true rfl, Nat.le_of_ble_eq_true rfl, rfl, rfl⟩ ⟨Nat.zero_le _, Nat.zero_le _⟩ rfl rfl (Nat.le_of_ble_eq_true rfl) rfl dX5_fitsFeuds_89 ?_
    refine x_bipush (pc := 92) C 44 dX5_fitsFeuds_92 (by decide) ?_
    refine x_icmp_ne (pc := 94) C 101 dX5_fitsFeuds_94 (by decide) (fun c_7 => ?_) (fun c_7 => ?_)
    · have h := kIn c_7 h
      refine x_iconst (pc := 101) C 0 dX5_fitsFeuds_101 (by decide) ?_
      obtain rfl := Option.some.inj h
      exact x_zret (pc := 102) C rfl Zd dX5_fitsFeuds_102
    · have h := kIp c_7 h
      refine x_iconst (pc := 97) C 1 dX5_fitsFeuds_97 (by decide) ?_
      refine x_goto (pc := 98) C 102 dX5_fitsFeuds_98 (by decide) ?_
      obtain rfl := Option.some.inj h
      exact x_zret (pc := 102) C rfl Zd dX5_fitsFeuds_102
  · have h := kIn c_1 h
    refine x_iconst (pc := 12) C 0 dX5_fitsFeuds_12 (by decide) ?_
    obtain rfl := Option.some.inj h
    exact x_zret (pc := 13) C rfl Zd dX5_fitsFeuds_13
set_option maxRecDepth 100000 in
theorem mX5_fitsFeuds (G : kG) (a : Nat → Nat) (st : kS) (x1 : Int32) (x2 : Int32) {z : Int32} (h : fX5_fitsFeuds st x1 x2 = some z) : kMet G yX5_fitsFeuds cX5_fitsFeuds 4 (some .boolean) rmfX5_fitsFeuds (0, 0) [.ref (a 1), .int x1, .int x2] (wX G a st) (some (.int z)) (wX G a st) := kMet.mk (by decide +kernel) (Nat.le_of_ble_eq_true rfl) (fun E C Zd => wX5_fitsFeuds  C Zd  x1 x2 h)
theorem yvX5_firstNoRing : kYV yX5_firstNoRing RX5 cX5_firstNoRing 3 (some .int) 0 := ⟨q6_15, q6_16, q1_19, q6_17, by decide +kernel⟩
abbrev rmfX5_firstNoRing : Room := { frames := 4, cells := 0, slots := 0, locals := 88 }
def fX5_firstNoRing_L39_B (K : Int32 → Option (Int32)) (Gc : Int32 → Option (Int32)) (st : kS) (v1 : Int32) (v2 : Int32) : Option (Int32) := if (gI st 2) ≤ v2 then (K v2) else ((fX5_fitsFeuds st v2 v1).bind (fun z_6 => if z_6 = 0 then (some v2) else (Gc (v2 + 1))))
set_option maxRecDepth 100000 in
set_option maxHeartbeats 4000000 in
theorem wX5_firstNoRing_L39_B {G : kG} {E : kE} {a : Nat → Nat} {st0 : kS} (C : kOk G E cX5_firstNoRing RX5 3 rmfX5_firstNoRing) {z : Int32} (Zd : kEnd G E (0, 0) (some .int) (some (.int z)) (wX G a st0)) {K Gc : Int32 → Option (Int32)} (v1 : Int32) (v2 : Int32) (hK : ∀ (u2 : Int32), K u2 = some z → kX G E (0, 0) (wX G a st0) 64 [(0, .ref (a 1))] []) (hG : ∀ (u2 : Int32), Gc u2 = some z → kX G E (0, 0) (wX G a st0) 39 [(0, .ref (a 1)), (1, .int v1), (2, .int u2)] []) (h : fX5_firstNoRing_L39_B K Gc st0 v1 v2 = some z) : kX G E (0, 0) (wX G a st0) 39 [(0, .ref (a 1)), (1, .int v1), (2, .int v2)] [] := by
  unfold fX5_firstNoRing_L39_B at h
  refine x_iload_n (pc := 39) C 2 dX5_firstNoRing_39 rfl rfl ?_
  refine x_aload_n (pc := 40) C 0 dX5_firstNoRing_40 rfl rfl ?_
  refine x_get (pc := 41) C inlX5 1 rfl rfl 1 (by decide) q6_5 (v := .int (gI st0 2)) rfl dX5_firstNoRing_41 ?_
  refine x_icmp_ge (pc := 44) C 64 dX5_firstNoRing_44 (by decide) (fun c_5 => ?_) (fun c_5 => ?_)
  · have h := kIp c_5 h
    refine kX.pick [0] (lv' := [(0, .ref (a 1))]) rfl ?_
    exact hK v2 h
  · have h := kIn c_5 h
    refine x_aload_n (pc := 47) C 0 dX5_firstNoRing_47 rfl rfl ?_
    refine x_iload_n (pc := 48) C 2 dX5_firstNoRing_48 rfl rfl ?_
    refine x_iload_n (pc := 49) C 1 dX5_firstNoRing_49 rfl rfl ?_
    obtain ⟨z_6, hz_6, h⟩ := kB h
    refine x_callV (pc := 50) C 1 [.int v2, .int v1] rfl rfl (mX5_fitsFeuds G a st0 v2 v1 hz_6) yvX5_fitsFeuds q7_8 ⟨Nat.le_of_ble_eq_true rfl, Nat.le_of_ble_eq_true rfl, rfl, rfl⟩ ⟨Nat.zero_le _, Nat.zero_le _⟩ rfl rfl (Nat.le_of_ble_eq_true rfl) rfl dX5_firstNoRing_50 ?_
    refine x_if_ne (pc := 53) C 58 dX5_firstNoRing_53 (by decide) (fun c_7 => ?_) (fun c_7 => ?_)
    · have h := kIn c_7 h
      refine x_iinc (pc := 58) C 2 (v := v2 + 1) (lv' := [(2, .int (v2 + 1)), (0, .ref (a 1)), (1, .int v1)]) dX5_firstNoRing_58 rfl rfl (by decide) rfl ?_
      refine x_goto (pc := 61) C 39 dX5_firstNoRing_61 (by decide) ?_
      refine kX.pick [1, 2, 0] (lv' := [(0, .ref (a 1)), (1, .int v1), (2, .int (v2 + 1))]) rfl ?_
      exact hG (v2 + 1) h
    · have h := kIp c_7 h
      refine x_iload_n (pc := 56) C 2 dX5_firstNoRing_56 rfl rfl ?_
      obtain rfl := Option.some.inj h
      exact x_iret (pc := 57) C Zd dX5_firstNoRing_57
def fX5_firstNoRing_L39 (K : Int32 → Option (Int32)) (st : kS) (v1 : Int32) : Nat → Int32 → Option (Int32)
  | 0, _ => none
  | F + 1, v2 => fX5_firstNoRing_L39_B K (fX5_firstNoRing_L39 K st v1 F) st v1 v2
set_option maxRecDepth 100000 in
set_option maxHeartbeats 4000000 in
theorem wX5_firstNoRing_L39 {G : kG} {E : kE} {a : Nat → Nat} {st0 : kS} (C : kOk G E cX5_firstNoRing RX5 3 rmfX5_firstNoRing) {z : Int32} (Zd : kEnd G E (0, 0) (some .int) (some (.int z)) (wX G a st0)) {K : Int32 → Option (Int32)} (v1 : Int32) (hK : ∀ (u2 : Int32), K u2 = some z → kX G E (0, 0) (wX G a st0) 64 [(0, .ref (a 1))] []) : ∀ (F : Nat) (v2 : Int32), fX5_firstNoRing_L39 K st0 v1 F v2 = some z → kX G E (0, 0) (wX G a st0) 39 [(0, .ref (a 1)), (1, .int v1), (2, .int v2)] [] := by
  intro F
  induction F with
  | zero =>
    intro v2 h
    exact absurd (show none = some z from h) (fun q => by cases q)
  | succ F ih =>
    intro v2 h
    exact wX5_firstNoRing_L39_B  C Zd  v1 v2 hK (fun v2 h => ih v2 h) h
def fX5_firstNoRing (st : kS) : Option (Int32) := (fX5_housesTold st).bind (fun z_1 => if z_1 = (gI st 2) then (some (gI st 2)) else (if z_1 < 3 then (some z_1) else (if (fX5_code st z_1) = 59 then (fX5_firstNoRing_L39 (fun v2_8 => some (gI st 2)) st z_1 kFU (z_1 + 1)) else (some z_1))))
set_option maxRecDepth 100000 in
set_option maxHeartbeats 4000000 in
theorem wX5_firstNoRing {G : kG} {E : kE} {a : Nat → Nat} {st0 : kS} (C : kOk G E cX5_firstNoRing RX5 3 rmfX5_firstNoRing) {z : Int32} (Zd : kEnd G E (0, 0) (some .int) (some (.int z)) (wX G a st0)) (h : fX5_firstNoRing st0 = some z) : kX G E (0, 0) (wX G a st0) 0 [(0, .ref (a 1))] [] := by
  unfold fX5_firstNoRing at h
  refine x_aload_n (pc := 0) C 0 dX5_firstNoRing_0 rfl rfl ?_
  obtain ⟨z_1, hz_1, h⟩ := kB h
  refine x_callV (pc := 1) C 1 [] rfl rfl (mX5_housesTold G a st0 hz_1) yvX5_housesTold q6_18 ⟨Nat.le_of_ble_eq_true rfl, Nat.le_of_ble_eq_true rfl, rfl, rfl⟩ ⟨Nat.zero_le _, Nat.zero_le _⟩ rfl rfl (Nat.le_of_ble_eq_true rfl) rfl dX5_firstNoRing_1 ?_
  refine x_istore_n (pc := 4) C (lv' := [(1, .int z_1), (0, .ref (a 1))]) dX5_firstNoRing_4 rfl (by decide) rfl ?_
  refine x_iload_n (pc := 5) C 0 dX5_firstNoRing_5 rfl rfl ?_
  refine x_aload_n (pc := 6) C 1 dX5_firstNoRing_6 rfl rfl ?_
  refine x_get (pc := 7) C inlX5 1 rfl rfl 1 (by decide) q6_5 (v := .int (gI st0 2)) rfl dX5_firstNoRing_7 ?_
  refine x_icmp_ne (pc := 10) C 18 dX5_firstNoRing_10 (by decide) (fun c_2 => ?_) (fun c_2 => ?_)
  · have h := kIn c_2 h
    refine x_iload_n (pc := 18) C 0 dX5_firstNoRing_18 rfl rfl ?_
    refine x_iconst (pc := 19) C 3 dX5_firstNoRing_19 (by decide) ?_
    refine x_icmp_lt (pc := 20) C 33 dX5_firstNoRing_20 (by decide) (fun c_3 => ?_) (fun c_3 => ?_)
    · have h := kIp c_3 h
      refine x_iload_n (pc := 33) C 0 dX5_firstNoRing_33 rfl rfl ?_
      obtain rfl := Option.some.inj h
      exact x_iret (pc := 34) C Zd dX5_firstNoRing_34
    · have h := kIn c_3 h
      refine x_aload_n (pc := 23) C 1 dX5_firstNoRing_23 rfl rfl ?_
      refine x_iload_n (pc := 24) C 0 dX5_firstNoRing_24 rfl rfl ?_
      refine x_callV (pc := 25) C 1 [.int z_1] rfl rfl (mX5_code G a st0 z_1) yvX5_code q6_22 ⟨Nat.le_of_ble_eq_true rfl, Nat.le_of_ble_eq_true rfl, rfl, rfl⟩ ⟨Nat.zero_le _, Nat.zero_le _⟩ rfl rfl (Nat.le_of_ble_eq_true rfl) rfl dX5_firstNoRing_25 ?_
      refine x_bipush (pc := 28) C 59 dX5_firstNoRing_28 (by decide) ?_
      refine x_icmp_eq (pc := 30) C 35 dX5_firstNoRing_30 (by decide) (fun c_4 => ?_) (fun c_4 => ?_)
      · have h := kIp c_4 h
        refine x_iload_n (pc := 35) C 0 dX5_firstNoRing_35 rfl rfl ?_
        refine x_iconst (pc := 36) C 1 dX5_firstNoRing_36 (by decide) ?_
        refine x_iadd (pc := 37) C dX5_firstNoRing_37 ?_
        refine x_istore_n (pc := 38) C (lv' := [(2, .int (z_1 + 1)), (1, .int z_1), (0, .ref (a 1))]) dX5_firstNoRing_38 rfl (by decide) rfl ?_
        refine kX.pick [2, 1, 0] (lv' := [(0, .ref (a 1)), (1, .int z_1), (2, .int (z_1 + 1))]) rfl ?_
        refine wX5_firstNoRing_L39  C Zd  z_1 (fun v2_8 h => ?_) kFU (z_1 + 1) h
        refine x_aload_n (pc := 64) C 0 dX5_firstNoRing_64 rfl rfl ?_
        refine x_get (pc := 65) C inlX5 1 rfl rfl 1 (by decide) q6_5 (v := .int (gI st0 2)) rfl dX5_firstNoRing_65 ?_
        obtain rfl := Option.some.inj h
        exact x_iret (pc := 68) C Zd dX5_firstNoRing_68
      · have h := kIn c_4 h
        refine x_iload_n (pc := 33) C 0 dX5_firstNoRing_33 rfl rfl ?_
        obtain rfl := Option.some.inj h
        exact x_iret (pc := 34) C Zd dX5_firstNoRing_34
  · have h := kIp c_2 h
    refine x_aload_n (pc := 13) C 1 dX5_firstNoRing_13 rfl rfl ?_
    refine x_get (pc := 14) C inlX5 1 rfl rfl 1 (by decide) q6_5 (v := .int (gI st0 2)) rfl dX5_firstNoRing_14 ?_
    obtain rfl := Option.some.inj h
    exact x_iret (pc := 17) C Zd dX5_firstNoRing_17
set_option maxRecDepth 100000 in
theorem mX5_firstNoRing (G : kG) (a : Nat → Nat) (st : kS)  {z : Int32} (h : fX5_firstNoRing st = some z) : kMet G yX5_firstNoRing cX5_firstNoRing 3 (some .int) rmfX5_firstNoRing (0, 0) [.ref (a 1)] (wX G a st) (some (.int z)) (wX G a st) := kMet.mk (by decide +kernel) (Nat.le_of_ble_eq_true rfl) (fun E C Zd => wX5_firstNoRing  C Zd   h)
