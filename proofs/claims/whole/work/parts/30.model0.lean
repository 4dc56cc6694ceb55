theorem yvX10_letters : kYV yX10_letters RX10 cX10_letters 7 (some .int) 1 := ⟨q7_10, q7_11, q1_5, q7_12, by decide +kernel⟩
abbrev rmfX10_letters : Room := { frames := 0, cells := 0, slots := 0, locals := 0 }
def fX10_letters_J64 (K : Int32 → Int32 → Int32 → Option (Int32 × kS)) (Gc : Int32 → Int32 → Int32 → Option (Int32 × kS)) (st : kS) (v1 : Int64) (v3 : Int32) (v5 : Int32) (v6 : Int32) (s0 : Int32) : Option (Int32 × kS) := if v6 = 0 then (Gc (v3 + 0) s0 (v5 + 1)) else (Gc (v3 + 1) s0 (v5 + 1))
set_option maxRecDepth 100000 in
set_option maxHeartbeats 4000000 in
theorem wX10_letters_J64 {G : kG} {E : kE} {a : Nat → Nat} (C : kOk G E cX10_letters RX10 7 rmfX10_letters) {z : Int32 × kS} (Zd : kEnd G E (0, 0) (some .int) (some (.int z.1)) (wM G a z.2)) {K Gc : Int32 → Int32 → Int32 → Option (Int32 × kS)} (st : kS) (v1 : Int64) (v3 : Int32) (v5 : Int32) (v6 : Int32) (s0 : Int32) (hK : ∀ (u3 : Int32) (u4 : Int32) (u5 : Int32), K u3 u4 u5 = some z → kX G E (0, 0) (wM G a st) 85 [(0, .ref (a 0)), (1, .long v1), (3, .int u3)] []) (hG : ∀ (u3 : Int32) (u4 : Int32) (u5 : Int32), Gc u3 u4 u5 = some z → kX G E (0, 0) (wM G a st) 8 [(0, .ref (a 0)), (1, .long v1), (3, .int u3), (4, .int u4), (5, .int u5)] []) (h : fX10_letters_J64 K Gc st v1 v3 v5 v6 s0 = some z) : kX G E (0, 0) (wM G a st) 64 [(0, .ref (a 0)), (1, .long v1), (3, .int v3), (5, .int v5), (6, .int v6)] [.int s0] := by
  unfold fX10_letters_J64 at h
  refine x_istore (pc := 64) C (lv' := [(4, .int s0), (0, .ref (a 0)), (1, .long v1), (3, .int v3), (5, .int v5), (6, .int v6)]) dX10_letters_64 (by decide) rfl ?_
  refine x_iload_n (pc := 66) C 3 dX10_letters_66 rfl rfl ?_
  refine x_iload (pc := 67) C 5 dX10_letters_67 rfl ?_
  refine x_if_ne (pc := 69) C 76 dX10_letters_69 (by decide) (fun c_5 => ?_) (fun c_5 => ?_)
  · have h := kIn c_5 h
    refine x_iconst (pc := 76) C 1 dX10_letters_76 (by decide) ?_
    refine x_iadd (pc := 77) C dX10_letters_77 ?_
    refine x_istore_n (pc := 78) C (lv' := [(3, .int (v3 + 1)), (4, .int s0), (0, .ref (a 0)), (1, .long v1), (5, .int v5), (6, .int v6)]) dX10_letters_78 rfl (by decide) rfl ?_
    refine x_iinc (pc := 79) C 4 (v := v5 + 1) (lv' := [(5, .int (v5 + 1)), (3, .int (v3 + 1)), (4, .int s0), (0, .ref (a 0)), (1, .long v1), (6, .int v6)]) dX10_letters_79 rfl rfl (by decide) rfl ?_
    refine x_goto (pc := 82) C 8 dX10_letters_82 (by decide) ?_
    refine kX.pick [3, 4, 1, 2, 0] (lv' := [(0, .ref (a 0)), (1, .long v1), (3, .int (v3 + 1)), (4, .int s0), (5, .int (v5 + 1))]) rfl ?_
    exact hG (v3 + 1) s0 (v5 + 1) h
  · have h := kIp c_5 h
    refine x_iconst (pc := 72) C 0 dX10_letters_72 (by decide) ?_
    refine x_goto (pc := 73) C 77 dX10_letters_73 (by decide) ?_
    refine x_iadd (pc := 77) C dX10_letters_77 ?_
    refine x_istore_n (pc := 78) C (lv' := [(3, .int (v3 + 0)), (4, .int s0), (0, .ref (a 0)), (1, .long v1), (5, .int v5), (6, .int v6)]) dX10_letters_78 rfl (by decide) rfl ?_
    refine x_iinc (pc := 79) C 4 (v := v5 + 1) (lv' := [(5, .int (v5 + 1)), (3, .int (v3 + 0)), (4, .int s0), (0, .ref (a 0)), (1, .long v1), (6, .int v6)]) dX10_letters_79 rfl rfl (by decide) rfl ?_
    refine x_goto (pc := 82) C 8 dX10_letters_82 (by decide) ?_
    refine kX.pick [3, 4, 1, 2, 0] (lv' := [(0, .ref (a 0)), (1, .long v1), (3, .int (v3 + 0)), (4, .int s0), (5, .int (v5 + 1))]) rfl ?_
    exact hG (v3 + 0) s0 (v5 + 1) h
def fX10_letters_J59 (K : Int32 → Int32 → Int32 → Option (Int32 × kS)) (Gc : Int32 → Int32 → Int32 → Option (Int32 × kS)) (st : kS) (v1 : Int64) (v3 : Int32) (v5 : Int32) (v6 : Int32) : Option (Int32 × kS) := fX10_letters_J64 K Gc st v1 v3 v5 v6 1
set_option maxRecDepth 100000 in
set_option maxHeartbeats 4000000 in
theorem wX10_letters_J59 {G : kG} {E : kE} {a : Nat → Nat} (C : kOk G E cX10_letters RX10 7 rmfX10_letters) {z : Int32 × kS} (Zd : kEnd G E (0, 0) (some .int) (some (.int z.1)) (wM G a z.2)) {K Gc : Int32 → Int32 → Int32 → Option (Int32 × kS)} (st : kS) (v1 : Int64) (v3 : Int32) (v5 : Int32) (v6 : Int32) (hK : ∀ (u3 : Int32) (u4 : Int32) (u5 : Int32), K u3 u4 u5 = some z → kX G E (0, 0) (wM G a st) 85 [(0, .ref (a 0)), (1, .long v1), (3, .int u3)] []) (hG : ∀ (u3 : Int32) (u4 : Int32) (u5 : Int32), Gc u3 u4 u5 = some z → kX G E (0, 0) (wM G a st) 8 [(0, .ref (a 0)), (1, .long v1), (3, .int u3), (4, .int u4), (5, .int u5)] []) (h : fX10_letters_J59 K Gc st v1 v3 v5 v6 = some z) : kX G E (0, 0) (wM G a st) 59 [(0, .ref (a 0)), (1, .long v1), (3, .int v3), (5, .int v5), (6, .int v6)] [] := by
  unfold fX10_letters_J59 at h
  refine x_iconst (pc := 59) C 1 dX10_letters_59 (by decide) ?_
  refine x_goto (pc := 60) C 64 dX10_letters_60 (by decide) ?_
  exact wX10_letters_J64  C Zd  st v1 v3 v5 v6 1 hK hG h
def fX10_letters_J49 (K : Int32 → Int32 → Int32 → Option (Int32 × kS)) (Gc : Int32 → Int32 → Int32 → Option (Int32 × kS)) (st : kS) (v1 : Int64) (v3 : Int32) (v4 : Int32) (v5 : Int32) (v6 : Int32) : Option (Int32 × kS) := if v4 = 0 then (if v6 = 0 then (fX10_letters_J59 K Gc st v1 v3 v5 v6) else (fX10_letters_J64 K Gc st v1 v3 v5 v6 0)) else (fX10_letters_J59 K Gc st v1 v3 v5 v6)
set_option maxRecDepth 100000 in
set_option maxHeartbeats 4000000 in
theorem wX10_letters_J49 {G : kG} {E : kE} {a : Nat → Nat} (C : kOk G E cX10_letters RX10 7 rmfX10_letters) {z : Int32 × kS} (Zd : kEnd G E (0, 0) (some .int) (some (.int z.1)) (wM G a z.2)) {K Gc : Int32 → Int32 → Int32 → Option (Int32 × kS)} (st : kS) (v1 : Int64) (v3 : Int32) (v4 : Int32) (v5 : Int32) (v6 : Int32) (hK : ∀ (u3 : Int32) (u4 : Int32) (u5 : Int32), K u3 u4 u5 = some z → kX G E (0, 0) (wM G a st) 85 [(0, .ref (a 0)), (1, .long v1), (3, .int u3)] []) (hG : ∀ (u3 : Int32) (u4 : Int32) (u5 : Int32), Gc u3 u4 u5 = some z → kX G E (0, 0) (wM G a st) 8 [(0, .ref (a 0)), (1, .long v1), (3, .int u3), (4, .int u4), (5, .int u5)] []) (h : fX10_letters_J49 K Gc st v1 v3 v4 v5 v6 = some z) : kX G E (0, 0) (wM G a st) 49 [(0, .ref (a 0)), (1, .long v1), (3, .int v3), (4, .int v4), (5, .int v5), (6, .int v6)] [] := by
  unfold fX10_letters_J49 at h
  refine x_iload (pc := 49) C 3 dX10_letters_49 rfl ?_
  refine x_if_ne (pc := 51) C 59 dX10_letters_51 (by decide) (fun c_4 => ?_) (fun c_4 => ?_)
  · have h := kIn c_4 h
    refine kX.pick [0, 1, 2, 4, 5] (lv' := [(0, .ref (a 0)), (1, .long v1), (3, .int v3), (5, .int v5), (6, .int v6)]) rfl ?_
    exact wX10_letters_J59  C Zd  st v1 v3 v5 v6 hK hG h
  · have h := kIp c_4 h
    refine x_iload (pc := 54) C 5 dX10_letters_54 rfl ?_
    refine x_if_ne (pc := 56) C 63 dX10_letters_56 (by decide) (fun c_6 => ?_) (fun c_6 => ?_)
    · have h := kIn c_6 h
      refine x_iconst (pc := 63) C 0 dX10_letters_63 (by decide) ?_
      refine kX.pick [0, 1, 2, 4, 5] (lv' := [(0, .ref (a 0)), (1, .long v1), (3, .int v3), (5, .int v5), (6, .int v6)]) rfl ?_
      exact wX10_letters_J64  C Zd  st v1 v3 v5 v6 0 hK hG h
    · have h := kIp c_6 h
      refine kX.pick [0, 1, 2, 4, 5] (lv' := [(0, .ref (a 0)), (1, .long v1), (3, .int v3), (5, .int v5), (6, .int v6)]) rfl ?_
      exact wX10_letters_J59  C Zd  st v1 v3 v5 v6 hK hG h
def fX10_letters_L8_B (K : Int32 → Int32 → Int32 → Option (Int32 × kS)) (Gc : Int32 → Int32 → Int32 → Option (Int32 × kS)) (st : kS) (v1 : Int64) (v3 : Int32) (v4 : Int32) (v5 : Int32) : Option (Int32 × kS) := if 8 ≤ v5 then (K v3 v4 v5) else (if 126 < (((klshr v1 (8 * v5)) &&& 255).toInt32) then (some ((-102), st)) else (if v4 = 0 then (fX10_letters_J49 K Gc st v1 v3 v4 v5 (((klshr v1 (8 * v5)) &&& 255).toInt32)) else (if (((klshr v1 (8 * v5)) &&& 255).toInt32) = 0 then (fX10_letters_J49 K Gc st v1 v3 v4 v5 (((klshr v1 (8 * v5)) &&& 255).toInt32)) else (some ((-102), st)))))
set_option maxRecDepth 100000 in
set_option maxHeartbeats 4000000 in
theorem wX10_letters_L8_B {G : kG} {E : kE} {a : Nat → Nat} (C : kOk G E cX10_letters RX10 7 rmfX10_letters) {z : Int32 × kS} (Zd : kEnd G E (0, 0) (some .int) (some (.int z.1)) (wM G a z.2)) {K Gc : Int32 → Int32 → Int32 → Option (Int32 × kS)} (st : kS) (v1 : Int64) (v3 : Int32) (v4 : Int32) (v5 : Int32) (hK : ∀ (u3 : Int32) (u4 : Int32) (u5 : Int32), K u3 u4 u5 = some z → kX G E (0, 0) (wM G a st) 85 [(0, .ref (a 0)), (1, .long v1), (3, .int u3)] []) (hG : ∀ (u3 : Int32) (u4 : Int32) (u5 : Int32), Gc u3 u4 u5 = some z → kX G E (0, 0) (wM G a st) 8 [(0, .ref (a 0)), (1, .long v1), (3, .int u3), (4, .int u4), (5, .int u5)] []) (h : fX10_letters_L8_B K Gc st v1 v3 v4 v5 = some z) : kX G E (0, 0) (wM G a st) 8 [(0, .ref (a 0)), (1, .long v1), (3, .int v3), (4, .int v4), (5, .int v5)] [] := by
  unfold fX10_letters_L8_B at h
  refine x_iload (pc := 8) C 4 dX10_letters_8 rfl ?_
  refine x_bipush (pc := 10) C 8 dX10_letters_10 (by decide) ?_
  refine x_icmp_ge (pc := 12) C 85 dX10_letters_12 (by decide) (fun c_1 => ?_) (fun c_1 => ?_)
  · have h := kIp c_1 h
    refine kX.pick [0, 1, 2] (lv' := [(0, .ref (a 0)), (1, .long v1), (3, .int v3)]) rfl ?_
    exact hK v3 v4 v5 h
  · have h := kIn c_1 h
    refine x_lload_n (pc := 15) C 1 dX10_letters_15 rfl rfl ?_
    refine x_bipush (pc := 16) C 8 dX10_letters_16 (by decide) ?_
    refine x_iload (pc := 18) C 4 dX10_letters_18 rfl ?_
    refine x_imul (pc := 20) C dX10_letters_20 ?_
    refine y_lshr (pc := 21) C dX10_letters_21 ?_
    refine x_ldc2 (pc := 22) C q7_13 dX10_letters_22 ?_
    refine x_land (pc := 25) C dX10_letters_25 ?_
    refine x_l2i (pc := 26) C dX10_letters_26 ?_
    refine x_istore (pc := 27) C (lv' := [(6, .int (((klshr v1 (8 * v5)) &&& 255).toInt32)), (0, .ref (a 0)), (1, .long v1), (3, .int v3), (4, .int v4), (5, .int v5)]) dX10_letters_27 (by decide) rfl ?_
    refine x_iload (pc := 29) C 0 dX10_letters_29 rfl ?_
    refine x_bipush (pc := 31) C 126 dX10_letters_31 (by decide) ?_
    refine x_icmp_gt (pc := 33) C 46 dX10_letters_33 (by decide) (fun c_2 => ?_) (fun c_2 => ?_)
    · have h := kIp c_2 h
      refine x_bipush (pc := 46) C (-102) dX10_letters_46 (by decide) ?_
      obtain rfl := Option.some.inj h
      exact x_iret (pc := 48) C Zd dX10_letters_48
    · have h := kIn c_2 h
      refine x_iload (pc := 36) C 4 dX10_letters_36 rfl ?_
      refine x_if_eq (pc := 38) C 49 dX10_letters_38 (by decide) (fun c_3 => ?_) (fun c_3 => ?_)
      · have h := kIp c_3 h
        refine kX.pick [1, 2, 3, 4, 5, 0] (lv' := [(0, .ref (a 0)), (1, .long v1), (3, .int v3), (4, .int v4), (5, .int v5), (6, .int (((klshr v1 (8 * v5)) &&& 255).toInt32))]) rfl ?_
        exact wX10_letters_J49  C Zd  st v1 v3 v4 v5 (((klshr v1 (8 * v5)) &&& 255).toInt32) hK hG h
      · have h := kIn c_3 h
        refine x_iload (pc := 41) C 0 dX10_letters_41 rfl ?_
        refine x_if_eq (pc := 43) C 49 dX10_letters_43 (by decide) (fun c_7 => ?_) (fun c_7 => ?_)
        · have h := kIp c_7 h
          refine kX.pick [1, 2, 3, 4, 5, 0] (lv' := [(0, .ref (a 0)), (1, .long v1), (3, .int v3), (4, .int v4), (5, .int v5), (6, .int (((klshr v1 (8 * v5)) &&& 255).toInt32))]) rfl ?_
          exact wX10_letters_J49  C Zd  st v1 v3 v4 v5 (((klshr v1 (8 * v5)) &&& 255).toInt32) hK hG h
        · have h := kIn c_7 h
          refine x_bipush (pc := 46) C (-102) dX10_letters_46 (by decide) ?_
          obtain rfl := Option.some.inj h
          exact x_iret (pc := 48) C Zd dX10_letters_48
def fX10_letters_L8 (K : Int32 → Int32 → Int32 → Option (Int32 × kS)) (st : kS) (v1 : Int64) : Nat → Int32 → Int32 → Int32 → Option (Int32 × kS)
  | 0, _, _, _ => none
  | F + 1, v3, v4, v5 => fX10_letters_L8_B K (fX10_letters_L8 K st v1 F) st v1 v3 v4 v5
set_option maxRecDepth 100000 in
set_option maxHeartbeats 4000000 in
theorem wX10_letters_L8 {G : kG} {E : kE} {a : Nat → Nat} (C : kOk G E cX10_letters RX10 7 rmfX10_letters) {z : Int32 × kS} (Zd : kEnd G E (0, 0) (some .int) (some (.int z.1)) (wM G a z.2)) {K : Int32 → Int32 → Int32 → Option (Int32 × kS)} (st : kS) (v1 : Int64) (hK : ∀ (u3 : Int32) (u4 : Int32) (u5 : Int32), K u3 u4 u5 = some z → kX G E (0, 0) (wM G a st) 85 [(0, .ref (a 0)), (1, .long v1), (3, .int u3)] []) : ∀ (F : Nat) (v3 : Int32) (v4 : Int32) (v5 : Int32), fX10_letters_L8 K st v1 F v3 v4 v5 = some z → kX G E (0, 0) (wM G a st) 8 [(0, .ref (a 0)), (1, .long v1), (3, .int v3), (4, .int v4), (5, .int v5)] [] := by
  intro F
  induction F with
  | zero =>
    intro v3 v4 v5 h
    exact absurd (show none = some z from h) (fun q => by cases q)
  | succ F ih =>
    intro v3 v4 v5 h
    exact wX10_letters_L8_B  C Zd  st v1 v3 v4 v5 hK (fun v3 v4 v5 h => ih v3 v4 v5 h) h
def fX10_letters_L102_B (K : Int32 → kS → Option (Int32 × kS)) (Gc : Int32 → kS → Option (Int32 × kS)) (st : kS) (v1 : Int64) (v3 : Int32) (v5 : Int32) : Option (Int32 × kS) := if v3 ≤ v5 then (K v5 st) else (if ((gI st 4) + v5) < 0 ∨ 26 ≤ ((gI st 4) + v5).toNatClampNeg then none else Gc (v5 + 1) (sA st 6 (upd (gA st 6) ((gI st 4) + v5).toNatClampNeg (vp_nar .byte (((klshr v1 (8 * v5)).toInt32).toInt8.toInt32)))))
set_option maxRecDepth 100000 in
set_option maxHeartbeats 4000000 in
theorem wX10_letters_L102_B {G : kG} {E : kE} {a : Nat → Nat} (C : kOk G E cX10_letters RX10 7 rmfX10_letters) {z : Int32 × kS} (Zd : kEnd G E (0, 0) (some .int) (some (.int z.1)) (wM G a z.2)) {K Gc : Int32 → kS → Option (Int32 × kS)} (st : kS) (v1 : Int64) (v3 : Int32) (v5 : Int32) (hK : ∀ (u5 : Int32) (su : kS), K u5 su = some z → kX G E (0, 0) (wM G a su) 135 [(0, .ref (a 0)), (3, .int v3)] []) (hG : ∀ (u5 : Int32) (su : kS), Gc u5 su = some z → kX G E (0, 0) (wM G a su) 102 [(0, .ref (a 0)), (1, .long v1), (3, .int v3), (5, .int u5)] []) (h : fX10_letters_L102_B K Gc st v1 v3 v5 = some z) : kX G E (0, 0) (wM G a st) 102 [(0, .ref (a 0)), (1, .long v1), (3, .int v3), (5, .int v5)] [] := by
  unfold fX10_letters_L102_B at h
  refine x_iload (pc := 102) C 3 dX10_letters_102 rfl ?_
  refine x_iload_n (pc := 104) C 2 dX10_letters_104 rfl rfl ?_
  refine x_icmp_ge (pc := 105) C 135 dX10_letters_105 (by decide) (fun c_12 => ?_) (fun c_12 => ?_)
  · have h := kIp c_12 h
    refine kX.pick [0, 2] (lv' := [(0, .ref (a 0)), (3, .int v3)]) rfl ?_
    exact hK v5 st h
  · have h := kIn c_12 h
    refine x_aload_n (pc := 108) C 0 dX10_letters_108 rfl rfl ?_
    refine x_get (pc := 109) C inlX10 0 rfl rfl 11 (by decide) q5_19 (v := .ref (a 6)) rfl dX10_letters_109 ?_
    refine x_aload_n (pc := 112) C 0 dX10_letters_112 rfl rfl ?_
    refine x_get (pc := 113) C inlX10 0 rfl rfl 10 (by decide) q7_14 (v := .int (gI st 4)) rfl dX10_letters_113 ?_
    refine x_iload (pc := 116) C 3 dX10_letters_116 rfl ?_
    refine x_iadd (pc := 118) C dX10_letters_118 ?_
    refine x_lload_n (pc := 119) C 1 dX10_letters_119 rfl rfl ?_
    refine x_bipush (pc := 120) C 8 dX10_letters_120 (by decide) ?_
    refine x_iload (pc := 122) C 3 dX10_letters_122 rfl ?_
    refine x_imul (pc := 124) C dX10_letters_124 ?_
    refine y_lshr (pc := 125) C dX10_letters_125 ?_
    refine x_l2i (pc := 126) C dX10_letters_126 ?_
    refine x_i2b (pc := 127) C dX10_letters_127 ?_
    obtain ⟨hi_13, h⟩ := kGn h
    refine x_bast (pc := 128) C 6 (lwM_A6 G a rfl) hi_13 (swM_A6 G a _ _) dX10_letters_128 ?_
    refine x_iinc (pc := 129) C 3 (v := v5 + 1) (lv' := [(5, .int (v5 + 1)), (0, .ref (a 0)), (1, .long v1), (3, .int v3)]) dX10_letters_129 rfl rfl (by decide) rfl ?_
    refine x_goto (pc := 132) C 102 dX10_letters_132 (by decide) ?_
    refine kX.pick [1, 2, 3, 0] (lv' := [(0, .ref (a 0)), (1, .long v1), (3, .int v3), (5, .int (v5 + 1))]) rfl ?_
    exact hG (v5 + 1) (sA st 6 (upd (gA st 6) ((gI st 4) + v5).toNatClampNeg (vp_nar .byte (((klshr v1 (8 * v5)).toInt32).toInt8.toInt32)))) h
def fX10_letters_L102 (K : Int32 → kS → Option (Int32 × kS)) (v1 : Int64) (v3 : Int32) : Nat → Int32 → kS → Option (Int32 × kS)
  | 0, _, _ => none
  | F + 1, v5, st => fX10_letters_L102_B K (fX10_letters_L102 K v1 v3 F) st v1 v3 v5
set_option maxRecDepth 100000 in
set_option maxHeartbeats 4000000 in
theorem wX10_letters_L102 {G : kG} {E : kE} {a : Nat → Nat} (C : kOk G E cX10_letters RX10 7 rmfX10_letters) {z : Int32 × kS} (Zd : kEnd G E (0, 0) (some .int) (some (.int z.1)) (wM G a z.2)) {K : Int32 → kS → Option (Int32 × kS)} (v1 : Int64) (v3 : Int32) (hK : ∀ (u5 : Int32) (su : kS), K u5 su = some z → kX G E (0, 0) (wM G a su) 135 [(0, .ref (a 0)), (3, .int v3)] []) : ∀ (F : Nat) (v5 : Int32) (st : kS), fX10_letters_L102 K v1 v3 F v5 st = some z → kX G E (0, 0) (wM G a st) 102 [(0, .ref (a 0)), (1, .long v1), (3, .int v3), (5, .int v5)] [] := by
  intro F
  induction F with
  | zero =>
    intro v5 st h
    exact absurd (show none = some z from h) (fun q => by cases q)
  | succ F ih =>
    intro v5 st h
    exact wX10_letters_L102_B  C Zd  st v1 v3 v5 hK (fun v5 st h => ih v5 st h) h
def fX10_letters (st : kS) (x1 : Int64) : Option (Int32 × kS) := fX10_letters_L8 (fun v3_8 v4_9 v5_10 => if ((gI st 4) + v3_8) ≤ 26 then (fX10_letters_L102 (fun v5_14 st_15 => some (((gI st_15 4) + v3_8), (sI st_15 4 ((gI st_15 4) + v3_8)))) x1 v3_8 kFU 0 st) else (some ((-104), st))) st x1 kFU 0 0 0
set_option maxRecDepth 100000 in
set_option maxHeartbeats 4000000 in
theorem wX10_letters {G : kG} {E : kE} {a : Nat → Nat} (C : kOk G E cX10_letters RX10 7 rmfX10_letters) {z : Int32 × kS} (Zd : kEnd G E (0, 0) (some .int) (some (.int z.1)) (wM G a z.2)) (st : kS) (x1 : Int64) (h : fX10_letters st x1 = some z) : kX G E (0, 0) (wM G a st) 0 [(0, .ref (a 0)), (1, .long x1)] [] := by
  unfold fX10_letters at h
  refine x_iconst (pc := 0) C 0 dX10_letters_0 (by decide) ?_
  refine x_istore_n (pc := 1) C (lv' := [(3, .int 0), (0, .ref (a 0)), (1, .long x1)]) dX10_letters_1 rfl (by decide) rfl ?_
  refine x_iconst (pc := 2) C 0 dX10_letters_2 (by decide) ?_
  refine x_istore (pc := 3) C (lv' := [(4, .int 0), (3, .int 0), (0, .ref (a 0)), (1, .long x1)]) dX10_letters_3 (by decide) rfl ?_
  refine x_iconst (pc := 5) C 0 dX10_letters_5 (by decide) ?_
  refine x_istore (pc := 6) C (lv' := [(5, .int 0), (4, .int 0), (3, .int 0), (0, .ref (a 0)), (1, .long x1)]) dX10_letters_6 (by decide) rfl ?_
  refine kX.pick [3, 4, 2, 1, 0] (lv' := [(0, .ref (a 0)), (1, .long x1), (3, .int 0), (4, .int 0), (5, .int 0)]) rfl ?_
  refine wX10_letters_L8  C Zd  st x1 (fun v3_8 v4_9 v5_10 h => ?_) kFU 0 0 0 h
  refine x_aload_n (pc := 85) C 0 dX10_letters_85 rfl rfl ?_
  refine x_get (pc := 86) C inlX10 0 rfl rfl 10 (by decide) q7_14 (v := .int (gI st 4)) rfl dX10_letters_86 ?_
  refine x_iload_n (pc := 89) C 2 dX10_letters_89 rfl rfl ?_
  refine x_iadd (pc := 90) C dX10_letters_90 ?_
  refine x_bipush (pc := 91) C 26 dX10_letters_91 (by decide) ?_
  refine x_icmp_le (pc := 93) C 99 dX10_letters_93 (by decide) (fun c_11 => ?_) (fun c_11 => ?_)
  · have h := kIp c_11 h
    refine x_iconst (pc := 99) C 0 dX10_letters_99 (by decide) ?_
    refine x_istore (pc := 100) C (lv' := [(5, .int 0), (0, .ref (a 0)), (1, .long x1), (3, .int v3_8)]) dX10_letters_100 (by decide) rfl ?_
    refine kX.pick [1, 2, 3, 0] (lv' := [(0, .ref (a 0)), (1, .long x1), (3, .int v3_8), (5, .int 0)]) rfl ?_
    refine wX10_letters_L102  C Zd  x1 v3_8 (fun v5_14 st_15 h => ?_) kFU 0 st h
    refine x_aload_n (pc := 135) C 0 dX10_letters_135 rfl rfl ?_
    refine x_dup (pc := 136) C dX10_letters_136 rfl ?_
    refine x_get (pc := 137) C inlX10 0 rfl rfl 10 (by decide) q7_14 (v := .int (gI st_15 4)) rfl dX10_letters_137 ?_
    refine x_iload_n (pc := 140) C 1 dX10_letters_140 rfl rfl ?_
    refine x_iadd (pc := 141) C dX10_letters_141 ?_
    refine x_put (pc := 142) C inlX10 tyX10 tyX10_ok nmX10 0 rfl rfl 10 (by decide) q7_14 rfl .int (v := .int ((gI st_15 4) + v3_8)) (by decide +kernel) rfl rfl (Nat.le_of_ble_eq_true rfl) (swM_I4 G a _ _) dX10_letters_142 ?_
    refine x_aload_n (pc := 145) C 0 dX10_letters_145 rfl rfl ?_
    refine x_get (pc := 146) C inlX10 0 rfl rfl 10 (by decide) q7_14 (v := .int ((gI st_15 4) + v3_8)) rfl dX10_letters_146 ?_
    obtain rfl := Option.some.inj h
    exact x_iret (pc := 149) C Zd dX10_letters_149
  · have h := kIn c_11 h
    refine x_bipush (pc := 96) C (-104) dX10_letters_96 (by decide) ?_
    obtain rfl := Option.some.inj h
    exact x_iret (pc := 98) C Zd dX10_letters_98
set_option maxRecDepth 100000 in
theorem mX10_letters (G : kG) (a : Nat → Nat) (st : kS) (x1 : Int64) {z : Int32 × kS} (h : fX10_letters st x1 = some z) : kMet G yX10_letters cX10_letters 7 (some .int) rmfX10_letters (0, 0) [.ref (a 0), .long x1] (wM G a st) (some (.int z.1)) (wM G a z.2) := kMet.mk (by decide +kernel) (Nat.le_of_ble_eq_true rfl) (fun E C Zd => wX10_letters  C Zd  st x1 h)
theorem yvX10_blank : kYV yX10_blank RX10 cX10_blank 2 (some .int) 0 := ⟨q8_0, q8_1, q1_5, q8_2, by decide +kernel⟩
abbrev rmfX10_blank : Room := { frames := 0, cells := 0, slots := 0, locals := 0 }
def fX10_blank (st : kS) : Int32 × kS := ((gI st 4), (sI st 4 0))
set_option maxRecDepth 100000 in
set_option maxHeartbeats 4000000 in
theorem wX10_blank {G : kG} {E : kE} {a : Nat → Nat} (C : kOk G E cX10_blank RX10 2 rmfX10_blank) {z : Int32 × kS} (Zd : kEnd G E (0, 0) (some .int) (some (.int z.1)) (wM G a z.2)) (st : kS) (h : fX10_blank st = z) : kX G E (0, 0) (wM G a st) 0 [(0, .ref (a 0))] [] := by
  unfold fX10_blank at h
  refine x_aload_n (pc := 0) C 0 dX10_blank_0 rfl rfl ?_
  refine x_get (pc := 1) C inlX10 0 rfl rfl 10 (by decide) q7_14 (v := .int (gI st 4)) rfl dX10_blank_1 ?_
  refine x_istore_n (pc := 4) C (lv' := [(1, .int (gI st 4)), (0, .ref (a 0))]) dX10_blank_4 rfl (by decide) rfl ?_
  refine x_aload_n (pc := 5) C 1 dX10_blank_5 rfl rfl ?_
  refine x_iconst (pc := 6) C 0 dX10_blank_6 (by decide) ?_
  refine x_put (pc := 7) C inlX10 tyX10 tyX10_ok nmX10 0 rfl rfl 10 (by decide) q7_14 rfl .int (v := .int 0) (by decide +kernel) rfl rfl (Nat.le_of_ble_eq_true rfl) (swM_I4 G a _ _) dX10_blank_7 ?_
  refine x_iload_n (pc := 10) C 0 dX10_blank_10 rfl rfl ?_
  subst h
  exact x_iret (pc := 11) C Zd dX10_blank_11
set_option maxRecDepth 100000 in
theorem mX10_blank (G : kG) (a : Nat → Nat) (st : kS)  : kMet G yX10_blank cX10_blank 2 (some .int) rmfX10_blank (0, 0) [.ref (a 0)] (wM G a st) (some (.int (fX10_blank st).1)) (wM G a (fX10_blank st).2) := kMet.mk (by decide +kernel) (Nat.le_of_ble_eq_true rfl) (fun E C Zd => wX10_blank  C Zd  st  rfl)
theorem ysX10_within : kYS yX10_within cX10_within 3 (some .boolean) 3 := ⟨q10_3, q1_5, q10_4, by decide +kernel⟩
abbrev rmfX10_within : Room := { frames := 0, cells := 0, slots := 0, locals := 0 }
def fX10_within (x0 : Int32) (x1 : Int32) (x2 : Int32) : Int32 := if x0 < x1 then (0) else (if x2 < x0 then (0) else (1))
set_option maxRecDepth 100000 in
set_option maxHeartbeats 4000000 in
theorem wX10_within {G : kG} {E : kE} {ws : va_W} (C : kOk G E cX10_within RX10 3 rmfX10_within) {z : Int32} (Zd : kEnd G E (0, 0) (some .boolean) (some (.int z)) ws) (x0 : Int32) (x1 : Int32) (x2 : Int32) (h : fX10_within x0 x1 x2 = z) : kX G E (0, 0) ws 0 [(0, .int x0), (1, .int x1), (2, .int x2)] [] := by
  unfold fX10_within at h
  refine x_iload_n (pc := 0) C 0 dX10_within_0 rfl rfl ?_
  refine x_iload_n (pc := 1) C 1 dX10_within_1 rfl rfl ?_
  refine x_icmp_lt (pc := 2) C 14 dX10_within_2 (by decide) (fun c_1 => ?_) (fun c_1 => ?_)
  · have h := kIp c_1 h
    refine x_iconst (pc := 14) C 0 dX10_within_14 (by decide) ?_
    subst h
    exact x_zret (pc := 15) C rfl Zd dX10_within_15
  · have h := kIn c_1 h
    refine x_iload_n (pc := 5) C 0 dX10_within_5 rfl rfl ?_
    refine x_iload_n (pc := 6) C 2 dX10_within_6 rfl rfl ?_
    refine x_icmp_gt (pc := 7) C 14 dX10_within_7 (by decide) (fun c_2 => ?_) (fun c_2 => ?_)
    · have h := kIp c_2 h
      refine x_iconst (pc := 14) C 0 dX10_within_14 (by decide) ?_
      subst h
      exact x_zret (pc := 15) C rfl Zd dX10_within_15
    · have h := kIn c_2 h
      refine x_iconst (pc := 10) C 1 dX10_within_10 (by decide) ?_
      refine x_goto (pc := 11) C 15 dX10_within_11 (by decide) ?_
      subst h
      exact x_zret (pc := 15) C rfl Zd dX10_within_15
set_option maxRecDepth 100000 in
theorem mX10_within (G : kG) {ws : va_W} (x0 : Int32) (x1 : Int32) (x2 : Int32) : kMet G yX10_within cX10_within 3 (some .boolean) rmfX10_within (0, 0) [.int x0, .int x1, .int x2] ws (some (.int (fX10_within x0 x1 x2))) ws := kMet.mk (by decide +kernel) (Nat.le_of_ble_eq_true rfl) (fun E C Zd => wX10_within  C Zd  x0 x1 x2 rfl)
theorem ysX10_sortBy : kYS yX10_sortBy cX10_sortBy 1 (some .int) 1 := ⟨q11_8, q1_5, q11_9, by decide +kernel⟩
abbrev rmfX10_sortBy : Room := { frames := 0, cells := 0, slots := 0, locals := 0 }
def fX10_sortBy (x0 : Int32) : Int32 := if x0 = 110 then (0) else (if x0 = 114 then (1) else (if x0 = 108 then (2) else (if x0 = 98 then (3) else ((-1)))))
set_option maxRecDepth 100000 in
set_option maxHeartbeats 4000000 in
theorem wX10_sortBy {G : kG} {E : kE} {ws : va_W} (C : kOk G E cX10_sortBy RX10 1 rmfX10_sortBy) {z : Int32} (Zd : kEnd G E (0, 0) (some .int) (some (.int z)) ws) (x0 : Int32) (h : fX10_sortBy x0 = z) : kX G E (0, 0) ws 0 [(0, .int x0)] [] := by
  unfold fX10_sortBy at h
  refine x_iload_n (pc := 0) C 0 dX10_sortBy_0 rfl rfl ?_
  refine x_bipush (pc := 1) C 110 dX10_sortBy_1 (by decide) ?_
  refine x_icmp_ne (pc := 3) C 10 dX10_sortBy_3 (by decide) (fun c_1 => ?_) (fun c_1 => ?_)
  · have h := kIn c_1 h
    refine x_iload_n (pc := 10) C 0 dX10_sortBy_10 rfl rfl ?_
    refine x_bipush (pc := 11) C 114 dX10_sortBy_11 (by decide) ?_
    refine x_icmp_ne (pc := 13) C 20 dX10_sortBy_13 (by decide) (fun c_2 => ?_) (fun c_2 => ?_)
    · have h := kIn c_2 h
      refine x_iload_n (pc := 20) C 0 dX10_sortBy_20 rfl rfl ?_
      refine x_bipush (pc := 21) C 108 dX10_sortBy_21 (by decide) ?_
      refine x_icmp_ne (pc := 23) C 30 dX10_sortBy_23 (by decide) (fun c_3 => ?_) (fun c_3 => ?_)
      · have h := kIn c_3 h
        refine x_iload_n (pc := 30) C 0 dX10_sortBy_30 rfl rfl ?_
        refine x_bipush (pc := 31) C 98 dX10_sortBy_31 (by decide) ?_
        refine x_icmp_ne (pc := 33) C 40 dX10_sortBy_33 (by decide) (fun c_4 => ?_) (fun c_4 => ?_)
        · have h := kIn c_4 h
          refine x_iconst (pc := 40) C (-1) dX10_sortBy_40 (by decide) ?_
          subst h
          exact x_iret (pc := 41) C Zd dX10_sortBy_41
        · have h := kIp c_4 h
          refine x_iconst (pc := 36) C 3 dX10_sortBy_36 (by decide) ?_
          refine x_goto (pc := 37) C 41 dX10_sortBy_37 (by decide) ?_
          subst h
          exact x_iret (pc := 41) C Zd dX10_sortBy_41
      · have h := kIp c_3 h
        refine x_iconst (pc := 26) C 2 dX10_sortBy_26 (by decide) ?_
        refine x_goto (pc := 27) C 41 dX10_sortBy_27 (by decide) ?_
        subst h
        exact x_iret (pc := 41) C Zd dX10_sortBy_41
    · have h := kIp c_2 h
      refine x_iconst (pc := 16) C 1 dX10_sortBy_16 (by decide) ?_
      refine x_goto (pc := 17) C 41 dX10_sortBy_17 (by decide) ?_
      subst h
      exact x_iret (pc := 41) C Zd dX10_sortBy_41
  · have h := kIp c_1 h
    refine x_iconst (pc := 6) C 0 dX10_sortBy_6 (by decide) ?_
    refine x_goto (pc := 7) C 41 dX10_sortBy_7 (by decide) ?_
    subst h
    exact x_iret (pc := 41) C Zd dX10_sortBy_41
set_option maxRecDepth 100000 in
theorem mX10_sortBy (G : kG) {ws : va_W} (x0 : Int32) : kMet G yX10_sortBy cX10_sortBy 1 (some .int) rmfX10_sortBy (0, 0) [.int x0] ws (some (.int (fX10_sortBy x0))) ws := kMet.mk (by decide +kernel) (Nat.le_of_ble_eq_true rfl) (fun E C Zd => wX10_sortBy  C Zd  x0 rfl)
theorem yvX10_nextLetter : kYV yX10_nextLetter RX10 cX10_nextLetter 4 (some .int) 2 := ⟨q11_0, q11_1, q1_5, q11_2, by decide +kernel⟩
abbrev rmfX10_nextLetter : Room := { frames := 1, cells := 0, slots := 0, locals := 22 }
def fX10_nextLetter (st : kS) (x1 : Int32) (x2 : Int32) : Int32 × kS := if x1 = 0 then (if (fX10_sortBy x2) = (-1) then (((-1), (sI st 12 (fX10_sortBy x2)))) else (if (fX10_sortBy x2) = 0 then ((2, (sI st 12 (fX10_sortBy x2)))) else (if (fX10_sortBy x2) = 3 then ((3, (sI st 12 (fX10_sortBy x2)))) else ((1, (sI st 12 (fX10_sortBy x2))))))) else (if x1 = 1 then (if (fX10_within x2 49 57) = 0 then (((-1), (sI st 13 (x2 - 48)))) else ((2, (sI st 13 (x2 - 48))))) else (if x1 = 2 then (if (fX10_within x2 48 53) = 0 then (((-1), (sI st 14 (x2 - 48)))) else ((5, (sI st 14 (x2 - 48))))) else (if x1 = 3 then (if (fX10_within x2 48 53) = 0 then (((-1), (sI st 14 (x2 - 48)))) else ((4, (sI st 14 (x2 - 48))))) else (if x1 = 4 then (if (fX10_within x2 48 53) = 0 then (((-1), (sI st 15 (x2 - 48)))) else (if (x2 - 48) = (gI st 14) then (((-1), (sI st 15 (x2 - 48)))) else ((5, (sI st 15 (x2 - 48)))))) else (((-1), st))))))
set_option maxRecDepth 100000 in
set_option maxHeartbeats 4000000 in
theorem wX10_nextLetter {G : kG} {E : kE} {a : Nat → Nat} (C : kOk G E cX10_nextLetter RX10 4 rmfX10_nextLetter) {z : Int32 × kS} (Zd : kEnd G E (0, 0) (some .int) (some (.int z.1)) (wM G a z.2)) (st : kS) (x1 : Int32) (x2 : Int32) (h : fX10_nextLetter st x1 x2 = z) : kX G E (0, 0) (wM G a st) 0 [(0, .ref (a 0)), (1, .int x1), (2, .int x2)] [] := by
  unfold fX10_nextLetter at h
  refine x_iload_n (pc := 0) C 2 dX10_nextLetter_0 rfl rfl ?_
  refine x_bipush (pc := 1) C 48 dX10_nextLetter_1 (by decide) ?_
  refine x_bipush (pc := 3) C 53 dX10_nextLetter_3 (by decide) ?_
  refine x_callS (pc := 5) C [.int x2, .int 48, .int 53] (mX10_within G x2 48 53) ysX10_within q10_2 ⟨Nat.le_of_ble_eq_true rfl, Nat.le_of_ble_eq_true rfl, rfl, rfl⟩ ⟨Nat.zero_le _, Nat.zero_le _⟩ rfl rfl (Nat.le_of_ble_eq_true rfl) rfl dX10_nextLetter_5 ?_
  refine x_istore_n (pc := 8) C (lv' := [(3, .int (fX10_within x2 48 53)), (0, .ref (a 0)), (1, .int x1), (2, .int x2)]) dX10_nextLetter_8 rfl (by decide) rfl ?_
  refine x_iload_n (pc := 9) C 2 dX10_nextLetter_9 rfl rfl ?_
  rcases Decidable.em (x1 = 0) with c_1 | c_1
  · have h := kIp c_1 h
    refine x_tsIn (pc := 10) C 44 dX10_nextLetter_10 (by rw [c_1]; decide) (by rw [c_1]; decide) (by rw [c_1]; rfl) (by decide) ?_
    refine x_aload_n (pc := 44) C 1 dX10_nextLetter_44 rfl rfl ?_
    refine x_iload_n (pc := 45) C 3 dX10_nextLetter_45 rfl rfl ?_
    refine x_callS (pc := 46) C [.int x2] (mX10_sortBy G x2) ysX10_sortBy q11_7 ⟨Nat.le_of_ble_eq_true rfl, Nat.le_of_ble_eq_true rfl, rfl, rfl⟩ ⟨Nat.zero_le _, Nat.zero_le _⟩ rfl rfl (Nat.le_of_ble_eq_true rfl) rfl dX10_nextLetter_46 ?_
    refine x_put (pc := 49) C inlX10 tyX10 tyX10_ok nmX10 0 rfl rfl 25 (by decide) q11_3 rfl .int (v := .int (fX10_sortBy x2)) (by decide +kernel) rfl rfl (Nat.le_of_ble_eq_true rfl) (swM_I12 G a _ _) dX10_nextLetter_49 ?_
    refine x_aload_n (pc := 52) C 1 dX10_nextLetter_52 rfl rfl ?_
    refine x_get (pc := 53) C inlX10 0 rfl rfl 25 (by decide) q11_3 (v := .int (fX10_sortBy x2)) rfl dX10_nextLetter_53 ?_
    refine x_iconst (pc := 56) C (-1) dX10_nextLetter_56 (by decide) ?_
    refine x_icmp_ne (pc := 57) C 64 dX10_nextLetter_57 (by decide) (fun c_2 => ?_) (fun c_2 => ?_)
    · have h := kIn c_2 h
      refine x_aload_n (pc := 64) C 1 dX10_nextLetter_64 rfl rfl ?_
      refine x_get (pc := 65) C inlX10 0 rfl rfl 25 (by decide) q11_3 (v := .int (fX10_sortBy x2)) rfl dX10_nextLetter_65 ?_
      refine x_if_ne (pc := 68) C 75 dX10_nextLetter_68 (by decide) (fun c_3 => ?_) (fun c_3 => ?_)
      · have h := kIn c_3 h
        refine x_aload_n (pc := 75) C 1 dX10_nextLetter_75 rfl rfl ?_
        refine x_get (pc := 76) C inlX10 0 rfl rfl 25 (by decide) q11_3 (v := .int (fX10_sortBy x2)) rfl dX10_nextLetter_76 ?_
        refine x_iconst (pc := 79) C 3 dX10_nextLetter_79 (by decide) ?_
        refine x_icmp_ne (pc := 80) C 87 dX10_nextLetter_80 (by decide) (fun c_4 => ?_) (fun c_4 => ?_)
        · have h := kIn c_4 h
          refine x_iconst (pc := 87) C 1 dX10_nextLetter_87 (by decide) ?_
          subst h
          exact x_iret (pc := 88) C Zd dX10_nextLetter_88
        · have h := kIp c_4 h
          refine x_iconst (pc := 83) C 3 dX10_nextLetter_83 (by decide) ?_
          refine x_goto (pc := 84) C 88 dX10_nextLetter_84 (by decide) ?_
          subst h
          exact x_iret (pc := 88) C Zd dX10_nextLetter_88
      · have h := kIp c_3 h
        refine x_iconst (pc := 71) C 2 dX10_nextLetter_71 (by decide) ?_
        refine x_goto (pc := 72) C 88 dX10_nextLetter_72 (by decide) ?_
        subst h
        exact x_iret (pc := 88) C Zd dX10_nextLetter_88
    · have h := kIp c_2 h
      refine x_iconst (pc := 60) C (-1) dX10_nextLetter_60 (by decide) ?_
      refine x_goto (pc := 61) C 88 dX10_nextLetter_61 (by decide) ?_
      subst h
      exact x_iret (pc := 88) C Zd dX10_nextLetter_88
  have h := kIn c_1 h
  rcases Decidable.em (x1 = 1) with c_5 | c_5
  · have h := kIp c_5 h
    refine x_tsIn (pc := 10) C 89 dX10_nextLetter_10 (by rw [c_5]; decide) (by rw [c_5]; decide) (by rw [c_5]; rfl) (by decide) ?_
    refine x_aload_n (pc := 89) C 1 dX10_nextLetter_89 rfl rfl ?_
    refine x_iload_n (pc := 90) C 3 dX10_nextLetter_90 rfl rfl ?_
    refine x_bipush (pc := 91) C 48 dX10_nextLetter_91 (by decide) ?_
    refine x_isub (pc := 93) C dX10_nextLetter_93 ?_
    refine x_put (pc := 94) C inlX10 tyX10 tyX10_ok nmX10 0 rfl rfl 26 (by decide) q11_4 rfl .int (v := .int (x2 - 48)) (by decide +kernel) rfl rfl (Nat.le_of_ble_eq_true rfl) (swM_I13 G a _ _) dX10_nextLetter_94 ?_
    refine x_iload_n (pc := 97) C 3 dX10_nextLetter_97 rfl rfl ?_
    refine x_bipush (pc := 98) C 49 dX10_nextLetter_98 (by decide) ?_
    refine x_bipush (pc := 100) C 57 dX10_nextLetter_100 (by decide) ?_
    refine x_callS (pc := 102) C [.int x2, .int 49, .int 57] (mX10_within G x2 49 57) ysX10_within q10_2 ⟨Nat.le_of_ble_eq_true rfl, Nat.le_of_ble_eq_true rfl, rfl, rfl⟩ ⟨Nat.zero_le _, Nat.zero_le _⟩ rfl rfl (Nat.le_of_ble_eq_true rfl) rfl dX10_nextLetter_102 ?_
    refine x_if_eq (pc := 105) C 112 dX10_nextLetter_105 (by decide) (fun c_6 => ?_) (fun c_6 => ?_)
    · have h := kIp c_6 h
      refine x_iconst (pc := 112) C (-1) dX10_nextLetter_112 (by decide) ?_
      subst h
      exact x_iret (pc := 113) C Zd dX10_nextLetter_113
    · have h := kIn c_6 h
      refine x_iconst (pc := 108) C 2 dX10_nextLetter_108 (by decide) ?_
      refine x_goto (pc := 109) C 113 dX10_nextLetter_109 (by decide) ?_
      subst h
      exact x_iret (pc := 113) C Zd dX10_nextLetter_113
  have h := kIn c_5 h
  rcases Decidable.em (x1 = 2) with c_7 | c_7
  · have h := kIp c_7 h
    refine x_tsIn (pc := 10) C 114 dX10_nextLetter_10 (by rw [c_7]; decide) (by rw [c_7]; decide) (by rw [c_7]; rfl) (by decide) ?_
    refine x_aload_n (pc := 114) C 1 dX10_nextLetter_114 rfl rfl ?_
    refine x_iload_n (pc := 115) C 3 dX10_nextLetter_115 rfl rfl ?_
    refine x_bipush (pc := 116) C 48 dX10_nextLetter_116 (by decide) ?_
    refine x_isub (pc := 118) C dX10_nextLetter_118 ?_
    refine x_put (pc := 119) C inlX10 tyX10 tyX10_ok nmX10 0 rfl rfl 27 (by decide) q11_5 rfl .int (v := .int (x2 - 48)) (by decide +kernel) rfl rfl (Nat.le_of_ble_eq_true rfl) (swM_I14 G a _ _) dX10_nextLetter_119 ?_
    refine x_iload_n (pc := 122) C 0 dX10_nextLetter_122 rfl rfl ?_
    refine x_if_eq (pc := 123) C 130 dX10_nextLetter_123 (by decide) (fun c_8 => ?_) (fun c_8 => ?_)
    · have h := kIp c_8 h
      refine x_iconst (pc := 130) C (-1) dX10_nextLetter_130 (by decide) ?_
      subst h
      exact x_iret (pc := 131) C Zd dX10_nextLetter_131
    · have h := kIn c_8 h
      refine x_iconst (pc := 126) C 5 dX10_nextLetter_126 (by decide) ?_
      refine x_goto (pc := 127) C 131 dX10_nextLetter_127 (by decide) ?_
      subst h
      exact x_iret (pc := 131) C Zd dX10_nextLetter_131
  have h := kIn c_7 h
  rcases Decidable.em (x1 = 3) with c_9 | c_9
  · have h := kIp c_9 h
    refine x_tsIn (pc := 10) C 132 dX10_nextLetter_10 (by rw [c_9]; decide) (by rw [c_9]; decide) (by rw [c_9]; rfl) (by decide) ?_
    refine x_aload_n (pc := 132) C 1 dX10_nextLetter_132 rfl rfl ?_
    refine x_iload_n (pc := 133) C 3 dX10_nextLetter_133 rfl rfl ?_
    refine x_bipush (pc := 134) C 48 dX10_nextLetter_134 (by decide) ?_
    refine x_isub (pc := 136) C dX10_nextLetter_136 ?_
    refine x_put (pc := 137) C inlX10 tyX10 tyX10_ok nmX10 0 rfl rfl 27 (by decide) q11_5 rfl .int (v := .int (x2 - 48)) (by decide +kernel) rfl rfl (Nat.le_of_ble_eq_true rfl) (swM_I14 G a _ _) dX10_nextLetter_137 ?_
    refine x_iload_n (pc := 140) C 0 dX10_nextLetter_140 rfl rfl ?_
    refine x_if_eq (pc := 141) C 148 dX10_nextLetter_141 (by decide) (fun c_10 => ?_) (fun c_10 => ?_)
    · have h := kIp c_10 h
      refine x_iconst (pc := 148) C (-1) dX10_nextLetter_148 (by decide) ?_
      subst h
      exact x_iret (pc := 149) C Zd dX10_nextLetter_149
    · have h := kIn c_10 h
      refine x_iconst (pc := 144) C 4 dX10_nextLetter_144 (by decide) ?_
      refine x_goto (pc := 145) C 149 dX10_nextLetter_145 (by decide) ?_
      subst h
      exact x_iret (pc := 149) C Zd dX10_nextLetter_149
  have h := kIn c_9 h
  rcases Decidable.em (x1 = 4) with c_11 | c_11
  · have h := kIp c_11 h
    refine x_tsIn (pc := 10) C 150 dX10_nextLetter_10 (by rw [c_11]; decide) (by rw [c_11]; decide) (by rw [c_11]; rfl) (by decide) ?_
    refine x_aload_n (pc := 150) C 1 dX10_nextLetter_150 rfl rfl ?_
    refine x_iload_n (pc := 151) C 3 dX10_nextLetter_151 rfl rfl ?_
    refine x_bipush (pc := 152) C 48 dX10_nextLetter_152 (by decide) ?_
    refine x_isub (pc := 154) C dX10_nextLetter_154 ?_
    refine x_put (pc := 155) C inlX10 tyX10 tyX10_ok nmX10 0 rfl rfl 28 (by decide) q11_6 rfl .int (v := .int (x2 - 48)) (by decide +kernel) rfl rfl (Nat.le_of_ble_eq_true rfl) (swM_I15 G a _ _) dX10_nextLetter_155 ?_
    refine x_iload_n (pc := 158) C 0 dX10_nextLetter_158 rfl rfl ?_
    refine x_if_eq (pc := 159) C 177 dX10_nextLetter_159 (by decide) (fun c_12 => ?_) (fun c_12 => ?_)
    · have h := kIp c_12 h
      refine x_iconst (pc := 177) C (-1) dX10_nextLetter_177 (by decide) ?_
      subst h
      exact x_iret (pc := 178) C Zd dX10_nextLetter_178
    · have h := kIn c_12 h
      refine x_aload_n (pc := 162) C 1 dX10_nextLetter_162 rfl rfl ?_
      refine x_get (pc := 163) C inlX10 0 rfl rfl 28 (by decide) q11_6 (v := .int (x2 - 48)) rfl dX10_nextLetter_163 ?_
      refine x_aload_n (pc := 166) C 1 dX10_nextLetter_166 rfl rfl ?_
      refine x_get (pc := 167) C inlX10 0 rfl rfl 27 (by decide) q11_5 (v := .int (gI st 14)) rfl dX10_nextLetter_167 ?_
      refine x_icmp_eq (pc := 170) C 177 dX10_nextLetter_170 (by decide) (fun c_13 => ?_) (fun c_13 => ?_)
      · have h := kIp c_13 h
        refine x_iconst (pc := 177) C (-1) dX10_nextLetter_177 (by decide) ?_
        subst h
        exact x_iret (pc := 178) C Zd dX10_nextLetter_178
      · have h := kIn c_13 h
        refine x_iconst (pc := 173) C 5 dX10_nextLetter_173 (by decide) ?_
        refine x_goto (pc := 174) C 178 dX10_nextLetter_174 (by decide) ?_
        subst h
        exact x_iret (pc := 178) C Zd dX10_nextLetter_178
  have h := kIn c_11 h
  refine x_tsOut (pc := 10) C 179 dX10_nextLetter_10 (k_out (fun i hi1 hi2 => by
      have hq : i = 0 ∨ i = 1 ∨ i = 2 ∨ i = 3 ∨ i = 4 := by omega
      rcases hq with rfl | rfl | rfl | rfl | rfl
      · exact lv_neT c_1 rfl
      · exact lv_neT c_5 rfl
      · exact lv_neT c_7 rfl
      · exact lv_neT c_9 rfl
      · exact lv_neT c_11 rfl)) (by decide) ?_
  refine x_iconst (pc := 179) C (-1) dX10_nextLetter_179 (by decide) ?_
  subst h
  exact x_iret (pc := 180) C Zd dX10_nextLetter_180
set_option maxRecDepth 100000 in
theorem mX10_nextLetter (G : kG) (a : Nat → Nat) (st : kS) (x1 : Int32) (x2 : Int32) : kMet G yX10_nextLetter cX10_nextLetter 4 (some .int) rmfX10_nextLetter (0, 0) [.ref (a 0), .int x1, .int x2] (wM G a st) (some (.int (fX10_nextLetter st x1 x2).1)) (wM G a (fX10_nextLetter st x1 x2).2) := kMet.mk (by decide +kernel) (Nat.le_of_ble_eq_true rfl) (fun E C Zd => wX10_nextLetter  C Zd  st x1 x2 rfl)
theorem yvX10_readLetter : kYV yX10_readLetter RX10 cX10_readLetter 5 none 0 := ⟨q10_20, q10_21, q1_5, q10_22, by decide +kernel⟩
abbrev rmfX10_readLetter : Room := { frames := 2, cells := 0, slots := 0, locals := 45 }
def fX10_readLetter_J53 (K : Int32 → Int32 → Int32 → kS → Option (kS)) (Gc : Int32 → Int32 → Int32 → kS → Option (kS)) (st : kS) (v2 : Int32) (v3 : Int32) (s0 : Int32) : Option (kS) := if v3 = 0 then (Gc s0 (v2 + 0) v3 st) else (Gc s0 (v2 + 1) v3 st)
set_option maxRecDepth 100000 in
set_option maxHeartbeats 4000000 in
theorem wX10_readLetter_J53 {G : kG} {E : kE} {a : Nat → Nat} (C : kOk G E cX10_readLetter RX10 5 rmfX10_readLetter) {z : kS} (Zd : kEnd G E (0, 0) none none (wM G a z)) {K Gc : Int32 → Int32 → Int32 → kS → Option (kS)} (st : kS) (v2 : Int32) (v3 : Int32) (s0 : Int32) (hK : ∀ (u1 : Int32) (u2 : Int32) (u3 : Int32) (su : kS), K u1 u2 u3 su = some z → kX G E (0, 0) (wM G a su) 69 [(0, .ref (a 0)), (1, .int u1), (2, .int u2)] []) (hG : ∀ (u1 : Int32) (u2 : Int32) (u3 : Int32) (su : kS), Gc u1 u2 u3 su = some z → kX G E (0, 0) (wM G a su) 6 [(0, .ref (a 0)), (1, .int u1), (2, .int u2), (3, .int u3)] []) (h : fX10_readLetter_J53 K Gc st v2 v3 s0 = some z) : kX G E (0, 0) (wM G a st) 53 [(0, .ref (a 0)), (2, .int v2), (3, .int v3)] [.int s0] := by
  unfold fX10_readLetter_J53 at h
  refine x_istore_n (pc := 53) C (lv' := [(1, .int s0), (0, .ref (a 0)), (2, .int v2), (3, .int v3)]) dX10_readLetter_53 rfl (by decide) rfl ?_
  refine x_iload_n (pc := 54) C 2 dX10_readLetter_54 rfl rfl ?_
  refine x_iload_n (pc := 55) C 3 dX10_readLetter_55 rfl rfl ?_
  refine x_if_eq (pc := 56) C 63 dX10_readLetter_56 (by decide) (fun c_7 => ?_) (fun c_7 => ?_)
  · have h := kIp c_7 h
    refine x_iconst (pc := 63) C 0 dX10_readLetter_63 (by decide) ?_
    refine x_iadd (pc := 64) C dX10_readLetter_64 ?_
    refine x_istore_n (pc := 65) C (lv' := [(2, .int (v2 + 0)), (1, .int s0), (0, .ref (a 0)), (3, .int v3)]) dX10_readLetter_65 rfl (by decide) rfl ?_
    refine x_goto (pc := 66) C 6 dX10_readLetter_66 (by decide) ?_
    refine kX.pick [2, 1, 0, 3] (lv' := [(0, .ref (a 0)), (1, .int s0), (2, .int (v2 + 0)), (3, .int v3)]) rfl ?_
    exact hG s0 (v2 + 0) v3 st h
  · have h := kIn c_7 h
    refine x_iconst (pc := 59) C 1 dX10_readLetter_59 (by decide) ?_
    refine x_goto (pc := 60) C 64 dX10_readLetter_60 (by decide) ?_
    refine x_iadd (pc := 64) C dX10_readLetter_64 ?_
    refine x_istore_n (pc := 65) C (lv' := [(2, .int (v2 + 1)), (1, .int s0), (0, .ref (a 0)), (3, .int v3)]) dX10_readLetter_65 rfl (by decide) rfl ?_
    refine x_goto (pc := 66) C 6 dX10_readLetter_66 (by decide) ?_
    refine kX.pick [2, 1, 0, 3] (lv' := [(0, .ref (a 0)), (1, .int s0), (2, .int (v2 + 1)), (3, .int v3)]) rfl ?_
    exact hG s0 (v2 + 1) v3 st h
def fX10_readLetter_J42 (K : Int32 → Int32 → Int32 → kS → Option (kS)) (Gc : Int32 → Int32 → Int32 → kS → Option (kS)) (st : kS) (v1 : Int32) (v2 : Int32) (v4 : Int32) (s0 : Int32) : Option (kS) := if s0 = 0 then (fX10_readLetter_J53 K Gc st v2 s0 v1) else (fX10_readLetter_J53 K Gc st v2 s0 v4)
set_option maxRecDepth 100000 in
set_option maxHeartbeats 4000000 in
theorem wX10_readLetter_J42 {G : kG} {E : kE} {a : Nat → Nat} (C : kOk G E cX10_readLetter RX10 5 rmfX10_readLetter) {z : kS} (Zd : kEnd G E (0, 0) none none (wM G a z)) {K Gc : Int32 → Int32 → Int32 → kS → Option (kS)} (st : kS) (v1 : Int32) (v2 : Int32) (v4 : Int32) (s0 : Int32) (hK : ∀ (u1 : Int32) (u2 : Int32) (u3 : Int32) (su : kS), K u1 u2 u3 su = some z → kX G E (0, 0) (wM G a su) 69 [(0, .ref (a 0)), (1, .int u1), (2, .int u2)] []) (hG : ∀ (u1 : Int32) (u2 : Int32) (u3 : Int32) (su : kS), Gc u1 u2 u3 su = some z → kX G E (0, 0) (wM G a su) 6 [(0, .ref (a 0)), (1, .int u1), (2, .int u2), (3, .int u3)] []) (h : fX10_readLetter_J42 K Gc st v1 v2 v4 s0 = some z) : kX G E (0, 0) (wM G a st) 42 [(0, .ref (a 0)), (1, .int v1), (2, .int v2), (4, .int v4)] [.int s0] := by
  unfold fX10_readLetter_J42 at h
  refine x_istore_n (pc := 42) C (lv' := [(3, .int s0), (0, .ref (a 0)), (1, .int v1), (2, .int v2), (4, .int v4)]) dX10_readLetter_42 rfl (by decide) rfl ?_
  refine x_iload_n (pc := 43) C 0 dX10_readLetter_43 rfl rfl ?_
  refine x_if_eq (pc := 44) C 52 dX10_readLetter_44 (by decide) (fun c_6 => ?_) (fun c_6 => ?_)
  · have h := kIp c_6 h
    refine x_iload_n (pc := 52) C 2 dX10_readLetter_52 rfl rfl ?_
    refine kX.pick [1, 3, 0] (lv' := [(0, .ref (a 0)), (2, .int v2), (3, .int s0)]) rfl ?_
    exact wX10_readLetter_J53  C Zd  st v2 s0 v1 hK hG h
  · have h := kIn c_6 h
    refine x_iload (pc := 47) C 4 dX10_readLetter_47 rfl ?_
    refine x_goto (pc := 49) C 53 dX10_readLetter_49 (by decide) ?_
    refine kX.pick [1, 3, 0] (lv' := [(0, .ref (a 0)), (2, .int v2), (3, .int s0)]) rfl ?_
    exact wX10_readLetter_J53  C Zd  st v2 s0 v4 hK hG h
def fX10_readLetter_L6_B (K : Int32 → Int32 → Int32 → kS → Option (kS)) (Gc : Int32 → Int32 → Int32 → kS → Option (kS)) (st : kS) (v1 : Int32) (v2 : Int32) (v3 : Int32) : Option (kS) := if (gI st 4) ≤ v2 then (K v1 v2 v3 st) else (if v3 = 0 then (K v1 v2 v3 st) else ((ka 26 (gA st 6) v2).bind (fun x_3 => if ((fX10_nextLetter st v1 x_3).1) = (-1) then (fX10_readLetter_J42 K Gc ((fX10_nextLetter st v1 x_3).2) v1 v2 ((fX10_nextLetter st v1 x_3).1) 0) else (fX10_readLetter_J42 K Gc ((fX10_nextLetter st v1 x_3).2) v1 v2 ((fX10_nextLetter st v1 x_3).1) 1))))
set_option maxRecDepth 100000 in
set_option maxHeartbeats 4000000 in
theorem wX10_readLetter_L6_B {G : kG} {E : kE} {a : Nat → Nat} (C : kOk G E cX10_readLetter RX10 5 rmfX10_readLetter) {z : kS} (Zd : kEnd G E (0, 0) none none (wM G a z)) {K Gc : Int32 → Int32 → Int32 → kS → Option (kS)} (st : kS) (v1 : Int32) (v2 : Int32) (v3 : Int32) (hK : ∀ (u1 : Int32) (u2 : Int32) (u3 : Int32) (su : kS), K u1 u2 u3 su = some z → kX G E (0, 0) (wM G a su) 69 [(0, .ref (a 0)), (1, .int u1), (2, .int u2)] []) (hG : ∀ (u1 : Int32) (u2 : Int32) (u3 : Int32) (su : kS), Gc u1 u2 u3 su = some z → kX G E (0, 0) (wM G a su) 6 [(0, .ref (a 0)), (1, .int u1), (2, .int u2), (3, .int u3)] []) (h : fX10_readLetter_L6_B K Gc st v1 v2 v3 = some z) : kX G E (0, 0) (wM G a st) 6 [(0, .ref (a 0)), (1, .int v1), (2, .int v2), (3, .int v3)] [] := by
  unfold fX10_readLetter_L6_B at h
  refine x_iload_n (pc := 6) C 2 dX10_readLetter_6 rfl rfl ?_
  refine x_aload_n (pc := 7) C 0 dX10_readLetter_7 rfl rfl ?_
  refine x_get (pc := 8) C inlX10 0 rfl rfl 10 (by decide) q7_14 (v := .int (gI st 4)) rfl dX10_readLetter_8 ?_
  refine x_icmp_ge (pc := 11) C 69 dX10_readLetter_11 (by decide) (fun c_1 => ?_) (fun c_1 => ?_)
  · have h := kIp c_1 h
    refine kX.pick [0, 1, 2] (lv' := [(0, .ref (a 0)), (1, .int v1), (2, .int v2)]) rfl ?_
    exact hK v1 v2 v3 st h
  · have h := kIn c_1 h
    refine x_iload_n (pc := 14) C 3 dX10_readLetter_14 rfl rfl ?_
    refine x_if_eq (pc := 15) C 69 dX10_readLetter_15 (by decide) (fun c_2 => ?_) (fun c_2 => ?_)
    · have h := kIp c_2 h
      refine kX.pick [0, 1, 2] (lv' := [(0, .ref (a 0)), (1, .int v1), (2, .int v2)]) rfl ?_
      exact hK v1 v2 v3 st h
    · have h := kIn c_2 h
      refine x_aload_n (pc := 18) C 0 dX10_readLetter_18 rfl rfl ?_
      refine x_iload_n (pc := 19) C 1 dX10_readLetter_19 rfl rfl ?_
      refine x_aload_n (pc := 20) C 0 dX10_readLetter_20 rfl rfl ?_
      refine x_get (pc := 21) C inlX10 0 rfl rfl 11 (by decide) q5_19 (v := .ref (a 6)) rfl dX10_readLetter_21 ?_
      refine x_iload_n (pc := 24) C 2 dX10_readLetter_24 rfl rfl ?_
      obtain ⟨x_3, hx_3, h⟩ := kB h
      obtain ⟨hi_4, hx_3⟩ := ka_some hx_3
      refine y_bald (pc := 25) C 6 (lwM_A6 G a rfl) hi_4 hx_3 dX10_readLetter_25 ?_
      refine x_callV (pc := 26) C 0 [.int v1, .int x_3] rfl rfl (mX10_nextLetter G a st v1 x_3) yvX10_nextLetter q10_23 ⟨Nat.le_of_ble_eq_true rfl, Nat.le_of_ble_eq_true rfl, rfl, rfl⟩ ⟨Nat.zero_le _, Nat.zero_le _⟩ rfl rfl (Nat.le_of_ble_eq_true rfl) rfl dX10_readLetter_26 ?_
      refine x_istore (pc := 29) C (lv' := [(4, .int ((fX10_nextLetter st v1 x_3).1)), (0, .ref (a 0)), (1, .int v1), (2, .int v2), (3, .int v3)]) dX10_readLetter_29 (by decide) rfl ?_
      refine x_iload (pc := 31) C 0 dX10_readLetter_31 rfl ?_
      refine x_iconst (pc := 33) C (-1) dX10_readLetter_33 (by decide) ?_
      refine x_icmp_eq (pc := 34) C 41 dX10_readLetter_34 (by decide) (fun c_5 => ?_) (fun c_5 => ?_)
      · have h := kIp c_5 h
        refine x_iconst (pc := 41) C 0 dX10_readLetter_41 (by decide) ?_
        refine kX.pick [1, 2, 3, 0] (lv' := [(0, .ref (a 0)), (1, .int v1), (2, .int v2), (4, .int ((fX10_nextLetter st v1 x_3).1))]) rfl ?_
        exact wX10_readLetter_J42  C Zd  ((fX10_nextLetter st v1 x_3).2) v1 v2 ((fX10_nextLetter st v1 x_3).1) 0 hK hG h
      · have h := kIn c_5 h
        refine x_iconst (pc := 37) C 1 dX10_readLetter_37 (by decide) ?_
        refine x_goto (pc := 38) C 42 dX10_readLetter_38 (by decide) ?_
        refine kX.pick [1, 2, 3, 0] (lv' := [(0, .ref (a 0)), (1, .int v1), (2, .int v2), (4, .int ((fX10_nextLetter st v1 x_3).1))]) rfl ?_
        exact wX10_readLetter_J42  C Zd  ((fX10_nextLetter st v1 x_3).2) v1 v2 ((fX10_nextLetter st v1 x_3).1) 1 hK hG h
def fX10_readLetter_L6 (K : Int32 → Int32 → Int32 → kS → Option (kS)) : Nat → Int32 → Int32 → Int32 → kS → Option (kS)
  | 0, _, _, _, _ => none
  | F + 1, v1, v2, v3, st => fX10_readLetter_L6_B K (fX10_readLetter_L6 K F) st v1 v2 v3
set_option maxRecDepth 100000 in
set_option maxHeartbeats 4000000 in
theorem wX10_readLetter_L6 {G : kG} {E : kE} {a : Nat → Nat} (C : kOk G E cX10_readLetter RX10 5 rmfX10_readLetter) {z : kS} (Zd : kEnd G E (0, 0) none none (wM G a z)) {K : Int32 → Int32 → Int32 → kS → Option (kS)} (hK : ∀ (u1 : Int32) (u2 : Int32) (u3 : Int32) (su : kS), K u1 u2 u3 su = some z → kX G E (0, 0) (wM G a su) 69 [(0, .ref (a 0)), (1, .int u1), (2, .int u2)] []) : ∀ (F : Nat) (v1 : Int32) (v2 : Int32) (v3 : Int32) (st : kS), fX10_readLetter_L6 K F v1 v2 v3 st = some z → kX G E (0, 0) (wM G a st) 6 [(0, .ref (a 0)), (1, .int v1), (2, .int v2), (3, .int v3)] [] := by
  intro F
  induction F with
  | zero =>
    intro v1 v2 v3 st h
    exact absurd (show none = some z from h) (fun q => by cases q)
  | succ F ih =>
    intro v1 v2 v3 st h
    exact wX10_readLetter_L6_B  C Zd  st v1 v2 v3 hK (fun v1 v2 v3 st h => ih v1 v2 v3 st h) h
def fX10_readLetter_J69 (st : kS) (v1 : Int32) (v2 : Int32) : Option (kS) := if v2 = (gI st 4) then (if v1 = 5 then (some (sI (sI st 8 v2) 9 1)) else (some (sI (sI st 8 v2) 9 0))) else (some (sI (sI st 8 v2) 9 0))
set_option maxRecDepth 100000 in
set_option maxHeartbeats 4000000 in
theorem wX10_readLetter_J69 {G : kG} {E : kE} {a : Nat → Nat} (C : kOk G E cX10_readLetter RX10 5 rmfX10_readLetter) {z : kS} (Zd : kEnd G E (0, 0) none none (wM G a z)) (st : kS) (v1 : Int32) (v2 : Int32) (h : fX10_readLetter_J69 st v1 v2 = some z) : kX G E (0, 0) (wM G a st) 69 [(0, .ref (a 0)), (1, .int v1), (2, .int v2)] [] := by
  unfold fX10_readLetter_J69 at h
  refine x_aload_n (pc := 69) C 0 dX10_readLetter_69 rfl rfl ?_
  refine x_iload_n (pc := 70) C 2 dX10_readLetter_70 rfl rfl ?_
  refine x_put (pc := 71) C inlX10 tyX10 tyX10_ok nmX10 0 rfl rfl 18 (by decide) q10_1 rfl .int (v := .int v2) (by decide +kernel) rfl rfl (Nat.le_of_ble_eq_true rfl) (swM_I8 G a _ _) dX10_readLetter_71 ?_
  refine x_aload_n (pc := 74) C 0 dX10_readLetter_74 rfl rfl ?_
  refine x_iload_n (pc := 75) C 2 dX10_readLetter_75 rfl rfl ?_
  refine x_aload_n (pc := 76) C 0 dX10_readLetter_76 rfl rfl ?_
  refine x_get (pc := 77) C inlX10 0 rfl rfl 10 (by decide) q7_14 (v := .int (gI st 4)) rfl dX10_readLetter_77 ?_
  refine x_icmp_ne (pc := 80) C 92 dX10_readLetter_80 (by decide) (fun c_12 => ?_) (fun c_12 => ?_)
  · have h := kIn c_12 h
    refine x_iconst (pc := 92) C 0 dX10_readLetter_92 (by decide) ?_
    refine x_put (pc := 93) C inlX10 tyX10 tyX10_ok nmX10 0 rfl rfl 19 (by decide) q10_11 rfl .boolean (v := .int 0) (by decide +kernel) rfl rfl (Nat.le_of_ble_eq_true rfl) (swM_I9 G a _ _) dX10_readLetter_93 ?_
    obtain rfl := Option.some.inj h
    exact x_vret (pc := 96) C Zd dX10_readLetter_96
  · have h := kIp c_12 h
    refine x_iload_n (pc := 83) C 1 dX10_readLetter_83 rfl rfl ?_
    refine x_iconst (pc := 84) C 5 dX10_readLetter_84 (by decide) ?_
    refine x_icmp_ne (pc := 85) C 92 dX10_readLetter_85 (by decide) (fun c_13 => ?_) (fun c_13 => ?_)
    · have h := kIn c_13 h
      refine x_iconst (pc := 92) C 0 dX10_readLetter_92 (by decide) ?_
      refine x_put (pc := 93) C inlX10 tyX10 tyX10_ok nmX10 0 rfl rfl 19 (by decide) q10_11 rfl .boolean (v := .int 0) (by decide +kernel) rfl rfl (Nat.le_of_ble_eq_true rfl) (swM_I9 G a _ _) dX10_readLetter_93 ?_
      obtain rfl := Option.some.inj h
      exact x_vret (pc := 96) C Zd dX10_readLetter_96
    · have h := kIp c_13 h
      refine x_iconst (pc := 88) C 1 dX10_readLetter_88 (by decide) ?_
      refine x_goto (pc := 89) C 93 dX10_readLetter_89 (by decide) ?_
      refine x_put (pc := 93) C inlX10 tyX10 tyX10_ok nmX10 0 rfl rfl 19 (by decide) q10_11 rfl .boolean (v := .int 1) (by decide +kernel) rfl rfl (Nat.le_of_ble_eq_true rfl) (swM_I9 G a _ _) dX10_readLetter_93 ?_
      obtain rfl := Option.some.inj h
      exact x_vret (pc := 96) C Zd dX10_readLetter_96
def fX10_readLetter (st : kS) : Option (kS) := fX10_readLetter_L6 (fun v1_8 v2_9 v3_10 st_11 => fX10_readLetter_J69 st_11 v1_8 v2_9) kFU 0 0 1 st
set_option maxRecDepth 100000 in
set_option maxHeartbeats 4000000 in
theorem wX10_readLetter {G : kG} {E : kE} {a : Nat → Nat} (C : kOk G E cX10_readLetter RX10 5 rmfX10_readLetter) {z : kS} (Zd : kEnd G E (0, 0) none none (wM G a z)) (st : kS) (h : fX10_readLetter st = some z) : kX G E (0, 0) (wM G a st) 0 [(0, .ref (a 0))] [] := by
  unfold fX10_readLetter at h
  refine x_iconst (pc := 0) C 0 dX10_readLetter_0 (by decide) ?_
  refine x_istore_n (pc := 1) C (lv' := [(1, .int 0), (0, .ref (a 0))]) dX10_readLetter_1 rfl (by decide) rfl ?_
  refine x_iconst (pc := 2) C 0 dX10_readLetter_2 (by decide) ?_
  refine x_istore_n (pc := 3) C (lv' := [(2, .int 0), (1, .int 0), (0, .ref (a 0))]) dX10_readLetter_3 rfl (by decide) rfl ?_
  refine x_iconst (pc := 4) C 1 dX10_readLetter_4 (by decide) ?_
  refine x_istore_n (pc := 5) C (lv' := [(3, .int 1), (2, .int 0), (1, .int 0), (0, .ref (a 0))]) dX10_readLetter_5 rfl (by decide) rfl ?_
  refine kX.pick [3, 2, 1, 0] (lv' := [(0, .ref (a 0)), (1, .int 0), (2, .int 0), (3, .int 1)]) rfl ?_
  refine wX10_readLetter_L6  C Zd   (fun v1_8 v2_9 v3_10 st_11 h => ?_) kFU 0 0 1 st h
  exact wX10_readLetter_J69  C Zd  st_11 v1_8 v2_9 h
set_option maxRecDepth 100000 in
theorem mX10_readLetter (G : kG) (a : Nat → Nat) (st : kS)  {z : kS} (h : fX10_readLetter st = some z) : kMet G yX10_readLetter cX10_readLetter 5 none rmfX10_readLetter (0, 0) [.ref (a 0)] (wM G a st) none (wM G a z) := kMet.mk (by decide +kernel) (Nat.le_of_ble_eq_true rfl) (fun E C Zd => wX10_readLetter  C Zd  st  h)
theorem ysX10_kindBy : kYS yX10_kindBy cX10_kindBy 1 (some .int) 1 := ⟨q10_17, q1_5, q10_18, by decide +kernel⟩
abbrev rmfX10_kindBy : Room := { frames := 0, cells := 0, slots := 0, locals := 0 }
def fX10_kindBy (x0 : Int32) : Int32 := if x0 = 104 then (0) else (if x0 = 102 then (1) else (if x0 = 101 then (2) else (if x0 = 119 then (3) else ((-1)))))
set_option maxRecDepth 100000 in
set_option maxHeartbeats 4000000 in
theorem wX10_kindBy {G : kG} {E : kE} {ws : va_W} (C : kOk G E cX10_kindBy RX10 1 rmfX10_kindBy) {z : Int32} (Zd : kEnd G E (0, 0) (some .int) (some (.int z)) ws) (x0 : Int32) (h : fX10_kindBy x0 = z) : kX G E (0, 0) ws 0 [(0, .int x0)] [] := by
  unfold fX10_kindBy at h
  refine x_iload_n (pc := 0) C 0 dX10_kindBy_0 rfl rfl ?_
  refine x_bipush (pc := 1) C 104 dX10_kindBy_1 (by decide) ?_
  refine x_icmp_ne (pc := 3) C 10 dX10_kindBy_3 (by decide) (fun c_1 => ?_) (fun c_1 => ?_)
  · have h := kIn c_1 h
    refine x_iload_n (pc := 10) C 0 dX10_kindBy_10 rfl rfl ?_
    refine x_bipush (pc := 11) C 102 dX10_kindBy_11 (by decide) ?_
    refine x_icmp_ne (pc := 13) C 20 dX10_kindBy_13 (by decide) (fun c_2 => ?_) (fun c_2 => ?_)
    · have h := kIn c_2 h
      refine x_iload_n (pc := 20) C 0 dX10_kindBy_20 rfl rfl ?_
      refine x_bipush (pc := 21) C 101 dX10_kindBy_21 (by decide) ?_
      refine x_icmp_ne (pc := 23) C 30 dX10_kindBy_23 (by decide) (fun c_3 => ?_) (fun c_3 => ?_)
      · have h := kIn c_3 h
        refine x_iload_n (pc := 30) C 0 dX10_kindBy_30 rfl rfl ?_
        refine x_bipush (pc := 31) C 119 dX10_kindBy_31 (by decide) ?_
        refine x_icmp_ne (pc := 33) C 40 dX10_kindBy_33 (by decide) (fun c_4 => ?_) (fun c_4 => ?_)
        · have h := kIn c_4 h
          refine x_iconst (pc := 40) C (-1) dX10_kindBy_40 (by decide) ?_
          subst h
          exact x_iret (pc := 41) C Zd dX10_kindBy_41
        · have h := kIp c_4 h
          refine x_iconst (pc := 36) C 3 dX10_kindBy_36 (by decide) ?_
          refine x_goto (pc := 37) C 41 dX10_kindBy_37 (by decide) ?_
          subst h
          exact x_iret (pc := 41) C Zd dX10_kindBy_41
      · have h := kIp c_3 h
        refine x_iconst (pc := 26) C 2 dX10_kindBy_26 (by decide) ?_
        refine x_goto (pc := 27) C 41 dX10_kindBy_27 (by decide) ?_
        subst h
        exact x_iret (pc := 41) C Zd dX10_kindBy_41
    · have h := kIp c_2 h
      refine x_iconst (pc := 16) C 1 dX10_kindBy_16 (by decide) ?_
      refine x_goto (pc := 17) C 41 dX10_kindBy_17 (by decide) ?_
      subst h
      exact x_iret (pc := 41) C Zd dX10_kindBy_41
  · have h := kIp c_1 h
    refine x_iconst (pc := 6) C 0 dX10_kindBy_6 (by decide) ?_
    refine x_goto (pc := 7) C 41 dX10_kindBy_7 (by decide) ?_
    subst h
    exact x_iret (pc := 41) C Zd dX10_kindBy_41
set_option maxRecDepth 100000 in
theorem mX10_kindBy (G : kG) {ws : va_W} (x0 : Int32) : kMet G yX10_kindBy cX10_kindBy 1 (some .int) rmfX10_kindBy (0, 0) [.int x0] ws (some (.int (fX10_kindBy x0))) ws := kMet.mk (by decide +kernel) (Nat.le_of_ble_eq_true rfl) (fun E C Zd => wX10_kindBy  C Zd  x0 rfl)
