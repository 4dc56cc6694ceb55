theorem yvX10_layApart : kYV yX10_layApart RX10 cX10_layApart 6 none 1 := ⟨q29_4, q29_5, q1_5, q29_6, by decide +kernel⟩
abbrev rmfX10_layApart : Room := { frames := 3, cells := 0, slots := 0, locals := 72 }
def fX10_layApart_L2_B (K : Int32 → kS → Option (kS)) (Gc : Int32 → kS → Option (kS)) (st : kS) (v1 : Int32) (v2 : Int32) : Option (kS) := if (gI st 16) ≤ v2 then (K v2 st) else ((ka 720 (gA st 12) v2).bind (fun x_2 => (fX10_think st x_2).bind (fun z_4 => (fX10_touchIn 6 (gA z_4.2 15) z_4.2).bind (fun z_5 => if z_5 = 0 then (if v2 < 0 ∨ 720 ≤ v2.toNatClampNeg then none else Gc (v2 + 1) (sA z_4.2 16 (upd (gA z_4.2 16) v2.toNatClampNeg 1))) else (if v2 < 0 ∨ 720 ≤ v2.toNatClampNeg then none else Gc (v2 + 1) (sA z_4.2 16 (upd (gA z_4.2 16) v2.toNatClampNeg 0)))))))
set_option maxRecDepth 100000 in
set_option maxHeartbeats 4000000 in
theorem wX10_layApart_L2_B {G : kG} {E : kE} {a : Nat → Nat} (C : kOk G E cX10_layApart RX10 6 rmfX10_layApart) {z : kS} (Zd : kEnd G E (0, 0) none none (wM G a z)) {K Gc : Int32 → kS → Option (kS)} (st : kS) (v1 : Int32) (v2 : Int32) (hK : ∀ (u2 : Int32) (su : kS), K u2 su = some z → kX G E (0, 0) (wM G a su) 49 [(0, .ref (a 0)), (1, .int v1)] []) (hG : ∀ (u2 : Int32) (su : kS), Gc u2 su = some z → kX G E (0, 0) (wM G a su) 2 [(0, .ref (a 0)), (1, .int v1), (2, .int u2)] []) (h : fX10_layApart_L2_B K Gc st v1 v2 = some z) : kX G E (0, 0) (wM G a st) 2 [(0, .ref (a 0)), (1, .int v1), (2, .int v2)] [] := by
  unfold fX10_layApart_L2_B at h
  refine x_iload_n (pc := 2) C 2 dX10_layApart_2 rfl rfl ?_
  refine x_aload_n (pc := 3) C 0 dX10_layApart_3 rfl rfl ?_
  refine x_get (pc := 4) C inlX10 0 rfl rfl 29 (by decide) q15_10 (v := .int (gI st 16)) rfl dX10_layApart_4 ?_
  refine x_icmp_ge (pc := 7) C 49 dX10_layApart_7 (by decide) (fun c_1 => ?_) (fun c_1 => ?_)
  · have h := kIp c_1 h
    refine kX.pick [0, 1] (lv' := [(0, .ref (a 0)), (1, .int v1)]) rfl ?_
    exact hK v2 st h
  · have h := kIn c_1 h
    refine x_aload_n (pc := 10) C 0 dX10_layApart_10 rfl rfl ?_
    refine x_aload_n (pc := 11) C 0 dX10_layApart_11 rfl rfl ?_
    refine x_get (pc := 12) C inlX10 0 rfl rfl 30 (by decide) q6_1 (v := .ref (a 12)) rfl dX10_layApart_12 ?_
    refine x_iload_n (pc := 15) C 2 dX10_layApart_15 rfl rfl ?_
    obtain ⟨x_2, hx_2, h⟩ := kB h
    obtain ⟨hi_3, hx_2⟩ := ka_some hx_2
    refine y_iald (pc := 16) C 12 (lwM_A12 G a rfl) hi_3 hx_2 dX10_layApart_16 ?_
    obtain ⟨z_4, hz_4, h⟩ := kB h
    refine x_callV (pc := 17) C 0 [.int x_2] rfl rfl (mX10_think G a st x_2 hz_4) yvX10_think q15_11 ⟨Nat.le_of_ble_eq_true rfl, Nat.le_of_ble_eq_true rfl, rfl, rfl⟩ ⟨Nat.zero_le _, Nat.zero_le _⟩ rfl rfl (Nat.le_of_ble_eq_true rfl) rfl dX10_layApart_17 ?_
    refine x_pop (pc := 20) C dX10_layApart_20 rfl ?_
    refine x_aload_n (pc := 21) C 0 dX10_layApart_21 rfl rfl ?_
    refine x_get (pc := 22) C inlX10 0 rfl rfl 34 (by decide) q6_6 (v := .ref (a 16)) rfl dX10_layApart_22 ?_
    refine x_iload_n (pc := 25) C 2 dX10_layApart_25 rfl rfl ?_
    refine x_aload_n (pc := 26) C 0 dX10_layApart_26 rfl rfl ?_
    refine x_aload_n (pc := 27) C 0 dX10_layApart_27 rfl rfl ?_
    refine x_get (pc := 28) C inlX10 0 rfl rfl 33 (by decide) q6_5 (v := .ref (a 15)) rfl dX10_layApart_28 ?_
    obtain ⟨z_5, hz_5, h⟩ := kB h
    refine x_callV (pc := 31) C 0 [.ref (a 15)] rfl rfl (mX10_touchIn G a (N := 6) (f := (gA z_4.2 15)) 15 (lwM_A15 G a rfl) (by decide) z_4.2 hz_5) yvX10_touchIn q22_21 ⟨Nat.le_of_ble_eq_true rfl, Nat.le_of_ble_eq_true rfl, rfl, rfl⟩ ⟨Nat.zero_le _, Nat.zero_le _⟩ rfl rfl (Nat.le_of_ble_eq_true rfl) rfl dX10_layApart_31 ?_
    refine x_if_ne (pc := 34) C 41 dX10_layApart_34 (by decide) (fun c_6 => ?_) (fun c_6 => ?_)
    · have h := kIn c_6 h
      refine x_iconst (pc := 41) C 0 dX10_layApart_41 (by decide) ?_
      obtain ⟨hi_7, h⟩ := kGn h
      refine x_iast (pc := 42) C 16 (lwM_A16 G a rfl) hi_7 (swM_A16 G a _ _) dX10_layApart_42 ?_
      refine x_iinc (pc := 43) C 2 (v := v2 + 1) (lv' := [(2, .int (v2 + 1)), (0, .ref (a 0)), (1, .int v1)]) dX10_layApart_43 rfl rfl (by decide) rfl ?_
      refine x_goto (pc := 46) C 2 dX10_layApart_46 (by decide) ?_
      refine kX.pick [1, 2, 0] (lv' := [(0, .ref (a 0)), (1, .int v1), (2, .int (v2 + 1))]) rfl ?_
      exact hG (v2 + 1) (sA z_4.2 16 (upd (gA z_4.2 16) v2.toNatClampNeg 0)) h
    · have h := kIp c_6 h
      refine x_iconst (pc := 37) C 1 dX10_layApart_37 (by decide) ?_
      refine x_goto (pc := 38) C 42 dX10_layApart_38 (by decide) ?_
      obtain ⟨hi_8, h⟩ := kGn h
      refine x_iast (pc := 42) C 16 (lwM_A16 G a rfl) hi_8 (swM_A16 G a _ _) dX10_layApart_42 ?_
      refine x_iinc (pc := 43) C 2 (v := v2 + 1) (lv' := [(2, .int (v2 + 1)), (0, .ref (a 0)), (1, .int v1)]) dX10_layApart_43 rfl rfl (by decide) rfl ?_
      refine x_goto (pc := 46) C 2 dX10_layApart_46 (by decide) ?_
      refine kX.pick [1, 2, 0] (lv' := [(0, .ref (a 0)), (1, .int v1), (2, .int (v2 + 1))]) rfl ?_
      exact hG (v2 + 1) (sA z_4.2 16 (upd (gA z_4.2 16) v2.toNatClampNeg 1)) h
def fX10_layApart_L2 (K : Int32 → kS → Option (kS)) (v1 : Int32) : Nat → Int32 → kS → Option (kS)
  | 0, _, _ => none
  | F + 1, v2, st => fX10_layApart_L2_B K (fX10_layApart_L2 K v1 F) st v1 v2
set_option maxRecDepth 100000 in
set_option maxHeartbeats 4000000 in
theorem wX10_layApart_L2 {G : kG} {E : kE} {a : Nat → Nat} (C : kOk G E cX10_layApart RX10 6 rmfX10_layApart) {z : kS} (Zd : kEnd G E (0, 0) none none (wM G a z)) {K : Int32 → kS → Option (kS)} (v1 : Int32) (hK : ∀ (u2 : Int32) (su : kS), K u2 su = some z → kX G E (0, 0) (wM G a su) 49 [(0, .ref (a 0)), (1, .int v1)] []) : ∀ (F : Nat) (v2 : Int32) (st : kS), fX10_layApart_L2 K v1 F v2 st = some z → kX G E (0, 0) (wM G a st) 2 [(0, .ref (a 0)), (1, .int v1), (2, .int v2)] [] := by
  intro F
  induction F with
  | zero =>
    intro v2 st h
    exact absurd (show none = some z from h) (fun q => by cases q)
  | succ F ih =>
    intro v2 st h
    exact wX10_layApart_L2_B  C Zd  st v1 v2 hK (fun v2 st h => ih v2 st h) h
def fX10_layApart_L105_B (K : Int32 → kS → Option (kS)) (Gc : Int32 → kS → Option (kS)) (st : kS) (v1 : Int32) (v2 : Int32) (v3 : Int32) (v4 : Int32) (v5 : Int32) : Option (kS) := if (gI st 0) ≤ v5 then (K v5 st) else (if v4 = 0 then (K v5 st) else ((ka 720 (gA st 17) v3).bind (fun x_21 => (fX10_bestFor st v3 v5).bind (fun z_23 => if v3 < 0 ∨ 720 ≤ v3.toNatClampNeg then none else Gc (v5 + 1) (sA st 17 (upd (gA st 17) v3.toNatClampNeg (x_21 + z_23)))))))
set_option maxRecDepth 100000 in
set_option maxHeartbeats 4000000 in
theorem wX10_layApart_L105_B {G : kG} {E : kE} {a : Nat → Nat} (C : kOk G E cX10_layApart RX10 6 rmfX10_layApart) {z : kS} (Zd : kEnd G E (0, 0) none none (wM G a z)) {K Gc : Int32 → kS → Option (kS)} (st : kS) (v1 : Int32) (v2 : Int32) (v3 : Int32) (v4 : Int32) (v5 : Int32) (hK : ∀ (u5 : Int32) (su : kS), K u5 su = some z → kX G E (0, 0) (wM G a su) 141 [(0, .ref (a 0)), (1, .int v1), (2, .int v2), (3, .int v3)] []) (hG : ∀ (u5 : Int32) (su : kS), Gc u5 su = some z → kX G E (0, 0) (wM G a su) 105 [(0, .ref (a 0)), (1, .int v1), (2, .int v2), (3, .int v3), (4, .int v4), (5, .int u5)] []) (h : fX10_layApart_L105_B K Gc st v1 v2 v3 v4 v5 = some z) : kX G E (0, 0) (wM G a st) 105 [(0, .ref (a 0)), (1, .int v1), (2, .int v2), (3, .int v3), (4, .int v4), (5, .int v5)] [] := by
  unfold fX10_layApart_L105_B at h
  refine x_iload (pc := 105) C 5 dX10_layApart_105 rfl ?_
  refine x_aload_n (pc := 107) C 0 dX10_layApart_107 rfl rfl ?_
  refine x_get (pc := 108) C inlX10 0 rfl rfl 0 (by decide) q15_2 (v := .int (gI st 0)) rfl dX10_layApart_108 ?_
  refine x_icmp_ge (pc := 111) C 141 dX10_layApart_111 (by decide) (fun c_19 => ?_) (fun c_19 => ?_)
  · have h := kIp c_19 h
    refine kX.pick [0, 1, 2, 3] (lv' := [(0, .ref (a 0)), (1, .int v1), (2, .int v2), (3, .int v3)]) rfl ?_
    exact hK v5 st h
  · have h := kIn c_19 h
    refine x_iload (pc := 114) C 4 dX10_layApart_114 rfl ?_
    refine x_if_eq (pc := 116) C 141 dX10_layApart_116 (by decide) (fun c_20 => ?_) (fun c_20 => ?_)
    · have h := kIp c_20 h
      refine kX.pick [0, 1, 2, 3] (lv' := [(0, .ref (a 0)), (1, .int v1), (2, .int v2), (3, .int v3)]) rfl ?_
      exact hK v5 st h
    · have h := kIn c_20 h
      refine x_aload_n (pc := 119) C 0 dX10_layApart_119 rfl rfl ?_
      refine x_get (pc := 120) C inlX10 0 rfl rfl 35 (by decide) q6_7 (v := .ref (a 17)) rfl dX10_layApart_120 ?_
      refine x_iload_n (pc := 123) C 3 dX10_layApart_123 rfl rfl ?_
      refine x_dup2 (pc := 124) C dX10_layApart_124 rfl rfl ?_
      obtain ⟨x_21, hx_21, h⟩ := kB h
      obtain ⟨hi_22, hx_21⟩ := ka_some hx_21
      refine y_iald (pc := 125) C 17 (lwM_A17 G a rfl) hi_22 hx_21 dX10_layApart_125 ?_
      refine x_aload_n (pc := 126) C 0 dX10_layApart_126 rfl rfl ?_
      refine x_iload_n (pc := 127) C 3 dX10_layApart_127 rfl rfl ?_
      refine x_iload (pc := 128) C 5 dX10_layApart_128 rfl ?_
      obtain ⟨z_23, hz_23, h⟩ := kB h
      refine x_callV (pc := 130) C 0 [.int v3, .int v5] rfl rfl (mX10_bestFor G a st v3 v5 hz_23) yvX10_bestFor q29_7 ⟨Nat.le_of_ble_eq_true rfl, Nat.le_of_ble_eq_true rfl, rfl, rfl⟩ ⟨Nat.zero_le _, Nat.zero_le _⟩ rfl rfl (Nat.le_of_ble_eq_true rfl) rfl dX10_layApart_130 ?_
      refine x_iadd (pc := 133) C dX10_layApart_133 ?_
      obtain ⟨hi_24, h⟩ := kGn h
      refine x_iast (pc := 134) C 17 (lwM_A17 G a rfl) hi_24 (swM_A17 G a _ _) dX10_layApart_134 ?_
      refine x_iinc (pc := 135) C 5 (v := v5 + 1) (lv' := [(5, .int (v5 + 1)), (0, .ref (a 0)), (1, .int v1), (2, .int v2), (3, .int v3), (4, .int v4)]) dX10_layApart_135 rfl rfl (by decide) rfl ?_
      refine x_goto (pc := 138) C 105 dX10_layApart_138 (by decide) ?_
      refine kX.pick [1, 2, 3, 4, 5, 0] (lv' := [(0, .ref (a 0)), (1, .int v1), (2, .int v2), (3, .int v3), (4, .int v4), (5, .int (v5 + 1))]) rfl ?_
      exact hG (v5 + 1) (sA st 17 (upd (gA st 17) v3.toNatClampNeg (x_21 + z_23))) h
def fX10_layApart_L105 (K : Int32 → kS → Option (kS)) (v1 : Int32) (v2 : Int32) (v3 : Int32) (v4 : Int32) : Nat → Int32 → kS → Option (kS)
  | 0, _, _ => none
  | F + 1, v5, st => fX10_layApart_L105_B K (fX10_layApart_L105 K v1 v2 v3 v4 F) st v1 v2 v3 v4 v5
set_option maxRecDepth 100000 in
set_option maxHeartbeats 4000000 in
theorem wX10_layApart_L105 {G : kG} {E : kE} {a : Nat → Nat} (C : kOk G E cX10_layApart RX10 6 rmfX10_layApart) {z : kS} (Zd : kEnd G E (0, 0) none none (wM G a z)) {K : Int32 → kS → Option (kS)} (v1 : Int32) (v2 : Int32) (v3 : Int32) (v4 : Int32) (hK : ∀ (u5 : Int32) (su : kS), K u5 su = some z → kX G E (0, 0) (wM G a su) 141 [(0, .ref (a 0)), (1, .int v1), (2, .int v2), (3, .int v3)] []) : ∀ (F : Nat) (v5 : Int32) (st : kS), fX10_layApart_L105 K v1 v2 v3 v4 F v5 st = some z → kX G E (0, 0) (wM G a st) 105 [(0, .ref (a 0)), (1, .int v1), (2, .int v2), (3, .int v3), (4, .int v4), (5, .int v5)] [] := by
  intro F
  induction F with
  | zero =>
    intro v5 st h
    exact absurd (show none = some z from h) (fun q => by cases q)
  | succ F ih =>
    intro v5 st h
    exact wX10_layApart_L105_B  C Zd  st v1 v2 v3 v4 v5 hK (fun v5 st h => ih v5 st h) h
def fX10_layApart_L58_B (K : Int32 → kS → Option (kS)) (Gc : Int32 → kS → Option (kS)) (st : kS) (v1 : Int32) (v2 : Int32) (v3 : Int32) : Option (kS) := if (gI st 16) ≤ v3 then (K v3 st) else (if v3 < 0 ∨ 720 ≤ v3.toNatClampNeg then none else (ka 720 (gA st 12) v3).bind (fun x_14 => (fX10_think (sA st 17 (upd (gA st 17) v3.toNatClampNeg 0)) x_14).bind (fun z_16 => (fX10_touchIn 6 (gA z_16.2 15) z_16.2).bind (fun z_17 => if z_17 = 0 then (fX10_layApart_L105 (fun v5_27 st_28 => Gc (v3 + 1) st_28) v1 v2 v3 1 kFU 0 z_16.2) else (fX10_layApart_L105 (fun v5_25 st_26 => Gc (v3 + 1) st_26) v1 v2 v3 0 kFU 0 z_16.2)))))
set_option maxRecDepth 100000 in
set_option maxHeartbeats 4000000 in
theorem wX10_layApart_L58_B {G : kG} {E : kE} {a : Nat → Nat} (C : kOk G E cX10_layApart RX10 6 rmfX10_layApart) {z : kS} (Zd : kEnd G E (0, 0) none none (wM G a z)) {K Gc : Int32 → kS → Option (kS)} (st : kS) (v1 : Int32) (v2 : Int32) (v3 : Int32) (hK : ∀ (u3 : Int32) (su : kS), K u3 su = some z → kX G E (0, 0) (wM G a su) 147 [(0, .ref (a 0)), (1, .int v1), (2, .int v2)] []) (hG : ∀ (u3 : Int32) (su : kS), Gc u3 su = some z → kX G E (0, 0) (wM G a su) 58 [(0, .ref (a 0)), (1, .int v1), (2, .int v2), (3, .int u3)] []) (h : fX10_layApart_L58_B K Gc st v1 v2 v3 = some z) : kX G E (0, 0) (wM G a st) 58 [(0, .ref (a 0)), (1, .int v1), (2, .int v2), (3, .int v3)] [] := by
  unfold fX10_layApart_L58_B at h
  refine x_iload_n (pc := 58) C 3 dX10_layApart_58 rfl rfl ?_
  refine x_aload_n (pc := 59) C 0 dX10_layApart_59 rfl rfl ?_
  refine x_get (pc := 60) C inlX10 0 rfl rfl 29 (by decide) q15_10 (v := .int (gI st 16)) rfl dX10_layApart_60 ?_
  refine x_icmp_ge (pc := 63) C 147 dX10_layApart_63 (by decide) (fun c_12 => ?_) (fun c_12 => ?_)
  · have h := kIp c_12 h
    refine kX.pick [0, 1, 2] (lv' := [(0, .ref (a 0)), (1, .int v1), (2, .int v2)]) rfl ?_
    exact hK v3 st h
  · have h := kIn c_12 h
    refine x_aload_n (pc := 66) C 0 dX10_layApart_66 rfl rfl ?_
    refine x_get (pc := 67) C inlX10 0 rfl rfl 35 (by decide) q6_7 (v := .ref (a 17)) rfl dX10_layApart_67 ?_
    refine x_iload_n (pc := 70) C 3 dX10_layApart_70 rfl rfl ?_
    refine x_iconst (pc := 71) C 0 dX10_layApart_71 (by decide) ?_
    obtain ⟨hi_13, h⟩ := kGn h
    refine x_iast (pc := 72) C 17 (lwM_A17 G a rfl) hi_13 (swM_A17 G a _ _) dX10_layApart_72 ?_
    refine x_aload_n (pc := 73) C 0 dX10_layApart_73 rfl rfl ?_
    refine x_aload_n (pc := 74) C 0 dX10_layApart_74 rfl rfl ?_
    refine x_get (pc := 75) C inlX10 0 rfl rfl 30 (by decide) q6_1 (v := .ref (a 12)) rfl dX10_layApart_75 ?_
    refine x_iload_n (pc := 78) C 3 dX10_layApart_78 rfl rfl ?_
    obtain ⟨x_14, hx_14, h⟩ := kB h
    obtain ⟨hi_15, hx_14⟩ := ka_some hx_14
    refine y_iald (pc := 79) C 12 (lwM_A12 G a (gA_n (by decide))) hi_15 hx_14 dX10_layApart_79 ?_
    obtain ⟨z_16, hz_16, h⟩ := kB h
    refine x_callV (pc := 80) C 0 [.int x_14] rfl rfl (mX10_think G a (sA st 17 (upd (gA st 17) v3.toNatClampNeg 0)) x_14 hz_16) yvX10_think q15_11 ⟨Nat.le_of_ble_eq_true rfl, Nat.le_of_ble_eq_true rfl, rfl, rfl⟩ ⟨Nat.zero_le _, Nat.zero_le _⟩ rfl rfl (Nat.le_of_ble_eq_true rfl) rfl dX10_layApart_80 ?_
    refine x_pop (pc := 83) C dX10_layApart_83 rfl ?_
    refine x_aload_n (pc := 84) C 0 dX10_layApart_84 rfl rfl ?_
    refine x_aload_n (pc := 85) C 0 dX10_layApart_85 rfl rfl ?_
    refine x_get (pc := 86) C inlX10 0 rfl rfl 33 (by decide) q6_5 (v := .ref (a 15)) rfl dX10_layApart_86 ?_
    obtain ⟨z_17, hz_17, h⟩ := kB h
    refine x_callV (pc := 89) C 0 [.ref (a 15)] rfl rfl (mX10_touchIn G a (N := 6) (f := (gA z_16.2 15)) 15 (lwM_A15 G a rfl) (by decide) z_16.2 hz_17) yvX10_touchIn q22_21 ⟨Nat.le_of_ble_eq_true rfl, Nat.le_of_ble_eq_true rfl, rfl, rfl⟩ ⟨Nat.zero_le _, Nat.zero_le _⟩ rfl rfl (Nat.le_of_ble_eq_true rfl) rfl dX10_layApart_89 ?_
    refine x_if_ne (pc := 92) C 99 dX10_layApart_92 (by decide) (fun c_18 => ?_) (fun c_18 => ?_)
    · have h := kIn c_18 h
      refine x_iconst (pc := 99) C 0 dX10_layApart_99 (by decide) ?_
      refine x_istore (pc := 100) C (lv' := [(4, .int 0), (0, .ref (a 0)), (1, .int v1), (2, .int v2), (3, .int v3)]) dX10_layApart_100 (by decide) rfl ?_
      refine x_iconst (pc := 102) C 0 dX10_layApart_102 (by decide) ?_
      refine x_istore (pc := 103) C (lv' := [(5, .int 0), (4, .int 0), (0, .ref (a 0)), (1, .int v1), (2, .int v2), (3, .int v3)]) dX10_layApart_103 (by decide) rfl ?_
      refine kX.pick [2, 3, 4, 5, 1, 0] (lv' := [(0, .ref (a 0)), (1, .int v1), (2, .int v2), (3, .int v3), (4, .int 0), (5, .int 0)]) rfl ?_
      refine wX10_layApart_L105  C Zd  v1 v2 v3 0 (fun v5_25 st_26 h => ?_) kFU 0 z_16.2 h
      refine x_iinc (pc := 141) C 3 (v := v3 + 1) (lv' := [(3, .int (v3 + 1)), (0, .ref (a 0)), (1, .int v1), (2, .int v2)]) dX10_layApart_141 rfl rfl (by decide) rfl ?_
      refine x_goto (pc := 144) C 58 dX10_layApart_144 (by decide) ?_
      refine kX.pick [1, 2, 3, 0] (lv' := [(0, .ref (a 0)), (1, .int v1), (2, .int v2), (3, .int (v3 + 1))]) rfl ?_
      exact hG (v3 + 1) st_26 h
    · have h := kIp c_18 h
      refine x_iconst (pc := 95) C 1 dX10_layApart_95 (by decide) ?_
      refine x_goto (pc := 96) C 100 dX10_layApart_96 (by decide) ?_
      refine x_istore (pc := 100) C (lv' := [(4, .int 1), (0, .ref (a 0)), (1, .int v1), (2, .int v2), (3, .int v3)]) dX10_layApart_100 (by decide) rfl ?_
      refine x_iconst (pc := 102) C 0 dX10_layApart_102 (by decide) ?_
      refine x_istore (pc := 103) C (lv' := [(5, .int 0), (4, .int 1), (0, .ref (a 0)), (1, .int v1), (2, .int v2), (3, .int v3)]) dX10_layApart_103 (by decide) rfl ?_
      refine kX.pick [2, 3, 4, 5, 1, 0] (lv' := [(0, .ref (a 0)), (1, .int v1), (2, .int v2), (3, .int v3), (4, .int 1), (5, .int 0)]) rfl ?_
      refine wX10_layApart_L105  C Zd  v1 v2 v3 1 (fun v5_27 st_28 h => ?_) kFU 0 z_16.2 h
      refine x_iinc (pc := 141) C 3 (v := v3 + 1) (lv' := [(3, .int (v3 + 1)), (0, .ref (a 0)), (1, .int v1), (2, .int v2)]) dX10_layApart_141 rfl rfl (by decide) rfl ?_
      refine x_goto (pc := 144) C 58 dX10_layApart_144 (by decide) ?_
      refine kX.pick [1, 2, 3, 0] (lv' := [(0, .ref (a 0)), (1, .int v1), (2, .int v2), (3, .int (v3 + 1))]) rfl ?_
      exact hG (v3 + 1) st_28 h
def fX10_layApart_L58 (K : Int32 → kS → Option (kS)) (v1 : Int32) (v2 : Int32) : Nat → Int32 → kS → Option (kS)
  | 0, _, _ => none
  | F + 1, v3, st => fX10_layApart_L58_B K (fX10_layApart_L58 K v1 v2 F) st v1 v2 v3
set_option maxRecDepth 100000 in
set_option maxHeartbeats 4000000 in
theorem wX10_layApart_L58 {G : kG} {E : kE} {a : Nat → Nat} (C : kOk G E cX10_layApart RX10 6 rmfX10_layApart) {z : kS} (Zd : kEnd G E (0, 0) none none (wM G a z)) {K : Int32 → kS → Option (kS)} (v1 : Int32) (v2 : Int32) (hK : ∀ (u3 : Int32) (su : kS), K u3 su = some z → kX G E (0, 0) (wM G a su) 147 [(0, .ref (a 0)), (1, .int v1), (2, .int v2)] []) : ∀ (F : Nat) (v3 : Int32) (st : kS), fX10_layApart_L58 K v1 v2 F v3 st = some z → kX G E (0, 0) (wM G a st) 58 [(0, .ref (a 0)), (1, .int v1), (2, .int v2), (3, .int v3)] [] := by
  intro F
  induction F with
  | zero =>
    intro v3 st h
    exact absurd (show none = some z from h) (fun q => by cases q)
  | succ F ih =>
    intro v3 st h
    exact wX10_layApart_L58_B  C Zd  st v1 v2 v3 hK (fun v3 st h => ih v3 st h) h
def fX10_layApart_L149_B (K : Int32 → kS → Option (kS)) (Gc : Int32 → kS → Option (kS)) (st : kS) (v1 : Int32) (v2 : Int32) (v3 : Int32) : Option (kS) := if (gI st 16) ≤ v3 then (K v3 st) else ((ka 720 (gA st 17) v3).bind (fun x_32 => if v3 < 0 ∨ 720 ≤ v3.toNatClampNeg then none else Gc (v3 + 1) (sA st 16 (upd (gA st 16) v3.toNatClampNeg x_32))))
set_option maxRecDepth 100000 in
set_option maxHeartbeats 4000000 in
theorem wX10_layApart_L149_B {G : kG} {E : kE} {a : Nat → Nat} (C : kOk G E cX10_layApart RX10 6 rmfX10_layApart) {z : kS} (Zd : kEnd G E (0, 0) none none (wM G a z)) {K Gc : Int32 → kS → Option (kS)} (st : kS) (v1 : Int32) (v2 : Int32) (v3 : Int32) (hK : ∀ (u3 : Int32) (su : kS), K u3 su = some z → kX G E (0, 0) (wM G a su) 175 [(0, .ref (a 0)), (1, .int v1), (2, .int v2)] []) (hG : ∀ (u3 : Int32) (su : kS), Gc u3 su = some z → kX G E (0, 0) (wM G a su) 149 [(0, .ref (a 0)), (1, .int v1), (2, .int v2), (3, .int u3)] []) (h : fX10_layApart_L149_B K Gc st v1 v2 v3 = some z) : kX G E (0, 0) (wM G a st) 149 [(0, .ref (a 0)), (1, .int v1), (2, .int v2), (3, .int v3)] [] := by
  unfold fX10_layApart_L149_B at h
  refine x_iload_n (pc := 149) C 3 dX10_layApart_149 rfl rfl ?_
  refine x_aload_n (pc := 150) C 0 dX10_layApart_150 rfl rfl ?_
  refine x_get (pc := 151) C inlX10 0 rfl rfl 29 (by decide) q15_10 (v := .int (gI st 16)) rfl dX10_layApart_151 ?_
  refine x_icmp_ge (pc := 154) C 175 dX10_layApart_154 (by decide) (fun c_31 => ?_) (fun c_31 => ?_)
  · have h := kIp c_31 h
    refine kX.pick [0, 1, 2] (lv' := [(0, .ref (a 0)), (1, .int v1), (2, .int v2)]) rfl ?_
    exact hK v3 st h
  · have h := kIn c_31 h
    refine x_aload_n (pc := 157) C 0 dX10_layApart_157 rfl rfl ?_
    refine x_get (pc := 158) C inlX10 0 rfl rfl 34 (by decide) q6_6 (v := .ref (a 16)) rfl dX10_layApart_158 ?_
    refine x_iload_n (pc := 161) C 3 dX10_layApart_161 rfl rfl ?_
    refine x_aload_n (pc := 162) C 0 dX10_layApart_162 rfl rfl ?_
    refine x_get (pc := 163) C inlX10 0 rfl rfl 35 (by decide) q6_7 (v := .ref (a 17)) rfl dX10_layApart_163 ?_
    refine x_iload_n (pc := 166) C 3 dX10_layApart_166 rfl rfl ?_
    obtain ⟨x_32, hx_32, h⟩ := kB h
    obtain ⟨hi_33, hx_32⟩ := ka_some hx_32
    refine y_iald (pc := 167) C 17 (lwM_A17 G a rfl) hi_33 hx_32 dX10_layApart_167 ?_
    obtain ⟨hi_34, h⟩ := kGn h
    refine x_iast (pc := 168) C 16 (lwM_A16 G a rfl) hi_34 (swM_A16 G a _ _) dX10_layApart_168 ?_
    refine x_iinc (pc := 169) C 3 (v := v3 + 1) (lv' := [(3, .int (v3 + 1)), (0, .ref (a 0)), (1, .int v1), (2, .int v2)]) dX10_layApart_169 rfl rfl (by decide) rfl ?_
    refine x_goto (pc := 172) C 149 dX10_layApart_172 (by decide) ?_
    refine kX.pick [1, 2, 3, 0] (lv' := [(0, .ref (a 0)), (1, .int v1), (2, .int v2), (3, .int (v3 + 1))]) rfl ?_
    exact hG (v3 + 1) (sA st 16 (upd (gA st 16) v3.toNatClampNeg x_32)) h
def fX10_layApart_L149 (K : Int32 → kS → Option (kS)) (v1 : Int32) (v2 : Int32) : Nat → Int32 → kS → Option (kS)
  | 0, _, _ => none
  | F + 1, v3, st => fX10_layApart_L149_B K (fX10_layApart_L149 K v1 v2 F) st v1 v2 v3
set_option maxRecDepth 100000 in
set_option maxHeartbeats 4000000 in
theorem wX10_layApart_L149 {G : kG} {E : kE} {a : Nat → Nat} (C : kOk G E cX10_layApart RX10 6 rmfX10_layApart) {z : kS} (Zd : kEnd G E (0, 0) none none (wM G a z)) {K : Int32 → kS → Option (kS)} (v1 : Int32) (v2 : Int32) (hK : ∀ (u3 : Int32) (su : kS), K u3 su = some z → kX G E (0, 0) (wM G a su) 175 [(0, .ref (a 0)), (1, .int v1), (2, .int v2)] []) : ∀ (F : Nat) (v3 : Int32) (st : kS), fX10_layApart_L149 K v1 v2 F v3 st = some z → kX G E (0, 0) (wM G a st) 149 [(0, .ref (a 0)), (1, .int v1), (2, .int v2), (3, .int v3)] [] := by
  intro F
  induction F with
  | zero =>
    intro v3 st h
    exact absurd (show none = some z from h) (fun q => by cases q)
  | succ F ih =>
    intro v3 st h
    exact wX10_layApart_L149_B  C Zd  st v1 v2 v3 hK (fun v3 st h => ih v3 st h) h
def fX10_layApart_L51_B (K : Int32 → kS → Option (kS)) (Gc : Int32 → kS → Option (kS)) (st : kS) (v1 : Int32) (v2 : Int32) : Option (kS) := if v1 ≤ v2 then (K v2 st) else (fX10_layApart_L58 (fun v3_29 st_30 => fX10_layApart_L149 (fun v3_35 st_36 => Gc (v2 + 1) st_36) v1 v2 kFU 0 st_30) v1 v2 kFU 0 st)
set_option maxRecDepth 100000 in
set_option maxHeartbeats 4000000 in
theorem wX10_layApart_L51_B {G : kG} {E : kE} {a : Nat → Nat} (C : kOk G E cX10_layApart RX10 6 rmfX10_layApart) {z : kS} (Zd : kEnd G E (0, 0) none none (wM G a z)) {K Gc : Int32 → kS → Option (kS)} (st : kS) (v1 : Int32) (v2 : Int32) (hK : ∀ (u2 : Int32) (su : kS), K u2 su = some z → kX G E (0, 0) (wM G a su) 181 [] []) (hG : ∀ (u2 : Int32) (su : kS), Gc u2 su = some z → kX G E (0, 0) (wM G a su) 51 [(0, .ref (a 0)), (1, .int v1), (2, .int u2)] []) (h : fX10_layApart_L51_B K Gc st v1 v2 = some z) : kX G E (0, 0) (wM G a st) 51 [(0, .ref (a 0)), (1, .int v1), (2, .int v2)] [] := by
  unfold fX10_layApart_L51_B at h
  refine x_iload_n (pc := 51) C 2 dX10_layApart_51 rfl rfl ?_
  refine x_iload_n (pc := 52) C 1 dX10_layApart_52 rfl rfl ?_
  refine x_icmp_ge (pc := 53) C 181 dX10_layApart_53 (by decide) (fun c_11 => ?_) (fun c_11 => ?_)
  · have h := kIp c_11 h
    refine kX.pick [] (lv' := []) rfl ?_
    exact hK v2 st h
  · have h := kIn c_11 h
    refine x_iconst (pc := 56) C 0 dX10_layApart_56 (by decide) ?_
    refine x_istore_n (pc := 57) C (lv' := [(3, .int 0), (0, .ref (a 0)), (1, .int v1), (2, .int v2)]) dX10_layApart_57 rfl (by decide) rfl ?_
    refine kX.pick [1, 2, 3, 0] (lv' := [(0, .ref (a 0)), (1, .int v1), (2, .int v2), (3, .int 0)]) rfl ?_
    refine wX10_layApart_L58  C Zd  v1 v2 (fun v3_29 st_30 h => ?_) kFU 0 st h
    refine x_iconst (pc := 147) C 0 dX10_layApart_147 (by decide) ?_
    refine x_istore_n (pc := 148) C (lv' := [(3, .int 0), (0, .ref (a 0)), (1, .int v1), (2, .int v2)]) dX10_layApart_148 rfl (by decide) rfl ?_
    refine kX.pick [1, 2, 3, 0] (lv' := [(0, .ref (a 0)), (1, .int v1), (2, .int v2), (3, .int 0)]) rfl ?_
    refine wX10_layApart_L149  C Zd  v1 v2 (fun v3_35 st_36 h => ?_) kFU 0 st_30 h
    refine x_iinc (pc := 175) C 2 (v := v2 + 1) (lv' := [(2, .int (v2 + 1)), (0, .ref (a 0)), (1, .int v1)]) dX10_layApart_175 rfl rfl (by decide) rfl ?_
    refine x_goto (pc := 178) C 51 dX10_layApart_178 (by decide) ?_
    refine kX.pick [1, 2, 0] (lv' := [(0, .ref (a 0)), (1, .int v1), (2, .int (v2 + 1))]) rfl ?_
    exact hG (v2 + 1) st_36 h
def fX10_layApart_L51 (K : Int32 → kS → Option (kS)) (v1 : Int32) : Nat → Int32 → kS → Option (kS)
  | 0, _, _ => none
  | F + 1, v2, st => fX10_layApart_L51_B K (fX10_layApart_L51 K v1 F) st v1 v2
set_option maxRecDepth 100000 in
set_option maxHeartbeats 4000000 in
theorem wX10_layApart_L51 {G : kG} {E : kE} {a : Nat → Nat} (C : kOk G E cX10_layApart RX10 6 rmfX10_layApart) {z : kS} (Zd : kEnd G E (0, 0) none none (wM G a z)) {K : Int32 → kS → Option (kS)} (v1 : Int32) (hK : ∀ (u2 : Int32) (su : kS), K u2 su = some z → kX G E (0, 0) (wM G a su) 181 [] []) : ∀ (F : Nat) (v2 : Int32) (st : kS), fX10_layApart_L51 K v1 F v2 st = some z → kX G E (0, 0) (wM G a st) 51 [(0, .ref (a 0)), (1, .int v1), (2, .int v2)] [] := by
  intro F
  induction F with
  | zero =>
    intro v2 st h
    exact absurd (show none = some z from h) (fun q => by cases q)
  | succ F ih =>
    intro v2 st h
    exact wX10_layApart_L51_B  C Zd  st v1 v2 hK (fun v2 st h => ih v2 st h) h
def fX10_layApart (st : kS) (x1 : Int32) : Option (kS) := fX10_layApart_L2 (fun v2_9 st_10 => fX10_layApart_L51 (fun v2_37 st_38 => some st_38) x1 kFU 0 st_10) x1 kFU 0 st
set_option maxRecDepth 100000 in
set_option maxHeartbeats 4000000 in
theorem wX10_layApart {G : kG} {E : kE} {a : Nat → Nat} (C : kOk G E cX10_layApart RX10 6 rmfX10_layApart) {z : kS} (Zd : kEnd G E (0, 0) none none (wM G a z)) (st : kS) (x1 : Int32) (h : fX10_layApart st x1 = some z) : kX G E (0, 0) (wM G a st) 0 [(0, .ref (a 0)), (1, .int x1)] [] := by
  unfold fX10_layApart at h
  refine x_iconst (pc := 0) C 0 dX10_layApart_0 (by decide) ?_
  refine x_istore_n (pc := 1) C (lv' := [(2, .int 0), (0, .ref (a 0)), (1, .int x1)]) dX10_layApart_1 rfl (by decide) rfl ?_
  refine kX.pick [1, 2, 0] (lv' := [(0, .ref (a 0)), (1, .int x1), (2, .int 0)]) rfl ?_
  refine wX10_layApart_L2  C Zd  x1 (fun v2_9 st_10 h => ?_) kFU 0 st h
  refine x_iconst (pc := 49) C 0 dX10_layApart_49 (by decide) ?_
  refine x_istore_n (pc := 50) C (lv' := [(2, .int 0), (0, .ref (a 0)), (1, .int x1)]) dX10_layApart_50 rfl (by decide) rfl ?_
  refine kX.pick [1, 2, 0] (lv' := [(0, .ref (a 0)), (1, .int x1), (2, .int 0)]) rfl ?_
  refine wX10_layApart_L51  C Zd  x1 (fun v2_37 st_38 h => ?_) kFU 0 st_10 h
  obtain rfl := Option.some.inj h
  exact x_vret (pc := 181) C Zd dX10_layApart_181
set_option maxRecDepth 100000 in
theorem mX10_layApart (G : kG) (a : Nat → Nat) (st : kS) (x1 : Int32) {z : kS} (h : fX10_layApart st x1 = some z) : kMet G yX10_layApart cX10_layApart 6 none rmfX10_layApart (0, 0) [.ref (a 0), .int x1] (wM G a st) none (wM G a z) := kMet.mk (by decide +kernel) (Nat.le_of_ble_eq_true rfl) (fun E C Zd => wX10_layApart  C Zd  st x1 h)
theorem yvX10_chooseOf : kYV yX10_chooseOf RX10 cX10_chooseOf 6 (some .int) 2 := ⟨q29_0, q29_1, q1_5, q29_2, by decide +kernel⟩
abbrev rmfX10_chooseOf : Room := { frames := 4, cells := 0, slots := 0, locals := 97 }
def fX10_chooseOf_L12_B (K : Int32 → Int32 → Option (Int32 × kS)) (Gc : Int32 → Int32 → Option (Int32 × kS)) (st : kS) (v1 : Int32) (v3 : Int32) (v4 : Int32) : Option (Int32 × kS) := if 2 ≤ v4 then (K v3 v4) else ((fX10_indexNow st).bind (fun z_3 => (fX10_placeBy st v1 v4).bind (fun z_4 => (fX10_behind st z_3 z_4).bind (fun z_5 => (ka 720 (gA st 16) z_5).bind (fun x_6 => (fX10_indexNow st).bind (fun z_8 => (fX10_placeBy st v1 v3).bind (fun z_9 => (fX10_behind st z_8 z_9).bind (fun z_10 => (ka 720 (gA st 16) z_10).bind (fun x_11 => if x_6 ≤ x_11 then (Gc v3 (v4 + 1)) else (Gc v4 (v4 + 1)))))))))))
set_option maxRecDepth 100000 in
set_option maxHeartbeats 4000000 in
theorem wX10_chooseOf_L12_B {G : kG} {E : kE} {a : Nat → Nat} (C : kOk G E cX10_chooseOf RX10 6 rmfX10_chooseOf) {z : Int32 × kS} (Zd : kEnd G E (0, 0) (some .int) (some (.int z.1)) (wM G a z.2)) {K Gc : Int32 → Int32 → Option (Int32 × kS)} (st : kS) (v1 : Int32) (v3 : Int32) (v4 : Int32) (hK : ∀ (u3 : Int32) (u4 : Int32), K u3 u4 = some z → kX G E (0, 0) (wM G a st) 77 [(3, .int u3)] []) (hG : ∀ (u3 : Int32) (u4 : Int32), Gc u3 u4 = some z → kX G E (0, 0) (wM G a st) 12 [(0, .ref (a 0)), (1, .int v1), (3, .int u3), (4, .int u4)] []) (h : fX10_chooseOf_L12_B K Gc st v1 v3 v4 = some z) : kX G E (0, 0) (wM G a st) 12 [(0, .ref (a 0)), (1, .int v1), (3, .int v3), (4, .int v4)] [] := by
  unfold fX10_chooseOf_L12_B at h
  refine x_iload (pc := 12) C 3 dX10_chooseOf_12 rfl ?_
  refine x_iconst (pc := 14) C 2 dX10_chooseOf_14 (by decide) ?_
  refine x_icmp_ge (pc := 15) C 77 dX10_chooseOf_15 (by decide) (fun c_2 => ?_) (fun c_2 => ?_)
  · have h := kIp c_2 h
    refine kX.pick [2] (lv' := [(3, .int v3)]) rfl ?_
    exact hK v3 v4 h
  · have h := kIn c_2 h
    refine x_aload_n (pc := 18) C 0 dX10_chooseOf_18 rfl rfl ?_
    refine x_get (pc := 19) C inlX10 0 rfl rfl 34 (by decide) q6_6 (v := .ref (a 16)) rfl dX10_chooseOf_19 ?_
    refine x_aload_n (pc := 22) C 0 dX10_chooseOf_22 rfl rfl ?_
    refine x_aload_n (pc := 23) C 0 dX10_chooseOf_23 rfl rfl ?_
    obtain ⟨z_3, hz_3, h⟩ := kB h
    refine x_callV (pc := 24) C 0 [] rfl rfl (mX10_indexNow G a st hz_3) yvX10_indexNow q25_22 ⟨Nat.le_of_ble_eq_true rfl, Nat.le_of_ble_eq_true rfl, rfl, rfl⟩ ⟨Nat.zero_le _, Nat.zero_le _⟩ rfl rfl (Nat.le_of_ble_eq_true rfl) rfl dX10_chooseOf_24 ?_
    refine x_aload_n (pc := 27) C 0 dX10_chooseOf_27 rfl rfl ?_
    refine x_iload_n (pc := 28) C 1 dX10_chooseOf_28 rfl rfl ?_
    refine x_iload (pc := 29) C 3 dX10_chooseOf_29 rfl ?_
    obtain ⟨z_4, hz_4, h⟩ := kB h
    refine x_callV (pc := 31) C 0 [.int v1, .int v4] rfl rfl (mX10_placeBy G a st v1 v4 hz_4) yvX10_placeBy q26_2 ⟨Nat.le_of_ble_eq_true rfl, Nat.le_of_ble_eq_true rfl, rfl, rfl⟩ ⟨Nat.zero_le _, Nat.zero_le _⟩ rfl rfl (Nat.le_of_ble_eq_true rfl) rfl dX10_chooseOf_31 ?_
    obtain ⟨z_5, hz_5, h⟩ := kB h
    refine x_callV (pc := 34) C 0 [.int z_3, .int z_4] rfl rfl (mX10_behind G a st z_3 z_4 hz_5) yvX10_behind q26_6 ⟨Nat.le_of_ble_eq_true rfl, Nat.le_of_ble_eq_true rfl, rfl, rfl⟩ ⟨Nat.zero_le _, Nat.zero_le _⟩ rfl rfl (Nat.le_of_ble_eq_true rfl) rfl dX10_chooseOf_34 ?_
    obtain ⟨x_6, hx_6, h⟩ := kB h
    obtain ⟨hi_7, hx_6⟩ := ka_some hx_6
    refine y_iald (pc := 37) C 16 (lwM_A16 G a rfl) hi_7 hx_6 dX10_chooseOf_37 ?_
    refine x_istore (pc := 38) C (lv' := [(5, .int x_6), (0, .ref (a 0)), (1, .int v1), (3, .int v3), (4, .int v4)]) dX10_chooseOf_38 (by decide) rfl ?_
    refine x_iload (pc := 40) C 0 dX10_chooseOf_40 rfl ?_
    refine x_aload_n (pc := 42) C 1 dX10_chooseOf_42 rfl rfl ?_
    refine x_get (pc := 43) C inlX10 0 rfl rfl 34 (by decide) q6_6 (v := .ref (a 16)) rfl dX10_chooseOf_43 ?_
    refine x_aload_n (pc := 46) C 1 dX10_chooseOf_46 rfl rfl ?_
    refine x_aload_n (pc := 47) C 1 dX10_chooseOf_47 rfl rfl ?_
    obtain ⟨z_8, hz_8, h⟩ := kB h
    refine x_callV (pc := 48) C 0 [] rfl rfl (mX10_indexNow G a st hz_8) yvX10_indexNow q25_22 ⟨Nat.le_of_ble_eq_true rfl, Nat.le_of_ble_eq_true rfl, rfl, rfl⟩ ⟨Nat.zero_le _, Nat.zero_le _⟩ rfl rfl (Nat.le_of_ble_eq_true rfl) rfl dX10_chooseOf_48 ?_
    refine x_aload_n (pc := 51) C 1 dX10_chooseOf_51 rfl rfl ?_
    refine x_iload_n (pc := 52) C 2 dX10_chooseOf_52 rfl rfl ?_
    refine x_iload_n (pc := 53) C 3 dX10_chooseOf_53 rfl rfl ?_
    obtain ⟨z_9, hz_9, h⟩ := kB h
    refine x_callV (pc := 54) C 0 [.int v1, .int v3] rfl rfl (mX10_placeBy G a st v1 v3 hz_9) yvX10_placeBy q26_2 ⟨Nat.le_of_ble_eq_true rfl, Nat.le_of_ble_eq_true rfl, rfl, rfl⟩ ⟨Nat.zero_le _, Nat.zero_le _⟩ rfl rfl (Nat.le_of_ble_eq_true rfl) rfl dX10_chooseOf_54 ?_
    obtain ⟨z_10, hz_10, h⟩ := kB h
    refine x_callV (pc := 57) C 0 [.int z_8, .int z_9] rfl rfl (mX10_behind G a st z_8 z_9 hz_10) yvX10_behind q26_6 ⟨Nat.le_of_ble_eq_true rfl, Nat.le_of_ble_eq_true rfl, rfl, rfl⟩ ⟨Nat.zero_le _, Nat.zero_le _⟩ rfl rfl (Nat.le_of_ble_eq_true rfl) rfl dX10_chooseOf_57 ?_
    obtain ⟨x_11, hx_11, h⟩ := kB h
    obtain ⟨hi_12, hx_11⟩ := ka_some hx_11
    refine y_iald (pc := 60) C 16 (lwM_A16 G a rfl) hi_12 hx_11 dX10_chooseOf_60 ?_
    refine x_icmp_le (pc := 61) C 69 dX10_chooseOf_61 (by decide) (fun c_13 => ?_) (fun c_13 => ?_)
    · have h := kIp c_13 h
      refine x_iload_n (pc := 69) C 3 dX10_chooseOf_69 rfl rfl ?_
      refine x_istore_n (pc := 70) C (lv' := [(3, .int v3), (5, .int x_6), (0, .ref (a 0)), (1, .int v1), (4, .int v4)]) dX10_chooseOf_70 rfl (by decide) rfl ?_
      refine x_iinc (pc := 71) C 4 (v := v4 + 1) (lv' := [(4, .int (v4 + 1)), (3, .int v3), (5, .int x_6), (0, .ref (a 0)), (1, .int v1)]) dX10_chooseOf_71 rfl rfl (by decide) rfl ?_
      refine x_goto (pc := 74) C 12 dX10_chooseOf_74 (by decide) ?_
      refine kX.pick [3, 4, 1, 0] (lv' := [(0, .ref (a 0)), (1, .int v1), (3, .int v3), (4, .int (v4 + 1))]) rfl ?_
      exact hG v3 (v4 + 1) h
    · have h := kIn c_13 h
      refine x_iload (pc := 64) C 4 dX10_chooseOf_64 rfl ?_
      refine x_goto (pc := 66) C 70 dX10_chooseOf_66 (by decide) ?_
      refine x_istore_n (pc := 70) C (lv' := [(3, .int v4), (5, .int x_6), (0, .ref (a 0)), (1, .int v1), (4, .int v4)]) dX10_chooseOf_70 rfl (by decide) rfl ?_
      refine x_iinc (pc := 71) C 4 (v := v4 + 1) (lv' := [(4, .int (v4 + 1)), (3, .int v4), (5, .int x_6), (0, .ref (a 0)), (1, .int v1)]) dX10_chooseOf_71 rfl rfl (by decide) rfl ?_
      refine x_goto (pc := 74) C 12 dX10_chooseOf_74 (by decide) ?_
      refine kX.pick [3, 4, 1, 0] (lv' := [(0, .ref (a 0)), (1, .int v1), (3, .int v4), (4, .int (v4 + 1))]) rfl ?_
      exact hG v4 (v4 + 1) h
def fX10_chooseOf_L12 (K : Int32 → Int32 → Option (Int32 × kS)) (st : kS) (v1 : Int32) : Nat → Int32 → Int32 → Option (Int32 × kS)
  | 0, _, _ => none
  | F + 1, v3, v4 => fX10_chooseOf_L12_B K (fX10_chooseOf_L12 K st v1 F) st v1 v3 v4
set_option maxRecDepth 100000 in
set_option maxHeartbeats 4000000 in
theorem wX10_chooseOf_L12 {G : kG} {E : kE} {a : Nat → Nat} (C : kOk G E cX10_chooseOf RX10 6 rmfX10_chooseOf) {z : Int32 × kS} (Zd : kEnd G E (0, 0) (some .int) (some (.int z.1)) (wM G a z.2)) {K : Int32 → Int32 → Option (Int32 × kS)} (st : kS) (v1 : Int32) (hK : ∀ (u3 : Int32) (u4 : Int32), K u3 u4 = some z → kX G E (0, 0) (wM G a st) 77 [(3, .int u3)] []) : ∀ (F : Nat) (v3 : Int32) (v4 : Int32), fX10_chooseOf_L12 K st v1 F v3 v4 = some z → kX G E (0, 0) (wM G a st) 12 [(0, .ref (a 0)), (1, .int v1), (3, .int v3), (4, .int v4)] [] := by
  intro F
  induction F with
  | zero =>
    intro v3 v4 h
    exact absurd (show none = some z from h) (fun q => by cases q)
  | succ F ih =>
    intro v3 v4 h
    exact wX10_chooseOf_L12_B  C Zd  st v1 v3 v4 hK (fun v3 v4 h => ih v3 v4 h) h
def fX10_chooseOf (st : kS) (x1 : Int32) (x2 : Int32) : Option (Int32 × kS) := (fX10_layApart st (x2 - 1)).bind (fun z_1 => fX10_chooseOf_L12 (fun v3_14 v4_15 => some (v3_14, z_1)) z_1 x1 kFU (-1) 0)
set_option maxRecDepth 100000 in
set_option maxHeartbeats 4000000 in
theorem wX10_chooseOf {G : kG} {E : kE} {a : Nat → Nat} (C : kOk G E cX10_chooseOf RX10 6 rmfX10_chooseOf) {z : Int32 × kS} (Zd : kEnd G E (0, 0) (some .int) (some (.int z.1)) (wM G a z.2)) (st : kS) (x1 : Int32) (x2 : Int32) (h : fX10_chooseOf st x1 x2 = some z) : kX G E (0, 0) (wM G a st) 0 [(0, .ref (a 0)), (1, .int x1), (2, .int x2)] [] := by
  unfold fX10_chooseOf at h
  refine x_aload_n (pc := 0) C 0 dX10_chooseOf_0 rfl rfl ?_
  refine x_iload_n (pc := 1) C 2 dX10_chooseOf_1 rfl rfl ?_
  refine x_iconst (pc := 2) C 1 dX10_chooseOf_2 (by decide) ?_
  refine x_isub (pc := 3) C dX10_chooseOf_3 ?_
  obtain ⟨z_1, hz_1, h⟩ := kB h
  refine x_callV (pc := 4) C 0 [.int (x2 - 1)] rfl rfl (mX10_layApart G a st (x2 - 1) hz_1) yvX10_layApart q29_3 ⟨Nat.le_of_ble_eq_true rfl, Nat.le_of_ble_eq_true rfl, rfl, rfl⟩ ⟨Nat.zero_le _, Nat.zero_le _⟩ rfl rfl (Nat.le_of_ble_eq_true rfl) rfl dX10_chooseOf_4 ?_
  refine x_iconst (pc := 7) C (-1) dX10_chooseOf_7 (by decide) ?_
  refine x_istore_n (pc := 8) C (lv' := [(3, .int (-1)), (0, .ref (a 0)), (1, .int x1), (2, .int x2)]) dX10_chooseOf_8 rfl (by decide) rfl ?_
  refine x_iconst (pc := 9) C 0 dX10_chooseOf_9 (by decide) ?_
  refine x_istore (pc := 10) C (lv' := [(4, .int 0), (3, .int (-1)), (0, .ref (a 0)), (1, .int x1), (2, .int x2)]) dX10_chooseOf_10 (by decide) rfl ?_
  refine kX.pick [2, 3, 1, 0] (lv' := [(0, .ref (a 0)), (1, .int x1), (3, .int (-1)), (4, .int 0)]) rfl ?_
  refine wX10_chooseOf_L12  C Zd  z_1 x1 (fun v3_14 v4_15 h => ?_) kFU (-1) 0 h
  refine x_iload_n (pc := 77) C 0 dX10_chooseOf_77 rfl rfl ?_
  obtain rfl := Option.some.inj h
  exact x_iret (pc := 78) C Zd dX10_chooseOf_78
set_option maxRecDepth 100000 in
theorem mX10_chooseOf (G : kG) (a : Nat → Nat) (st : kS) (x1 : Int32) (x2 : Int32) {z : Int32 × kS} (h : fX10_chooseOf st x1 x2 = some z) : kMet G yX10_chooseOf cX10_chooseOf 6 (some .int) rmfX10_chooseOf (0, 0) [.ref (a 0), .int x1, .int x2] (wM G a st) (some (.int z.1)) (wM G a z.2) := kMet.mk (by decide +kernel) (Nat.le_of_ble_eq_true rfl) (fun E C Zd => wX10_chooseOf  C Zd  st x1 x2 h)
theorem yvX10_nights : kYV yX10_nights RX10 cX10_nights 6 (some .int) 2 := ⟨q28_12, q28_13, q1_5, q28_14, by decide +kernel⟩
abbrev rmfX10_nights : Room := { frames := 5, cells := 0, slots := 0, locals := 122 }
def fX10_nights_J67 (K : Int32 → Int32 → kS → Option (Int32 × kS)) (Gc : Int32 → Int32 → kS → Option (Int32 × kS)) (st : kS) (v1 : Int32) (v2 : Int32) (v3 : Int32) (v4 : Int32) (s0 : Int32) (s1 : Int32) : Option (Int32 × kS) := (fX10_goNight st s1 s0).bind (fun z_8 => (fX10_touchIn 6 (gA z_8.2 3) z_8.2).bind (fun z_9 => if z_9 ≤ 0 then (Gc (v3 + 0) (v4 + 1) z_8.2) else (Gc (v3 + 1) (v4 + 1) z_8.2)))
set_option maxRecDepth 100000 in
set_option maxHeartbeats 4000000 in
theorem wX10_nights_J67 {G : kG} {E : kE} {a : Nat → Nat} (C : kOk G E cX10_nights RX10 6 rmfX10_nights) {z : Int32 × kS} (Zd : kEnd G E (0, 0) (some .int) (some (.int z.1)) (wM G a z.2)) {K Gc : Int32 → Int32 → kS → Option (Int32 × kS)} (st : kS) (v1 : Int32) (v2 : Int32) (v3 : Int32) (v4 : Int32) (s0 : Int32) (s1 : Int32) (hK : ∀ (u3 : Int32) (u4 : Int32) (su : kS), K u3 u4 su = some z → kX G E (0, 0) (wM G a su) 96 [(3, .int u3)] []) (hG : ∀ (u3 : Int32) (u4 : Int32) (su : kS), Gc u3 u4 su = some z → kX G E (0, 0) (wM G a su) 37 [(0, .ref (a 0)), (1, .int v1), (2, .int v2), (3, .int u3), (4, .int u4)] []) (h : fX10_nights_J67 K Gc st v1 v2 v3 v4 s0 s1 = some z) : kX G E (0, 0) (wM G a st) 67 [(0, .ref (a 0)), (1, .int v1), (2, .int v2), (3, .int v3), (4, .int v4)] [.int s0, .int s1, .ref (a 0)] := by
  unfold fX10_nights_J67 at h
  obtain ⟨z_8, hz_8, h⟩ := kB h
  refine x_callV (pc := 67) C 0 [.int s1, .int s0] rfl rfl (mX10_goNight G a st s1 s0 hz_8) yvX10_goNight q25_18 ⟨Nat.le_of_ble_eq_true rfl, Nat.le_of_ble_eq_true rfl, rfl, rfl⟩ ⟨Nat.zero_le _, Nat.zero_le _⟩ rfl rfl (Nat.le_of_ble_eq_true rfl) rfl dX10_nights_67 ?_
  refine x_pop (pc := 70) C dX10_nights_70 rfl ?_
  refine x_iload_n (pc := 71) C 3 dX10_nights_71 rfl rfl ?_
  refine x_aload_n (pc := 72) C 0 dX10_nights_72 rfl rfl ?_
  refine x_aload_n (pc := 73) C 0 dX10_nights_73 rfl rfl ?_
  refine x_get (pc := 74) C inlX10 0 rfl rfl 4 (by decide) q5_14 (v := .ref (a 3)) rfl dX10_nights_74 ?_
  obtain ⟨z_9, hz_9, h⟩ := kB h
  refine x_callV (pc := 77) C 0 [.ref (a 3)] rfl rfl (mX10_touchIn G a (N := 6) (f := (gA z_8.2 3)) 3 (lwM_A3 G a rfl) (by decide) z_8.2 hz_9) yvX10_touchIn q22_21 ⟨Nat.le_of_ble_eq_true rfl, Nat.le_of_ble_eq_true rfl, rfl, rfl⟩ ⟨Nat.zero_le _, Nat.zero_le _⟩ rfl rfl (Nat.le_of_ble_eq_true rfl) rfl dX10_nights_77 ?_
  refine x_if_le (pc := 80) C 87 dX10_nights_80 (by decide) (fun c_10 => ?_) (fun c_10 => ?_)
  · have h := kIp c_10 h
    refine x_iconst (pc := 87) C 0 dX10_nights_87 (by decide) ?_
    refine x_iadd (pc := 88) C dX10_nights_88 ?_
    refine x_istore_n (pc := 89) C (lv' := [(3, .int (v3 + 0)), (0, .ref (a 0)), (1, .int v1), (2, .int v2), (4, .int v4)]) dX10_nights_89 rfl (by decide) rfl ?_
    refine x_iinc (pc := 90) C 4 (v := v4 + 1) (lv' := [(4, .int (v4 + 1)), (3, .int (v3 + 0)), (0, .ref (a 0)), (1, .int v1), (2, .int v2)]) dX10_nights_90 rfl rfl (by decide) rfl ?_
    refine x_goto (pc := 93) C 37 dX10_nights_93 (by decide) ?_
    refine kX.pick [2, 3, 4, 1, 0] (lv' := [(0, .ref (a 0)), (1, .int v1), (2, .int v2), (3, .int (v3 + 0)), (4, .int (v4 + 1))]) rfl ?_
    exact hG (v3 + 0) (v4 + 1) z_8.2 h
  · have h := kIn c_10 h
    refine x_iconst (pc := 83) C 1 dX10_nights_83 (by decide) ?_
    refine x_goto (pc := 84) C 88 dX10_nights_84 (by decide) ?_
    refine x_iadd (pc := 88) C dX10_nights_88 ?_
    refine x_istore_n (pc := 89) C (lv' := [(3, .int (v3 + 1)), (0, .ref (a 0)), (1, .int v1), (2, .int v2), (4, .int v4)]) dX10_nights_89 rfl (by decide) rfl ?_
    refine x_iinc (pc := 90) C 4 (v := v4 + 1) (lv' := [(4, .int (v4 + 1)), (3, .int (v3 + 1)), (0, .ref (a 0)), (1, .int v1), (2, .int v2)]) dX10_nights_90 rfl rfl (by decide) rfl ?_
    refine x_goto (pc := 93) C 37 dX10_nights_93 (by decide) ?_
    refine kX.pick [2, 3, 4, 1, 0] (lv' := [(0, .ref (a 0)), (1, .int v1), (2, .int v2), (3, .int (v3 + 1)), (4, .int (v4 + 1))]) rfl ?_
    exact hG (v3 + 1) (v4 + 1) z_8.2 h
def fX10_nights_L37_B (K : Int32 → Int32 → kS → Option (Int32 × kS)) (Gc : Int32 → Int32 → kS → Option (Int32 × kS)) (st : kS) (v1 : Int32) (v2 : Int32) (v3 : Int32) (v4 : Int32) : Option (Int32 × kS) := if v1 ≤ v4 then (K v3 v4 st) else ((fX10_draw st).bind (fun z_5 => if v2 = 0 then (fX10_nights_J67 K Gc z_5.2 v1 v2 v3 v4 0 z_5.1) else ((fX10_chooseOf z_5.2 z_5.1 2).bind (fun z_7 => fX10_nights_J67 K Gc z_7.2 v1 v2 v3 v4 z_7.1 z_5.1))))
set_option maxRecDepth 100000 in
set_option maxHeartbeats 4000000 in
theorem wX10_nights_L37_B {G : kG} {E : kE} {a : Nat → Nat} (C : kOk G E cX10_nights RX10 6 rmfX10_nights) {z : Int32 × kS} (Zd : kEnd G E (0, 0) (some .int) (some (.int z.1)) (wM G a z.2)) {K Gc : Int32 → Int32 → kS → Option (Int32 × kS)} (st : kS) (v1 : Int32) (v2 : Int32) (v3 : Int32) (v4 : Int32) (hK : ∀ (u3 : Int32) (u4 : Int32) (su : kS), K u3 u4 su = some z → kX G E (0, 0) (wM G a su) 96 [(3, .int u3)] []) (hG : ∀ (u3 : Int32) (u4 : Int32) (su : kS), Gc u3 u4 su = some z → kX G E (0, 0) (wM G a su) 37 [(0, .ref (a 0)), (1, .int v1), (2, .int v2), (3, .int u3), (4, .int u4)] []) (h : fX10_nights_L37_B K Gc st v1 v2 v3 v4 = some z) : kX G E (0, 0) (wM G a st) 37 [(0, .ref (a 0)), (1, .int v1), (2, .int v2), (3, .int v3), (4, .int v4)] [] := by
  unfold fX10_nights_L37_B at h
  refine x_iload (pc := 37) C 4 dX10_nights_37 rfl ?_
  refine x_iload_n (pc := 39) C 1 dX10_nights_39 rfl rfl ?_
  refine x_icmp_ge (pc := 40) C 96 dX10_nights_40 (by decide) (fun c_4 => ?_) (fun c_4 => ?_)
  · have h := kIp c_4 h
    refine kX.pick [3] (lv' := [(3, .int v3)]) rfl ?_
    exact hK v3 v4 st h
  · have h := kIn c_4 h
    refine x_aload_n (pc := 43) C 0 dX10_nights_43 rfl rfl ?_
    obtain ⟨z_5, hz_5, h⟩ := kB h
    refine x_callV (pc := 44) C 0 [] rfl rfl (mX10_draw G a st hz_5) yvX10_draw q28_15 ⟨Nat.le_of_ble_eq_true rfl, Nat.le_of_ble_eq_true rfl, rfl, rfl⟩ ⟨Nat.zero_le _, Nat.zero_le _⟩ rfl rfl (Nat.le_of_ble_eq_true rfl) rfl dX10_nights_44 ?_
    refine x_istore (pc := 47) C (lv' := [(5, .int z_5.1), (0, .ref (a 0)), (1, .int v1), (2, .int v2), (3, .int v3), (4, .int v4)]) dX10_nights_47 (by decide) rfl ?_
    refine x_aload_n (pc := 49) C 1 dX10_nights_49 rfl rfl ?_
    refine x_iload (pc := 50) C 0 dX10_nights_50 rfl ?_
    refine x_iload_n (pc := 52) C 3 dX10_nights_52 rfl rfl ?_
    refine x_if_ne (pc := 53) C 60 dX10_nights_53 (by decide) (fun c_6 => ?_) (fun c_6 => ?_)
    · have h := kIn c_6 h
      refine x_aload_n (pc := 60) C 1 dX10_nights_60 rfl rfl ?_
      refine x_iload (pc := 61) C 0 dX10_nights_61 rfl ?_
      refine x_iconst (pc := 63) C 2 dX10_nights_63 (by decide) ?_
      obtain ⟨z_7, hz_7, h⟩ := kB h
      refine x_callV (pc := 64) C 0 [.int z_5.1, .int 2] rfl rfl (mX10_chooseOf G a z_5.2 z_5.1 2 hz_7) yvX10_chooseOf q28_23 ⟨Nat.le_of_ble_eq_true rfl, Nat.le_of_ble_eq_true rfl, rfl, rfl⟩ ⟨Nat.zero_le _, Nat.zero_le _⟩ rfl rfl (Nat.le_of_ble_eq_true rfl) rfl dX10_nights_64 ?_
      refine kX.pick [1, 2, 3, 4, 5] (lv' := [(0, .ref (a 0)), (1, .int v1), (2, .int v2), (3, .int v3), (4, .int v4)]) rfl ?_
      exact wX10_nights_J67  C Zd  z_7.2 v1 v2 v3 v4 z_7.1 z_5.1 hK hG h
    · have h := kIp c_6 h
      refine x_iconst (pc := 56) C 0 dX10_nights_56 (by decide) ?_
      refine x_goto (pc := 57) C 67 dX10_nights_57 (by decide) ?_
      refine kX.pick [1, 2, 3, 4, 5] (lv' := [(0, .ref (a 0)), (1, .int v1), (2, .int v2), (3, .int v3), (4, .int v4)]) rfl ?_
      exact wX10_nights_J67  C Zd  z_5.2 v1 v2 v3 v4 0 z_5.1 hK hG h
def fX10_nights_L37 (K : Int32 → Int32 → kS → Option (Int32 × kS)) (v1 : Int32) (v2 : Int32) : Nat → Int32 → Int32 → kS → Option (Int32 × kS)
  | 0, _, _, _ => none
  | F + 1, v3, v4, st => fX10_nights_L37_B K (fX10_nights_L37 K v1 v2 F) st v1 v2 v3 v4
set_option maxRecDepth 100000 in
set_option maxHeartbeats 4000000 in
theorem wX10_nights_L37 {G : kG} {E : kE} {a : Nat → Nat} (C : kOk G E cX10_nights RX10 6 rmfX10_nights) {z : Int32 × kS} (Zd : kEnd G E (0, 0) (some .int) (some (.int z.1)) (wM G a z.2)) {K : Int32 → Int32 → kS → Option (Int32 × kS)} (v1 : Int32) (v2 : Int32) (hK : ∀ (u3 : Int32) (u4 : Int32) (su : kS), K u3 u4 su = some z → kX G E (0, 0) (wM G a su) 96 [(3, .int u3)] []) : ∀ (F : Nat) (v3 : Int32) (v4 : Int32) (st : kS), fX10_nights_L37 K v1 v2 F v3 v4 st = some z → kX G E (0, 0) (wM G a st) 37 [(0, .ref (a 0)), (1, .int v1), (2, .int v2), (3, .int v3), (4, .int v4)] [] := by
  intro F
  induction F with
  | zero =>
    intro v3 v4 st h
    exact absurd (show none = some z from h) (fun q => by cases q)
  | succ F ih =>
    intro v3 v4 st h
    exact wX10_nights_L37_B  C Zd  st v1 v2 v3 v4 hK (fun v3 v4 st h => ih v3 v4 st h) h
def fX10_nights (st : kS) (x1 : Int32) (x2 : Int32) : Option (Int32 × kS) := if (gI st 0) = 0 then (some ((-103), st)) else (if (fX10_within x1 1 60) = 0 then (some ((-102), st)) else (if (fX10_within x2 0 1) = 0 then (some ((-102), st)) else (fX10_nights_L37 (fun v3_11 v4_12 st_13 => some (v3_11, st_13)) x1 x2 kFU 0 0 st)))
set_option maxRecDepth 100000 in
set_option maxHeartbeats 4000000 in
theorem wX10_nights {G : kG} {E : kE} {a : Nat → Nat} (C : kOk G E cX10_nights RX10 6 rmfX10_nights) {z : Int32 × kS} (Zd : kEnd G E (0, 0) (some .int) (some (.int z.1)) (wM G a z.2)) (st : kS) (x1 : Int32) (x2 : Int32) (h : fX10_nights st x1 x2 = some z) : kX G E (0, 0) (wM G a st) 0 [(0, .ref (a 0)), (1, .int x1), (2, .int x2)] [] := by
  unfold fX10_nights at h
  refine x_aload_n (pc := 0) C 0 dX10_nights_0 rfl rfl ?_
  refine x_get (pc := 1) C inlX10 0 rfl rfl 0 (by decide) q15_2 (v := .int (gI st 0)) rfl dX10_nights_1 ?_
  refine x_if_ne (pc := 4) C 10 dX10_nights_4 (by decide) (fun c_1 => ?_) (fun c_1 => ?_)
  · have h := kIn c_1 h
    refine x_iload_n (pc := 10) C 1 dX10_nights_10 rfl rfl ?_
    refine x_iconst (pc := 11) C 1 dX10_nights_11 (by decide) ?_
    refine x_bipush (pc := 12) C 60 dX10_nights_12 (by decide) ?_
    refine x_callS (pc := 14) C [.int x1, .int 1, .int 60] (mX10_within G x1 1 60) ysX10_within q10_2 ⟨Nat.le_of_ble_eq_true rfl, Nat.le_of_ble_eq_true rfl, rfl, rfl⟩ ⟨Nat.zero_le _, Nat.zero_le _⟩ rfl rfl (Nat.le_of_ble_eq_true rfl) rfl dX10_nights_14 ?_
    refine x_if_eq (pc := 17) C 29 dX10_nights_17 (by decide) (fun c_2 => ?_) (fun c_2 => ?_)
    · have h := kIp c_2 h
      refine x_bipush (pc := 29) C (-102) dX10_nights_29 (by decide) ?_
      obtain rfl := Option.some.inj h
      exact x_iret (pc := 31) C Zd dX10_nights_31
    · have h := kIn c_2 h
      refine x_iload_n (pc := 20) C 2 dX10_nights_20 rfl rfl ?_
      refine x_iconst (pc := 21) C 0 dX10_nights_21 (by decide) ?_
      refine x_iconst (pc := 22) C 1 dX10_nights_22 (by decide) ?_
      refine x_callS (pc := 23) C [.int x2, .int 0, .int 1] (mX10_within G x2 0 1) ysX10_within q10_2 ⟨Nat.le_of_ble_eq_true rfl, Nat.le_of_ble_eq_true rfl, rfl, rfl⟩ ⟨Nat.zero_le _, Nat.zero_le _⟩ rfl rfl (Nat.le_of_ble_eq_true rfl) rfl dX10_nights_23 ?_
      refine x_if_ne (pc := 26) C 32 dX10_nights_26 (by decide) (fun c_3 => ?_) (fun c_3 => ?_)
      · have h := kIn c_3 h
        refine x_iconst (pc := 32) C 0 dX10_nights_32 (by decide) ?_
        refine x_istore_n (pc := 33) C (lv' := [(3, .int 0), (0, .ref (a 0)), (1, .int x1), (2, .int x2)]) dX10_nights_33 rfl (by decide) rfl ?_
        refine x_iconst (pc := 34) C 0 dX10_nights_34 (by decide) ?_
        refine x_istore (pc := 35) C (lv' := [(4, .int 0), (3, .int 0), (0, .ref (a 0)), (1, .int x1), (2, .int x2)]) dX10_nights_35 (by decide) rfl ?_
        refine kX.pick [2, 3, 4, 1, 0] (lv' := [(0, .ref (a 0)), (1, .int x1), (2, .int x2), (3, .int 0), (4, .int 0)]) rfl ?_
        refine wX10_nights_L37  C Zd  x1 x2 (fun v3_11 v4_12 st_13 h => ?_) kFU 0 0 st h
        refine x_iload_n (pc := 96) C 0 dX10_nights_96 rfl rfl ?_
        obtain rfl := Option.some.inj h
        exact x_iret (pc := 97) C Zd dX10_nights_97
      · have h := kIp c_3 h
        refine x_bipush (pc := 29) C (-102) dX10_nights_29 (by decide) ?_
        obtain rfl := Option.some.inj h
        exact x_iret (pc := 31) C Zd dX10_nights_31
  · have h := kIp c_1 h
    refine x_bipush (pc := 7) C (-103) dX10_nights_7 (by decide) ?_
    obtain rfl := Option.some.inj h
    exact x_iret (pc := 9) C Zd dX10_nights_9
set_option maxRecDepth 100000 in
theorem mX10_nights (G : kG) (a : Nat → Nat) (st : kS) (x1 : Int32) (x2 : Int32) {z : Int32 × kS} (h : fX10_nights st x1 x2 = some z) : kMet G yX10_nights cX10_nights 6 (some .int) rmfX10_nights (0, 0) [.ref (a 0), .int x1, .int x2] (wM G a st) (some (.int z.1)) (wM G a z.2) := kMet.mk (by decide +kernel) (Nat.le_of_ble_eq_true rfl) (fun E C Zd => wX10_nights  C Zd  st x1 x2 h)
theorem yvX10_seed : kYV yX10_seed RX10 cX10_seed 3 (some .int) 1 := ⟨q29_16, q29_17, q1_5, q29_18, by decide +kernel⟩
abbrev rmfX10_seed : Room := { frames := 0, cells := 0, slots := 0, locals := 0 }
def fX10_seed (st : kS) (x1 : Int32) : Int32 × kS := if 0 ≤ x1 then ((((gJ st 0).toInt32), (sJ st 0 x1.toInt64))) else (((-102), st))
set_option maxRecDepth 100000 in
set_option maxHeartbeats 4000000 in
theorem wX10_seed {G : kG} {E : kE} {a : Nat → Nat} (C : kOk G E cX10_seed RX10 3 rmfX10_seed) {z : Int32 × kS} (Zd : kEnd G E (0, 0) (some .int) (some (.int z.1)) (wM G a z.2)) (st : kS) (x1 : Int32) (h : fX10_seed st x1 = z) : kX G E (0, 0) (wM G a st) 0 [(0, .ref (a 0)), (1, .int x1)] [] := by
  unfold fX10_seed at h
  refine x_iload_n (pc := 0) C 1 dX10_seed_0 rfl rfl ?_
  refine x_if_ge (pc := 1) C 7 dX10_seed_1 (by decide) (fun c_1 => ?_) (fun c_1 => ?_)
  · have h := kIp c_1 h
    refine x_aload_n (pc := 7) C 0 dX10_seed_7 rfl rfl ?_
    refine x_get (pc := 8) C inlX10 0 rfl rfl 9 (by decide) q5_17 (v := .long (gJ st 0)) rfl dX10_seed_8 ?_
    refine x_l2i (pc := 11) C dX10_seed_11 ?_
    refine x_istore_n (pc := 12) C (lv' := [(2, .int ((gJ st 0).toInt32)), (0, .ref (a 0)), (1, .int x1)]) dX10_seed_12 rfl (by decide) rfl ?_
    refine x_aload_n (pc := 13) C 1 dX10_seed_13 rfl rfl ?_
    refine x_iload_n (pc := 14) C 2 dX10_seed_14 rfl rfl ?_
    refine x_i2l (pc := 15) C dX10_seed_15 ?_
    refine x_put (pc := 16) C inlX10 tyX10 tyX10_ok nmX10 0 rfl rfl 9 (by decide) q5_17 rfl .long (v := .long x1.toInt64) (by decide +kernel) rfl rfl (Nat.le_of_ble_eq_true rfl) (swM_J0 G a _ _) dX10_seed_16 ?_
    refine x_iload_n (pc := 19) C 0 dX10_seed_19 rfl rfl ?_
    subst h
    exact x_iret (pc := 20) C Zd dX10_seed_20
  · have h := kIn c_1 h
    refine x_bipush (pc := 4) C (-102) dX10_seed_4 (by decide) ?_
    subst h
    exact x_iret (pc := 6) C Zd dX10_seed_6
set_option maxRecDepth 100000 in
theorem mX10_seed (G : kG) (a : Nat → Nat) (st : kS) (x1 : Int32) : kMet G yX10_seed cX10_seed 3 (some .int) rmfX10_seed (0, 0) [.ref (a 0), .int x1] (wM G a st) (some (.int (fX10_seed st x1).1)) (wM G a (fX10_seed st x1).2) := kMet.mk (by decide +kernel) (Nat.le_of_ble_eq_true rfl) (fun E C Zd => wX10_seed  C Zd  st x1 rfl)
theorem yvX10_whole : kYV yX10_whole RX10 cX10_whole 4 (some .int) 1 := ⟨q30_17, q30_18, q1_5, q30_19, by decide +kernel⟩
abbrev rmfX10_whole : Room := { frames := 0, cells := 0, slots := 0, locals := 0 }
def fX10_whole_L4_B (K : Int32 → Int32 → Option (Int32)) (Gc : Int32 → Int32 → Option (Int32)) (st : kS) (v1 : Int32) (v2 : Int32) (v3 : Int32) : Option (Int32) := if v1 ≤ v3 then (K v2 v3) else (Gc (v2 * (gI st 0)) (v3 + 1))
set_option maxRecDepth 100000 in
set_option maxHeartbeats 4000000 in
theorem wX10_whole_L4_B {G : kG} {E : kE} {a : Nat → Nat} {st0 : kS} (C : kOk G E cX10_whole RX10 4 rmfX10_whole) {z : Int32} (Zd : kEnd G E (0, 0) (some .int) (some (.int z)) (wM G a st0)) {K Gc : Int32 → Int32 → Option (Int32)} (v1 : Int32) (v2 : Int32) (v3 : Int32) (hK : ∀ (u2 : Int32) (u3 : Int32), K u2 u3 = some z → kX G E (0, 0) (wM G a st0) 22 [(2, .int u2)] []) (hG : ∀ (u2 : Int32) (u3 : Int32), Gc u2 u3 = some z → kX G E (0, 0) (wM G a st0) 4 [(0, .ref (a 0)), (1, .int v1), (2, .int u2), (3, .int u3)] []) (h : fX10_whole_L4_B K Gc st0 v1 v2 v3 = some z) : kX G E (0, 0) (wM G a st0) 4 [(0, .ref (a 0)), (1, .int v1), (2, .int v2), (3, .int v3)] [] := by
  unfold fX10_whole_L4_B at h
  refine x_iload_n (pc := 4) C 3 dX10_whole_4 rfl rfl ?_
  refine x_iload_n (pc := 5) C 1 dX10_whole_5 rfl rfl ?_
  refine x_icmp_ge (pc := 6) C 22 dX10_whole_6 (by decide) (fun c_1 => ?_) (fun c_1 => ?_)
  · have h := kIp c_1 h
    refine kX.pick [2] (lv' := [(2, .int v2)]) rfl ?_
    exact hK v2 v3 h
  · have h := kIn c_1 h
    refine x_iload_n (pc := 9) C 2 dX10_whole_9 rfl rfl ?_
    refine x_aload_n (pc := 10) C 0 dX10_whole_10 rfl rfl ?_
    refine x_get (pc := 11) C inlX10 0 rfl rfl 0 (by decide) q15_2 (v := .int (gI st0 0)) rfl dX10_whole_11 ?_
    refine x_imul (pc := 14) C dX10_whole_14 ?_
    refine x_istore_n (pc := 15) C (lv' := [(2, .int (v2 * (gI st0 0))), (0, .ref (a 0)), (1, .int v1), (3, .int v3)]) dX10_whole_15 rfl (by decide) rfl ?_
    refine x_iinc (pc := 16) C 3 (v := v3 + 1) (lv' := [(3, .int (v3 + 1)), (2, .int (v2 * (gI st0 0))), (0, .ref (a 0)), (1, .int v1)]) dX10_whole_16 rfl rfl (by decide) rfl ?_
    refine x_goto (pc := 19) C 4 dX10_whole_19 (by decide) ?_
    refine kX.pick [2, 3, 1, 0] (lv' := [(0, .ref (a 0)), (1, .int v1), (2, .int (v2 * (gI st0 0))), (3, .int (v3 + 1))]) rfl ?_
    exact hG (v2 * (gI st0 0)) (v3 + 1) h
def fX10_whole_L4 (K : Int32 → Int32 → Option (Int32)) (st : kS) (v1 : Int32) : Nat → Int32 → Int32 → Option (Int32)
  | 0, _, _ => none
  | F + 1, v2, v3 => fX10_whole_L4_B K (fX10_whole_L4 K st v1 F) st v1 v2 v3
set_option maxRecDepth 100000 in
set_option maxHeartbeats 4000000 in
theorem wX10_whole_L4 {G : kG} {E : kE} {a : Nat → Nat} {st0 : kS} (C : kOk G E cX10_whole RX10 4 rmfX10_whole) {z : Int32} (Zd : kEnd G E (0, 0) (some .int) (some (.int z)) (wM G a st0)) {K : Int32 → Int32 → Option (Int32)} (v1 : Int32) (hK : ∀ (u2 : Int32) (u3 : Int32), K u2 u3 = some z → kX G E (0, 0) (wM G a st0) 22 [(2, .int u2)] []) : ∀ (F : Nat) (v2 : Int32) (v3 : Int32), fX10_whole_L4 K st0 v1 F v2 v3 = some z → kX G E (0, 0) (wM G a st0) 4 [(0, .ref (a 0)), (1, .int v1), (2, .int v2), (3, .int v3)] [] := by
  intro F
  induction F with
  | zero =>
    intro v2 v3 h
    exact absurd (show none = some z from h) (fun q => by cases q)
  | succ F ih =>
    intro v2 v3 h
    exact wX10_whole_L4_B  C Zd  v1 v2 v3 hK (fun v2 v3 h => ih v2 v3 h) h
def fX10_whole (st : kS) (x1 : Int32) : Option (Int32) := fX10_whole_L4 (fun v2_2 v3_3 => some v2_2) st x1 kFU 1 0
set_option maxRecDepth 100000 in
set_option maxHeartbeats 4000000 in
theorem wX10_whole {G : kG} {E : kE} {a : Nat → Nat} {st0 : kS} (C : kOk G E cX10_whole RX10 4 rmfX10_whole) {z : Int32} (Zd : kEnd G E (0, 0) (some .int) (some (.int z)) (wM G a st0)) (x1 : Int32) (h : fX10_whole st0 x1 = some z) : kX G E (0, 0) (wM G a st0) 0 [(0, .ref (a 0)), (1, .int x1)] [] := by
  unfold fX10_whole at h
  refine x_iconst (pc := 0) C 1 dX10_whole_0 (by decide) ?_
  refine x_istore_n (pc := 1) C (lv' := [(2, .int 1), (0, .ref (a 0)), (1, .int x1)]) dX10_whole_1 rfl (by decide) rfl ?_
  refine x_iconst (pc := 2) C 0 dX10_whole_2 (by decide) ?_
  refine x_istore_n (pc := 3) C (lv' := [(3, .int 0), (2, .int 1), (0, .ref (a 0)), (1, .int x1)]) dX10_whole_3 rfl (by decide) rfl ?_
  refine kX.pick [2, 3, 1, 0] (lv' := [(0, .ref (a 0)), (1, .int x1), (2, .int 1), (3, .int 0)]) rfl ?_
  refine wX10_whole_L4  C Zd  x1 (fun v2_2 v3_3 h => ?_) kFU 1 0 h
  refine x_iload_n (pc := 22) C 0 dX10_whole_22 rfl rfl ?_
  obtain rfl := Option.some.inj h
  exact x_iret (pc := 23) C Zd dX10_whole_23
set_option maxRecDepth 100000 in
theorem mX10_whole (G : kG) (a : Nat → Nat) (st : kS) (x1 : Int32) {z : Int32} (h : fX10_whole st x1 = some z) : kMet G yX10_whole cX10_whole 4 (some .int) rmfX10_whole (0, 0) [.ref (a 0), .int x1] (wM G a st) (some (.int z)) (wM G a st) := kMet.mk (by decide +kernel) (Nat.le_of_ble_eq_true rfl) (fun E C Zd => wX10_whole  C Zd  x1 h)
theorem ysX10_lowest : kYS yX10_lowest cX10_lowest 6 (some .int) 3 := ⟨q30_21, q1_5, q30_22, by decide +kernel⟩
abbrev rmfX10_lowest : Room := { frames := 0, cells := 0, slots := 0, locals := 0 }
def fX10_lowest_L5_B (K : Int32 → Int32 → Option (Int32)) (Gc : Int32 → Int32 → Option (Int32)) (v0 : Int32) (v1 : Int32) (v2 : Int32) (v3 : Int32) (v4 : Int32) : Option (Int32) := if v4 = 0 then (K v3 v4) else (Gc v4 (kr v3 v4))
set_option maxRecDepth 100000 in
set_option maxHeartbeats 4000000 in
theorem wX10_lowest_L5_B {G : kG} {E : kE} {ws : va_W} (C : kOk G E cX10_lowest RX10 6 rmfX10_lowest) {z : Int32} (Zd : kEnd G E (0, 0) (some .int) (some (.int z)) ws) {K Gc : Int32 → Int32 → Option (Int32)} (v0 : Int32) (v1 : Int32) (v2 : Int32) (v3 : Int32) (v4 : Int32) (hK : ∀ (u3 : Int32) (u4 : Int32), K u3 u4 = some z → kX G E (0, 0) ws 26 [(0, .int v0), (1, .int v1), (2, .int v2), (3, .int u3)] []) (hG : ∀ (u3 : Int32) (u4 : Int32), Gc u3 u4 = some z → kX G E (0, 0) ws 5 [(0, .int v0), (1, .int v1), (2, .int v2), (3, .int u3), (4, .int u4)] []) (h : fX10_lowest_L5_B K Gc v0 v1 v2 v3 v4 = some z) : kX G E (0, 0) ws 5 [(0, .int v0), (1, .int v1), (2, .int v2), (3, .int v3), (4, .int v4)] [] := by
  unfold fX10_lowest_L5_B at h
  refine x_iload (pc := 5) C 4 dX10_lowest_5 rfl ?_
  refine x_if_eq (pc := 7) C 26 dX10_lowest_7 (by decide) (fun c_1 => ?_) (fun c_1 => ?_)
  · have h := kIp c_1 h
    refine kX.pick [0, 1, 2, 3] (lv' := [(0, .int v0), (1, .int v1), (2, .int v2), (3, .int v3)]) rfl ?_
    exact hK v3 v4 h
  · have h := kIn c_1 h
    refine x_iload_n (pc := 10) C 3 dX10_lowest_10 rfl rfl ?_
    refine x_iload (pc := 11) C 4 dX10_lowest_11 rfl ?_
    refine y_irem (pc := 13) C dX10_lowest_13 c_1 ?_
    refine x_istore (pc := 14) C (lv' := [(5, .int (kr v3 v4)), (0, .int v0), (1, .int v1), (2, .int v2), (3, .int v3), (4, .int v4)]) dX10_lowest_14 (by decide) rfl ?_
    refine x_iload (pc := 16) C 5 dX10_lowest_16 rfl ?_
    refine x_istore_n (pc := 18) C (lv' := [(3, .int v4), (5, .int (kr v3 v4)), (0, .int v0), (1, .int v1), (2, .int v2), (4, .int v4)]) dX10_lowest_18 rfl (by decide) rfl ?_
    refine x_iload (pc := 19) C 1 dX10_lowest_19 rfl ?_
    refine x_istore (pc := 21) C (lv' := [(4, .int (kr v3 v4)), (3, .int v4), (5, .int (kr v3 v4)), (0, .int v0), (1, .int v1), (2, .int v2)]) dX10_lowest_21 (by decide) rfl ?_
    refine x_goto (pc := 23) C 5 dX10_lowest_23 (by decide) ?_
    refine kX.pick [3, 4, 5, 1, 0] (lv' := [(0, .int v0), (1, .int v1), (2, .int v2), (3, .int v4), (4, .int (kr v3 v4))]) rfl ?_
    exact hG v4 (kr v3 v4) h
def fX10_lowest_L5 (K : Int32 → Int32 → Option (Int32)) (v0 : Int32) (v1 : Int32) (v2 : Int32) : Nat → Int32 → Int32 → Option (Int32)
  | 0, _, _ => none
  | F + 1, v3, v4 => fX10_lowest_L5_B K (fX10_lowest_L5 K v0 v1 v2 F) v0 v1 v2 v3 v4
set_option maxRecDepth 100000 in
set_option maxHeartbeats 4000000 in
theorem wX10_lowest_L5 {G : kG} {E : kE} {ws : va_W} (C : kOk G E cX10_lowest RX10 6 rmfX10_lowest) {z : Int32} (Zd : kEnd G E (0, 0) (some .int) (some (.int z)) ws) {K : Int32 → Int32 → Option (Int32)} (v0 : Int32) (v1 : Int32) (v2 : Int32) (hK : ∀ (u3 : Int32) (u4 : Int32), K u3 u4 = some z → kX G E (0, 0) ws 26 [(0, .int v0), (1, .int v1), (2, .int v2), (3, .int u3)] []) : ∀ (F : Nat) (v3 : Int32) (v4 : Int32), fX10_lowest_L5 K v0 v1 v2 F v3 v4 = some z → kX G E (0, 0) ws 5 [(0, .int v0), (1, .int v1), (2, .int v2), (3, .int v3), (4, .int v4)] [] := by
  intro F
  induction F with
  | zero =>
    intro v3 v4 h
    exact absurd (show none = some z from h) (fun q => by cases q)
  | succ F ih =>
    intro v3 v4 h
    exact wX10_lowest_L5_B  C Zd  v0 v1 v2 v3 v4 hK (fun v3 v4 h => ih v3 v4 h) h
def fX10_lowest (x0 : Int32) (x1 : Int32) (x2 : Int32) : Option (Int32) := fX10_lowest_L5 (fun v3_2 v4_3 => if x2 = 0 then (if v3_2 = 0 then none else some (x0 / v3_2)) else (if v3_2 = 0 then none else some (x1 / v3_2))) x0 x1 x2 kFU x0 x1
set_option maxRecDepth 100000 in
set_option maxHeartbeats 4000000 in
theorem wX10_lowest {G : kG} {E : kE} {ws : va_W} (C : kOk G E cX10_lowest RX10 6 rmfX10_lowest) {z : Int32} (Zd : kEnd G E (0, 0) (some .int) (some (.int z)) ws) (x0 : Int32) (x1 : Int32) (x2 : Int32) (h : fX10_lowest x0 x1 x2 = some z) : kX G E (0, 0) ws 0 [(0, .int x0), (1, .int x1), (2, .int x2)] [] := by
  unfold fX10_lowest at h
  refine x_iload_n (pc := 0) C 0 dX10_lowest_0 rfl rfl ?_
  refine x_istore_n (pc := 1) C (lv' := [(3, .int x0), (0, .int x0), (1, .int x1), (2, .int x2)]) dX10_lowest_1 rfl (by decide) rfl ?_
  refine x_iload_n (pc := 2) C 2 dX10_lowest_2 rfl rfl ?_
  refine x_istore (pc := 3) C (lv' := [(4, .int x1), (3, .int x0), (0, .int x0), (1, .int x1), (2, .int x2)]) dX10_lowest_3 (by decide) rfl ?_
  refine kX.pick [2, 3, 4, 1, 0] (lv' := [(0, .int x0), (1, .int x1), (2, .int x2), (3, .int x0), (4, .int x1)]) rfl ?_
  refine wX10_lowest_L5  C Zd  x0 x1 x2 (fun v3_2 v4_3 h => ?_) kFU x0 x1 h
  refine x_iload_n (pc := 26) C 2 dX10_lowest_26 rfl rfl ?_
  refine x_if_ne (pc := 27) C 36 dX10_lowest_27 (by decide) (fun c_4 => ?_) (fun c_4 => ?_)
  · have h := kIn c_4 h
    refine x_iload_n (pc := 36) C 1 dX10_lowest_36 rfl rfl ?_
    refine x_iload_n (pc := 37) C 3 dX10_lowest_37 rfl rfl ?_
    obtain ⟨c_5, h⟩ := kGd h
    refine y_idiv (pc := 38) C dX10_lowest_38 c_5 ?_
    obtain rfl := Option.some.inj h
    exact x_iret (pc := 39) C Zd dX10_lowest_39
  · have h := kIp c_4 h
    refine x_iload_n (pc := 30) C 0 dX10_lowest_30 rfl rfl ?_
    refine x_iload_n (pc := 31) C 3 dX10_lowest_31 rfl rfl ?_
    obtain ⟨c_6, h⟩ := kGd h
    refine y_idiv (pc := 32) C dX10_lowest_32 c_6 ?_
    refine x_goto (pc := 33) C 39 dX10_lowest_33 (by decide) ?_
    obtain rfl := Option.some.inj h
    exact x_iret (pc := 39) C Zd dX10_lowest_39
set_option maxRecDepth 100000 in
theorem mX10_lowest (G : kG) {ws : va_W} (x0 : Int32) (x1 : Int32) (x2 : Int32) {z : Int32} (h : fX10_lowest x0 x1 x2 = some z) : kMet G yX10_lowest cX10_lowest 6 (some .int) rmfX10_lowest (0, 0) [.int x0, .int x1, .int x2] ws (some (.int z)) ws := kMet.mk (by decide +kernel) (Nat.le_of_ble_eq_true rfl) (fun E C Zd => wX10_lowest  C Zd  x0 x1 x2 h)
theorem yvX10_apartOf : kYV yX10_apartOf RX10 cX10_apartOf 3 (some .int) 2 := ⟨q30_13, q30_14, q1_5, q30_15, by decide +kernel⟩
abbrev rmfX10_apartOf : Room := { frames := 4, cells := 0, slots := 0, locals := 97 }
def fX10_apartOf (st : kS) (x1 : Int32) (x2 : Int32) : Option (Int32 × kS) := (fX10_layApart st x1).bind (fun z_1 => (fX10_indexNow z_1).bind (fun z_2 => (ka 720 (gA z_1 16) z_2).bind (fun x_3 => (fX10_whole z_1 x1).bind (fun z_5 => (fX10_lowest x_3 z_5 x2).bind (fun z_6 => some (z_6, z_1))))))
set_option maxRecDepth 100000 in
set_option maxHeartbeats 4000000 in
theorem wX10_apartOf {G : kG} {E : kE} {a : Nat → Nat} (C : kOk G E cX10_apartOf RX10 3 rmfX10_apartOf) {z : Int32 × kS} (Zd : kEnd G E (0, 0) (some .int) (some (.int z.1)) (wM G a z.2)) (st : kS) (x1 : Int32) (x2 : Int32) (h : fX10_apartOf st x1 x2 = some z) : kX G E (0, 0) (wM G a st) 0 [(0, .ref (a 0)), (1, .int x1), (2, .int x2)] [] := by
  unfold fX10_apartOf at h
  refine x_aload_n (pc := 0) C 0 dX10_apartOf_0 rfl rfl ?_
  refine x_iload_n (pc := 1) C 1 dX10_apartOf_1 rfl rfl ?_
  obtain ⟨z_1, hz_1, h⟩ := kB h
  refine x_callV (pc := 2) C 0 [.int x1] rfl rfl (mX10_layApart G a st x1 hz_1) yvX10_layApart q29_3 ⟨Nat.le_of_ble_eq_true rfl, Nat.le_of_ble_eq_true rfl, rfl, rfl⟩ ⟨Nat.zero_le _, Nat.zero_le _⟩ rfl rfl (Nat.le_of_ble_eq_true rfl) rfl dX10_apartOf_2 ?_
  refine x_aload_n (pc := 5) C 0 dX10_apartOf_5 rfl rfl ?_
  refine x_get (pc := 6) C inlX10 0 rfl rfl 34 (by decide) q6_6 (v := .ref (a 16)) rfl dX10_apartOf_6 ?_
  refine x_aload_n (pc := 9) C 0 dX10_apartOf_9 rfl rfl ?_
  obtain ⟨z_2, hz_2, h⟩ := kB h
  refine x_callV (pc := 10) C 0 [] rfl rfl (mX10_indexNow G a z_1 hz_2) yvX10_indexNow q25_22 ⟨Nat.le_of_ble_eq_true rfl, Nat.le_of_ble_eq_true rfl, rfl, rfl⟩ ⟨Nat.zero_le _, Nat.zero_le _⟩ rfl rfl (Nat.le_of_ble_eq_true rfl) rfl dX10_apartOf_10 ?_
  obtain ⟨x_3, hx_3, h⟩ := kB h
  obtain ⟨hi_4, hx_3⟩ := ka_some hx_3
  refine y_iald (pc := 13) C 16 (lwM_A16 G a rfl) hi_4 hx_3 dX10_apartOf_13 ?_
  refine x_aload_n (pc := 14) C 0 dX10_apartOf_14 rfl rfl ?_
  refine x_iload_n (pc := 15) C 1 dX10_apartOf_15 rfl rfl ?_
  obtain ⟨z_5, hz_5, h⟩ := kB h
  refine x_callV (pc := 16) C 0 [.int x1] rfl rfl (mX10_whole G a z_1 x1 hz_5) yvX10_whole q30_16 ⟨Nat.le_of_ble_eq_true rfl, Nat.le_of_ble_eq_true rfl, rfl, rfl⟩ ⟨Nat.zero_le _, Nat.zero_le _⟩ rfl rfl (Nat.le_of_ble_eq_true rfl) rfl dX10_apartOf_16 ?_
  refine x_iload_n (pc := 19) C 2 dX10_apartOf_19 rfl rfl ?_
  obtain ⟨z_6, hz_6, h⟩ := kB h
  refine x_callS (pc := 20) C [.int x_3, .int z_5, .int x2] (mX10_lowest G x_3 z_5 x2 hz_6) ysX10_lowest q30_20 ⟨Nat.le_of_ble_eq_true rfl, Nat.le_of_ble_eq_true rfl, rfl, rfl⟩ ⟨Nat.zero_le _, Nat.zero_le _⟩ rfl rfl (Nat.le_of_ble_eq_true rfl) rfl dX10_apartOf_20 ?_
  obtain rfl := Option.some.inj h
  exact x_iret (pc := 23) C Zd dX10_apartOf_23
set_option maxRecDepth 100000 in
theorem mX10_apartOf (G : kG) (a : Nat → Nat) (st : kS) (x1 : Int32) (x2 : Int32) {z : Int32 × kS} (h : fX10_apartOf st x1 x2 = some z) : kMet G yX10_apartOf cX10_apartOf 3 (some .int) rmfX10_apartOf (0, 0) [.ref (a 0), .int x1, .int x2] (wM G a st) (some (.int z.1)) (wM G a z.2) := kMet.mk (by decide +kernel) (Nat.le_of_ble_eq_true rfl) (fun E C Zd => wX10_apartOf  C Zd  st x1 x2 h)
