theorem yvX10_waysOf : kYV yX10_waysOf RX10 cX10_waysOf 7 (some .long) 2 := ⟨q36_14, q36_15, q1_5, q36_16, by decide +kernel⟩
abbrev rmfX10_waysOf : Room := { frames := 2, cells := 0, slots := 0, locals := 43 }
def fX10_waysOf_L2_B (K : Int32 → kS → Option (Int64 × kS)) (Gc : Int32 → kS → Option (Int64 × kS)) (st : kS) (v1 : Int32) (v2 : Int32) (v3 : Int32) : Option (Int64 × kS) := if (gI st 16) ≤ v3 then (K v3 st) else (if v3 = 0 then (if v3 < 0 ∨ 720 ≤ v3.toNatClampNeg then none else Gc (v3 + 1) (sL st 22 (vp_updL (gL st 22) v3.toNatClampNeg 1))) else (if v3 < 0 ∨ 720 ≤ v3.toNatClampNeg then none else Gc (v3 + 1) (sL st 22 (vp_updL (gL st 22) v3.toNatClampNeg 0))))
set_option maxRecDepth 100000 in
set_option maxHeartbeats 4000000 in
theorem wX10_waysOf_L2_B {G : kG} {E : kE} {a : Nat → Nat} (C : kOk G E cX10_waysOf RX10 7 rmfX10_waysOf) {z : Int64 × kS} (Zd : kEnd G E (0, 0) (some .long) (some (.long z.1)) (wM G a z.2)) {K Gc : Int32 → kS → Option (Int64 × kS)} (st : kS) (v1 : Int32) (v2 : Int32) (v3 : Int32) (hK : ∀ (u3 : Int32) (su : kS), K u3 su = some z → kX G E (0, 0) (wM G a su) 31 [(0, .ref (a 0)), (1, .int v1), (2, .int v2)] []) (hG : ∀ (u3 : Int32) (su : kS), Gc u3 su = some z → kX G E (0, 0) (wM G a su) 2 [(0, .ref (a 0)), (1, .int v1), (2, .int v2), (3, .int u3)] []) (h : fX10_waysOf_L2_B K Gc st v1 v2 v3 = some z) : kX G E (0, 0) (wM G a st) 2 [(0, .ref (a 0)), (1, .int v1), (2, .int v2), (3, .int v3)] [] := by
  unfold fX10_waysOf_L2_B at h
  refine x_iload_n (pc := 2) C 3 dX10_waysOf_2 rfl rfl ?_
  refine x_aload_n (pc := 3) C 0 dX10_waysOf_3 rfl rfl ?_
  refine x_get (pc := 4) C inlX10 0 rfl rfl 29 (by decide) q15_10 (v := .int (gI st 16)) rfl dX10_waysOf_4 ?_
  refine x_icmp_ge (pc := 7) C 31 dX10_waysOf_7 (by decide) (fun c_1 => ?_) (fun c_1 => ?_)
  · have h := kIp c_1 h
    refine kX.pick [0, 1, 2] (lv' := [(0, .ref (a 0)), (1, .int v1), (2, .int v2)]) rfl ?_
    exact hK v3 st h
  · have h := kIn c_1 h
    refine x_aload_n (pc := 10) C 0 dX10_waysOf_10 rfl rfl ?_
    refine x_get (pc := 11) C inlX10 0 rfl rfl 40 (by decide) q6_12 (v := .ref (a 22)) rfl dX10_waysOf_11 ?_
    refine x_iload_n (pc := 14) C 3 dX10_waysOf_14 rfl rfl ?_
    refine x_iload_n (pc := 15) C 3 dX10_waysOf_15 rfl rfl ?_
    refine x_if_ne (pc := 16) C 23 dX10_waysOf_16 (by decide) (fun c_2 => ?_) (fun c_2 => ?_)
    · have h := kIn c_2 h
      refine x_lconst (pc := 23) C 0 dX10_waysOf_23 (by decide) ?_
      obtain ⟨hi_3, h⟩ := kGn h
      refine x_last (pc := 24) C 22 (lwM_A22 G a rfl) hi_3 (swM_A22 G a _ _) dX10_waysOf_24 ?_
      refine x_iinc (pc := 25) C 3 (v := v3 + 1) (lv' := [(3, .int (v3 + 1)), (0, .ref (a 0)), (1, .int v1), (2, .int v2)]) dX10_waysOf_25 rfl rfl (by decide) rfl ?_
      refine x_goto (pc := 28) C 2 dX10_waysOf_28 (by decide) ?_
      refine kX.pick [1, 2, 3, 0] (lv' := [(0, .ref (a 0)), (1, .int v1), (2, .int v2), (3, .int (v3 + 1))]) rfl ?_
      exact hG (v3 + 1) (sL st 22 (vp_updL (gL st 22) v3.toNatClampNeg 0)) h
    · have h := kIp c_2 h
      refine x_lconst (pc := 19) C 1 dX10_waysOf_19 (by decide) ?_
      refine x_goto (pc := 20) C 24 dX10_waysOf_20 (by decide) ?_
      obtain ⟨hi_4, h⟩ := kGn h
      refine x_last (pc := 24) C 22 (lwM_A22 G a rfl) hi_4 (swM_A22 G a _ _) dX10_waysOf_24 ?_
      refine x_iinc (pc := 25) C 3 (v := v3 + 1) (lv' := [(3, .int (v3 + 1)), (0, .ref (a 0)), (1, .int v1), (2, .int v2)]) dX10_waysOf_25 rfl rfl (by decide) rfl ?_
      refine x_goto (pc := 28) C 2 dX10_waysOf_28 (by decide) ?_
      refine kX.pick [1, 2, 3, 0] (lv' := [(0, .ref (a 0)), (1, .int v1), (2, .int v2), (3, .int (v3 + 1))]) rfl ?_
      exact hG (v3 + 1) (sL st 22 (vp_updL (gL st 22) v3.toNatClampNeg 1)) h
def fX10_waysOf_L2 (K : Int32 → kS → Option (Int64 × kS)) (v1 : Int32) (v2 : Int32) : Nat → Int32 → kS → Option (Int64 × kS)
  | 0, _, _ => none
  | F + 1, v3, st => fX10_waysOf_L2_B K (fX10_waysOf_L2 K v1 v2 F) st v1 v2 v3
set_option maxRecDepth 100000 in
set_option maxHeartbeats 4000000 in
theorem wX10_waysOf_L2 {G : kG} {E : kE} {a : Nat → Nat} (C : kOk G E cX10_waysOf RX10 7 rmfX10_waysOf) {z : Int64 × kS} (Zd : kEnd G E (0, 0) (some .long) (some (.long z.1)) (wM G a z.2)) {K : Int32 → kS → Option (Int64 × kS)} (v1 : Int32) (v2 : Int32) (hK : ∀ (u3 : Int32) (su : kS), K u3 su = some z → kX G E (0, 0) (wM G a su) 31 [(0, .ref (a 0)), (1, .int v1), (2, .int v2)] []) : ∀ (F : Nat) (v3 : Int32) (st : kS), fX10_waysOf_L2 K v1 v2 F v3 st = some z → kX G E (0, 0) (wM G a st) 2 [(0, .ref (a 0)), (1, .int v1), (2, .int v2), (3, .int v3)] [] := by
  intro F
  induction F with
  | zero =>
    intro v3 st h
    exact absurd (show none = some z from h) (fun q => by cases q)
  | succ F ih =>
    intro v3 st h
    exact wX10_waysOf_L2_B  C Zd  st v1 v2 v3 hK (fun v3 st h => ih v3 st h) h
def fX10_waysOf_L41_B (K : Int32 → kS → Option (Int64 × kS)) (Gc : Int32 → kS → Option (Int64 × kS)) (st : kS) (v1 : Int32) (v2 : Int32) (v3 : Int32) (v4 : Int32) : Option (Int64 × kS) := if (gI st 16) ≤ v4 then (K v4 st) else (if v4 < 0 ∨ 720 ≤ v4.toNatClampNeg then none else Gc (v4 + 1) (sL st 23 (vp_updL (gL st 23) v4.toNatClampNeg 0)))
set_option maxRecDepth 100000 in
set_option maxHeartbeats 4000000 in
theorem wX10_waysOf_L41_B {G : kG} {E : kE} {a : Nat → Nat} (C : kOk G E cX10_waysOf RX10 7 rmfX10_waysOf) {z : Int64 × kS} (Zd : kEnd G E (0, 0) (some .long) (some (.long z.1)) (wM G a z.2)) {K Gc : Int32 → kS → Option (Int64 × kS)} (st : kS) (v1 : Int32) (v2 : Int32) (v3 : Int32) (v4 : Int32) (hK : ∀ (u4 : Int32) (su : kS), K u4 su = some z → kX G E (0, 0) (wM G a su) 64 [(0, .ref (a 0)), (1, .int v1), (2, .int v2), (3, .int v3)] []) (hG : ∀ (u4 : Int32) (su : kS), Gc u4 su = some z → kX G E (0, 0) (wM G a su) 41 [(0, .ref (a 0)), (1, .int v1), (2, .int v2), (3, .int v3), (4, .int u4)] []) (h : fX10_waysOf_L41_B K Gc st v1 v2 v3 v4 = some z) : kX G E (0, 0) (wM G a st) 41 [(0, .ref (a 0)), (1, .int v1), (2, .int v2), (3, .int v3), (4, .int v4)] [] := by
  unfold fX10_waysOf_L41_B at h
  refine x_iload (pc := 41) C 4 dX10_waysOf_41 rfl ?_
  refine x_aload_n (pc := 43) C 0 dX10_waysOf_43 rfl rfl ?_
  refine x_get (pc := 44) C inlX10 0 rfl rfl 29 (by decide) q15_10 (v := .int (gI st 16)) rfl dX10_waysOf_44 ?_
  refine x_icmp_ge (pc := 47) C 64 dX10_waysOf_47 (by decide) (fun c_8 => ?_) (fun c_8 => ?_)
  · have h := kIp c_8 h
    refine kX.pick [0, 1, 2, 3] (lv' := [(0, .ref (a 0)), (1, .int v1), (2, .int v2), (3, .int v3)]) rfl ?_
    exact hK v4 st h
  · have h := kIn c_8 h
    refine x_aload_n (pc := 50) C 0 dX10_waysOf_50 rfl rfl ?_
    refine x_get (pc := 51) C inlX10 0 rfl rfl 41 (by decide) q6_13 (v := .ref (a 23)) rfl dX10_waysOf_51 ?_
    refine x_iload (pc := 54) C 4 dX10_waysOf_54 rfl ?_
    refine x_lconst (pc := 56) C 0 dX10_waysOf_56 (by decide) ?_
    obtain ⟨hi_9, h⟩ := kGn h
    refine x_last (pc := 57) C 23 (lwM_A23 G a rfl) hi_9 (swM_A23 G a _ _) dX10_waysOf_57 ?_
    refine x_iinc (pc := 58) C 4 (v := v4 + 1) (lv' := [(4, .int (v4 + 1)), (0, .ref (a 0)), (1, .int v1), (2, .int v2), (3, .int v3)]) dX10_waysOf_58 rfl rfl (by decide) rfl ?_
    refine x_goto (pc := 61) C 41 dX10_waysOf_61 (by decide) ?_
    refine kX.pick [1, 2, 3, 4, 0] (lv' := [(0, .ref (a 0)), (1, .int v1), (2, .int v2), (3, .int v3), (4, .int (v4 + 1))]) rfl ?_
    exact hG (v4 + 1) (sL st 23 (vp_updL (gL st 23) v4.toNatClampNeg 0)) h
def fX10_waysOf_L41 (K : Int32 → kS → Option (Int64 × kS)) (v1 : Int32) (v2 : Int32) (v3 : Int32) : Nat → Int32 → kS → Option (Int64 × kS)
  | 0, _, _ => none
  | F + 1, v4, st => fX10_waysOf_L41_B K (fX10_waysOf_L41 K v1 v2 v3 F) st v1 v2 v3 v4
set_option maxRecDepth 100000 in
set_option maxHeartbeats 4000000 in
theorem wX10_waysOf_L41 {G : kG} {E : kE} {a : Nat → Nat} (C : kOk G E cX10_waysOf RX10 7 rmfX10_waysOf) {z : Int64 × kS} (Zd : kEnd G E (0, 0) (some .long) (some (.long z.1)) (wM G a z.2)) {K : Int32 → kS → Option (Int64 × kS)} (v1 : Int32) (v2 : Int32) (v3 : Int32) (hK : ∀ (u4 : Int32) (su : kS), K u4 su = some z → kX G E (0, 0) (wM G a su) 64 [(0, .ref (a 0)), (1, .int v1), (2, .int v2), (3, .int v3)] []) : ∀ (F : Nat) (v4 : Int32) (st : kS), fX10_waysOf_L41 K v1 v2 v3 F v4 st = some z → kX G E (0, 0) (wM G a st) 41 [(0, .ref (a 0)), (1, .int v1), (2, .int v2), (3, .int v3), (4, .int v4)] [] := by
  intro F
  induction F with
  | zero =>
    intro v4 st h
    exact absurd (show none = some z from h) (fun q => by cases q)
  | succ F ih =>
    intro v4 st h
    exact wX10_waysOf_L41_B  C Zd  st v1 v2 v3 v4 hK (fun v4 st h => ih v4 st h) h
def fX10_waysOf_J119 (K : Int32 → kS → Option (Int64 × kS)) (Gc : Int32 → kS → Option (Int64 × kS)) (st : kS) (v1 : Int32) (v2 : Int32) (v3 : Int32) (v4 : Int32) (v5 : Int32) (s0 : Int32) : Option (Int64 × kS) := (kal 720 (gL st 23) s0).bind (fun x_19 => if s0 = v4 then (if s0 < 0 ∨ 720 ≤ s0.toNatClampNeg then none else Gc (v5 + 1) (sL st 23 (vp_updL (gL st 23) s0.toNatClampNeg (x_19 + 0)))) else ((kal 720 (gL st 22) v4).bind (fun x_22 => if s0 < 0 ∨ 720 ≤ s0.toNatClampNeg then none else Gc (v5 + 1) (sL st 23 (vp_updL (gL st 23) s0.toNatClampNeg (x_19 + x_22))))))
set_option maxRecDepth 100000 in
set_option maxHeartbeats 4000000 in
theorem wX10_waysOf_J119 {G : kG} {E : kE} {a : Nat → Nat} (C : kOk G E cX10_waysOf RX10 7 rmfX10_waysOf) {z : Int64 × kS} (Zd : kEnd G E (0, 0) (some .long) (some (.long z.1)) (wM G a z.2)) {K Gc : Int32 → kS → Option (Int64 × kS)} (st : kS) (v1 : Int32) (v2 : Int32) (v3 : Int32) (v4 : Int32) (v5 : Int32) (s0 : Int32) (hK : ∀ (u5 : Int32) (su : kS), K u5 su = some z → kX G E (0, 0) (wM G a su) 155 [(0, .ref (a 0)), (1, .int v1), (2, .int v2), (3, .int v3), (4, .int v4)] []) (hG : ∀ (u5 : Int32) (su : kS), Gc u5 su = some z → kX G E (0, 0) (wM G a su) 79 [(0, .ref (a 0)), (1, .int v1), (2, .int v2), (3, .int v3), (4, .int v4), (5, .int u5)] []) (h : fX10_waysOf_J119 K Gc st v1 v2 v3 v4 v5 s0 = some z) : kX G E (0, 0) (wM G a st) 119 [(0, .ref (a 0)), (1, .int v1), (2, .int v2), (3, .int v3), (4, .int v4), (5, .int v5)] [.int s0] := by
  unfold fX10_waysOf_J119 at h
  refine x_istore (pc := 119) C (lv' := [(6, .int s0), (0, .ref (a 0)), (1, .int v1), (2, .int v2), (3, .int v3), (4, .int v4), (5, .int v5)]) dX10_waysOf_119 (by decide) rfl ?_
  refine x_aload_n (pc := 121) C 1 dX10_waysOf_121 rfl rfl ?_
  refine x_get (pc := 122) C inlX10 0 rfl rfl 41 (by decide) q6_13 (v := .ref (a 23)) rfl dX10_waysOf_122 ?_
  refine x_iload (pc := 125) C 0 dX10_waysOf_125 rfl ?_
  refine x_dup2 (pc := 127) C dX10_waysOf_127 rfl rfl ?_
  obtain ⟨x_19, hx_19, h⟩ := kB h
  obtain ⟨hi_20, hx_19⟩ := kal_some hx_19
  refine y_lald (pc := 128) C 23 (lwM_A23 G a rfl) hi_20 hx_19 dX10_waysOf_128 ?_
  refine x_iload (pc := 129) C 0 dX10_waysOf_129 rfl ?_
  refine x_iload (pc := 131) C 5 dX10_waysOf_131 rfl ?_
  refine x_icmp_ne (pc := 133) C 140 dX10_waysOf_133 (by decide) (fun c_21 => ?_) (fun c_21 => ?_)
  · have h := kIn c_21 h
    refine x_aload_n (pc := 140) C 1 dX10_waysOf_140 rfl rfl ?_
    refine x_get (pc := 141) C inlX10 0 rfl rfl 40 (by decide) q6_12 (v := .ref (a 22)) rfl dX10_waysOf_141 ?_
    refine x_iload (pc := 144) C 5 dX10_waysOf_144 rfl ?_
    obtain ⟨x_22, hx_22, h⟩ := kB h
    obtain ⟨hi_23, hx_22⟩ := kal_some hx_22
    refine y_lald (pc := 146) C 22 (lwM_A22 G a rfl) hi_23 hx_22 dX10_waysOf_146 ?_
    refine x_ladd (pc := 147) C dX10_waysOf_147 ?_
    obtain ⟨hi_24, h⟩ := kGn h
    refine x_last (pc := 148) C 23 (lwM_A23 G a rfl) hi_24 (swM_A23 G a _ _) dX10_waysOf_148 ?_
    refine x_iinc (pc := 149) C 6 (v := v5 + 1) (lv' := [(5, .int (v5 + 1)), (6, .int s0), (0, .ref (a 0)), (1, .int v1), (2, .int v2), (3, .int v3), (4, .int v4)]) dX10_waysOf_149 rfl rfl (by decide) rfl ?_
    refine x_goto (pc := 152) C 79 dX10_waysOf_152 (by decide) ?_
    refine kX.pick [2, 3, 4, 5, 6, 0] (lv' := [(0, .ref (a 0)), (1, .int v1), (2, .int v2), (3, .int v3), (4, .int v4), (5, .int (v5 + 1))]) rfl ?_
    exact hG (v5 + 1) (sL st 23 (vp_updL (gL st 23) s0.toNatClampNeg (x_19 + x_22))) h
  · have h := kIp c_21 h
    refine x_lconst (pc := 136) C 0 dX10_waysOf_136 (by decide) ?_
    refine x_goto (pc := 137) C 147 dX10_waysOf_137 (by decide) ?_
    refine x_ladd (pc := 147) C dX10_waysOf_147 ?_
    obtain ⟨hi_25, h⟩ := kGn h
    refine x_last (pc := 148) C 23 (lwM_A23 G a rfl) hi_25 (swM_A23 G a _ _) dX10_waysOf_148 ?_
    refine x_iinc (pc := 149) C 6 (v := v5 + 1) (lv' := [(5, .int (v5 + 1)), (6, .int s0), (0, .ref (a 0)), (1, .int v1), (2, .int v2), (3, .int v3), (4, .int v4)]) dX10_waysOf_149 rfl rfl (by decide) rfl ?_
    refine x_goto (pc := 152) C 79 dX10_waysOf_152 (by decide) ?_
    refine kX.pick [2, 3, 4, 5, 6, 0] (lv' := [(0, .ref (a 0)), (1, .int v1), (2, .int v2), (3, .int v3), (4, .int v4), (5, .int (v5 + 1))]) rfl ?_
    exact hG (v5 + 1) (sL st 23 (vp_updL (gL st 23) s0.toNatClampNeg (x_19 + 0))) h
def fX10_waysOf_L79_B (K : Int32 → kS → Option (Int64 × kS)) (Gc : Int32 → kS → Option (Int64 × kS)) (st : kS) (v1 : Int32) (v2 : Int32) (v3 : Int32) (v4 : Int32) (v5 : Int32) : Option (Int64 × kS) := if (gI st 0) ≤ v5 then (K v5 st) else ((kal 720 (gL st 22) v4).bind (fun x_14 => if (lg_cmp x_14 0) ≤ 0 then (K v5 st) else (if v5 = v2 then (fX10_waysOf_J119 K Gc st v1 v2 v3 v4 v5 v4) else ((fX10_behind st v4 v5).bind (fun z_18 => fX10_waysOf_J119 K Gc st v1 v2 v3 v4 v5 z_18)))))
set_option maxRecDepth 100000 in
set_option maxHeartbeats 4000000 in
theorem wX10_waysOf_L79_B {G : kG} {E : kE} {a : Nat → Nat} (C : kOk G E cX10_waysOf RX10 7 rmfX10_waysOf) {z : Int64 × kS} (Zd : kEnd G E (0, 0) (some .long) (some (.long z.1)) (wM G a z.2)) {K Gc : Int32 → kS → Option (Int64 × kS)} (st : kS) (v1 : Int32) (v2 : Int32) (v3 : Int32) (v4 : Int32) (v5 : Int32) (hK : ∀ (u5 : Int32) (su : kS), K u5 su = some z → kX G E (0, 0) (wM G a su) 155 [(0, .ref (a 0)), (1, .int v1), (2, .int v2), (3, .int v3), (4, .int v4)] []) (hG : ∀ (u5 : Int32) (su : kS), Gc u5 su = some z → kX G E (0, 0) (wM G a su) 79 [(0, .ref (a 0)), (1, .int v1), (2, .int v2), (3, .int v3), (4, .int v4), (5, .int u5)] []) (h : fX10_waysOf_L79_B K Gc st v1 v2 v3 v4 v5 = some z) : kX G E (0, 0) (wM G a st) 79 [(0, .ref (a 0)), (1, .int v1), (2, .int v2), (3, .int v3), (4, .int v4), (5, .int v5)] [] := by
  unfold fX10_waysOf_L79_B at h
  refine x_iload (pc := 79) C 5 dX10_waysOf_79 rfl ?_
  refine x_aload_n (pc := 81) C 0 dX10_waysOf_81 rfl rfl ?_
  refine x_get (pc := 82) C inlX10 0 rfl rfl 0 (by decide) q15_2 (v := .int (gI st 0)) rfl dX10_waysOf_82 ?_
  refine x_icmp_ge (pc := 85) C 155 dX10_waysOf_85 (by decide) (fun c_13 => ?_) (fun c_13 => ?_)
  · have h := kIp c_13 h
    refine kX.pick [0, 1, 2, 3, 4] (lv' := [(0, .ref (a 0)), (1, .int v1), (2, .int v2), (3, .int v3), (4, .int v4)]) rfl ?_
    exact hK v5 st h
  · have h := kIn c_13 h
    refine x_aload_n (pc := 88) C 0 dX10_waysOf_88 rfl rfl ?_
    refine x_get (pc := 89) C inlX10 0 rfl rfl 40 (by decide) q6_12 (v := .ref (a 22)) rfl dX10_waysOf_89 ?_
    refine x_iload (pc := 92) C 4 dX10_waysOf_92 rfl ?_
    obtain ⟨x_14, hx_14, h⟩ := kB h
    obtain ⟨hi_15, hx_14⟩ := kal_some hx_14
    refine y_lald (pc := 94) C 22 (lwM_A22 G a rfl) hi_15 hx_14 dX10_waysOf_94 ?_
    refine x_lconst (pc := 95) C 0 dX10_waysOf_95 (by decide) ?_
    refine x_lcmp (pc := 96) C dX10_waysOf_96 ?_
    refine x_if_le (pc := 97) C 155 dX10_waysOf_97 (by decide) (fun c_16 => ?_) (fun c_16 => ?_)
    · have h := kIp c_16 h
      refine kX.pick [0, 1, 2, 3, 4] (lv' := [(0, .ref (a 0)), (1, .int v1), (2, .int v2), (3, .int v3), (4, .int v4)]) rfl ?_
      exact hK v5 st h
    · have h := kIn c_16 h
      refine x_iload (pc := 100) C 5 dX10_waysOf_100 rfl ?_
      refine x_iload_n (pc := 102) C 2 dX10_waysOf_102 rfl rfl ?_
      refine x_icmp_ne (pc := 103) C 111 dX10_waysOf_103 (by decide) (fun c_17 => ?_) (fun c_17 => ?_)
      · have h := kIn c_17 h
        refine x_aload_n (pc := 111) C 0 dX10_waysOf_111 rfl rfl ?_
        refine x_iload (pc := 112) C 4 dX10_waysOf_112 rfl ?_
        refine x_iload (pc := 114) C 5 dX10_waysOf_114 rfl ?_
        obtain ⟨z_18, hz_18, h⟩ := kB h
        refine x_callV (pc := 116) C 0 [.int v4, .int v5] rfl rfl (mX10_behind G a st v4 v5 hz_18) yvX10_behind q26_6 ⟨Nat.le_of_ble_eq_true rfl, Nat.le_of_ble_eq_true rfl, rfl, rfl⟩ ⟨Nat.zero_le _, Nat.zero_le _⟩ rfl rfl (Nat.le_of_ble_eq_true rfl) rfl dX10_waysOf_116 ?_
        exact wX10_waysOf_J119  C Zd  st v1 v2 v3 v4 v5 z_18 hK hG h
      · have h := kIp c_17 h
        refine x_iload (pc := 106) C 4 dX10_waysOf_106 rfl ?_
        refine x_goto (pc := 108) C 119 dX10_waysOf_108 (by decide) ?_
        exact wX10_waysOf_J119  C Zd  st v1 v2 v3 v4 v5 v4 hK hG h
def fX10_waysOf_L79 (K : Int32 → kS → Option (Int64 × kS)) (v1 : Int32) (v2 : Int32) (v3 : Int32) (v4 : Int32) : Nat → Int32 → kS → Option (Int64 × kS)
  | 0, _, _ => none
  | F + 1, v5, st => fX10_waysOf_L79_B K (fX10_waysOf_L79 K v1 v2 v3 v4 F) st v1 v2 v3 v4 v5
set_option maxRecDepth 100000 in
set_option maxHeartbeats 4000000 in
theorem wX10_waysOf_L79 {G : kG} {E : kE} {a : Nat → Nat} (C : kOk G E cX10_waysOf RX10 7 rmfX10_waysOf) {z : Int64 × kS} (Zd : kEnd G E (0, 0) (some .long) (some (.long z.1)) (wM G a z.2)) {K : Int32 → kS → Option (Int64 × kS)} (v1 : Int32) (v2 : Int32) (v3 : Int32) (v4 : Int32) (hK : ∀ (u5 : Int32) (su : kS), K u5 su = some z → kX G E (0, 0) (wM G a su) 155 [(0, .ref (a 0)), (1, .int v1), (2, .int v2), (3, .int v3), (4, .int v4)] []) : ∀ (F : Nat) (v5 : Int32) (st : kS), fX10_waysOf_L79 K v1 v2 v3 v4 F v5 st = some z → kX G E (0, 0) (wM G a st) 79 [(0, .ref (a 0)), (1, .int v1), (2, .int v2), (3, .int v3), (4, .int v4), (5, .int v5)] [] := by
  intro F
  induction F with
  | zero =>
    intro v5 st h
    exact absurd (show none = some z from h) (fun q => by cases q)
  | succ F ih =>
    intro v5 st h
    exact wX10_waysOf_L79_B  C Zd  st v1 v2 v3 v4 v5 hK (fun v5 st h => ih v5 st h) h
def fX10_waysOf_L67_B (K : Int32 → kS → Option (Int64 × kS)) (Gc : Int32 → kS → Option (Int64 × kS)) (st : kS) (v1 : Int32) (v2 : Int32) (v3 : Int32) (v4 : Int32) : Option (Int64 × kS) := if (gI st 16) ≤ v4 then (K v4 st) else (fX10_waysOf_L79 (fun v5_26 st_27 => Gc (v4 + 1) st_27) v1 v2 v3 v4 kFU 0 st)
set_option maxRecDepth 100000 in
set_option maxHeartbeats 4000000 in
theorem wX10_waysOf_L67_B {G : kG} {E : kE} {a : Nat → Nat} (C : kOk G E cX10_waysOf RX10 7 rmfX10_waysOf) {z : Int64 × kS} (Zd : kEnd G E (0, 0) (some .long) (some (.long z.1)) (wM G a z.2)) {K Gc : Int32 → kS → Option (Int64 × kS)} (st : kS) (v1 : Int32) (v2 : Int32) (v3 : Int32) (v4 : Int32) (hK : ∀ (u4 : Int32) (su : kS), K u4 su = some z → kX G E (0, 0) (wM G a su) 161 [(0, .ref (a 0)), (1, .int v1), (2, .int v2), (3, .int v3)] []) (hG : ∀ (u4 : Int32) (su : kS), Gc u4 su = some z → kX G E (0, 0) (wM G a su) 67 [(0, .ref (a 0)), (1, .int v1), (2, .int v2), (3, .int v3), (4, .int u4)] []) (h : fX10_waysOf_L67_B K Gc st v1 v2 v3 v4 = some z) : kX G E (0, 0) (wM G a st) 67 [(0, .ref (a 0)), (1, .int v1), (2, .int v2), (3, .int v3), (4, .int v4)] [] := by
  unfold fX10_waysOf_L67_B at h
  refine x_iload (pc := 67) C 4 dX10_waysOf_67 rfl ?_
  refine x_aload_n (pc := 69) C 0 dX10_waysOf_69 rfl rfl ?_
  refine x_get (pc := 70) C inlX10 0 rfl rfl 29 (by decide) q15_10 (v := .int (gI st 16)) rfl dX10_waysOf_70 ?_
  refine x_icmp_ge (pc := 73) C 161 dX10_waysOf_73 (by decide) (fun c_12 => ?_) (fun c_12 => ?_)
  · have h := kIp c_12 h
    refine kX.pick [0, 1, 2, 3] (lv' := [(0, .ref (a 0)), (1, .int v1), (2, .int v2), (3, .int v3)]) rfl ?_
    exact hK v4 st h
  · have h := kIn c_12 h
    refine x_iconst (pc := 76) C 0 dX10_waysOf_76 (by decide) ?_
    refine x_istore (pc := 77) C (lv' := [(5, .int 0), (0, .ref (a 0)), (1, .int v1), (2, .int v2), (3, .int v3), (4, .int v4)]) dX10_waysOf_77 (by decide) rfl ?_
    refine kX.pick [1, 2, 3, 4, 5, 0] (lv' := [(0, .ref (a 0)), (1, .int v1), (2, .int v2), (3, .int v3), (4, .int v4), (5, .int 0)]) rfl ?_
    refine wX10_waysOf_L79  C Zd  v1 v2 v3 v4 (fun v5_26 st_27 h => ?_) kFU 0 st h
    refine x_iinc (pc := 155) C 4 (v := v4 + 1) (lv' := [(4, .int (v4 + 1)), (0, .ref (a 0)), (1, .int v1), (2, .int v2), (3, .int v3)]) dX10_waysOf_155 rfl rfl (by decide) rfl ?_
    refine x_goto (pc := 158) C 67 dX10_waysOf_158 (by decide) ?_
    refine kX.pick [1, 2, 3, 4, 0] (lv' := [(0, .ref (a 0)), (1, .int v1), (2, .int v2), (3, .int v3), (4, .int (v4 + 1))]) rfl ?_
    exact hG (v4 + 1) st_27 h
def fX10_waysOf_L67 (K : Int32 → kS → Option (Int64 × kS)) (v1 : Int32) (v2 : Int32) (v3 : Int32) : Nat → Int32 → kS → Option (Int64 × kS)
  | 0, _, _ => none
  | F + 1, v4, st => fX10_waysOf_L67_B K (fX10_waysOf_L67 K v1 v2 v3 F) st v1 v2 v3 v4
set_option maxRecDepth 100000 in
set_option maxHeartbeats 4000000 in
theorem wX10_waysOf_L67 {G : kG} {E : kE} {a : Nat → Nat} (C : kOk G E cX10_waysOf RX10 7 rmfX10_waysOf) {z : Int64 × kS} (Zd : kEnd G E (0, 0) (some .long) (some (.long z.1)) (wM G a z.2)) {K : Int32 → kS → Option (Int64 × kS)} (v1 : Int32) (v2 : Int32) (v3 : Int32) (hK : ∀ (u4 : Int32) (su : kS), K u4 su = some z → kX G E (0, 0) (wM G a su) 161 [(0, .ref (a 0)), (1, .int v1), (2, .int v2), (3, .int v3)] []) : ∀ (F : Nat) (v4 : Int32) (st : kS), fX10_waysOf_L67 K v1 v2 v3 F v4 st = some z → kX G E (0, 0) (wM G a st) 67 [(0, .ref (a 0)), (1, .int v1), (2, .int v2), (3, .int v3), (4, .int v4)] [] := by
  intro F
  induction F with
  | zero =>
    intro v4 st h
    exact absurd (show none = some z from h) (fun q => by cases q)
  | succ F ih =>
    intro v4 st h
    exact wX10_waysOf_L67_B  C Zd  st v1 v2 v3 v4 hK (fun v4 st h => ih v4 st h) h
def fX10_waysOf_L164_B (K : Int32 → kS → Option (Int64 × kS)) (Gc : Int32 → kS → Option (Int64 × kS)) (st : kS) (v1 : Int32) (v2 : Int32) (v3 : Int32) (v4 : Int32) : Option (Int64 × kS) := if (gI st 16) ≤ v4 then (K v4 st) else ((kal 720 (gL st 23) v4).bind (fun x_31 => if v4 < 0 ∨ 720 ≤ v4.toNatClampNeg then none else Gc (v4 + 1) (sL st 22 (vp_updL (gL st 22) v4.toNatClampNeg x_31))))
set_option maxRecDepth 100000 in
set_option maxHeartbeats 4000000 in
theorem wX10_waysOf_L164_B {G : kG} {E : kE} {a : Nat → Nat} (C : kOk G E cX10_waysOf RX10 7 rmfX10_waysOf) {z : Int64 × kS} (Zd : kEnd G E (0, 0) (some .long) (some (.long z.1)) (wM G a z.2)) {K Gc : Int32 → kS → Option (Int64 × kS)} (st : kS) (v1 : Int32) (v2 : Int32) (v3 : Int32) (v4 : Int32) (hK : ∀ (u4 : Int32) (su : kS), K u4 su = some z → kX G E (0, 0) (wM G a su) 193 [(0, .ref (a 0)), (1, .int v1), (2, .int v2), (3, .int v3)] []) (hG : ∀ (u4 : Int32) (su : kS), Gc u4 su = some z → kX G E (0, 0) (wM G a su) 164 [(0, .ref (a 0)), (1, .int v1), (2, .int v2), (3, .int v3), (4, .int u4)] []) (h : fX10_waysOf_L164_B K Gc st v1 v2 v3 v4 = some z) : kX G E (0, 0) (wM G a st) 164 [(0, .ref (a 0)), (1, .int v1), (2, .int v2), (3, .int v3), (4, .int v4)] [] := by
  unfold fX10_waysOf_L164_B at h
  refine x_iload (pc := 164) C 4 dX10_waysOf_164 rfl ?_
  refine x_aload_n (pc := 166) C 0 dX10_waysOf_166 rfl rfl ?_
  refine x_get (pc := 167) C inlX10 0 rfl rfl 29 (by decide) q15_10 (v := .int (gI st 16)) rfl dX10_waysOf_167 ?_
  refine x_icmp_ge (pc := 170) C 193 dX10_waysOf_170 (by decide) (fun c_30 => ?_) (fun c_30 => ?_)
  · have h := kIp c_30 h
    refine kX.pick [0, 1, 2, 3] (lv' := [(0, .ref (a 0)), (1, .int v1), (2, .int v2), (3, .int v3)]) rfl ?_
    exact hK v4 st h
  · have h := kIn c_30 h
    refine x_aload_n (pc := 173) C 0 dX10_waysOf_173 rfl rfl ?_
    refine x_get (pc := 174) C inlX10 0 rfl rfl 40 (by decide) q6_12 (v := .ref (a 22)) rfl dX10_waysOf_174 ?_
    refine x_iload (pc := 177) C 4 dX10_waysOf_177 rfl ?_
    refine x_aload_n (pc := 179) C 0 dX10_waysOf_179 rfl rfl ?_
    refine x_get (pc := 180) C inlX10 0 rfl rfl 41 (by decide) q6_13 (v := .ref (a 23)) rfl dX10_waysOf_180 ?_
    refine x_iload (pc := 183) C 4 dX10_waysOf_183 rfl ?_
    obtain ⟨x_31, hx_31, h⟩ := kB h
    obtain ⟨hi_32, hx_31⟩ := kal_some hx_31
    refine y_lald (pc := 185) C 23 (lwM_A23 G a rfl) hi_32 hx_31 dX10_waysOf_185 ?_
    obtain ⟨hi_33, h⟩ := kGn h
    refine x_last (pc := 186) C 22 (lwM_A22 G a rfl) hi_33 (swM_A22 G a _ _) dX10_waysOf_186 ?_
    refine x_iinc (pc := 187) C 4 (v := v4 + 1) (lv' := [(4, .int (v4 + 1)), (0, .ref (a 0)), (1, .int v1), (2, .int v2), (3, .int v3)]) dX10_waysOf_187 rfl rfl (by decide) rfl ?_
    refine x_goto (pc := 190) C 164 dX10_waysOf_190 (by decide) ?_
    refine kX.pick [1, 2, 3, 4, 0] (lv' := [(0, .ref (a 0)), (1, .int v1), (2, .int v2), (3, .int v3), (4, .int (v4 + 1))]) rfl ?_
    exact hG (v4 + 1) (sL st 22 (vp_updL (gL st 22) v4.toNatClampNeg x_31)) h
def fX10_waysOf_L164 (K : Int32 → kS → Option (Int64 × kS)) (v1 : Int32) (v2 : Int32) (v3 : Int32) : Nat → Int32 → kS → Option (Int64 × kS)
  | 0, _, _ => none
  | F + 1, v4, st => fX10_waysOf_L164_B K (fX10_waysOf_L164 K v1 v2 v3 F) st v1 v2 v3 v4
set_option maxRecDepth 100000 in
set_option maxHeartbeats 4000000 in
theorem wX10_waysOf_L164 {G : kG} {E : kE} {a : Nat → Nat} (C : kOk G E cX10_waysOf RX10 7 rmfX10_waysOf) {z : Int64 × kS} (Zd : kEnd G E (0, 0) (some .long) (some (.long z.1)) (wM G a z.2)) {K : Int32 → kS → Option (Int64 × kS)} (v1 : Int32) (v2 : Int32) (v3 : Int32) (hK : ∀ (u4 : Int32) (su : kS), K u4 su = some z → kX G E (0, 0) (wM G a su) 193 [(0, .ref (a 0)), (1, .int v1), (2, .int v2), (3, .int v3)] []) : ∀ (F : Nat) (v4 : Int32) (st : kS), fX10_waysOf_L164 K v1 v2 v3 F v4 st = some z → kX G E (0, 0) (wM G a st) 164 [(0, .ref (a 0)), (1, .int v1), (2, .int v2), (3, .int v3), (4, .int v4)] [] := by
  intro F
  induction F with
  | zero =>
    intro v4 st h
    exact absurd (show none = some z from h) (fun q => by cases q)
  | succ F ih =>
    intro v4 st h
    exact wX10_waysOf_L164_B  C Zd  st v1 v2 v3 v4 hK (fun v4 st h => ih v4 st h) h
def fX10_waysOf_L33_B (K : Int32 → kS → Option (Int64 × kS)) (Gc : Int32 → kS → Option (Int64 × kS)) (st : kS) (v1 : Int32) (v2 : Int32) (v3 : Int32) : Option (Int64 × kS) := if v1 ≤ v3 then (K v3 st) else (fX10_waysOf_L41 (fun v4_10 st_11 => fX10_waysOf_L67 (fun v4_28 st_29 => fX10_waysOf_L164 (fun v4_34 st_35 => Gc (v3 + 1) st_35) v1 v2 v3 kFU 0 st_29) v1 v2 v3 kFU 0 st_11) v1 v2 v3 kFU 0 st)
set_option maxRecDepth 100000 in
set_option maxHeartbeats 4000000 in
theorem wX10_waysOf_L33_B {G : kG} {E : kE} {a : Nat → Nat} (C : kOk G E cX10_waysOf RX10 7 rmfX10_waysOf) {z : Int64 × kS} (Zd : kEnd G E (0, 0) (some .long) (some (.long z.1)) (wM G a z.2)) {K Gc : Int32 → kS → Option (Int64 × kS)} (st : kS) (v1 : Int32) (v2 : Int32) (v3 : Int32) (hK : ∀ (u3 : Int32) (su : kS), K u3 su = some z → kX G E (0, 0) (wM G a su) 199 [(0, .ref (a 0))] []) (hG : ∀ (u3 : Int32) (su : kS), Gc u3 su = some z → kX G E (0, 0) (wM G a su) 33 [(0, .ref (a 0)), (1, .int v1), (2, .int v2), (3, .int u3)] []) (h : fX10_waysOf_L33_B K Gc st v1 v2 v3 = some z) : kX G E (0, 0) (wM G a st) 33 [(0, .ref (a 0)), (1, .int v1), (2, .int v2), (3, .int v3)] [] := by
  unfold fX10_waysOf_L33_B at h
  refine x_iload_n (pc := 33) C 3 dX10_waysOf_33 rfl rfl ?_
  refine x_iload_n (pc := 34) C 1 dX10_waysOf_34 rfl rfl ?_
  refine x_icmp_ge (pc := 35) C 199 dX10_waysOf_35 (by decide) (fun c_7 => ?_) (fun c_7 => ?_)
  · have h := kIp c_7 h
    refine kX.pick [0] (lv' := [(0, .ref (a 0))]) rfl ?_
    exact hK v3 st h
  · have h := kIn c_7 h
    refine x_iconst (pc := 38) C 0 dX10_waysOf_38 (by decide) ?_
    refine x_istore (pc := 39) C (lv' := [(4, .int 0), (0, .ref (a 0)), (1, .int v1), (2, .int v2), (3, .int v3)]) dX10_waysOf_39 (by decide) rfl ?_
    refine kX.pick [1, 2, 3, 4, 0] (lv' := [(0, .ref (a 0)), (1, .int v1), (2, .int v2), (3, .int v3), (4, .int 0)]) rfl ?_
    refine wX10_waysOf_L41  C Zd  v1 v2 v3 (fun v4_10 st_11 h => ?_) kFU 0 st h
    refine x_iconst (pc := 64) C 0 dX10_waysOf_64 (by decide) ?_
    refine x_istore (pc := 65) C (lv' := [(4, .int 0), (0, .ref (a 0)), (1, .int v1), (2, .int v2), (3, .int v3)]) dX10_waysOf_65 (by decide) rfl ?_
    refine kX.pick [1, 2, 3, 4, 0] (lv' := [(0, .ref (a 0)), (1, .int v1), (2, .int v2), (3, .int v3), (4, .int 0)]) rfl ?_
    refine wX10_waysOf_L67  C Zd  v1 v2 v3 (fun v4_28 st_29 h => ?_) kFU 0 st_11 h
    refine x_iconst (pc := 161) C 0 dX10_waysOf_161 (by decide) ?_
    refine x_istore (pc := 162) C (lv' := [(4, .int 0), (0, .ref (a 0)), (1, .int v1), (2, .int v2), (3, .int v3)]) dX10_waysOf_162 (by decide) rfl ?_
    refine kX.pick [1, 2, 3, 4, 0] (lv' := [(0, .ref (a 0)), (1, .int v1), (2, .int v2), (3, .int v3), (4, .int 0)]) rfl ?_
    refine wX10_waysOf_L164  C Zd  v1 v2 v3 (fun v4_34 st_35 h => ?_) kFU 0 st_29 h
    refine x_iinc (pc := 193) C 3 (v := v3 + 1) (lv' := [(3, .int (v3 + 1)), (0, .ref (a 0)), (1, .int v1), (2, .int v2)]) dX10_waysOf_193 rfl rfl (by decide) rfl ?_
    refine x_goto (pc := 196) C 33 dX10_waysOf_196 (by decide) ?_
    refine kX.pick [1, 2, 3, 0] (lv' := [(0, .ref (a 0)), (1, .int v1), (2, .int v2), (3, .int (v3 + 1))]) rfl ?_
    exact hG (v3 + 1) st_35 h
def fX10_waysOf_L33 (K : Int32 → kS → Option (Int64 × kS)) (v1 : Int32) (v2 : Int32) : Nat → Int32 → kS → Option (Int64 × kS)
  | 0, _, _ => none
  | F + 1, v3, st => fX10_waysOf_L33_B K (fX10_waysOf_L33 K v1 v2 F) st v1 v2 v3
set_option maxRecDepth 100000 in
set_option maxHeartbeats 4000000 in
theorem wX10_waysOf_L33 {G : kG} {E : kE} {a : Nat → Nat} (C : kOk G E cX10_waysOf RX10 7 rmfX10_waysOf) {z : Int64 × kS} (Zd : kEnd G E (0, 0) (some .long) (some (.long z.1)) (wM G a z.2)) {K : Int32 → kS → Option (Int64 × kS)} (v1 : Int32) (v2 : Int32) (hK : ∀ (u3 : Int32) (su : kS), K u3 su = some z → kX G E (0, 0) (wM G a su) 199 [(0, .ref (a 0))] []) : ∀ (F : Nat) (v3 : Int32) (st : kS), fX10_waysOf_L33 K v1 v2 F v3 st = some z → kX G E (0, 0) (wM G a st) 33 [(0, .ref (a 0)), (1, .int v1), (2, .int v2), (3, .int v3)] [] := by
  intro F
  induction F with
  | zero =>
    intro v3 st h
    exact absurd (show none = some z from h) (fun q => by cases q)
  | succ F ih =>
    intro v3 st h
    exact wX10_waysOf_L33_B  C Zd  st v1 v2 v3 hK (fun v3 st h => ih v3 st h) h
def fX10_waysOf (st : kS) (x1 : Int32) (x2 : Int32) : Option (Int64 × kS) := fX10_waysOf_L2 (fun v3_5 st_6 => fX10_waysOf_L33 (fun v3_36 st_37 => (fX10_indexNow st_37).bind (fun z_38 => (kal 720 (gL st_37 22) z_38).bind (fun x_39 => some (x_39, st_37)))) x1 x2 kFU 0 st_6) x1 x2 kFU 0 st
set_option maxRecDepth 100000 in
set_option maxHeartbeats 4000000 in
theorem wX10_waysOf {G : kG} {E : kE} {a : Nat → Nat} (C : kOk G E cX10_waysOf RX10 7 rmfX10_waysOf) {z : Int64 × kS} (Zd : kEnd G E (0, 0) (some .long) (some (.long z.1)) (wM G a z.2)) (st : kS) (x1 : Int32) (x2 : Int32) (h : fX10_waysOf st x1 x2 = some z) : kX G E (0, 0) (wM G a st) 0 [(0, .ref (a 0)), (1, .int x1), (2, .int x2)] [] := by
  unfold fX10_waysOf at h
  refine x_iconst (pc := 0) C 0 dX10_waysOf_0 (by decide) ?_
  refine x_istore_n (pc := 1) C (lv' := [(3, .int 0), (0, .ref (a 0)), (1, .int x1), (2, .int x2)]) dX10_waysOf_1 rfl (by decide) rfl ?_
  refine kX.pick [1, 2, 3, 0] (lv' := [(0, .ref (a 0)), (1, .int x1), (2, .int x2), (3, .int 0)]) rfl ?_
  refine wX10_waysOf_L2  C Zd  x1 x2 (fun v3_5 st_6 h => ?_) kFU 0 st h
  refine x_iconst (pc := 31) C 0 dX10_waysOf_31 (by decide) ?_
  refine x_istore_n (pc := 32) C (lv' := [(3, .int 0), (0, .ref (a 0)), (1, .int x1), (2, .int x2)]) dX10_waysOf_32 rfl (by decide) rfl ?_
  refine kX.pick [1, 2, 3, 0] (lv' := [(0, .ref (a 0)), (1, .int x1), (2, .int x2), (3, .int 0)]) rfl ?_
  refine wX10_waysOf_L33  C Zd  x1 x2 (fun v3_36 st_37 h => ?_) kFU 0 st_6 h
  refine x_aload_n (pc := 199) C 0 dX10_waysOf_199 rfl rfl ?_
  refine x_get (pc := 200) C inlX10 0 rfl rfl 40 (by decide) q6_12 (v := .ref (a 22)) rfl dX10_waysOf_200 ?_
  refine x_aload_n (pc := 203) C 0 dX10_waysOf_203 rfl rfl ?_
  obtain ⟨z_38, hz_38, h⟩ := kB h
  refine x_callV (pc := 204) C 0 [] rfl rfl (mX10_indexNow G a st_37 hz_38) yvX10_indexNow q25_22 ⟨Nat.le_of_ble_eq_true rfl, Nat.le_of_ble_eq_true rfl, rfl, rfl⟩ ⟨Nat.zero_le _, Nat.zero_le _⟩ rfl rfl (Nat.le_of_ble_eq_true rfl) rfl dX10_waysOf_204 ?_
  obtain ⟨x_39, hx_39, h⟩ := kB h
  obtain ⟨hi_40, hx_39⟩ := kal_some hx_39
  refine y_lald (pc := 207) C 22 (lwM_A22 G a rfl) hi_40 hx_39 dX10_waysOf_207 ?_
  obtain rfl := Option.some.inj h
  exact x_lret (pc := 208) C Zd dX10_waysOf_208
set_option maxRecDepth 100000 in
theorem mX10_waysOf (G : kG) (a : Nat → Nat) (st : kS) (x1 : Int32) (x2 : Int32) {z : Int64 × kS} (h : fX10_waysOf st x1 x2 = some z) : kMet G yX10_waysOf cX10_waysOf 7 (some .long) rmfX10_waysOf (0, 0) [.ref (a 0), .int x1, .int x2] (wM G a st) (some (.long z.1)) (wM G a z.2) := kMet.mk (by decide +kernel) (Nat.le_of_ble_eq_true rfl) (fun E C Zd => wX10_waysOf  C Zd  st x1 x2 h)
theorem yvX10_ways : kYV yX10_ways RX10 cX10_ways 2 (some .long) 1 := ⟨q36_8, q36_9, q1_5, q36_10, by decide +kernel⟩
abbrev rmfX10_ways : Room := { frames := 3, cells := 0, slots := 0, locals := 69 }
def fX10_ways (st : kS) (x1 : Int32) : Option (Int64 × kS) := if (gI st 0) = 0 then (some ((-103), st)) else (if (fX10_within x1 0 12) = 0 then (some ((-102), st)) else ((fX10_waysOf st x1 (-1)).bind (fun z_3 => some (z_3.1, z_3.2))))
set_option maxRecDepth 100000 in
set_option maxHeartbeats 4000000 in
theorem wX10_ways {G : kG} {E : kE} {a : Nat → Nat} (C : kOk G E cX10_ways RX10 2 rmfX10_ways) {z : Int64 × kS} (Zd : kEnd G E (0, 0) (some .long) (some (.long z.1)) (wM G a z.2)) (st : kS) (x1 : Int32) (h : fX10_ways st x1 = some z) : kX G E (0, 0) (wM G a st) 0 [(0, .ref (a 0)), (1, .int x1)] [] := by
  unfold fX10_ways at h
  refine x_aload_n (pc := 0) C 0 dX10_ways_0 rfl rfl ?_
  refine x_get (pc := 1) C inlX10 0 rfl rfl 0 (by decide) q15_2 (v := .int (gI st 0)) rfl dX10_ways_1 ?_
  refine x_if_ne (pc := 4) C 11 dX10_ways_4 (by decide) (fun c_1 => ?_) (fun c_1 => ?_)
  · have h := kIn c_1 h
    refine x_iload_n (pc := 11) C 1 dX10_ways_11 rfl rfl ?_
    refine x_iconst (pc := 12) C 0 dX10_ways_12 (by decide) ?_
    refine x_bipush (pc := 13) C 12 dX10_ways_13 (by decide) ?_
    refine x_callS (pc := 15) C [.int x1, .int 0, .int 12] (mX10_within G x1 0 12) ysX10_within q10_2 ⟨Nat.le_of_ble_eq_true rfl, Nat.le_of_ble_eq_true rfl, rfl, rfl⟩ ⟨Nat.zero_le _, Nat.zero_le _⟩ rfl rfl (Nat.le_of_ble_eq_true rfl) rfl dX10_ways_15 ?_
    refine x_if_eq (pc := 18) C 30 dX10_ways_18 (by decide) (fun c_2 => ?_) (fun c_2 => ?_)
    · have h := kIp c_2 h
      refine x_ldc2 (pc := 30) C q36_12 dX10_ways_30 ?_
      obtain rfl := Option.some.inj h
      exact x_lret (pc := 33) C Zd dX10_ways_33
    · have h := kIn c_2 h
      refine x_aload_n (pc := 21) C 0 dX10_ways_21 rfl rfl ?_
      refine x_iload_n (pc := 22) C 1 dX10_ways_22 rfl rfl ?_
      refine x_iconst (pc := 23) C (-1) dX10_ways_23 (by decide) ?_
      obtain ⟨z_3, hz_3, h⟩ := kB h
      refine x_callV (pc := 24) C 0 [.int x1, .int (-1)] rfl rfl (mX10_waysOf G a st x1 (-1) hz_3) yvX10_waysOf q36_13 ⟨Nat.le_of_ble_eq_true rfl, Nat.le_of_ble_eq_true rfl, rfl, rfl⟩ ⟨Nat.zero_le _, Nat.zero_le _⟩ rfl rfl (Nat.le_of_ble_eq_true rfl) rfl dX10_ways_24 ?_
      refine x_goto (pc := 27) C 33 dX10_ways_27 (by decide) ?_
      obtain rfl := Option.some.inj h
      exact x_lret (pc := 33) C Zd dX10_ways_33
  · have h := kIp c_1 h
    refine x_ldc2 (pc := 7) C q36_11 dX10_ways_7 ?_
    obtain rfl := Option.some.inj h
    exact x_lret (pc := 10) C Zd dX10_ways_10
set_option maxRecDepth 100000 in
theorem mX10_ways (G : kG) (a : Nat → Nat) (st : kS) (x1 : Int32) {z : Int64 × kS} (h : fX10_ways st x1 = some z) : kMet G yX10_ways cX10_ways 2 (some .long) rmfX10_ways (0, 0) [.ref (a 0), .int x1] (wM G a st) (some (.long z.1)) (wM G a z.2) := kMet.mk (by decide +kernel) (Nat.le_of_ble_eq_true rfl) (fun E C Zd => wX10_ways  C Zd  st x1 h)
theorem yvX10_mustOf : kYV yX10_mustOf RX10 cX10_mustOf 5 (some .int) 1 := ⟨q37_7, q37_8, q1_5, q37_9, by decide +kernel⟩
abbrev rmfX10_mustOf : Room := { frames := 3, cells := 0, slots := 0, locals := 69 }
def fX10_mustOf_L22_B (K : Int32 → Int32 → kS → Option (Int32 × kS)) (Gc : Int32 → Int32 → kS → Option (Int32 × kS)) (st : kS) (v1 : Int32) (v2 : Int32) (v3 : Int32) (v4 : Int32) : Option (Int32 × kS) := if (gI st 0) ≤ v4 then (K v2 v4 st) else (if v3 = 0 then (K v2 v4 st) else ((fX10_waysOf st v1 v4).bind (fun z_5 => if (lg_cmp z_5.1 0) = 0 then (Gc (v2 ||| (kshl 1 v4)) (v4 + 1) z_5.2) else (Gc (v2 ||| 0) (v4 + 1) z_5.2))))
set_option maxRecDepth 100000 in
set_option maxHeartbeats 4000000 in
theorem wX10_mustOf_L22_B {G : kG} {E : kE} {a : Nat → Nat} (C : kOk G E cX10_mustOf RX10 5 rmfX10_mustOf) {z : Int32 × kS} (Zd : kEnd G E (0, 0) (some .int) (some (.int z.1)) (wM G a z.2)) {K Gc : Int32 → Int32 → kS → Option (Int32 × kS)} (st : kS) (v1 : Int32) (v2 : Int32) (v3 : Int32) (v4 : Int32) (hK : ∀ (u2 : Int32) (u4 : Int32) (su : kS), K u2 u4 su = some z → kX G E (0, 0) (wM G a su) 64 [(2, .int u2)] []) (hG : ∀ (u2 : Int32) (u4 : Int32) (su : kS), Gc u2 u4 su = some z → kX G E (0, 0) (wM G a su) 22 [(0, .ref (a 0)), (1, .int v1), (2, .int u2), (3, .int v3), (4, .int u4)] []) (h : fX10_mustOf_L22_B K Gc st v1 v2 v3 v4 = some z) : kX G E (0, 0) (wM G a st) 22 [(0, .ref (a 0)), (1, .int v1), (2, .int v2), (3, .int v3), (4, .int v4)] [] := by
  unfold fX10_mustOf_L22_B at h
  refine x_iload (pc := 22) C 4 dX10_mustOf_22 rfl ?_
  refine x_aload_n (pc := 24) C 0 dX10_mustOf_24 rfl rfl ?_
  refine x_get (pc := 25) C inlX10 0 rfl rfl 0 (by decide) q15_2 (v := .int (gI st 0)) rfl dX10_mustOf_25 ?_
  refine x_icmp_ge (pc := 28) C 64 dX10_mustOf_28 (by decide) (fun c_3 => ?_) (fun c_3 => ?_)
  · have h := kIp c_3 h
    refine kX.pick [2] (lv' := [(2, .int v2)]) rfl ?_
    exact hK v2 v4 st h
  · have h := kIn c_3 h
    refine x_iload_n (pc := 31) C 3 dX10_mustOf_31 rfl rfl ?_
    refine x_if_eq (pc := 32) C 64 dX10_mustOf_32 (by decide) (fun c_4 => ?_) (fun c_4 => ?_)
    · have h := kIp c_4 h
      refine kX.pick [2] (lv' := [(2, .int v2)]) rfl ?_
      exact hK v2 v4 st h
    · have h := kIn c_4 h
      refine x_iload_n (pc := 35) C 2 dX10_mustOf_35 rfl rfl ?_
      refine x_aload_n (pc := 36) C 0 dX10_mustOf_36 rfl rfl ?_
      refine x_iload_n (pc := 37) C 1 dX10_mustOf_37 rfl rfl ?_
      refine x_iload (pc := 38) C 4 dX10_mustOf_38 rfl ?_
      obtain ⟨z_5, hz_5, h⟩ := kB h
      refine x_callV (pc := 40) C 0 [.int v1, .int v4] rfl rfl (mX10_waysOf G a st v1 v4 hz_5) yvX10_waysOf q36_13 ⟨Nat.le_of_ble_eq_true rfl, Nat.le_of_ble_eq_true rfl, rfl, rfl⟩ ⟨Nat.zero_le _, Nat.zero_le _⟩ rfl rfl (Nat.le_of_ble_eq_true rfl) rfl dX10_mustOf_40 ?_
      refine x_lconst (pc := 43) C 0 dX10_mustOf_43 (by decide) ?_
      refine x_lcmp (pc := 44) C dX10_mustOf_44 ?_
      refine x_if_ne (pc := 45) C 55 dX10_mustOf_45 (by decide) (fun c_6 => ?_) (fun c_6 => ?_)
      · have h := kIn c_6 h
        refine x_iconst (pc := 55) C 0 dX10_mustOf_55 (by decide) ?_
        refine x_ior (pc := 56) C dX10_mustOf_56 ?_
        refine x_istore_n (pc := 57) C (lv' := [(2, .int (v2 ||| 0)), (0, .ref (a 0)), (1, .int v1), (3, .int v3), (4, .int v4)]) dX10_mustOf_57 rfl (by decide) rfl ?_
        refine x_iinc (pc := 58) C 4 (v := v4 + 1) (lv' := [(4, .int (v4 + 1)), (2, .int (v2 ||| 0)), (0, .ref (a 0)), (1, .int v1), (3, .int v3)]) dX10_mustOf_58 rfl rfl (by decide) rfl ?_
        refine x_goto (pc := 61) C 22 dX10_mustOf_61 (by decide) ?_
        refine kX.pick [2, 3, 1, 4, 0] (lv' := [(0, .ref (a 0)), (1, .int v1), (2, .int (v2 ||| 0)), (3, .int v3), (4, .int (v4 + 1))]) rfl ?_
        exact hG (v2 ||| 0) (v4 + 1) z_5.2 h
      · have h := kIp c_6 h
        refine x_iconst (pc := 48) C 1 dX10_mustOf_48 (by decide) ?_
        refine x_iload (pc := 49) C 4 dX10_mustOf_49 rfl ?_
        refine y_ishl (pc := 51) C dX10_mustOf_51 ?_
        refine x_goto (pc := 52) C 56 dX10_mustOf_52 (by decide) ?_
        refine x_ior (pc := 56) C dX10_mustOf_56 ?_
        refine x_istore_n (pc := 57) C (lv' := [(2, .int (v2 ||| (kshl 1 v4))), (0, .ref (a 0)), (1, .int v1), (3, .int v3), (4, .int v4)]) dX10_mustOf_57 rfl (by decide) rfl ?_
        refine x_iinc (pc := 58) C 4 (v := v4 + 1) (lv' := [(4, .int (v4 + 1)), (2, .int (v2 ||| (kshl 1 v4))), (0, .ref (a 0)), (1, .int v1), (3, .int v3)]) dX10_mustOf_58 rfl rfl (by decide) rfl ?_
        refine x_goto (pc := 61) C 22 dX10_mustOf_61 (by decide) ?_
        refine kX.pick [2, 3, 1, 4, 0] (lv' := [(0, .ref (a 0)), (1, .int v1), (2, .int (v2 ||| (kshl 1 v4))), (3, .int v3), (4, .int (v4 + 1))]) rfl ?_
        exact hG (v2 ||| (kshl 1 v4)) (v4 + 1) z_5.2 h
def fX10_mustOf_L22 (K : Int32 → Int32 → kS → Option (Int32 × kS)) (v1 : Int32) (v3 : Int32) : Nat → Int32 → Int32 → kS → Option (Int32 × kS)
  | 0, _, _, _ => none
  | F + 1, v2, v4, st => fX10_mustOf_L22_B K (fX10_mustOf_L22 K v1 v3 F) st v1 v2 v3 v4
set_option maxRecDepth 100000 in
set_option maxHeartbeats 4000000 in
theorem wX10_mustOf_L22 {G : kG} {E : kE} {a : Nat → Nat} (C : kOk G E cX10_mustOf RX10 5 rmfX10_mustOf) {z : Int32 × kS} (Zd : kEnd G E (0, 0) (some .int) (some (.int z.1)) (wM G a z.2)) {K : Int32 → Int32 → kS → Option (Int32 × kS)} (v1 : Int32) (v3 : Int32) (hK : ∀ (u2 : Int32) (u4 : Int32) (su : kS), K u2 u4 su = some z → kX G E (0, 0) (wM G a su) 64 [(2, .int u2)] []) : ∀ (F : Nat) (v2 : Int32) (v4 : Int32) (st : kS), fX10_mustOf_L22 K v1 v3 F v2 v4 st = some z → kX G E (0, 0) (wM G a st) 22 [(0, .ref (a 0)), (1, .int v1), (2, .int v2), (3, .int v3), (4, .int v4)] [] := by
  intro F
  induction F with
  | zero =>
    intro v2 v4 st h
    exact absurd (show none = some z from h) (fun q => by cases q)
  | succ F ih =>
    intro v2 v4 st h
    exact wX10_mustOf_L22_B  C Zd  st v1 v2 v3 v4 hK (fun v2 v4 st h => ih v2 v4 st h) h
def fX10_mustOf (st : kS) (x1 : Int32) : Option (Int32 × kS) := (fX10_waysOf st x1 (-1)).bind (fun z_1 => if (lg_cmp z_1.1 0) ≤ 0 then (fX10_mustOf_L22 (fun v2_7 v4_8 st_9 => some (v2_7, st_9)) x1 0 kFU 0 0 z_1.2) else (fX10_mustOf_L22 (fun v2_10 v4_11 st_12 => some (v2_10, st_12)) x1 1 kFU 0 0 z_1.2))
set_option maxRecDepth 100000 in
set_option maxHeartbeats 4000000 in
theorem wX10_mustOf {G : kG} {E : kE} {a : Nat → Nat} (C : kOk G E cX10_mustOf RX10 5 rmfX10_mustOf) {z : Int32 × kS} (Zd : kEnd G E (0, 0) (some .int) (some (.int z.1)) (wM G a z.2)) (st : kS) (x1 : Int32) (h : fX10_mustOf st x1 = some z) : kX G E (0, 0) (wM G a st) 0 [(0, .ref (a 0)), (1, .int x1)] [] := by
  unfold fX10_mustOf at h
  refine x_iconst (pc := 0) C 0 dX10_mustOf_0 (by decide) ?_
  refine x_istore_n (pc := 1) C (lv' := [(2, .int 0), (0, .ref (a 0)), (1, .int x1)]) dX10_mustOf_1 rfl (by decide) rfl ?_
  refine x_aload_n (pc := 2) C 1 dX10_mustOf_2 rfl rfl ?_
  refine x_iload_n (pc := 3) C 2 dX10_mustOf_3 rfl rfl ?_
  refine x_iconst (pc := 4) C (-1) dX10_mustOf_4 (by decide) ?_
  obtain ⟨z_1, hz_1, h⟩ := kB h
  refine x_callV (pc := 5) C 0 [.int x1, .int (-1)] rfl rfl (mX10_waysOf G a st x1 (-1) hz_1) yvX10_waysOf q36_13 ⟨Nat.le_of_ble_eq_true rfl, Nat.le_of_ble_eq_true rfl, rfl, rfl⟩ ⟨Nat.zero_le _, Nat.zero_le _⟩ rfl rfl (Nat.le_of_ble_eq_true rfl) rfl dX10_mustOf_5 ?_
  refine x_lconst (pc := 8) C 0 dX10_mustOf_8 (by decide) ?_
  refine x_lcmp (pc := 9) C dX10_mustOf_9 ?_
  refine x_if_le (pc := 10) C 17 dX10_mustOf_10 (by decide) (fun c_2 => ?_) (fun c_2 => ?_)
  · have h := kIp c_2 h
    refine x_iconst (pc := 17) C 0 dX10_mustOf_17 (by decide) ?_
    refine x_istore_n (pc := 18) C (lv' := [(3, .int 0), (2, .int 0), (0, .ref (a 0)), (1, .int x1)]) dX10_mustOf_18 rfl (by decide) rfl ?_
    refine x_iconst (pc := 19) C 0 dX10_mustOf_19 (by decide) ?_
    refine x_istore (pc := 20) C (lv' := [(4, .int 0), (3, .int 0), (2, .int 0), (0, .ref (a 0)), (1, .int x1)]) dX10_mustOf_20 (by decide) rfl ?_
    refine kX.pick [3, 4, 2, 1, 0] (lv' := [(0, .ref (a 0)), (1, .int x1), (2, .int 0), (3, .int 0), (4, .int 0)]) rfl ?_
    refine wX10_mustOf_L22  C Zd  x1 0 (fun v2_7 v4_8 st_9 h => ?_) kFU 0 0 z_1.2 h
    refine x_iload_n (pc := 64) C 0 dX10_mustOf_64 rfl rfl ?_
    obtain rfl := Option.some.inj h
    exact x_iret (pc := 65) C Zd dX10_mustOf_65
  · have h := kIn c_2 h
    refine x_iconst (pc := 13) C 1 dX10_mustOf_13 (by decide) ?_
    refine x_goto (pc := 14) C 18 dX10_mustOf_14 (by decide) ?_
    refine x_istore_n (pc := 18) C (lv' := [(3, .int 1), (2, .int 0), (0, .ref (a 0)), (1, .int x1)]) dX10_mustOf_18 rfl (by decide) rfl ?_
    refine x_iconst (pc := 19) C 0 dX10_mustOf_19 (by decide) ?_
    refine x_istore (pc := 20) C (lv' := [(4, .int 0), (3, .int 1), (2, .int 0), (0, .ref (a 0)), (1, .int x1)]) dX10_mustOf_20 (by decide) rfl ?_
    refine kX.pick [3, 4, 2, 1, 0] (lv' := [(0, .ref (a 0)), (1, .int x1), (2, .int 0), (3, .int 1), (4, .int 0)]) rfl ?_
    refine wX10_mustOf_L22  C Zd  x1 1 (fun v2_10 v4_11 st_12 h => ?_) kFU 0 0 z_1.2 h
    refine x_iload_n (pc := 64) C 0 dX10_mustOf_64 rfl rfl ?_
    obtain rfl := Option.some.inj h
    exact x_iret (pc := 65) C Zd dX10_mustOf_65
set_option maxRecDepth 100000 in
theorem mX10_mustOf (G : kG) (a : Nat → Nat) (st : kS) (x1 : Int32) {z : Int32 × kS} (h : fX10_mustOf st x1 = some z) : kMet G yX10_mustOf cX10_mustOf 5 (some .int) rmfX10_mustOf (0, 0) [.ref (a 0), .int x1] (wM G a st) (some (.int z.1)) (wM G a z.2) := kMet.mk (by decide +kernel) (Nat.le_of_ble_eq_true rfl) (fun E C Zd => wX10_mustOf  C Zd  st x1 h)
theorem yvX10_must : kYV yX10_must RX10 cX10_must 2 (some .int) 1 := ⟨q37_3, q37_4, q1_5, q37_5, by decide +kernel⟩
abbrev rmfX10_must : Room := { frames := 4, cells := 0, slots := 0, locals := 93 }
def fX10_must (st : kS) (x1 : Int32) : Option (Int32 × kS) := if (gI st 0) = 0 then (some ((-103), st)) else (if (fX10_within x1 0 12) = 0 then (some ((-102), st)) else ((fX10_mustOf st x1).bind (fun z_3 => some (z_3.1, z_3.2))))
set_option maxRecDepth 100000 in
set_option maxHeartbeats 4000000 in
theorem wX10_must {G : kG} {E : kE} {a : Nat → Nat} (C : kOk G E cX10_must RX10 2 rmfX10_must) {z : Int32 × kS} (Zd : kEnd G E (0, 0) (some .int) (some (.int z.1)) (wM G a z.2)) (st : kS) (x1 : Int32) (h : fX10_must st x1 = some z) : kX G E (0, 0) (wM G a st) 0 [(0, .ref (a 0)), (1, .int x1)] [] := by
  unfold fX10_must at h
  refine x_aload_n (pc := 0) C 0 dX10_must_0 rfl rfl ?_
  refine x_get (pc := 1) C inlX10 0 rfl rfl 0 (by decide) q15_2 (v := .int (gI st 0)) rfl dX10_must_1 ?_
  refine x_if_ne (pc := 4) C 10 dX10_must_4 (by decide) (fun c_1 => ?_) (fun c_1 => ?_)
  · have h := kIn c_1 h
    refine x_iload_n (pc := 10) C 1 dX10_must_10 rfl rfl ?_
    refine x_iconst (pc := 11) C 0 dX10_must_11 (by decide) ?_
    refine x_bipush (pc := 12) C 12 dX10_must_12 (by decide) ?_
    refine x_callS (pc := 14) C [.int x1, .int 0, .int 12] (mX10_within G x1 0 12) ysX10_within q10_2 ⟨Nat.le_of_ble_eq_true rfl, Nat.le_of_ble_eq_true rfl, rfl, rfl⟩ ⟨Nat.zero_le _, Nat.zero_le _⟩ rfl rfl (Nat.le_of_ble_eq_true rfl) rfl dX10_must_14 ?_
    refine x_if_eq (pc := 17) C 28 dX10_must_17 (by decide) (fun c_2 => ?_) (fun c_2 => ?_)
    · have h := kIp c_2 h
      refine x_bipush (pc := 28) C (-102) dX10_must_28 (by decide) ?_
      obtain rfl := Option.some.inj h
      exact x_iret (pc := 30) C Zd dX10_must_30
    · have h := kIn c_2 h
      refine x_aload_n (pc := 20) C 0 dX10_must_20 rfl rfl ?_
      refine x_iload_n (pc := 21) C 1 dX10_must_21 rfl rfl ?_
      obtain ⟨z_3, hz_3, h⟩ := kB h
      refine x_callV (pc := 22) C 0 [.int x1] rfl rfl (mX10_mustOf G a st x1 hz_3) yvX10_mustOf q37_6 ⟨Nat.le_of_ble_eq_true rfl, Nat.le_of_ble_eq_true rfl, rfl, rfl⟩ ⟨Nat.zero_le _, Nat.zero_le _⟩ rfl rfl (Nat.le_of_ble_eq_true rfl) rfl dX10_must_22 ?_
      refine x_goto (pc := 25) C 30 dX10_must_25 (by decide) ?_
      obtain rfl := Option.some.inj h
      exact x_iret (pc := 30) C Zd dX10_must_30
  · have h := kIp c_1 h
    refine x_bipush (pc := 7) C (-103) dX10_must_7 (by decide) ?_
    obtain rfl := Option.some.inj h
    exact x_iret (pc := 9) C Zd dX10_must_9
set_option maxRecDepth 100000 in
theorem mX10_must (G : kG) (a : Nat → Nat) (st : kS) (x1 : Int32) {z : Int32 × kS} (h : fX10_must st x1 = some z) : kMet G yX10_must cX10_must 2 (some .int) rmfX10_must (0, 0) [.ref (a 0), .int x1] (wM G a st) (some (.int z.1)) (wM G a z.2) := kMet.mk (by decide +kernel) (Nat.le_of_ble_eq_true rfl) (fun E C Zd => wX10_must  C Zd  st x1 h)
theorem yvX10_image : kYV yX10_image RX10 cX10_image 2 (some .int) 0 := ⟨q37_19, q37_20, q1_5, q37_21, by decide +kernel⟩
abbrev rmfX10_image : Room := { frames := 0, cells := 0, slots := 0, locals := 0 }
def fX10_image_L41_B (K : Int32 → kS → Option (Int32 × kS)) (Gc : Int32 → kS → Option (Int32 × kS)) (st : kS) (v1 : Int32) : Option (Int32 × kS) := if 6 ≤ v1 then (K v1 st) else ((ka 6 (gA st 3) v1).bind (fun x_3 => if v1 < 0 ∨ 6 ≤ v1.toNatClampNeg then none else (ka 6 (gA st 4) v1).bind (fun x_6 => if v1 < 0 ∨ 6 ≤ v1.toNatClampNeg then none else Gc (v1 + 1) (sA (sA st 7 (upd (gA st 7) v1.toNatClampNeg x_3)) 8 (upd (gA st 8) v1.toNatClampNeg x_6)))))
set_option maxRecDepth 100000 in
set_option maxHeartbeats 4000000 in
theorem wX10_image_L41_B {G : kG} {E : kE} {a : Nat → Nat} (C : kOk G E cX10_image RX10 2 rmfX10_image) {z : Int32 × kS} (Zd : kEnd G E (0, 0) (some .int) (some (.int z.1)) (wM G a z.2)) {K Gc : Int32 → kS → Option (Int32 × kS)} (st : kS) (v1 : Int32) (hK : ∀ (u1 : Int32) (su : kS), K u1 su = some z → kX G E (0, 0) (wM G a su) 77 [(0, .ref (a 0))] []) (hG : ∀ (u1 : Int32) (su : kS), Gc u1 su = some z → kX G E (0, 0) (wM G a su) 41 [(0, .ref (a 0)), (1, .int u1)] []) (h : fX10_image_L41_B K Gc st v1 = some z) : kX G E (0, 0) (wM G a st) 41 [(0, .ref (a 0)), (1, .int v1)] [] := by
  unfold fX10_image_L41_B at h
  refine x_iload_n (pc := 41) C 1 dX10_image_41 rfl rfl ?_
  refine x_bipush (pc := 42) C 6 dX10_image_42 (by decide) ?_
  refine x_icmp_ge (pc := 44) C 77 dX10_image_44 (by decide) (fun c_2 => ?_) (fun c_2 => ?_)
  · have h := kIp c_2 h
    refine kX.pick [0] (lv' := [(0, .ref (a 0))]) rfl ?_
    exact hK v1 st h
  · have h := kIn c_2 h
    refine x_aload_n (pc := 47) C 0 dX10_image_47 rfl rfl ?_
    refine x_get (pc := 48) C inlX10 0 rfl rfl 16 (by decide) q5_20 (v := .ref (a 7)) rfl dX10_image_48 ?_
    refine x_iload_n (pc := 51) C 1 dX10_image_51 rfl rfl ?_
    refine x_aload_n (pc := 52) C 0 dX10_image_52 rfl rfl ?_
    refine x_get (pc := 53) C inlX10 0 rfl rfl 4 (by decide) q5_14 (v := .ref (a 3)) rfl dX10_image_53 ?_
    refine x_iload_n (pc := 56) C 1 dX10_image_56 rfl rfl ?_
    obtain ⟨x_3, hx_3, h⟩ := kB h
    obtain ⟨hi_4, hx_3⟩ := ka_some hx_3
    refine y_iald (pc := 57) C 3 (lwM_A3 G a rfl) hi_4 hx_3 dX10_image_57 ?_
    obtain ⟨hi_5, h⟩ := kGn h
    refine x_iast (pc := 58) C 7 (lwM_A7 G a rfl) hi_5 (swM_A7 G a _ _) dX10_image_58 ?_
    refine x_aload_n (pc := 59) C 0 dX10_image_59 rfl rfl ?_
    refine x_get (pc := 60) C inlX10 0 rfl rfl 17 (by decide) q5_21 (v := .ref (a 8)) rfl dX10_image_60 ?_
    refine x_iload_n (pc := 63) C 1 dX10_image_63 rfl rfl ?_
    refine x_aload_n (pc := 64) C 0 dX10_image_64 rfl rfl ?_
    refine x_get (pc := 65) C inlX10 0 rfl rfl 5 (by decide) q5_15 (v := .ref (a 4)) rfl dX10_image_65 ?_
    refine x_iload_n (pc := 68) C 1 dX10_image_68 rfl rfl ?_
    obtain ⟨x_6, hx_6, h⟩ := kB h
    obtain ⟨hi_7, hx_6⟩ := ka_some hx_6
    refine y_iald (pc := 69) C 4 (lwM_A4 G a (gA_n (by decide))) hi_7 hx_6 dX10_image_69 ?_
    obtain ⟨hi_8, h⟩ := kGn h
    refine x_iast (pc := 70) C 8 (lwM_A8 G a (gA_n (by decide))) hi_8 (swM_A8 G a _ _) dX10_image_70 ?_
    refine x_iinc (pc := 71) C 1 (v := v1 + 1) (lv' := [(1, .int (v1 + 1)), (0, .ref (a 0))]) dX10_image_71 rfl rfl (by decide) rfl ?_
    refine x_goto (pc := 74) C 41 dX10_image_74 (by decide) ?_
    refine kX.pick [1, 0] (lv' := [(0, .ref (a 0)), (1, .int (v1 + 1))]) rfl ?_
    exact hG (v1 + 1) (sA (sA st 7 (upd (gA st 7) v1.toNatClampNeg x_3)) 8 (upd (gA st 8) v1.toNatClampNeg x_6)) h
def fX10_image_L41 (K : Int32 → kS → Option (Int32 × kS)) : Nat → Int32 → kS → Option (Int32 × kS)
  | 0, _, _ => none
  | F + 1, v1, st => fX10_image_L41_B K (fX10_image_L41 K F) st v1
set_option maxRecDepth 100000 in
set_option maxHeartbeats 4000000 in
theorem wX10_image_L41 {G : kG} {E : kE} {a : Nat → Nat} (C : kOk G E cX10_image RX10 2 rmfX10_image) {z : Int32 × kS} (Zd : kEnd G E (0, 0) (some .int) (some (.int z.1)) (wM G a z.2)) {K : Int32 → kS → Option (Int32 × kS)} (hK : ∀ (u1 : Int32) (su : kS), K u1 su = some z → kX G E (0, 0) (wM G a su) 77 [(0, .ref (a 0))] []) : ∀ (F : Nat) (v1 : Int32) (st : kS), fX10_image_L41 K F v1 st = some z → kX G E (0, 0) (wM G a st) 41 [(0, .ref (a 0)), (1, .int v1)] [] := by
  intro F
  induction F with
  | zero =>
    intro v1 st h
    exact absurd (show none = some z from h) (fun q => by cases q)
  | succ F ih =>
    intro v1 st h
    exact wX10_image_L41_B  C Zd  st v1 hK (fun v1 st h => ih v1 st h) h
def fX10_image (st : kS) : Option (Int32 × kS) := if (gI st 0) = 0 then (some ((-103), st)) else (fX10_image_L41 (fun v1_9 st_10 => some ((gI st_10 2), st_10)) kFU 0 (sJ (sI (sI (sI st 5 1) 6 (gI st 1)) 7 (gI st 2)) 1 (gJ st 0)))
set_option maxRecDepth 100000 in
set_option maxHeartbeats 4000000 in
theorem wX10_image {G : kG} {E : kE} {a : Nat → Nat} (C : kOk G E cX10_image RX10 2 rmfX10_image) {z : Int32 × kS} (Zd : kEnd G E (0, 0) (some .int) (some (.int z.1)) (wM G a z.2)) (st : kS) (h : fX10_image st = some z) : kX G E (0, 0) (wM G a st) 0 [(0, .ref (a 0))] [] := by
  unfold fX10_image at h
  refine x_aload_n (pc := 0) C 0 dX10_image_0 rfl rfl ?_
  refine x_get (pc := 1) C inlX10 0 rfl rfl 0 (by decide) q15_2 (v := .int (gI st 0)) rfl dX10_image_1 ?_
  refine x_if_ne (pc := 4) C 10 dX10_image_4 (by decide) (fun c_1 => ?_) (fun c_1 => ?_)
  · have h := kIn c_1 h
    refine x_aload_n (pc := 10) C 0 dX10_image_10 rfl rfl ?_
    refine x_iconst (pc := 11) C 1 dX10_image_11 (by decide) ?_
    refine x_put (pc := 12) C inlX10 tyX10 tyX10_ok nmX10 0 rfl rfl 12 (by decide) q37_22 rfl .boolean (v := .int 1) (by decide +kernel) rfl rfl (Nat.le_of_ble_eq_true rfl) (swM_I5 G a _ _) dX10_image_12 ?_
    refine x_aload_n (pc := 15) C 0 dX10_image_15 rfl rfl ?_
    refine x_aload_n (pc := 16) C 0 dX10_image_16 rfl rfl ?_
    refine x_get (pc := 17) C inlX10 0 rfl rfl 1 (by decide) q15_5 (v := .int (gI st 1)) rfl dX10_image_17 ?_
    refine x_put (pc := 20) C inlX10 tyX10 tyX10_ok nmX10 0 rfl rfl 13 (by decide) q37_23 rfl .int (v := .int (gI st 1)) (by decide +kernel) rfl rfl (Nat.le_of_ble_eq_true rfl) (swM_I6 G a _ _) dX10_image_20 ?_
    refine x_aload_n (pc := 23) C 0 dX10_image_23 rfl rfl ?_
    refine x_aload_n (pc := 24) C 0 dX10_image_24 rfl rfl ?_
    refine x_get (pc := 25) C inlX10 0 rfl rfl 6 (by decide) q15_3 (v := .int (gI st 2)) rfl dX10_image_25 ?_
    refine x_put (pc := 28) C inlX10 tyX10 tyX10_ok nmX10 0 rfl rfl 14 (by decide) q38_0 rfl .int (v := .int (gI st 2)) (by decide +kernel) rfl rfl (Nat.le_of_ble_eq_true rfl) (swM_I7 G a _ _) dX10_image_28 ?_
    refine x_aload_n (pc := 31) C 0 dX10_image_31 rfl rfl ?_
    refine x_aload_n (pc := 32) C 0 dX10_image_32 rfl rfl ?_
    refine x_get (pc := 33) C inlX10 0 rfl rfl 9 (by decide) q5_17 (v := .long (gJ st 0)) rfl dX10_image_33 ?_
    refine x_put (pc := 36) C inlX10 tyX10 tyX10_ok nmX10 0 rfl rfl 15 (by decide) q38_1 rfl .long (v := .long (gJ st 0)) (by decide +kernel) rfl rfl (Nat.le_of_ble_eq_true rfl) (swM_J1 G a _ _) dX10_image_36 ?_
    refine x_iconst (pc := 39) C 0 dX10_image_39 (by decide) ?_
    refine x_istore_n (pc := 40) C (lv' := [(1, .int 0), (0, .ref (a 0))]) dX10_image_40 rfl (by decide) rfl ?_
    refine kX.pick [1, 0] (lv' := [(0, .ref (a 0)), (1, .int 0)]) rfl ?_
    refine wX10_image_L41  C Zd   (fun v1_9 st_10 h => ?_) kFU 0 (sJ (sI (sI (sI st 5 1) 6 (gI st 1)) 7 (gI st 2)) 1 (gJ st 0)) h
    refine x_aload_n (pc := 77) C 0 dX10_image_77 rfl rfl ?_
    refine x_get (pc := 78) C inlX10 0 rfl rfl 6 (by decide) q15_3 (v := .int (gI st_10 2)) rfl dX10_image_78 ?_
    obtain rfl := Option.some.inj h
    exact x_iret (pc := 81) C Zd dX10_image_81
  · have h := kIp c_1 h
    refine x_bipush (pc := 7) C (-103) dX10_image_7 (by decide) ?_
    obtain rfl := Option.some.inj h
    exact x_iret (pc := 9) C Zd dX10_image_9
set_option maxRecDepth 100000 in
theorem mX10_image (G : kG) (a : Nat → Nat) (st : kS)  {z : Int32 × kS} (h : fX10_image st = some z) : kMet G yX10_image cX10_image 2 (some .int) rmfX10_image (0, 0) [.ref (a 0)] (wM G a st) (some (.int z.1)) (wM G a z.2) := kMet.mk (by decide +kernel) (Nat.le_of_ble_eq_true rfl) (fun E C Zd => wX10_image  C Zd  st  h)
theorem yvX10_restore : kYV yX10_restore RX10 cX10_restore 2 (some .int) 0 := ⟨q38_7, q38_8, q1_5, q38_9, by decide +kernel⟩
abbrev rmfX10_restore : Room := { frames := 0, cells := 0, slots := 0, locals := 0 }
def fX10_restore_L39_B (K : Int32 → kS → Option (Int32 × kS)) (Gc : Int32 → kS → Option (Int32 × kS)) (st : kS) (v1 : Int32) : Option (Int32 × kS) := if 6 ≤ v1 then (K v1 st) else ((ka 6 (gA st 7) v1).bind (fun x_4 => if v1 < 0 ∨ 6 ≤ v1.toNatClampNeg then none else (ka 6 (gA st 8) v1).bind (fun x_7 => if v1 < 0 ∨ 6 ≤ v1.toNatClampNeg then none else Gc (v1 + 1) (sA (sA st 3 (upd (gA st 3) v1.toNatClampNeg x_4)) 4 (upd (gA st 4) v1.toNatClampNeg x_7)))))
set_option maxRecDepth 100000 in
set_option maxHeartbeats 4000000 in
theorem wX10_restore_L39_B {G : kG} {E : kE} {a : Nat → Nat} (C : kOk G E cX10_restore RX10 2 rmfX10_restore) {z : Int32 × kS} (Zd : kEnd G E (0, 0) (some .int) (some (.int z.1)) (wM G a z.2)) {K Gc : Int32 → kS → Option (Int32 × kS)} (st : kS) (v1 : Int32) (hK : ∀ (u1 : Int32) (su : kS), K u1 su = some z → kX G E (0, 0) (wM G a su) 75 [(0, .ref (a 0))] []) (hG : ∀ (u1 : Int32) (su : kS), Gc u1 su = some z → kX G E (0, 0) (wM G a su) 39 [(0, .ref (a 0)), (1, .int u1)] []) (h : fX10_restore_L39_B K Gc st v1 = some z) : kX G E (0, 0) (wM G a st) 39 [(0, .ref (a 0)), (1, .int v1)] [] := by
  unfold fX10_restore_L39_B at h
  refine x_iload_n (pc := 39) C 1 dX10_restore_39 rfl rfl ?_
  refine x_bipush (pc := 40) C 6 dX10_restore_40 (by decide) ?_
  refine x_icmp_ge (pc := 42) C 75 dX10_restore_42 (by decide) (fun c_3 => ?_) (fun c_3 => ?_)
  · have h := kIp c_3 h
    refine kX.pick [0] (lv' := [(0, .ref (a 0))]) rfl ?_
    exact hK v1 st h
  · have h := kIn c_3 h
    refine x_aload_n (pc := 45) C 0 dX10_restore_45 rfl rfl ?_
    refine x_get (pc := 46) C inlX10 0 rfl rfl 4 (by decide) q5_14 (v := .ref (a 3)) rfl dX10_restore_46 ?_
    refine x_iload_n (pc := 49) C 1 dX10_restore_49 rfl rfl ?_
    refine x_aload_n (pc := 50) C 0 dX10_restore_50 rfl rfl ?_
    refine x_get (pc := 51) C inlX10 0 rfl rfl 16 (by decide) q5_20 (v := .ref (a 7)) rfl dX10_restore_51 ?_
    refine x_iload_n (pc := 54) C 1 dX10_restore_54 rfl rfl ?_
    obtain ⟨x_4, hx_4, h⟩ := kB h
    obtain ⟨hi_5, hx_4⟩ := ka_some hx_4
    refine y_iald (pc := 55) C 7 (lwM_A7 G a rfl) hi_5 hx_4 dX10_restore_55 ?_
    obtain ⟨hi_6, h⟩ := kGn h
    refine x_iast (pc := 56) C 3 (lwM_A3 G a rfl) hi_6 (swM_A3 G a _ _) dX10_restore_56 ?_
    refine x_aload_n (pc := 57) C 0 dX10_restore_57 rfl rfl ?_
    refine x_get (pc := 58) C inlX10 0 rfl rfl 5 (by decide) q5_15 (v := .ref (a 4)) rfl dX10_restore_58 ?_
    refine x_iload_n (pc := 61) C 1 dX10_restore_61 rfl rfl ?_
    refine x_aload_n (pc := 62) C 0 dX10_restore_62 rfl rfl ?_
    refine x_get (pc := 63) C inlX10 0 rfl rfl 17 (by decide) q5_21 (v := .ref (a 8)) rfl dX10_restore_63 ?_
    refine x_iload_n (pc := 66) C 1 dX10_restore_66 rfl rfl ?_
    obtain ⟨x_7, hx_7, h⟩ := kB h
    obtain ⟨hi_8, hx_7⟩ := ka_some hx_7
    refine y_iald (pc := 67) C 8 (lwM_A8 G a (gA_n (by decide))) hi_8 hx_7 dX10_restore_67 ?_
    obtain ⟨hi_9, h⟩ := kGn h
    refine x_iast (pc := 68) C 4 (lwM_A4 G a (gA_n (by decide))) hi_9 (swM_A4 G a _ _) dX10_restore_68 ?_
    refine x_iinc (pc := 69) C 1 (v := v1 + 1) (lv' := [(1, .int (v1 + 1)), (0, .ref (a 0))]) dX10_restore_69 rfl rfl (by decide) rfl ?_
    refine x_goto (pc := 72) C 39 dX10_restore_72 (by decide) ?_
    refine kX.pick [1, 0] (lv' := [(0, .ref (a 0)), (1, .int (v1 + 1))]) rfl ?_
    exact hG (v1 + 1) (sA (sA st 3 (upd (gA st 3) v1.toNatClampNeg x_4)) 4 (upd (gA st 4) v1.toNatClampNeg x_7)) h
def fX10_restore_L39 (K : Int32 → kS → Option (Int32 × kS)) : Nat → Int32 → kS → Option (Int32 × kS)
  | 0, _, _ => none
  | F + 1, v1, st => fX10_restore_L39_B K (fX10_restore_L39 K F) st v1
set_option maxRecDepth 100000 in
set_option maxHeartbeats 4000000 in
theorem wX10_restore_L39 {G : kG} {E : kE} {a : Nat → Nat} (C : kOk G E cX10_restore RX10 2 rmfX10_restore) {z : Int32 × kS} (Zd : kEnd G E (0, 0) (some .int) (some (.int z.1)) (wM G a z.2)) {K : Int32 → kS → Option (Int32 × kS)} (hK : ∀ (u1 : Int32) (su : kS), K u1 su = some z → kX G E (0, 0) (wM G a su) 75 [(0, .ref (a 0))] []) : ∀ (F : Nat) (v1 : Int32) (st : kS), fX10_restore_L39 K F v1 st = some z → kX G E (0, 0) (wM G a st) 39 [(0, .ref (a 0)), (1, .int v1)] [] := by
  intro F
  induction F with
  | zero =>
    intro v1 st h
    exact absurd (show none = some z from h) (fun q => by cases q)
  | succ F ih =>
    intro v1 st h
    exact wX10_restore_L39_B  C Zd  st v1 hK (fun v1 st h => ih v1 st h) h
def fX10_restore (st : kS) : Option (Int32 × kS) := if (gI st 5) = 0 then (some ((-103), st)) else (if (gI st 6) = (gI st 1) then (fX10_restore_L39 (fun v1_10 st_11 => some ((gI st_11 2), st_11)) kFU 0 (sJ (sI st 2 (gI st 7)) 0 (gJ st 1))) else (some ((-103), st)))
set_option maxRecDepth 100000 in
set_option maxHeartbeats 4000000 in
theorem wX10_restore {G : kG} {E : kE} {a : Nat → Nat} (C : kOk G E cX10_restore RX10 2 rmfX10_restore) {z : Int32 × kS} (Zd : kEnd G E (0, 0) (some .int) (some (.int z.1)) (wM G a z.2)) (st : kS) (h : fX10_restore st = some z) : kX G E (0, 0) (wM G a st) 0 [(0, .ref (a 0))] [] := by
  unfold fX10_restore at h
  refine x_aload_n (pc := 0) C 0 dX10_restore_0 rfl rfl ?_
  refine x_get (pc := 1) C inlX10 0 rfl rfl 12 (by decide) q37_22 (v := .int (gI st 5)) rfl dX10_restore_1 ?_
  refine x_if_eq (pc := 4) C 18 dX10_restore_4 (by decide) (fun c_1 => ?_) (fun c_1 => ?_)
  · have h := kIp c_1 h
    refine x_bipush (pc := 18) C (-103) dX10_restore_18 (by decide) ?_
    obtain rfl := Option.some.inj h
    exact x_iret (pc := 20) C Zd dX10_restore_20
  · have h := kIn c_1 h
    refine x_aload_n (pc := 7) C 0 dX10_restore_7 rfl rfl ?_
    refine x_get (pc := 8) C inlX10 0 rfl rfl 13 (by decide) q37_23 (v := .int (gI st 6)) rfl dX10_restore_8 ?_
    refine x_aload_n (pc := 11) C 0 dX10_restore_11 rfl rfl ?_
    refine x_get (pc := 12) C inlX10 0 rfl rfl 1 (by decide) q15_5 (v := .int (gI st 1)) rfl dX10_restore_12 ?_
    refine x_icmp_eq (pc := 15) C 21 dX10_restore_15 (by decide) (fun c_2 => ?_) (fun c_2 => ?_)
    · have h := kIp c_2 h
      refine x_aload_n (pc := 21) C 0 dX10_restore_21 rfl rfl ?_
      refine x_aload_n (pc := 22) C 0 dX10_restore_22 rfl rfl ?_
      refine x_get (pc := 23) C inlX10 0 rfl rfl 14 (by decide) q38_0 (v := .int (gI st 7)) rfl dX10_restore_23 ?_
      refine x_put (pc := 26) C inlX10 tyX10 tyX10_ok nmX10 0 rfl rfl 6 (by decide) q15_3 rfl .int (v := .int (gI st 7)) (by decide +kernel) rfl rfl (Nat.le_of_ble_eq_true rfl) (swM_I2 G a _ _) dX10_restore_26 ?_
      refine x_aload_n (pc := 29) C 0 dX10_restore_29 rfl rfl ?_
      refine x_aload_n (pc := 30) C 0 dX10_restore_30 rfl rfl ?_
      refine x_get (pc := 31) C inlX10 0 rfl rfl 15 (by decide) q38_1 (v := .long (gJ st 1)) rfl dX10_restore_31 ?_
      refine x_put (pc := 34) C inlX10 tyX10 tyX10_ok nmX10 0 rfl rfl 9 (by decide) q5_17 rfl .long (v := .long (gJ st 1)) (by decide +kernel) rfl rfl (Nat.le_of_ble_eq_true rfl) (swM_J0 G a _ _) dX10_restore_34 ?_
      refine x_iconst (pc := 37) C 0 dX10_restore_37 (by decide) ?_
      refine x_istore_n (pc := 38) C (lv' := [(1, .int 0), (0, .ref (a 0))]) dX10_restore_38 rfl (by decide) rfl ?_
      refine kX.pick [1, 0] (lv' := [(0, .ref (a 0)), (1, .int 0)]) rfl ?_
      refine wX10_restore_L39  C Zd   (fun v1_10 st_11 h => ?_) kFU 0 (sJ (sI st 2 (gI st 7)) 0 (gJ st 1)) h
      refine x_aload_n (pc := 75) C 0 dX10_restore_75 rfl rfl ?_
      refine x_get (pc := 76) C inlX10 0 rfl rfl 6 (by decide) q15_3 (v := .int (gI st_11 2)) rfl dX10_restore_76 ?_
      obtain rfl := Option.some.inj h
      exact x_iret (pc := 79) C Zd dX10_restore_79
    · have h := kIn c_2 h
      refine x_bipush (pc := 18) C (-103) dX10_restore_18 (by decide) ?_
      obtain rfl := Option.some.inj h
      exact x_iret (pc := 20) C Zd dX10_restore_20
set_option maxRecDepth 100000 in
theorem mX10_restore (G : kG) (a : Nat → Nat) (st : kS)  {z : Int32 × kS} (h : fX10_restore st = some z) : kMet G yX10_restore cX10_restore 2 (some .int) rmfX10_restore (0, 0) [.ref (a 0)] (wM G a st) (some (.int z.1)) (wM G a z.2) := kMet.mk (by decide +kernel) (Nat.le_of_ble_eq_true rfl) (fun E C Zd => wX10_restore  C Zd  st  h)
