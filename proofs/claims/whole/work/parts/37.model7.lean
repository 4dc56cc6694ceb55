theorem yvX10_oddsOf : kYV yX10_oddsOf RX10 cX10_oddsOf 9 (some .int) 3 := ⟨q34_17, q34_18, q1_5, q34_19, by decide +kernel⟩
abbrev rmfX10_oddsOf : Room := { frames := 2, cells := 0, slots := 0, locals := 42 }
def fX10_oddsOf_L3_B (K : Int32 → kS → Option (Int32 × kS)) (Gc : Int32 → kS → Option (Int32 × kS)) (st : kS) (v1 : Int32) (v2 : Int32) (v3 : Int32) (v4 : Int32) : Option (Int32 × kS) := if (gI st 0) ≤ v4 then (K v4 st) else ((fX10_placeIn 6 (gA st 3) st v1).bind (fun z_2 => if v4 = z_2 then (if v4 < 0 ∨ 6 ≤ v4.toNatClampNeg then none else Gc (v4 + 1) (sA st 20 (upd (gA st 20) v4.toNatClampNeg 1))) else (if v4 < 0 ∨ 6 ≤ v4.toNatClampNeg then none else Gc (v4 + 1) (sA st 20 (upd (gA st 20) v4.toNatClampNeg 0)))))
set_option maxRecDepth 100000 in
set_option maxHeartbeats 4000000 in
theorem wX10_oddsOf_L3_B {G : kG} {E : kE} {a : Nat → Nat} (C : kOk G E cX10_oddsOf RX10 9 rmfX10_oddsOf) {z : Int32 × kS} (Zd : kEnd G E (0, 0) (some .int) (some (.int z.1)) (wM G a z.2)) {K Gc : Int32 → kS → Option (Int32 × kS)} (st : kS) (v1 : Int32) (v2 : Int32) (v3 : Int32) (v4 : Int32) (hK : ∀ (u4 : Int32) (su : kS), K u4 su = some z → kX G E (0, 0) (wM G a su) 44 [(0, .ref (a 0)), (2, .int v2), (3, .int v3)] []) (hG : ∀ (u4 : Int32) (su : kS), Gc u4 su = some z → kX G E (0, 0) (wM G a su) 3 [(0, .ref (a 0)), (1, .int v1), (2, .int v2), (3, .int v3), (4, .int u4)] []) (h : fX10_oddsOf_L3_B K Gc st v1 v2 v3 v4 = some z) : kX G E (0, 0) (wM G a st) 3 [(0, .ref (a 0)), (1, .int v1), (2, .int v2), (3, .int v3), (4, .int v4)] [] := by
  unfold fX10_oddsOf_L3_B at h
  refine x_iload (pc := 3) C 4 dX10_oddsOf_3 rfl ?_
  refine x_aload_n (pc := 5) C 0 dX10_oddsOf_5 rfl rfl ?_
  refine x_get (pc := 6) C inlX10 0 rfl rfl 0 (by decide) q15_2 (v := .int (gI st 0)) rfl dX10_oddsOf_6 ?_
  refine x_icmp_ge (pc := 9) C 44 dX10_oddsOf_9 (by decide) (fun c_1 => ?_) (fun c_1 => ?_)
  · have h := kIp c_1 h
    refine kX.pick [0, 2, 3] (lv' := [(0, .ref (a 0)), (2, .int v2), (3, .int v3)]) rfl ?_
    exact hK v4 st h
  · have h := kIn c_1 h
    refine x_aload_n (pc := 12) C 0 dX10_oddsOf_12 rfl rfl ?_
    refine x_get (pc := 13) C inlX10 0 rfl rfl 38 (by decide) q6_10 (v := .ref (a 20)) rfl dX10_oddsOf_13 ?_
    refine x_iload (pc := 16) C 4 dX10_oddsOf_16 rfl ?_
    refine x_iload (pc := 18) C 4 dX10_oddsOf_18 rfl ?_
    refine x_aload_n (pc := 20) C 0 dX10_oddsOf_20 rfl rfl ?_
    refine x_aload_n (pc := 21) C 0 dX10_oddsOf_21 rfl rfl ?_
    refine x_get (pc := 22) C inlX10 0 rfl rfl 4 (by decide) q5_14 (v := .ref (a 3)) rfl dX10_oddsOf_22 ?_
    refine x_iload_n (pc := 25) C 1 dX10_oddsOf_25 rfl rfl ?_
    obtain ⟨z_2, hz_2, h⟩ := kB h
    refine x_callV (pc := 26) C 0 [.ref (a 3), .int v1] rfl rfl (mX10_placeIn G a (N := 6) (f := (gA st 3)) 3 (lwM_A3 G a rfl) (by decide) st v1 hz_2) yvX10_placeIn q19_18 ⟨Nat.le_of_ble_eq_true rfl, Nat.le_of_ble_eq_true rfl, rfl, rfl⟩ ⟨Nat.zero_le _, Nat.zero_le _⟩ rfl rfl (Nat.le_of_ble_eq_true rfl) rfl dX10_oddsOf_26 ?_
    refine x_icmp_ne (pc := 29) C 36 dX10_oddsOf_29 (by decide) (fun c_3 => ?_) (fun c_3 => ?_)
    · have h := kIn c_3 h
      refine x_iconst (pc := 36) C 0 dX10_oddsOf_36 (by decide) ?_
      obtain ⟨hi_4, h⟩ := kGn h
      refine x_iast (pc := 37) C 20 (lwM_A20 G a rfl) hi_4 (swM_A20 G a _ _) dX10_oddsOf_37 ?_
      refine x_iinc (pc := 38) C 4 (v := v4 + 1) (lv' := [(4, .int (v4 + 1)), (0, .ref (a 0)), (1, .int v1), (2, .int v2), (3, .int v3)]) dX10_oddsOf_38 rfl rfl (by decide) rfl ?_
      refine x_goto (pc := 41) C 3 dX10_oddsOf_41 (by decide) ?_
      refine kX.pick [1, 2, 3, 4, 0] (lv' := [(0, .ref (a 0)), (1, .int v1), (2, .int v2), (3, .int v3), (4, .int (v4 + 1))]) rfl ?_
      exact hG (v4 + 1) (sA st 20 (upd (gA st 20) v4.toNatClampNeg 0)) h
    · have h := kIp c_3 h
      refine x_iconst (pc := 32) C 1 dX10_oddsOf_32 (by decide) ?_
      refine x_goto (pc := 33) C 37 dX10_oddsOf_33 (by decide) ?_
      obtain ⟨hi_5, h⟩ := kGn h
      refine x_iast (pc := 37) C 20 (lwM_A20 G a rfl) hi_5 (swM_A20 G a _ _) dX10_oddsOf_37 ?_
      refine x_iinc (pc := 38) C 4 (v := v4 + 1) (lv' := [(4, .int (v4 + 1)), (0, .ref (a 0)), (1, .int v1), (2, .int v2), (3, .int v3)]) dX10_oddsOf_38 rfl rfl (by decide) rfl ?_
      refine x_goto (pc := 41) C 3 dX10_oddsOf_41 (by decide) ?_
      refine kX.pick [1, 2, 3, 4, 0] (lv' := [(0, .ref (a 0)), (1, .int v1), (2, .int v2), (3, .int v3), (4, .int (v4 + 1))]) rfl ?_
      exact hG (v4 + 1) (sA st 20 (upd (gA st 20) v4.toNatClampNeg 1)) h
def fX10_oddsOf_L3 (K : Int32 → kS → Option (Int32 × kS)) (v1 : Int32) (v2 : Int32) (v3 : Int32) : Nat → Int32 → kS → Option (Int32 × kS)
  | 0, _, _ => none
  | F + 1, v4, st => fX10_oddsOf_L3_B K (fX10_oddsOf_L3 K v1 v2 v3 F) st v1 v2 v3 v4
set_option maxRecDepth 100000 in
set_option maxHeartbeats 4000000 in
theorem wX10_oddsOf_L3 {G : kG} {E : kE} {a : Nat → Nat} (C : kOk G E cX10_oddsOf RX10 9 rmfX10_oddsOf) {z : Int32 × kS} (Zd : kEnd G E (0, 0) (some .int) (some (.int z.1)) (wM G a z.2)) {K : Int32 → kS → Option (Int32 × kS)} (v1 : Int32) (v2 : Int32) (v3 : Int32) (hK : ∀ (u4 : Int32) (su : kS), K u4 su = some z → kX G E (0, 0) (wM G a su) 44 [(0, .ref (a 0)), (2, .int v2), (3, .int v3)] []) : ∀ (F : Nat) (v4 : Int32) (st : kS), fX10_oddsOf_L3 K v1 v2 v3 F v4 st = some z → kX G E (0, 0) (wM G a st) 3 [(0, .ref (a 0)), (1, .int v1), (2, .int v2), (3, .int v3), (4, .int v4)] [] := by
  intro F
  induction F with
  | zero =>
    intro v4 st h
    exact absurd (show none = some z from h) (fun q => by cases q)
  | succ F ih =>
    intro v4 st h
    exact wX10_oddsOf_L3_B  C Zd  st v1 v2 v3 v4 hK (fun v4 st h => ih v4 st h) h
def fX10_oddsOf_L56_B (K : Int32 → kS → Option (Int32 × kS)) (Gc : Int32 → kS → Option (Int32 × kS)) (st : kS) (v2 : Int32) (v3 : Int32) (v4 : Int32) (v5 : Int32) : Option (Int32 × kS) := if (gI st 0) ≤ v5 then (K v5 st) else (if v5 < 0 ∨ 6 ≤ v5.toNatClampNeg then none else Gc (v5 + 1) (sA st 21 (upd (gA st 21) v5.toNatClampNeg 0)))
set_option maxRecDepth 100000 in
set_option maxHeartbeats 4000000 in
theorem wX10_oddsOf_L56_B {G : kG} {E : kE} {a : Nat → Nat} (C : kOk G E cX10_oddsOf RX10 9 rmfX10_oddsOf) {z : Int32 × kS} (Zd : kEnd G E (0, 0) (some .int) (some (.int z.1)) (wM G a z.2)) {K Gc : Int32 → kS → Option (Int32 × kS)} (st : kS) (v2 : Int32) (v3 : Int32) (v4 : Int32) (v5 : Int32) (hK : ∀ (u5 : Int32) (su : kS), K u5 su = some z → kX G E (0, 0) (wM G a su) 79 [(0, .ref (a 0)), (2, .int v2), (3, .int v3), (4, .int v4)] []) (hG : ∀ (u5 : Int32) (su : kS), Gc u5 su = some z → kX G E (0, 0) (wM G a su) 56 [(0, .ref (a 0)), (2, .int v2), (3, .int v3), (4, .int v4), (5, .int u5)] []) (h : fX10_oddsOf_L56_B K Gc st v2 v3 v4 v5 = some z) : kX G E (0, 0) (wM G a st) 56 [(0, .ref (a 0)), (2, .int v2), (3, .int v3), (4, .int v4), (5, .int v5)] [] := by
  unfold fX10_oddsOf_L56_B at h
  refine x_iload (pc := 56) C 4 dX10_oddsOf_56 rfl ?_
  refine x_aload_n (pc := 58) C 0 dX10_oddsOf_58 rfl rfl ?_
  refine x_get (pc := 59) C inlX10 0 rfl rfl 0 (by decide) q15_2 (v := .int (gI st 0)) rfl dX10_oddsOf_59 ?_
  refine x_icmp_ge (pc := 62) C 79 dX10_oddsOf_62 (by decide) (fun c_9 => ?_) (fun c_9 => ?_)
  · have h := kIp c_9 h
    refine kX.pick [0, 1, 2, 3] (lv' := [(0, .ref (a 0)), (2, .int v2), (3, .int v3), (4, .int v4)]) rfl ?_
    exact hK v5 st h
  · have h := kIn c_9 h
    refine x_aload_n (pc := 65) C 0 dX10_oddsOf_65 rfl rfl ?_
    refine x_get (pc := 66) C inlX10 0 rfl rfl 39 (by decide) q6_11 (v := .ref (a 21)) rfl dX10_oddsOf_66 ?_
    refine x_iload (pc := 69) C 4 dX10_oddsOf_69 rfl ?_
    refine x_iconst (pc := 71) C 0 dX10_oddsOf_71 (by decide) ?_
    obtain ⟨hi_10, h⟩ := kGn h
    refine x_iast (pc := 72) C 21 (lwM_A21 G a rfl) hi_10 (swM_A21 G a _ _) dX10_oddsOf_72 ?_
    refine x_iinc (pc := 73) C 4 (v := v5 + 1) (lv' := [(5, .int (v5 + 1)), (0, .ref (a 0)), (2, .int v2), (3, .int v3), (4, .int v4)]) dX10_oddsOf_73 rfl rfl (by decide) rfl ?_
    refine x_goto (pc := 76) C 56 dX10_oddsOf_76 (by decide) ?_
    refine kX.pick [1, 2, 3, 4, 0] (lv' := [(0, .ref (a 0)), (2, .int v2), (3, .int v3), (4, .int v4), (5, .int (v5 + 1))]) rfl ?_
    exact hG (v5 + 1) (sA st 21 (upd (gA st 21) v5.toNatClampNeg 0)) h
def fX10_oddsOf_L56 (K : Int32 → kS → Option (Int32 × kS)) (v2 : Int32) (v3 : Int32) (v4 : Int32) : Nat → Int32 → kS → Option (Int32 × kS)
  | 0, _, _ => none
  | F + 1, v5, st => fX10_oddsOf_L56_B K (fX10_oddsOf_L56 K v2 v3 v4 F) st v2 v3 v4 v5
set_option maxRecDepth 100000 in
set_option maxHeartbeats 4000000 in
theorem wX10_oddsOf_L56 {G : kG} {E : kE} {a : Nat → Nat} (C : kOk G E cX10_oddsOf RX10 9 rmfX10_oddsOf) {z : Int32 × kS} (Zd : kEnd G E (0, 0) (some .int) (some (.int z.1)) (wM G a z.2)) {K : Int32 → kS → Option (Int32 × kS)} (v2 : Int32) (v3 : Int32) (v4 : Int32) (hK : ∀ (u5 : Int32) (su : kS), K u5 su = some z → kX G E (0, 0) (wM G a su) 79 [(0, .ref (a 0)), (2, .int v2), (3, .int v3), (4, .int v4)] []) : ∀ (F : Nat) (v5 : Int32) (st : kS), fX10_oddsOf_L56 K v2 v3 v4 F v5 st = some z → kX G E (0, 0) (wM G a st) 56 [(0, .ref (a 0)), (2, .int v2), (3, .int v3), (4, .int v4), (5, .int v5)] [] := by
  intro F
  induction F with
  | zero =>
    intro v5 st h
    exact absurd (show none = some z from h) (fun q => by cases q)
  | succ F ih =>
    intro v5 st h
    exact wX10_oddsOf_L56_B  C Zd  st v2 v3 v4 v5 hK (fun v5 st h => ih v5 st h) h
def fX10_oddsOf_J151 (K : Int32 → kS → Option (Int32 × kS)) (Gc : Int32 → kS → Option (Int32 × kS)) (st : kS) (v2 : Int32) (v3 : Int32) (v4 : Int32) (v5 : Int32) (v6 : Int32) (v7 : Int32) (s0 : Int32) : Option (Int32 × kS) := if s0 = 0 then ((ka 6 (gA st 21) v5).bind (fun x_31 => (ka 6 (gA st 20) v5).bind (fun x_33 => if v5 < 0 ∨ 6 ≤ v5.toNatClampNeg then none else Gc (v6 + 1) (sA st 21 (upd (gA st 21) v5.toNatClampNeg (x_31 + x_33)))))) else (if v5 = v6 then ((ka 6 (gA st 21) v7).bind (fun x_26 => (ka 6 (gA st 20) v5).bind (fun x_28 => if v7 < 0 ∨ 6 ≤ v7.toNatClampNeg then none else Gc (v6 + 1) (sA st 21 (upd (gA st 21) v7.toNatClampNeg (x_26 + x_28)))))) else ((ka 6 (gA st 21) v6).bind (fun x_21 => (ka 6 (gA st 20) v5).bind (fun x_23 => if v6 < 0 ∨ 6 ≤ v6.toNatClampNeg then none else Gc (v6 + 1) (sA st 21 (upd (gA st 21) v6.toNatClampNeg (x_21 + x_23)))))))
set_option maxRecDepth 100000 in
set_option maxHeartbeats 4000000 in
theorem wX10_oddsOf_J151 {G : kG} {E : kE} {a : Nat → Nat} (C : kOk G E cX10_oddsOf RX10 9 rmfX10_oddsOf) {z : Int32 × kS} (Zd : kEnd G E (0, 0) (some .int) (some (.int z.1)) (wM G a z.2)) {K Gc : Int32 → kS → Option (Int32 × kS)} (st : kS) (v2 : Int32) (v3 : Int32) (v4 : Int32) (v5 : Int32) (v6 : Int32) (v7 : Int32) (s0 : Int32) (hK : ∀ (u6 : Int32) (su : kS), K u6 su = some z → kX G E (0, 0) (wM G a su) 198 [(0, .ref (a 0)), (2, .int v2), (3, .int v3), (4, .int v4), (5, .int v5)] []) (hG : ∀ (u6 : Int32) (su : kS), Gc u6 su = some z → kX G E (0, 0) (wM G a su) 94 [(0, .ref (a 0)), (2, .int v2), (3, .int v3), (4, .int v4), (5, .int v5), (6, .int u6)] []) (h : fX10_oddsOf_J151 K Gc st v2 v3 v4 v5 v6 v7 s0 = some z) : kX G E (0, 0) (wM G a st) 151 [(0, .ref (a 0)), (2, .int v2), (3, .int v3), (4, .int v4), (5, .int v5), (6, .int v6), (7, .int v7)] [.int s0] := by
  unfold fX10_oddsOf_J151 at h
  refine x_istore (pc := 151) C (lv' := [(8, .int s0), (0, .ref (a 0)), (2, .int v2), (3, .int v3), (4, .int v4), (5, .int v5), (6, .int v6), (7, .int v7)]) dX10_oddsOf_151 (by decide) rfl ?_
  refine x_aload_n (pc := 153) C 1 dX10_oddsOf_153 rfl rfl ?_
  refine x_get (pc := 154) C inlX10 0 rfl rfl 39 (by decide) q6_11 (v := .ref (a 21)) rfl dX10_oddsOf_154 ?_
  refine x_iload (pc := 157) C 0 dX10_oddsOf_157 rfl ?_
  refine x_if_ne (pc := 159) C 167 dX10_oddsOf_159 (by decide) (fun c_19 => ?_) (fun c_19 => ?_)
  · have h := kIn c_19 h
    refine x_iload (pc := 167) C 5 dX10_oddsOf_167 rfl ?_
    refine x_iload (pc := 169) C 6 dX10_oddsOf_169 rfl ?_
    refine x_icmp_ne (pc := 171) C 179 dX10_oddsOf_171 (by decide) (fun c_20 => ?_) (fun c_20 => ?_)
    · have h := kIn c_20 h
      refine x_iload (pc := 179) C 6 dX10_oddsOf_179 rfl ?_
      refine x_dup2 (pc := 181) C dX10_oddsOf_181 rfl rfl ?_
      obtain ⟨x_21, hx_21, h⟩ := kB h
      obtain ⟨hi_22, hx_21⟩ := ka_some hx_21
      refine y_iald (pc := 182) C 21 (lwM_A21 G a rfl) hi_22 hx_21 dX10_oddsOf_182 ?_
      refine x_aload_n (pc := 183) C 1 dX10_oddsOf_183 rfl rfl ?_
      refine x_get (pc := 184) C inlX10 0 rfl rfl 38 (by decide) q6_10 (v := .ref (a 20)) rfl dX10_oddsOf_184 ?_
      refine x_iload (pc := 187) C 5 dX10_oddsOf_187 rfl ?_
      obtain ⟨x_23, hx_23, h⟩ := kB h
      obtain ⟨hi_24, hx_23⟩ := ka_some hx_23
      refine y_iald (pc := 189) C 20 (lwM_A20 G a rfl) hi_24 hx_23 dX10_oddsOf_189 ?_
      refine x_iadd (pc := 190) C dX10_oddsOf_190 ?_
      obtain ⟨hi_25, h⟩ := kGn h
      refine x_iast (pc := 191) C 21 (lwM_A21 G a rfl) hi_25 (swM_A21 G a _ _) dX10_oddsOf_191 ?_
      refine x_iinc (pc := 192) C 6 (v := v6 + 1) (lv' := [(6, .int (v6 + 1)), (8, .int s0), (0, .ref (a 0)), (2, .int v2), (3, .int v3), (4, .int v4), (5, .int v5), (7, .int v7)]) dX10_oddsOf_192 rfl rfl (by decide) rfl ?_
      refine x_goto (pc := 195) C 94 dX10_oddsOf_195 (by decide) ?_
      refine kX.pick [2, 3, 4, 5, 6, 0] (lv' := [(0, .ref (a 0)), (2, .int v2), (3, .int v3), (4, .int v4), (5, .int v5), (6, .int (v6 + 1))]) rfl ?_
      exact hG (v6 + 1) (sA st 21 (upd (gA st 21) v6.toNatClampNeg (x_21 + x_23))) h
    · have h := kIp c_20 h
      refine x_iload (pc := 174) C 7 dX10_oddsOf_174 rfl ?_
      refine x_goto (pc := 176) C 181 dX10_oddsOf_176 (by decide) ?_
      refine x_dup2 (pc := 181) C dX10_oddsOf_181 rfl rfl ?_
      obtain ⟨x_26, hx_26, h⟩ := kB h
      obtain ⟨hi_27, hx_26⟩ := ka_some hx_26
      refine y_iald (pc := 182) C 21 (lwM_A21 G a rfl) hi_27 hx_26 dX10_oddsOf_182 ?_
      refine x_aload_n (pc := 183) C 1 dX10_oddsOf_183 rfl rfl ?_
      refine x_get (pc := 184) C inlX10 0 rfl rfl 38 (by decide) q6_10 (v := .ref (a 20)) rfl dX10_oddsOf_184 ?_
      refine x_iload (pc := 187) C 5 dX10_oddsOf_187 rfl ?_
      obtain ⟨x_28, hx_28, h⟩ := kB h
      obtain ⟨hi_29, hx_28⟩ := ka_some hx_28
      refine y_iald (pc := 189) C 20 (lwM_A20 G a rfl) hi_29 hx_28 dX10_oddsOf_189 ?_
      refine x_iadd (pc := 190) C dX10_oddsOf_190 ?_
      obtain ⟨hi_30, h⟩ := kGn h
      refine x_iast (pc := 191) C 21 (lwM_A21 G a rfl) hi_30 (swM_A21 G a _ _) dX10_oddsOf_191 ?_
      refine x_iinc (pc := 192) C 6 (v := v6 + 1) (lv' := [(6, .int (v6 + 1)), (8, .int s0), (0, .ref (a 0)), (2, .int v2), (3, .int v3), (4, .int v4), (5, .int v5), (7, .int v7)]) dX10_oddsOf_192 rfl rfl (by decide) rfl ?_
      refine x_goto (pc := 195) C 94 dX10_oddsOf_195 (by decide) ?_
      refine kX.pick [2, 3, 4, 5, 6, 0] (lv' := [(0, .ref (a 0)), (2, .int v2), (3, .int v3), (4, .int v4), (5, .int v5), (6, .int (v6 + 1))]) rfl ?_
      exact hG (v6 + 1) (sA st 21 (upd (gA st 21) v7.toNatClampNeg (x_26 + x_28))) h
  · have h := kIp c_19 h
    refine x_iload (pc := 162) C 5 dX10_oddsOf_162 rfl ?_
    refine x_goto (pc := 164) C 181 dX10_oddsOf_164 (by decide) ?_
    refine x_dup2 (pc := 181) C dX10_oddsOf_181 rfl rfl ?_
    obtain ⟨x_31, hx_31, h⟩ := kB h
    obtain ⟨hi_32, hx_31⟩ := ka_some hx_31
    refine y_iald (pc := 182) C 21 (lwM_A21 G a rfl) hi_32 hx_31 dX10_oddsOf_182 ?_
    refine x_aload_n (pc := 183) C 1 dX10_oddsOf_183 rfl rfl ?_
    refine x_get (pc := 184) C inlX10 0 rfl rfl 38 (by decide) q6_10 (v := .ref (a 20)) rfl dX10_oddsOf_184 ?_
    refine x_iload (pc := 187) C 5 dX10_oddsOf_187 rfl ?_
    obtain ⟨x_33, hx_33, h⟩ := kB h
    obtain ⟨hi_34, hx_33⟩ := ka_some hx_33
    refine y_iald (pc := 189) C 20 (lwM_A20 G a rfl) hi_34 hx_33 dX10_oddsOf_189 ?_
    refine x_iadd (pc := 190) C dX10_oddsOf_190 ?_
    obtain ⟨hi_35, h⟩ := kGn h
    refine x_iast (pc := 191) C 21 (lwM_A21 G a rfl) hi_35 (swM_A21 G a _ _) dX10_oddsOf_191 ?_
    refine x_iinc (pc := 192) C 6 (v := v6 + 1) (lv' := [(6, .int (v6 + 1)), (8, .int s0), (0, .ref (a 0)), (2, .int v2), (3, .int v3), (4, .int v4), (5, .int v5), (7, .int v7)]) dX10_oddsOf_192 rfl rfl (by decide) rfl ?_
    refine x_goto (pc := 195) C 94 dX10_oddsOf_195 (by decide) ?_
    refine kX.pick [2, 3, 4, 5, 6, 0] (lv' := [(0, .ref (a 0)), (2, .int v2), (3, .int v3), (4, .int v4), (5, .int v5), (6, .int (v6 + 1))]) rfl ?_
    exact hG (v6 + 1) (sA st 21 (upd (gA st 21) v5.toNatClampNeg (x_31 + x_33))) h
def fX10_oddsOf_J150 (K : Int32 → kS → Option (Int32 × kS)) (Gc : Int32 → kS → Option (Int32 × kS)) (st : kS) (v2 : Int32) (v3 : Int32) (v4 : Int32) (v5 : Int32) (v6 : Int32) (v7 : Int32) : Option (Int32 × kS) := fX10_oddsOf_J151 K Gc st v2 v3 v4 v5 v6 v7 0
set_option maxRecDepth 100000 in
set_option maxHeartbeats 4000000 in
theorem wX10_oddsOf_J150 {G : kG} {E : kE} {a : Nat → Nat} (C : kOk G E cX10_oddsOf RX10 9 rmfX10_oddsOf) {z : Int32 × kS} (Zd : kEnd G E (0, 0) (some .int) (some (.int z.1)) (wM G a z.2)) {K Gc : Int32 → kS → Option (Int32 × kS)} (st : kS) (v2 : Int32) (v3 : Int32) (v4 : Int32) (v5 : Int32) (v6 : Int32) (v7 : Int32) (hK : ∀ (u6 : Int32) (su : kS), K u6 su = some z → kX G E (0, 0) (wM G a su) 198 [(0, .ref (a 0)), (2, .int v2), (3, .int v3), (4, .int v4), (5, .int v5)] []) (hG : ∀ (u6 : Int32) (su : kS), Gc u6 su = some z → kX G E (0, 0) (wM G a su) 94 [(0, .ref (a 0)), (2, .int v2), (3, .int v3), (4, .int v4), (5, .int v5), (6, .int u6)] []) (h : fX10_oddsOf_J150 K Gc st v2 v3 v4 v5 v6 v7 = some z) : kX G E (0, 0) (wM G a st) 150 [(0, .ref (a 0)), (2, .int v2), (3, .int v3), (4, .int v4), (5, .int v5), (6, .int v6), (7, .int v7)] [] := by
  unfold fX10_oddsOf_J150 at h
  refine x_iconst (pc := 150) C 0 dX10_oddsOf_150 (by decide) ?_
  exact wX10_oddsOf_J151  C Zd  st v2 v3 v4 v5 v6 v7 0 hK hG h
def fX10_oddsOf_J128 (K : Int32 → kS → Option (Int32 × kS)) (Gc : Int32 → kS → Option (Int32 × kS)) (st : kS) (v2 : Int32) (v3 : Int32) (v4 : Int32) (v5 : Int32) (v6 : Int32) (v7 : Int32) : Option (Int32 × kS) := (fX10_isStillPlace st v6).bind (fun z_17 => if z_17 = 0 then ((fX10_isStillPlace st v7).bind (fun z_36 => if z_36 = 0 then (fX10_oddsOf_J151 K Gc st v2 v3 v4 v5 v6 v7 1) else (fX10_oddsOf_J150 K Gc st v2 v3 v4 v5 v6 v7))) else (fX10_oddsOf_J150 K Gc st v2 v3 v4 v5 v6 v7))
set_option maxRecDepth 100000 in
set_option maxHeartbeats 4000000 in
theorem wX10_oddsOf_J128 {G : kG} {E : kE} {a : Nat → Nat} (C : kOk G E cX10_oddsOf RX10 9 rmfX10_oddsOf) {z : Int32 × kS} (Zd : kEnd G E (0, 0) (some .int) (some (.int z.1)) (wM G a z.2)) {K Gc : Int32 → kS → Option (Int32 × kS)} (st : kS) (v2 : Int32) (v3 : Int32) (v4 : Int32) (v5 : Int32) (v6 : Int32) (v7 : Int32) (hK : ∀ (u6 : Int32) (su : kS), K u6 su = some z → kX G E (0, 0) (wM G a su) 198 [(0, .ref (a 0)), (2, .int v2), (3, .int v3), (4, .int v4), (5, .int v5)] []) (hG : ∀ (u6 : Int32) (su : kS), Gc u6 su = some z → kX G E (0, 0) (wM G a su) 94 [(0, .ref (a 0)), (2, .int v2), (3, .int v3), (4, .int v4), (5, .int v5), (6, .int u6)] []) (h : fX10_oddsOf_J128 K Gc st v2 v3 v4 v5 v6 v7 = some z) : kX G E (0, 0) (wM G a st) 128 [(0, .ref (a 0)), (2, .int v2), (3, .int v3), (4, .int v4), (5, .int v5), (6, .int v6), (7, .int v7)] [] := by
  unfold fX10_oddsOf_J128 at h
  refine x_aload_n (pc := 128) C 0 dX10_oddsOf_128 rfl rfl ?_
  refine x_iload (pc := 129) C 5 dX10_oddsOf_129 rfl ?_
  obtain ⟨z_17, hz_17, h⟩ := kB h
  refine x_callV (pc := 131) C 0 [.int v6] rfl rfl (mX10_isStillPlace G a st v6 hz_17) yvX10_isStillPlace q34_20 ⟨Nat.le_of_ble_eq_true rfl, Nat.le_of_ble_eq_true rfl, rfl, rfl⟩ ⟨Nat.zero_le _, Nat.zero_le _⟩ rfl rfl (Nat.le_of_ble_eq_true rfl) rfl dX10_oddsOf_131 ?_
  refine x_if_ne (pc := 134) C 150 dX10_oddsOf_134 (by decide) (fun c_18 => ?_) (fun c_18 => ?_)
  · have h := kIn c_18 h
    exact wX10_oddsOf_J150  C Zd  st v2 v3 v4 v5 v6 v7 hK hG h
  · have h := kIp c_18 h
    refine x_aload_n (pc := 137) C 0 dX10_oddsOf_137 rfl rfl ?_
    refine x_iload (pc := 138) C 6 dX10_oddsOf_138 rfl ?_
    obtain ⟨z_36, hz_36, h⟩ := kB h
    refine x_callV (pc := 140) C 0 [.int v7] rfl rfl (mX10_isStillPlace G a st v7 hz_36) yvX10_isStillPlace q34_20 ⟨Nat.le_of_ble_eq_true rfl, Nat.le_of_ble_eq_true rfl, rfl, rfl⟩ ⟨Nat.zero_le _, Nat.zero_le _⟩ rfl rfl (Nat.le_of_ble_eq_true rfl) rfl dX10_oddsOf_140 ?_
    refine x_if_ne (pc := 143) C 150 dX10_oddsOf_143 (by decide) (fun c_37 => ?_) (fun c_37 => ?_)
    · have h := kIn c_37 h
      exact wX10_oddsOf_J150  C Zd  st v2 v3 v4 v5 v6 v7 hK hG h
    · have h := kIp c_37 h
      refine x_iconst (pc := 146) C 1 dX10_oddsOf_146 (by decide) ?_
      refine x_goto (pc := 147) C 151 dX10_oddsOf_147 (by decide) ?_
      exact wX10_oddsOf_J151  C Zd  st v2 v3 v4 v5 v6 v7 1 hK hG h
def fX10_oddsOf_L94_B (K : Int32 → kS → Option (Int32 × kS)) (Gc : Int32 → kS → Option (Int32 × kS)) (st : kS) (v2 : Int32) (v3 : Int32) (v4 : Int32) (v5 : Int32) (v6 : Int32) : Option (Int32 × kS) := if (gI st 0) ≤ v6 then (K v6 st) else (if (gI st 0) = 0 then none else if v5 = v6 then (fX10_oddsOf_J128 K Gc st v2 v3 v4 v5 v6 (kr (v6 + 1) (gI st 0))) else (if v5 = (kr (v6 + 1) (gI st 0)) then (fX10_oddsOf_J128 K Gc st v2 v3 v4 v5 v6 (kr (v6 + 1) (gI st 0))) else (fX10_oddsOf_J150 K Gc st v2 v3 v4 v5 v6 (kr (v6 + 1) (gI st 0)))))
set_option maxRecDepth 100000 in
set_option maxHeartbeats 4000000 in
theorem wX10_oddsOf_L94_B {G : kG} {E : kE} {a : Nat → Nat} (C : kOk G E cX10_oddsOf RX10 9 rmfX10_oddsOf) {z : Int32 × kS} (Zd : kEnd G E (0, 0) (some .int) (some (.int z.1)) (wM G a z.2)) {K Gc : Int32 → kS → Option (Int32 × kS)} (st : kS) (v2 : Int32) (v3 : Int32) (v4 : Int32) (v5 : Int32) (v6 : Int32) (hK : ∀ (u6 : Int32) (su : kS), K u6 su = some z → kX G E (0, 0) (wM G a su) 198 [(0, .ref (a 0)), (2, .int v2), (3, .int v3), (4, .int v4), (5, .int v5)] []) (hG : ∀ (u6 : Int32) (su : kS), Gc u6 su = some z → kX G E (0, 0) (wM G a su) 94 [(0, .ref (a 0)), (2, .int v2), (3, .int v3), (4, .int v4), (5, .int v5), (6, .int u6)] []) (h : fX10_oddsOf_L94_B K Gc st v2 v3 v4 v5 v6 = some z) : kX G E (0, 0) (wM G a st) 94 [(0, .ref (a 0)), (2, .int v2), (3, .int v3), (4, .int v4), (5, .int v5), (6, .int v6)] [] := by
  unfold fX10_oddsOf_L94_B at h
  refine x_iload (pc := 94) C 5 dX10_oddsOf_94 rfl ?_
  refine x_aload_n (pc := 96) C 0 dX10_oddsOf_96 rfl rfl ?_
  refine x_get (pc := 97) C inlX10 0 rfl rfl 0 (by decide) q15_2 (v := .int (gI st 0)) rfl dX10_oddsOf_97 ?_
  refine x_icmp_ge (pc := 100) C 198 dX10_oddsOf_100 (by decide) (fun c_14 => ?_) (fun c_14 => ?_)
  · have h := kIp c_14 h
    refine kX.pick [0, 1, 2, 3, 4] (lv' := [(0, .ref (a 0)), (2, .int v2), (3, .int v3), (4, .int v4), (5, .int v5)]) rfl ?_
    exact hK v6 st h
  · have h := kIn c_14 h
    refine x_iload (pc := 103) C 5 dX10_oddsOf_103 rfl ?_
    refine x_iconst (pc := 105) C 1 dX10_oddsOf_105 (by decide) ?_
    refine x_iadd (pc := 106) C dX10_oddsOf_106 ?_
    refine x_aload_n (pc := 107) C 0 dX10_oddsOf_107 rfl rfl ?_
    refine x_get (pc := 108) C inlX10 0 rfl rfl 0 (by decide) q15_2 (v := .int (gI st 0)) rfl dX10_oddsOf_108 ?_
    obtain ⟨c_15, h⟩ := kGd h
    refine y_irem (pc := 111) C dX10_oddsOf_111 c_15 ?_
    refine x_istore (pc := 112) C (lv' := [(7, .int (kr (v6 + 1) (gI st 0))), (0, .ref (a 0)), (2, .int v2), (3, .int v3), (4, .int v4), (5, .int v5), (6, .int v6)]) dX10_oddsOf_112 (by decide) rfl ?_
    refine x_iload (pc := 114) C 5 dX10_oddsOf_114 rfl ?_
    refine x_iload (pc := 116) C 6 dX10_oddsOf_116 rfl ?_
    refine x_icmp_eq (pc := 118) C 128 dX10_oddsOf_118 (by decide) (fun c_16 => ?_) (fun c_16 => ?_)
    · have h := kIp c_16 h
      refine kX.pick [1, 2, 3, 4, 5, 6, 0] (lv' := [(0, .ref (a 0)), (2, .int v2), (3, .int v3), (4, .int v4), (5, .int v5), (6, .int v6), (7, .int (kr (v6 + 1) (gI st 0)))]) rfl ?_
      exact wX10_oddsOf_J128  C Zd  st v2 v3 v4 v5 v6 (kr (v6 + 1) (gI st 0)) hK hG h
    · have h := kIn c_16 h
      refine x_iload (pc := 121) C 5 dX10_oddsOf_121 rfl ?_
      refine x_iload (pc := 123) C 0 dX10_oddsOf_123 rfl ?_
      refine x_icmp_ne (pc := 125) C 150 dX10_oddsOf_125 (by decide) (fun c_38 => ?_) (fun c_38 => ?_)
      · have h := kIn c_38 h
        refine kX.pick [1, 2, 3, 4, 5, 6, 0] (lv' := [(0, .ref (a 0)), (2, .int v2), (3, .int v3), (4, .int v4), (5, .int v5), (6, .int v6), (7, .int (kr (v6 + 1) (gI st 0)))]) rfl ?_
        exact wX10_oddsOf_J150  C Zd  st v2 v3 v4 v5 v6 (kr (v6 + 1) (gI st 0)) hK hG h
      · have h := kIp c_38 h
        refine kX.pick [1, 2, 3, 4, 5, 6, 0] (lv' := [(0, .ref (a 0)), (2, .int v2), (3, .int v3), (4, .int v4), (5, .int v5), (6, .int v6), (7, .int (kr (v6 + 1) (gI st 0)))]) rfl ?_
        exact wX10_oddsOf_J128  C Zd  st v2 v3 v4 v5 v6 (kr (v6 + 1) (gI st 0)) hK hG h
def fX10_oddsOf_L94 (K : Int32 → kS → Option (Int32 × kS)) (v2 : Int32) (v3 : Int32) (v4 : Int32) (v5 : Int32) : Nat → Int32 → kS → Option (Int32 × kS)
  | 0, _, _ => none
  | F + 1, v6, st => fX10_oddsOf_L94_B K (fX10_oddsOf_L94 K v2 v3 v4 v5 F) st v2 v3 v4 v5 v6
set_option maxRecDepth 100000 in
set_option maxHeartbeats 4000000 in
theorem wX10_oddsOf_L94 {G : kG} {E : kE} {a : Nat → Nat} (C : kOk G E cX10_oddsOf RX10 9 rmfX10_oddsOf) {z : Int32 × kS} (Zd : kEnd G E (0, 0) (some .int) (some (.int z.1)) (wM G a z.2)) {K : Int32 → kS → Option (Int32 × kS)} (v2 : Int32) (v3 : Int32) (v4 : Int32) (v5 : Int32) (hK : ∀ (u6 : Int32) (su : kS), K u6 su = some z → kX G E (0, 0) (wM G a su) 198 [(0, .ref (a 0)), (2, .int v2), (3, .int v3), (4, .int v4), (5, .int v5)] []) : ∀ (F : Nat) (v6 : Int32) (st : kS), fX10_oddsOf_L94 K v2 v3 v4 v5 F v6 st = some z → kX G E (0, 0) (wM G a st) 94 [(0, .ref (a 0)), (2, .int v2), (3, .int v3), (4, .int v4), (5, .int v5), (6, .int v6)] [] := by
  intro F
  induction F with
  | zero =>
    intro v6 st h
    exact absurd (show none = some z from h) (fun q => by cases q)
  | succ F ih =>
    intro v6 st h
    exact wX10_oddsOf_L94_B  C Zd  st v2 v3 v4 v5 v6 hK (fun v6 st h => ih v6 st h) h
def fX10_oddsOf_L82_B (K : Int32 → kS → Option (Int32 × kS)) (Gc : Int32 → kS → Option (Int32 × kS)) (st : kS) (v2 : Int32) (v3 : Int32) (v4 : Int32) (v5 : Int32) : Option (Int32 × kS) := if (gI st 0) ≤ v5 then (K v5 st) else (fX10_oddsOf_L94 (fun v6_39 st_40 => Gc (v5 + 1) st_40) v2 v3 v4 v5 kFU 0 st)
set_option maxRecDepth 100000 in
set_option maxHeartbeats 4000000 in
theorem wX10_oddsOf_L82_B {G : kG} {E : kE} {a : Nat → Nat} (C : kOk G E cX10_oddsOf RX10 9 rmfX10_oddsOf) {z : Int32 × kS} (Zd : kEnd G E (0, 0) (some .int) (some (.int z.1)) (wM G a z.2)) {K Gc : Int32 → kS → Option (Int32 × kS)} (st : kS) (v2 : Int32) (v3 : Int32) (v4 : Int32) (v5 : Int32) (hK : ∀ (u5 : Int32) (su : kS), K u5 su = some z → kX G E (0, 0) (wM G a su) 204 [(0, .ref (a 0)), (2, .int v2), (3, .int v3), (4, .int v4)] []) (hG : ∀ (u5 : Int32) (su : kS), Gc u5 su = some z → kX G E (0, 0) (wM G a su) 82 [(0, .ref (a 0)), (2, .int v2), (3, .int v3), (4, .int v4), (5, .int u5)] []) (h : fX10_oddsOf_L82_B K Gc st v2 v3 v4 v5 = some z) : kX G E (0, 0) (wM G a st) 82 [(0, .ref (a 0)), (2, .int v2), (3, .int v3), (4, .int v4), (5, .int v5)] [] := by
  unfold fX10_oddsOf_L82_B at h
  refine x_iload (pc := 82) C 4 dX10_oddsOf_82 rfl ?_
  refine x_aload_n (pc := 84) C 0 dX10_oddsOf_84 rfl rfl ?_
  refine x_get (pc := 85) C inlX10 0 rfl rfl 0 (by decide) q15_2 (v := .int (gI st 0)) rfl dX10_oddsOf_85 ?_
  refine x_icmp_ge (pc := 88) C 204 dX10_oddsOf_88 (by decide) (fun c_13 => ?_) (fun c_13 => ?_)
  · have h := kIp c_13 h
    refine kX.pick [0, 1, 2, 3] (lv' := [(0, .ref (a 0)), (2, .int v2), (3, .int v3), (4, .int v4)]) rfl ?_
    exact hK v5 st h
  · have h := kIn c_13 h
    refine x_iconst (pc := 91) C 0 dX10_oddsOf_91 (by decide) ?_
    refine x_istore (pc := 92) C (lv' := [(6, .int 0), (0, .ref (a 0)), (2, .int v2), (3, .int v3), (4, .int v4), (5, .int v5)]) dX10_oddsOf_92 (by decide) rfl ?_
    refine kX.pick [1, 2, 3, 4, 5, 0] (lv' := [(0, .ref (a 0)), (2, .int v2), (3, .int v3), (4, .int v4), (5, .int v5), (6, .int 0)]) rfl ?_
    refine wX10_oddsOf_L94  C Zd  v2 v3 v4 v5 (fun v6_39 st_40 h => ?_) kFU 0 st h
    refine x_iinc (pc := 198) C 4 (v := v5 + 1) (lv' := [(5, .int (v5 + 1)), (0, .ref (a 0)), (2, .int v2), (3, .int v3), (4, .int v4)]) dX10_oddsOf_198 rfl rfl (by decide) rfl ?_
    refine x_goto (pc := 201) C 82 dX10_oddsOf_201 (by decide) ?_
    refine kX.pick [1, 2, 3, 4, 0] (lv' := [(0, .ref (a 0)), (2, .int v2), (3, .int v3), (4, .int v4), (5, .int (v5 + 1))]) rfl ?_
    exact hG (v5 + 1) st_40 h
def fX10_oddsOf_L82 (K : Int32 → kS → Option (Int32 × kS)) (v2 : Int32) (v3 : Int32) (v4 : Int32) : Nat → Int32 → kS → Option (Int32 × kS)
  | 0, _, _ => none
  | F + 1, v5, st => fX10_oddsOf_L82_B K (fX10_oddsOf_L82 K v2 v3 v4 F) st v2 v3 v4 v5
set_option maxRecDepth 100000 in
set_option maxHeartbeats 4000000 in
theorem wX10_oddsOf_L82 {G : kG} {E : kE} {a : Nat → Nat} (C : kOk G E cX10_oddsOf RX10 9 rmfX10_oddsOf) {z : Int32 × kS} (Zd : kEnd G E (0, 0) (some .int) (some (.int z.1)) (wM G a z.2)) {K : Int32 → kS → Option (Int32 × kS)} (v2 : Int32) (v3 : Int32) (v4 : Int32) (hK : ∀ (u5 : Int32) (su : kS), K u5 su = some z → kX G E (0, 0) (wM G a su) 204 [(0, .ref (a 0)), (2, .int v2), (3, .int v3), (4, .int v4)] []) : ∀ (F : Nat) (v5 : Int32) (st : kS), fX10_oddsOf_L82 K v2 v3 v4 F v5 st = some z → kX G E (0, 0) (wM G a st) 82 [(0, .ref (a 0)), (2, .int v2), (3, .int v3), (4, .int v4), (5, .int v5)] [] := by
  intro F
  induction F with
  | zero =>
    intro v5 st h
    exact absurd (show none = some z from h) (fun q => by cases q)
  | succ F ih =>
    intro v5 st h
    exact wX10_oddsOf_L82_B  C Zd  st v2 v3 v4 v5 hK (fun v5 st h => ih v5 st h) h
def fX10_oddsOf_L207_B (K : Int32 → kS → Option (Int32 × kS)) (Gc : Int32 → kS → Option (Int32 × kS)) (st : kS) (v2 : Int32) (v3 : Int32) (v4 : Int32) (v5 : Int32) : Option (Int32 × kS) := if (gI st 0) ≤ v5 then (K v5 st) else ((ka 6 (gA st 21) v5).bind (fun x_44 => if v5 < 0 ∨ 6 ≤ v5.toNatClampNeg then none else Gc (v5 + 1) (sA st 20 (upd (gA st 20) v5.toNatClampNeg x_44))))
set_option maxRecDepth 100000 in
set_option maxHeartbeats 4000000 in
theorem wX10_oddsOf_L207_B {G : kG} {E : kE} {a : Nat → Nat} (C : kOk G E cX10_oddsOf RX10 9 rmfX10_oddsOf) {z : Int32 × kS} (Zd : kEnd G E (0, 0) (some .int) (some (.int z.1)) (wM G a z.2)) {K Gc : Int32 → kS → Option (Int32 × kS)} (st : kS) (v2 : Int32) (v3 : Int32) (v4 : Int32) (v5 : Int32) (hK : ∀ (u5 : Int32) (su : kS), K u5 su = some z → kX G E (0, 0) (wM G a su) 236 [(0, .ref (a 0)), (2, .int v2), (3, .int v3), (4, .int v4)] []) (hG : ∀ (u5 : Int32) (su : kS), Gc u5 su = some z → kX G E (0, 0) (wM G a su) 207 [(0, .ref (a 0)), (2, .int v2), (3, .int v3), (4, .int v4), (5, .int u5)] []) (h : fX10_oddsOf_L207_B K Gc st v2 v3 v4 v5 = some z) : kX G E (0, 0) (wM G a st) 207 [(0, .ref (a 0)), (2, .int v2), (3, .int v3), (4, .int v4), (5, .int v5)] [] := by
  unfold fX10_oddsOf_L207_B at h
  refine x_iload (pc := 207) C 4 dX10_oddsOf_207 rfl ?_
  refine x_aload_n (pc := 209) C 0 dX10_oddsOf_209 rfl rfl ?_
  refine x_get (pc := 210) C inlX10 0 rfl rfl 0 (by decide) q15_2 (v := .int (gI st 0)) rfl dX10_oddsOf_210 ?_
  refine x_icmp_ge (pc := 213) C 236 dX10_oddsOf_213 (by decide) (fun c_43 => ?_) (fun c_43 => ?_)
  · have h := kIp c_43 h
    refine kX.pick [0, 1, 2, 3] (lv' := [(0, .ref (a 0)), (2, .int v2), (3, .int v3), (4, .int v4)]) rfl ?_
    exact hK v5 st h
  · have h := kIn c_43 h
    refine x_aload_n (pc := 216) C 0 dX10_oddsOf_216 rfl rfl ?_
    refine x_get (pc := 217) C inlX10 0 rfl rfl 38 (by decide) q6_10 (v := .ref (a 20)) rfl dX10_oddsOf_217 ?_
    refine x_iload (pc := 220) C 4 dX10_oddsOf_220 rfl ?_
    refine x_aload_n (pc := 222) C 0 dX10_oddsOf_222 rfl rfl ?_
    refine x_get (pc := 223) C inlX10 0 rfl rfl 39 (by decide) q6_11 (v := .ref (a 21)) rfl dX10_oddsOf_223 ?_
    refine x_iload (pc := 226) C 4 dX10_oddsOf_226 rfl ?_
    obtain ⟨x_44, hx_44, h⟩ := kB h
    obtain ⟨hi_45, hx_44⟩ := ka_some hx_44
    refine y_iald (pc := 228) C 21 (lwM_A21 G a rfl) hi_45 hx_44 dX10_oddsOf_228 ?_
    obtain ⟨hi_46, h⟩ := kGn h
    refine x_iast (pc := 229) C 20 (lwM_A20 G a rfl) hi_46 (swM_A20 G a _ _) dX10_oddsOf_229 ?_
    refine x_iinc (pc := 230) C 4 (v := v5 + 1) (lv' := [(5, .int (v5 + 1)), (0, .ref (a 0)), (2, .int v2), (3, .int v3), (4, .int v4)]) dX10_oddsOf_230 rfl rfl (by decide) rfl ?_
    refine x_goto (pc := 233) C 207 dX10_oddsOf_233 (by decide) ?_
    refine kX.pick [1, 2, 3, 4, 0] (lv' := [(0, .ref (a 0)), (2, .int v2), (3, .int v3), (4, .int v4), (5, .int (v5 + 1))]) rfl ?_
    exact hG (v5 + 1) (sA st 20 (upd (gA st 20) v5.toNatClampNeg x_44)) h
def fX10_oddsOf_L207 (K : Int32 → kS → Option (Int32 × kS)) (v2 : Int32) (v3 : Int32) (v4 : Int32) : Nat → Int32 → kS → Option (Int32 × kS)
  | 0, _, _ => none
  | F + 1, v5, st => fX10_oddsOf_L207_B K (fX10_oddsOf_L207 K v2 v3 v4 F) st v2 v3 v4 v5
set_option maxRecDepth 100000 in
set_option maxHeartbeats 4000000 in
theorem wX10_oddsOf_L207 {G : kG} {E : kE} {a : Nat → Nat} (C : kOk G E cX10_oddsOf RX10 9 rmfX10_oddsOf) {z : Int32 × kS} (Zd : kEnd G E (0, 0) (some .int) (some (.int z.1)) (wM G a z.2)) {K : Int32 → kS → Option (Int32 × kS)} (v2 : Int32) (v3 : Int32) (v4 : Int32) (hK : ∀ (u5 : Int32) (su : kS), K u5 su = some z → kX G E (0, 0) (wM G a su) 236 [(0, .ref (a 0)), (2, .int v2), (3, .int v3), (4, .int v4)] []) : ∀ (F : Nat) (v5 : Int32) (st : kS), fX10_oddsOf_L207 K v2 v3 v4 F v5 st = some z → kX G E (0, 0) (wM G a st) 207 [(0, .ref (a 0)), (2, .int v2), (3, .int v3), (4, .int v4), (5, .int v5)] [] := by
  intro F
  induction F with
  | zero =>
    intro v5 st h
    exact absurd (show none = some z from h) (fun q => by cases q)
  | succ F ih =>
    intro v5 st h
    exact wX10_oddsOf_L207_B  C Zd  st v2 v3 v4 v5 hK (fun v5 st h => ih v5 st h) h
def fX10_oddsOf_L47_B (K : Int32 → kS → Option (Int32 × kS)) (Gc : Int32 → kS → Option (Int32 × kS)) (st : kS) (v2 : Int32) (v3 : Int32) (v4 : Int32) : Option (Int32 × kS) := if v3 ≤ v4 then (K v4 st) else (fX10_oddsOf_L56 (fun v5_11 st_12 => fX10_oddsOf_L82 (fun v5_41 st_42 => fX10_oddsOf_L207 (fun v5_47 st_48 => Gc (v4 + 1) st_48) v2 v3 v4 kFU 0 st_42) v2 v3 v4 kFU 0 st_12) v2 v3 v4 kFU 0 st)
set_option maxRecDepth 100000 in
set_option maxHeartbeats 4000000 in
theorem wX10_oddsOf_L47_B {G : kG} {E : kE} {a : Nat → Nat} (C : kOk G E cX10_oddsOf RX10 9 rmfX10_oddsOf) {z : Int32 × kS} (Zd : kEnd G E (0, 0) (some .int) (some (.int z.1)) (wM G a z.2)) {K Gc : Int32 → kS → Option (Int32 × kS)} (st : kS) (v2 : Int32) (v3 : Int32) (v4 : Int32) (hK : ∀ (u4 : Int32) (su : kS), K u4 su = some z → kX G E (0, 0) (wM G a su) 242 [(0, .ref (a 0)), (2, .int v2)] []) (hG : ∀ (u4 : Int32) (su : kS), Gc u4 su = some z → kX G E (0, 0) (wM G a su) 47 [(0, .ref (a 0)), (2, .int v2), (3, .int v3), (4, .int u4)] []) (h : fX10_oddsOf_L47_B K Gc st v2 v3 v4 = some z) : kX G E (0, 0) (wM G a st) 47 [(0, .ref (a 0)), (2, .int v2), (3, .int v3), (4, .int v4)] [] := by
  unfold fX10_oddsOf_L47_B at h
  refine x_iload (pc := 47) C 3 dX10_oddsOf_47 rfl ?_
  refine x_iload_n (pc := 49) C 2 dX10_oddsOf_49 rfl rfl ?_
  refine x_icmp_ge (pc := 50) C 242 dX10_oddsOf_50 (by decide) (fun c_8 => ?_) (fun c_8 => ?_)
  · have h := kIp c_8 h
    refine kX.pick [0, 1] (lv' := [(0, .ref (a 0)), (2, .int v2)]) rfl ?_
    exact hK v4 st h
  · have h := kIn c_8 h
    refine x_iconst (pc := 53) C 0 dX10_oddsOf_53 (by decide) ?_
    refine x_istore (pc := 54) C (lv' := [(5, .int 0), (0, .ref (a 0)), (2, .int v2), (3, .int v3), (4, .int v4)]) dX10_oddsOf_54 (by decide) rfl ?_
    refine kX.pick [1, 2, 3, 4, 0] (lv' := [(0, .ref (a 0)), (2, .int v2), (3, .int v3), (4, .int v4), (5, .int 0)]) rfl ?_
    refine wX10_oddsOf_L56  C Zd  v2 v3 v4 (fun v5_11 st_12 h => ?_) kFU 0 st h
    refine x_iconst (pc := 79) C 0 dX10_oddsOf_79 (by decide) ?_
    refine x_istore (pc := 80) C (lv' := [(5, .int 0), (0, .ref (a 0)), (2, .int v2), (3, .int v3), (4, .int v4)]) dX10_oddsOf_80 (by decide) rfl ?_
    refine kX.pick [1, 2, 3, 4, 0] (lv' := [(0, .ref (a 0)), (2, .int v2), (3, .int v3), (4, .int v4), (5, .int 0)]) rfl ?_
    refine wX10_oddsOf_L82  C Zd  v2 v3 v4 (fun v5_41 st_42 h => ?_) kFU 0 st_12 h
    refine x_iconst (pc := 204) C 0 dX10_oddsOf_204 (by decide) ?_
    refine x_istore (pc := 205) C (lv' := [(5, .int 0), (0, .ref (a 0)), (2, .int v2), (3, .int v3), (4, .int v4)]) dX10_oddsOf_205 (by decide) rfl ?_
    refine kX.pick [1, 2, 3, 4, 0] (lv' := [(0, .ref (a 0)), (2, .int v2), (3, .int v3), (4, .int v4), (5, .int 0)]) rfl ?_
    refine wX10_oddsOf_L207  C Zd  v2 v3 v4 (fun v5_47 st_48 h => ?_) kFU 0 st_42 h
    refine x_iinc (pc := 236) C 3 (v := v4 + 1) (lv' := [(4, .int (v4 + 1)), (0, .ref (a 0)), (2, .int v2), (3, .int v3)]) dX10_oddsOf_236 rfl rfl (by decide) rfl ?_
    refine x_goto (pc := 239) C 47 dX10_oddsOf_239 (by decide) ?_
    refine kX.pick [1, 2, 3, 0] (lv' := [(0, .ref (a 0)), (2, .int v2), (3, .int v3), (4, .int (v4 + 1))]) rfl ?_
    exact hG (v4 + 1) st_48 h
def fX10_oddsOf_L47 (K : Int32 → kS → Option (Int32 × kS)) (v2 : Int32) (v3 : Int32) : Nat → Int32 → kS → Option (Int32 × kS)
  | 0, _, _ => none
  | F + 1, v4, st => fX10_oddsOf_L47_B K (fX10_oddsOf_L47 K v2 v3 F) st v2 v3 v4
set_option maxRecDepth 100000 in
set_option maxHeartbeats 4000000 in
theorem wX10_oddsOf_L47 {G : kG} {E : kE} {a : Nat → Nat} (C : kOk G E cX10_oddsOf RX10 9 rmfX10_oddsOf) {z : Int32 × kS} (Zd : kEnd G E (0, 0) (some .int) (some (.int z.1)) (wM G a z.2)) {K : Int32 → kS → Option (Int32 × kS)} (v2 : Int32) (v3 : Int32) (hK : ∀ (u4 : Int32) (su : kS), K u4 su = some z → kX G E (0, 0) (wM G a su) 242 [(0, .ref (a 0)), (2, .int v2)] []) : ∀ (F : Nat) (v4 : Int32) (st : kS), fX10_oddsOf_L47 K v2 v3 F v4 st = some z → kX G E (0, 0) (wM G a st) 47 [(0, .ref (a 0)), (2, .int v2), (3, .int v3), (4, .int v4)] [] := by
  intro F
  induction F with
  | zero =>
    intro v4 st h
    exact absurd (show none = some z from h) (fun q => by cases q)
  | succ F ih =>
    intro v4 st h
    exact wX10_oddsOf_L47_B  C Zd  st v2 v3 v4 hK (fun v4 st h => ih v4 st h) h
def fX10_oddsOf (st : kS) (x1 : Int32) (x2 : Int32) (x3 : Int32) : Option (Int32 × kS) := fX10_oddsOf_L3 (fun v4_6 st_7 => fX10_oddsOf_L47 (fun v4_49 st_50 => (ka 6 (gA st_50 20) x2).bind (fun x_51 => some (x_51, st_50))) x2 x3 kFU 0 st_7) x1 x2 x3 kFU 0 st
set_option maxRecDepth 100000 in
set_option maxHeartbeats 4000000 in
theorem wX10_oddsOf {G : kG} {E : kE} {a : Nat → Nat} (C : kOk G E cX10_oddsOf RX10 9 rmfX10_oddsOf) {z : Int32 × kS} (Zd : kEnd G E (0, 0) (some .int) (some (.int z.1)) (wM G a z.2)) (st : kS) (x1 : Int32) (x2 : Int32) (x3 : Int32) (h : fX10_oddsOf st x1 x2 x3 = some z) : kX G E (0, 0) (wM G a st) 0 [(0, .ref (a 0)), (1, .int x1), (2, .int x2), (3, .int x3)] [] := by
  unfold fX10_oddsOf at h
  refine x_iconst (pc := 0) C 0 dX10_oddsOf_0 (by decide) ?_
  refine x_istore (pc := 1) C (lv' := [(4, .int 0), (0, .ref (a 0)), (1, .int x1), (2, .int x2), (3, .int x3)]) dX10_oddsOf_1 (by decide) rfl ?_
  refine kX.pick [1, 2, 3, 4, 0] (lv' := [(0, .ref (a 0)), (1, .int x1), (2, .int x2), (3, .int x3), (4, .int 0)]) rfl ?_
  refine wX10_oddsOf_L3  C Zd  x1 x2 x3 (fun v4_6 st_7 h => ?_) kFU 0 st h
  refine x_iconst (pc := 44) C 0 dX10_oddsOf_44 (by decide) ?_
  refine x_istore (pc := 45) C (lv' := [(4, .int 0), (0, .ref (a 0)), (2, .int x2), (3, .int x3)]) dX10_oddsOf_45 (by decide) rfl ?_
  refine kX.pick [1, 2, 3, 0] (lv' := [(0, .ref (a 0)), (2, .int x2), (3, .int x3), (4, .int 0)]) rfl ?_
  refine wX10_oddsOf_L47  C Zd  x2 x3 (fun v4_49 st_50 h => ?_) kFU 0 st_7 h
  refine x_aload_n (pc := 242) C 0 dX10_oddsOf_242 rfl rfl ?_
  refine x_get (pc := 243) C inlX10 0 rfl rfl 38 (by decide) q6_10 (v := .ref (a 20)) rfl dX10_oddsOf_243 ?_
  refine x_iload_n (pc := 246) C 1 dX10_oddsOf_246 rfl rfl ?_
  obtain ⟨x_51, hx_51, h⟩ := kB h
  obtain ⟨hi_52, hx_51⟩ := ka_some hx_51
  refine y_iald (pc := 247) C 20 (lwM_A20 G a rfl) hi_52 hx_51 dX10_oddsOf_247 ?_
  obtain rfl := Option.some.inj h
  exact x_iret (pc := 248) C Zd dX10_oddsOf_248
set_option maxRecDepth 100000 in
theorem mX10_oddsOf (G : kG) (a : Nat → Nat) (st : kS) (x1 : Int32) (x2 : Int32) (x3 : Int32) {z : Int32 × kS} (h : fX10_oddsOf st x1 x2 x3 = some z) : kMet G yX10_oddsOf cX10_oddsOf 9 (some .int) rmfX10_oddsOf (0, 0) [.ref (a 0), .int x1, .int x2, .int x3] (wM G a st) (some (.int z.1)) (wM G a z.2) := kMet.mk (by decide +kernel) (Nat.le_of_ble_eq_true rfl) (fun E C Zd => wX10_oddsOf  C Zd  st x1 x2 x3 h)
theorem yvX10_odds : kYV yX10_odds RX10 cX10_odds 5 (some .int) 4 := ⟨q34_13, q34_14, q1_5, q34_15, by decide +kernel⟩
abbrev rmfX10_odds : Room := { frames := 3, cells := 0, slots := 0, locals := 70 }
def fX10_odds (st : kS) (x1 : Int32) (x2 : Int32) (x3 : Int32) (x4 : Int32) : Option (Int32 × kS) := (fX10_isHouse st x1).bind (fun z_1 => if z_1 = 0 then (some ((-101), st)) else ((fX10_isHouse st x2).bind (fun z_3 => if z_3 = 0 then (some ((-101), st)) else (if (fX10_within x3 0 8) = 0 then (some ((-102), st)) else (if (fX10_within x4 0 1) = 0 then (some ((-102), st)) else ((fX10_oddsOf st x1 x2 x3).bind (fun z_7 => (fX10_whole z_7.2 x3).bind (fun z_8 => (fX10_lowest z_7.1 z_8 x4).bind (fun z_9 => some (z_9, z_7.2))))))))))
set_option maxRecDepth 100000 in
set_option maxHeartbeats 4000000 in
theorem wX10_odds {G : kG} {E : kE} {a : Nat → Nat} (C : kOk G E cX10_odds RX10 5 rmfX10_odds) {z : Int32 × kS} (Zd : kEnd G E (0, 0) (some .int) (some (.int z.1)) (wM G a z.2)) (st : kS) (x1 : Int32) (x2 : Int32) (x3 : Int32) (x4 : Int32) (h : fX10_odds st x1 x2 x3 x4 = some z) : kX G E (0, 0) (wM G a st) 0 [(0, .ref (a 0)), (1, .int x1), (2, .int x2), (3, .int x3), (4, .int x4)] [] := by
  unfold fX10_odds at h
  refine x_aload_n (pc := 0) C 0 dX10_odds_0 rfl rfl ?_
  refine x_iload_n (pc := 1) C 1 dX10_odds_1 rfl rfl ?_
  obtain ⟨z_1, hz_1, h⟩ := kB h
  refine x_callV (pc := 2) C 0 [.int x1] rfl rfl (mX10_isHouse G a st x1 hz_1) yvX10_isHouse q19_14 ⟨Nat.le_of_ble_eq_true rfl, Nat.le_of_ble_eq_true rfl, rfl, rfl⟩ ⟨Nat.zero_le _, Nat.zero_le _⟩ rfl rfl (Nat.le_of_ble_eq_true rfl) rfl dX10_odds_2 ?_
  refine x_if_eq (pc := 5) C 16 dX10_odds_5 (by decide) (fun c_2 => ?_) (fun c_2 => ?_)
  · have h := kIp c_2 h
    refine x_bipush (pc := 16) C (-101) dX10_odds_16 (by decide) ?_
    obtain rfl := Option.some.inj h
    exact x_iret (pc := 18) C Zd dX10_odds_18
  · have h := kIn c_2 h
    refine x_aload_n (pc := 8) C 0 dX10_odds_8 rfl rfl ?_
    refine x_iload_n (pc := 9) C 2 dX10_odds_9 rfl rfl ?_
    obtain ⟨z_3, hz_3, h⟩ := kB h
    refine x_callV (pc := 10) C 0 [.int x2] rfl rfl (mX10_isHouse G a st x2 hz_3) yvX10_isHouse q19_14 ⟨Nat.le_of_ble_eq_true rfl, Nat.le_of_ble_eq_true rfl, rfl, rfl⟩ ⟨Nat.zero_le _, Nat.zero_le _⟩ rfl rfl (Nat.le_of_ble_eq_true rfl) rfl dX10_odds_10 ?_
    refine x_if_ne (pc := 13) C 19 dX10_odds_13 (by decide) (fun c_4 => ?_) (fun c_4 => ?_)
    · have h := kIn c_4 h
      refine x_iload_n (pc := 19) C 3 dX10_odds_19 rfl rfl ?_
      refine x_iconst (pc := 20) C 0 dX10_odds_20 (by decide) ?_
      refine x_bipush (pc := 21) C 8 dX10_odds_21 (by decide) ?_
      refine x_callS (pc := 23) C [.int x3, .int 0, .int 8] (mX10_within G x3 0 8) ysX10_within q10_2 ⟨Nat.le_of_ble_eq_true rfl, Nat.le_of_ble_eq_true rfl, rfl, rfl⟩ ⟨Nat.zero_le _, Nat.zero_le _⟩ rfl rfl (Nat.le_of_ble_eq_true rfl) rfl dX10_odds_23 ?_
      refine x_if_eq (pc := 26) C 39 dX10_odds_26 (by decide) (fun c_5 => ?_) (fun c_5 => ?_)
      · have h := kIp c_5 h
        refine x_bipush (pc := 39) C (-102) dX10_odds_39 (by decide) ?_
        obtain rfl := Option.some.inj h
        exact x_iret (pc := 41) C Zd dX10_odds_41
      · have h := kIn c_5 h
        refine x_iload (pc := 29) C 4 dX10_odds_29 rfl ?_
        refine x_iconst (pc := 31) C 0 dX10_odds_31 (by decide) ?_
        refine x_iconst (pc := 32) C 1 dX10_odds_32 (by decide) ?_
        refine x_callS (pc := 33) C [.int x4, .int 0, .int 1] (mX10_within G x4 0 1) ysX10_within q10_2 ⟨Nat.le_of_ble_eq_true rfl, Nat.le_of_ble_eq_true rfl, rfl, rfl⟩ ⟨Nat.zero_le _, Nat.zero_le _⟩ rfl rfl (Nat.le_of_ble_eq_true rfl) rfl dX10_odds_33 ?_
        refine x_if_ne (pc := 36) C 42 dX10_odds_36 (by decide) (fun c_6 => ?_) (fun c_6 => ?_)
        · have h := kIn c_6 h
          refine x_aload_n (pc := 42) C 0 dX10_odds_42 rfl rfl ?_
          refine x_iload_n (pc := 43) C 1 dX10_odds_43 rfl rfl ?_
          refine x_iload_n (pc := 44) C 2 dX10_odds_44 rfl rfl ?_
          refine x_iload_n (pc := 45) C 3 dX10_odds_45 rfl rfl ?_
          obtain ⟨z_7, hz_7, h⟩ := kB h
          refine x_callV (pc := 46) C 0 [.int x1, .int x2, .int x3] rfl rfl (mX10_oddsOf G a st x1 x2 x3 hz_7) yvX10_oddsOf q34_16 ⟨Nat.le_of_ble_eq_true rfl, Nat.le_of_ble_eq_true rfl, rfl, rfl⟩ ⟨Nat.zero_le _, Nat.zero_le _⟩ rfl rfl (Nat.le_of_ble_eq_true rfl) rfl dX10_odds_46 ?_
          refine x_aload_n (pc := 49) C 0 dX10_odds_49 rfl rfl ?_
          refine x_iload_n (pc := 50) C 3 dX10_odds_50 rfl rfl ?_
          obtain ⟨z_8, hz_8, h⟩ := kB h
          refine x_callV (pc := 51) C 0 [.int x3] rfl rfl (mX10_whole G a z_7.2 x3 hz_8) yvX10_whole q30_16 ⟨Nat.le_of_ble_eq_true rfl, Nat.le_of_ble_eq_true rfl, rfl, rfl⟩ ⟨Nat.zero_le _, Nat.zero_le _⟩ rfl rfl (Nat.le_of_ble_eq_true rfl) rfl dX10_odds_51 ?_
          refine x_iload (pc := 54) C 4 dX10_odds_54 rfl ?_
          obtain ⟨z_9, hz_9, h⟩ := kB h
          refine x_callS (pc := 56) C [.int z_7.1, .int z_8, .int x4] (mX10_lowest G z_7.1 z_8 x4 hz_9) ysX10_lowest q30_20 ⟨Nat.le_of_ble_eq_true rfl, Nat.le_of_ble_eq_true rfl, rfl, rfl⟩ ⟨Nat.zero_le _, Nat.zero_le _⟩ rfl rfl (Nat.le_of_ble_eq_true rfl) rfl dX10_odds_56 ?_
          obtain rfl := Option.some.inj h
          exact x_iret (pc := 59) C Zd dX10_odds_59
        · have h := kIp c_6 h
          refine x_bipush (pc := 39) C (-102) dX10_odds_39 (by decide) ?_
          obtain rfl := Option.some.inj h
          exact x_iret (pc := 41) C Zd dX10_odds_41
    · have h := kIp c_4 h
      refine x_bipush (pc := 16) C (-101) dX10_odds_16 (by decide) ?_
      obtain rfl := Option.some.inj h
      exact x_iret (pc := 18) C Zd dX10_odds_18
set_option maxRecDepth 100000 in
theorem mX10_odds (G : kG) (a : Nat → Nat) (st : kS) (x1 : Int32) (x2 : Int32) (x3 : Int32) (x4 : Int32) {z : Int32 × kS} (h : fX10_odds st x1 x2 x3 x4 = some z) : kMet G yX10_odds cX10_odds 5 (some .int) rmfX10_odds (0, 0) [.ref (a 0), .int x1, .int x2, .int x3, .int x4] (wM G a st) (some (.int z.1)) (wM G a z.2) := kMet.mk (by decide +kernel) (Nat.le_of_ble_eq_true rfl) (fun E C Zd => wX10_odds  C Zd  st x1 x2 x3 x4 h)
