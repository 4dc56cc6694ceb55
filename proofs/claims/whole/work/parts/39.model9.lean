theorem yvX10_feudMany : kYV yX10_feudMany RX10 cX10_feudMany 4 (some .int) 0 := ⟨q38_23, q39_0, q1_5, q39_1, by decide +kernel⟩
abbrev rmfX10_feudMany : Room := { frames := 0, cells := 0, slots := 0, locals := 0 }
def fX10_feudMany_L16_B (K : Int32 → Int32 → Option (Int32)) (Gc : Int32 → Int32 → Option (Int32)) (st : kS) (v1 : Int32) (v2 : Int32) (v3 : Int32) : Option (Int32) := if (gI st 0) ≤ v3 then (K v1 v3) else ((ka 36 (gA st 2) ((6 * v2) + v3)).bind (fun x_3 => if x_3 = 0 then (Gc (v1 + 0) (v3 + 1)) else (Gc (v1 + 1) (v3 + 1))))
set_option maxRecDepth 100000 in
set_option maxHeartbeats 4000000 in
theorem wX10_feudMany_L16_B {G : kG} {E : kE} {a : Nat → Nat} {st0 : kS} (C : kOk G E cX10_feudMany RX10 4 rmfX10_feudMany) {z : Int32} (Zd : kEnd G E (0, 0) (some .int) (some (.int z)) (wM G a st0)) {K Gc : Int32 → Int32 → Option (Int32)} (v1 : Int32) (v2 : Int32) (v3 : Int32) (hK : ∀ (u1 : Int32) (u3 : Int32), K u1 u3 = some z → kX G E (0, 0) (wM G a st0) 52 [(0, .ref (a 0)), (1, .int u1), (2, .int v2)] []) (hG : ∀ (u1 : Int32) (u3 : Int32), Gc u1 u3 = some z → kX G E (0, 0) (wM G a st0) 16 [(0, .ref (a 0)), (1, .int u1), (2, .int v2), (3, .int u3)] []) (h : fX10_feudMany_L16_B K Gc st0 v1 v2 v3 = some z) : kX G E (0, 0) (wM G a st0) 16 [(0, .ref (a 0)), (1, .int v1), (2, .int v2), (3, .int v3)] [] := by
  unfold fX10_feudMany_L16_B at h
  refine x_iload_n (pc := 16) C 3 dX10_feudMany_16 rfl rfl ?_
  refine x_aload_n (pc := 17) C 0 dX10_feudMany_17 rfl rfl ?_
  refine x_get (pc := 18) C inlX10 0 rfl rfl 0 (by decide) q15_2 (v := .int (gI st0 0)) rfl dX10_feudMany_18 ?_
  refine x_icmp_ge (pc := 21) C 52 dX10_feudMany_21 (by decide) (fun c_2 => ?_) (fun c_2 => ?_)
  · have h := kIp c_2 h
    refine kX.pick [0, 1, 2] (lv' := [(0, .ref (a 0)), (1, .int v1), (2, .int v2)]) rfl ?_
    exact hK v1 v3 h
  · have h := kIn c_2 h
    refine x_iload_n (pc := 24) C 1 dX10_feudMany_24 rfl rfl ?_
    refine x_aload_n (pc := 25) C 0 dX10_feudMany_25 rfl rfl ?_
    refine x_get (pc := 26) C inlX10 0 rfl rfl 3 (by decide) q5_13 (v := .ref (a 2)) rfl dX10_feudMany_26 ?_
    refine x_bipush (pc := 29) C 6 dX10_feudMany_29 (by decide) ?_
    refine x_iload_n (pc := 31) C 2 dX10_feudMany_31 rfl rfl ?_
    refine x_imul (pc := 32) C dX10_feudMany_32 ?_
    refine x_iload_n (pc := 33) C 3 dX10_feudMany_33 rfl rfl ?_
    refine x_iadd (pc := 34) C dX10_feudMany_34 ?_
    obtain ⟨x_3, hx_3, h⟩ := kB h
    obtain ⟨hi_4, hx_3⟩ := ka_some hx_3
    refine y_zald (pc := 35) C 2 (lwM_A2 G a rfl) hi_4 hx_3 dX10_feudMany_35 ?_
    refine x_if_eq (pc := 36) C 43 dX10_feudMany_36 (by decide) (fun c_5 => ?_) (fun c_5 => ?_)
    · have h := kIp c_5 h
      refine x_iconst (pc := 43) C 0 dX10_feudMany_43 (by decide) ?_
      refine x_iadd (pc := 44) C dX10_feudMany_44 ?_
      refine x_istore_n (pc := 45) C (lv' := [(1, .int (v1 + 0)), (0, .ref (a 0)), (2, .int v2), (3, .int v3)]) dX10_feudMany_45 rfl (by decide) rfl ?_
      refine x_iinc (pc := 46) C 3 (v := v3 + 1) (lv' := [(3, .int (v3 + 1)), (1, .int (v1 + 0)), (0, .ref (a 0)), (2, .int v2)]) dX10_feudMany_46 rfl rfl (by decide) rfl ?_
      refine x_goto (pc := 49) C 16 dX10_feudMany_49 (by decide) ?_
      refine kX.pick [2, 1, 3, 0] (lv' := [(0, .ref (a 0)), (1, .int (v1 + 0)), (2, .int v2), (3, .int (v3 + 1))]) rfl ?_
      exact hG (v1 + 0) (v3 + 1) h
    · have h := kIn c_5 h
      refine x_iconst (pc := 39) C 1 dX10_feudMany_39 (by decide) ?_
      refine x_goto (pc := 40) C 44 dX10_feudMany_40 (by decide) ?_
      refine x_iadd (pc := 44) C dX10_feudMany_44 ?_
      refine x_istore_n (pc := 45) C (lv' := [(1, .int (v1 + 1)), (0, .ref (a 0)), (2, .int v2), (3, .int v3)]) dX10_feudMany_45 rfl (by decide) rfl ?_
      refine x_iinc (pc := 46) C 3 (v := v3 + 1) (lv' := [(3, .int (v3 + 1)), (1, .int (v1 + 1)), (0, .ref (a 0)), (2, .int v2)]) dX10_feudMany_46 rfl rfl (by decide) rfl ?_
      refine x_goto (pc := 49) C 16 dX10_feudMany_49 (by decide) ?_
      refine kX.pick [2, 1, 3, 0] (lv' := [(0, .ref (a 0)), (1, .int (v1 + 1)), (2, .int v2), (3, .int (v3 + 1))]) rfl ?_
      exact hG (v1 + 1) (v3 + 1) h
def fX10_feudMany_L16 (K : Int32 → Int32 → Option (Int32)) (st : kS) (v2 : Int32) : Nat → Int32 → Int32 → Option (Int32)
  | 0, _, _ => none
  | F + 1, v1, v3 => fX10_feudMany_L16_B K (fX10_feudMany_L16 K st v2 F) st v1 v2 v3
set_option maxRecDepth 100000 in
set_option maxHeartbeats 4000000 in
theorem wX10_feudMany_L16 {G : kG} {E : kE} {a : Nat → Nat} {st0 : kS} (C : kOk G E cX10_feudMany RX10 4 rmfX10_feudMany) {z : Int32} (Zd : kEnd G E (0, 0) (some .int) (some (.int z)) (wM G a st0)) {K : Int32 → Int32 → Option (Int32)} (v2 : Int32) (hK : ∀ (u1 : Int32) (u3 : Int32), K u1 u3 = some z → kX G E (0, 0) (wM G a st0) 52 [(0, .ref (a 0)), (1, .int u1), (2, .int v2)] []) : ∀ (F : Nat) (v1 : Int32) (v3 : Int32), fX10_feudMany_L16 K st0 v2 F v1 v3 = some z → kX G E (0, 0) (wM G a st0) 16 [(0, .ref (a 0)), (1, .int v1), (2, .int v2), (3, .int v3)] [] := by
  intro F
  induction F with
  | zero =>
    intro v1 v3 h
    exact absurd (show none = some z from h) (fun q => by cases q)
  | succ F ih =>
    intro v1 v3 h
    exact wX10_feudMany_L16_B  C Zd  v1 v2 v3 hK (fun v1 v3 h => ih v1 v3 h) h
def fX10_feudMany_L4_B (K : Int32 → Int32 → Option (Int32)) (Gc : Int32 → Int32 → Option (Int32)) (st : kS) (v1 : Int32) (v2 : Int32) : Option (Int32) := if (gI st 0) ≤ v2 then (K v1 v2) else (fX10_feudMany_L16 (fun v1_6 v3_7 => Gc v1_6 (v2 + 1)) st v2 kFU v1 (v2 + 1))
set_option maxRecDepth 100000 in
set_option maxHeartbeats 4000000 in
theorem wX10_feudMany_L4_B {G : kG} {E : kE} {a : Nat → Nat} {st0 : kS} (C : kOk G E cX10_feudMany RX10 4 rmfX10_feudMany) {z : Int32} (Zd : kEnd G E (0, 0) (some .int) (some (.int z)) (wM G a st0)) {K Gc : Int32 → Int32 → Option (Int32)} (v1 : Int32) (v2 : Int32) (hK : ∀ (u1 : Int32) (u2 : Int32), K u1 u2 = some z → kX G E (0, 0) (wM G a st0) 58 [(1, .int u1)] []) (hG : ∀ (u1 : Int32) (u2 : Int32), Gc u1 u2 = some z → kX G E (0, 0) (wM G a st0) 4 [(0, .ref (a 0)), (1, .int u1), (2, .int u2)] []) (h : fX10_feudMany_L4_B K Gc st0 v1 v2 = some z) : kX G E (0, 0) (wM G a st0) 4 [(0, .ref (a 0)), (1, .int v1), (2, .int v2)] [] := by
  unfold fX10_feudMany_L4_B at h
  refine x_iload_n (pc := 4) C 2 dX10_feudMany_4 rfl rfl ?_
  refine x_aload_n (pc := 5) C 0 dX10_feudMany_5 rfl rfl ?_
  refine x_get (pc := 6) C inlX10 0 rfl rfl 0 (by decide) q15_2 (v := .int (gI st0 0)) rfl dX10_feudMany_6 ?_
  refine x_icmp_ge (pc := 9) C 58 dX10_feudMany_9 (by decide) (fun c_1 => ?_) (fun c_1 => ?_)
  · have h := kIp c_1 h
    refine kX.pick [1] (lv' := [(1, .int v1)]) rfl ?_
    exact hK v1 v2 h
  · have h := kIn c_1 h
    refine x_iload_n (pc := 12) C 2 dX10_feudMany_12 rfl rfl ?_
    refine x_iconst (pc := 13) C 1 dX10_feudMany_13 (by decide) ?_
    refine x_iadd (pc := 14) C dX10_feudMany_14 ?_
    refine x_istore_n (pc := 15) C (lv' := [(3, .int (v2 + 1)), (0, .ref (a 0)), (1, .int v1), (2, .int v2)]) dX10_feudMany_15 rfl (by decide) rfl ?_
    refine kX.pick [1, 2, 3, 0] (lv' := [(0, .ref (a 0)), (1, .int v1), (2, .int v2), (3, .int (v2 + 1))]) rfl ?_
    refine wX10_feudMany_L16  C Zd  v2 (fun v1_6 v3_7 h => ?_) kFU v1 (v2 + 1) h
    refine x_iinc (pc := 52) C 2 (v := v2 + 1) (lv' := [(2, .int (v2 + 1)), (0, .ref (a 0)), (1, .int v1_6)]) dX10_feudMany_52 rfl rfl (by decide) rfl ?_
    refine x_goto (pc := 55) C 4 dX10_feudMany_55 (by decide) ?_
    refine kX.pick [1, 2, 0] (lv' := [(0, .ref (a 0)), (1, .int v1_6), (2, .int (v2 + 1))]) rfl ?_
    exact hG v1_6 (v2 + 1) h
def fX10_feudMany_L4 (K : Int32 → Int32 → Option (Int32)) (st : kS) : Nat → Int32 → Int32 → Option (Int32)
  | 0, _, _ => none
  | F + 1, v1, v2 => fX10_feudMany_L4_B K (fX10_feudMany_L4 K st F) st v1 v2
set_option maxRecDepth 100000 in
set_option maxHeartbeats 4000000 in
theorem wX10_feudMany_L4 {G : kG} {E : kE} {a : Nat → Nat} {st0 : kS} (C : kOk G E cX10_feudMany RX10 4 rmfX10_feudMany) {z : Int32} (Zd : kEnd G E (0, 0) (some .int) (some (.int z)) (wM G a st0)) {K : Int32 → Int32 → Option (Int32)} (hK : ∀ (u1 : Int32) (u2 : Int32), K u1 u2 = some z → kX G E (0, 0) (wM G a st0) 58 [(1, .int u1)] []) : ∀ (F : Nat) (v1 : Int32) (v2 : Int32), fX10_feudMany_L4 K st0 F v1 v2 = some z → kX G E (0, 0) (wM G a st0) 4 [(0, .ref (a 0)), (1, .int v1), (2, .int v2)] [] := by
  intro F
  induction F with
  | zero =>
    intro v1 v2 h
    exact absurd (show none = some z from h) (fun q => by cases q)
  | succ F ih =>
    intro v1 v2 h
    exact wX10_feudMany_L4_B  C Zd  v1 v2 hK (fun v1 v2 h => ih v1 v2 h) h
def fX10_feudMany (st : kS) : Option (Int32) := fX10_feudMany_L4 (fun v1_8 v2_9 => some v1_8) st kFU 0 0
set_option maxRecDepth 100000 in
set_option maxHeartbeats 4000000 in
theorem wX10_feudMany {G : kG} {E : kE} {a : Nat → Nat} {st0 : kS} (C : kOk G E cX10_feudMany RX10 4 rmfX10_feudMany) {z : Int32} (Zd : kEnd G E (0, 0) (some .int) (some (.int z)) (wM G a st0)) (h : fX10_feudMany st0 = some z) : kX G E (0, 0) (wM G a st0) 0 [(0, .ref (a 0))] [] := by
  unfold fX10_feudMany at h
  refine x_iconst (pc := 0) C 0 dX10_feudMany_0 (by decide) ?_
  refine x_istore_n (pc := 1) C (lv' := [(1, .int 0), (0, .ref (a 0))]) dX10_feudMany_1 rfl (by decide) rfl ?_
  refine x_iconst (pc := 2) C 0 dX10_feudMany_2 (by decide) ?_
  refine x_istore_n (pc := 3) C (lv' := [(2, .int 0), (1, .int 0), (0, .ref (a 0))]) dX10_feudMany_3 rfl (by decide) rfl ?_
  refine kX.pick [2, 1, 0] (lv' := [(0, .ref (a 0)), (1, .int 0), (2, .int 0)]) rfl ?_
  refine wX10_feudMany_L4  C Zd   (fun v1_8 v2_9 h => ?_) kFU 0 0 h
  refine x_iload_n (pc := 58) C 0 dX10_feudMany_58 rfl rfl ?_
  obtain rfl := Option.some.inj h
  exact x_iret (pc := 59) C Zd dX10_feudMany_59
set_option maxRecDepth 100000 in
theorem mX10_feudMany (G : kG) (a : Nat → Nat) (st : kS)  {z : Int32} (h : fX10_feudMany st = some z) : kMet G yX10_feudMany cX10_feudMany 4 (some .int) rmfX10_feudMany (0, 0) [.ref (a 0)] (wM G a st) (some (.int z)) (wM G a st) := kMet.mk (by decide +kernel) (Nat.le_of_ble_eq_true rfl) (fun E C Zd => wX10_feudMany  C Zd   h)
theorem yvX10_howMany : kYV yX10_howMany RX10 cX10_howMany 2 (some .int) 1 := ⟨q38_19, q38_20, q1_5, q38_21, by decide +kernel⟩
abbrev rmfX10_howMany : Room := { frames := 1, cells := 0, slots := 0, locals := 23 }
def fX10_howMany (st : kS) (x1 : Int32) : Option (Int32) := if x1 = 0 then (some (gI st 0)) else (if x1 = 1 then ((fX10_feudMany st).bind (fun z_3 => some z_3)) else (if x1 = 2 then (some (gI st 2)) else (if x1 = 3 then (some ((gJ st 0).toInt32)) else (if x1 = 4 then (some (gI st 4)) else (if x1 = 5 then (some (gI st 1)) else (some (-102)))))))
set_option maxRecDepth 100000 in
set_option maxHeartbeats 4000000 in
theorem wX10_howMany {G : kG} {E : kE} {a : Nat → Nat} {st0 : kS} (C : kOk G E cX10_howMany RX10 2 rmfX10_howMany) {z : Int32} (Zd : kEnd G E (0, 0) (some .int) (some (.int z)) (wM G a st0)) (x1 : Int32) (h : fX10_howMany st0 x1 = some z) : kX G E (0, 0) (wM G a st0) 0 [(0, .ref (a 0)), (1, .int x1)] [] := by
  unfold fX10_howMany at h
  refine x_iload_n (pc := 0) C 1 dX10_howMany_0 rfl rfl ?_
  rcases Decidable.em (x1 = 0) with c_1 | c_1
  · have h := kIp c_1 h
    refine x_tsIn (pc := 1) C 40 dX10_howMany_1 (by rw [c_1]; decide) (by rw [c_1]; decide) (by rw [c_1]; rfl) (by decide) ?_
    refine x_aload_n (pc := 40) C 0 dX10_howMany_40 rfl rfl ?_
    refine x_get (pc := 41) C inlX10 0 rfl rfl 0 (by decide) q15_2 (v := .int (gI st0 0)) rfl dX10_howMany_41 ?_
    obtain rfl := Option.some.inj h
    exact x_iret (pc := 44) C Zd dX10_howMany_44
  have h := kIn c_1 h
  rcases Decidable.em (x1 = 1) with c_2 | c_2
  · have h := kIp c_2 h
    refine x_tsIn (pc := 1) C 45 dX10_howMany_1 (by rw [c_2]; decide) (by rw [c_2]; decide) (by rw [c_2]; rfl) (by decide) ?_
    refine x_aload_n (pc := 45) C 0 dX10_howMany_45 rfl rfl ?_
    obtain ⟨z_3, hz_3, h⟩ := kB h
    refine x_callV (pc := 46) C 0 [] rfl rfl (mX10_feudMany G a st0 hz_3) yvX10_feudMany q38_22 ⟨Nat.le_of_ble_eq_true rfl, Nat.le_of_ble_eq_true rfl, rfl, rfl⟩ ⟨Nat.zero_le _, Nat.zero_le _⟩ rfl rfl (Nat.le_of_ble_eq_true rfl) rfl dX10_howMany_46 ?_
    obtain rfl := Option.some.inj h
    exact x_iret (pc := 49) C Zd dX10_howMany_49
  have h := kIn c_2 h
  rcases Decidable.em (x1 = 2) with c_4 | c_4
  · have h := kIp c_4 h
    refine x_tsIn (pc := 1) C 50 dX10_howMany_1 (by rw [c_4]; decide) (by rw [c_4]; decide) (by rw [c_4]; rfl) (by decide) ?_
    refine x_aload_n (pc := 50) C 0 dX10_howMany_50 rfl rfl ?_
    refine x_get (pc := 51) C inlX10 0 rfl rfl 6 (by decide) q15_3 (v := .int (gI st0 2)) rfl dX10_howMany_51 ?_
    obtain rfl := Option.some.inj h
    exact x_iret (pc := 54) C Zd dX10_howMany_54
  have h := kIn c_4 h
  rcases Decidable.em (x1 = 3) with c_5 | c_5
  · have h := kIp c_5 h
    refine x_tsIn (pc := 1) C 55 dX10_howMany_1 (by rw [c_5]; decide) (by rw [c_5]; decide) (by rw [c_5]; rfl) (by decide) ?_
    refine x_aload_n (pc := 55) C 0 dX10_howMany_55 rfl rfl ?_
    refine x_get (pc := 56) C inlX10 0 rfl rfl 9 (by decide) q5_17 (v := .long (gJ st0 0)) rfl dX10_howMany_56 ?_
    refine x_l2i (pc := 59) C dX10_howMany_59 ?_
    obtain rfl := Option.some.inj h
    exact x_iret (pc := 60) C Zd dX10_howMany_60
  have h := kIn c_5 h
  rcases Decidable.em (x1 = 4) with c_6 | c_6
  · have h := kIp c_6 h
    refine x_tsIn (pc := 1) C 61 dX10_howMany_1 (by rw [c_6]; decide) (by rw [c_6]; decide) (by rw [c_6]; rfl) (by decide) ?_
    refine x_aload_n (pc := 61) C 0 dX10_howMany_61 rfl rfl ?_
    refine x_get (pc := 62) C inlX10 0 rfl rfl 10 (by decide) q7_14 (v := .int (gI st0 4)) rfl dX10_howMany_62 ?_
    obtain rfl := Option.some.inj h
    exact x_iret (pc := 65) C Zd dX10_howMany_65
  have h := kIn c_6 h
  rcases Decidable.em (x1 = 5) with c_7 | c_7
  · have h := kIp c_7 h
    refine x_tsIn (pc := 1) C 66 dX10_howMany_1 (by rw [c_7]; decide) (by rw [c_7]; decide) (by rw [c_7]; rfl) (by decide) ?_
    refine x_aload_n (pc := 66) C 0 dX10_howMany_66 rfl rfl ?_
    refine x_get (pc := 67) C inlX10 0 rfl rfl 1 (by decide) q15_5 (v := .int (gI st0 1)) rfl dX10_howMany_67 ?_
    obtain rfl := Option.some.inj h
    exact x_iret (pc := 70) C Zd dX10_howMany_70
  have h := kIn c_7 h
  refine x_tsOut (pc := 1) C 71 dX10_howMany_1 (k_out (fun i hi1 hi2 => by
      have hq : i = 0 ∨ i = 1 ∨ i = 2 ∨ i = 3 ∨ i = 4 ∨ i = 5 := by omega
      rcases hq with rfl | rfl | rfl | rfl | rfl | rfl
      · exact lv_neT c_1 rfl
      · exact lv_neT c_2 rfl
      · exact lv_neT c_4 rfl
      · exact lv_neT c_5 rfl
      · exact lv_neT c_6 rfl
      · exact lv_neT c_7 rfl)) (by decide) ?_
  refine x_bipush (pc := 71) C (-102) dX10_howMany_71 (by decide) ?_
  obtain rfl := Option.some.inj h
  exact x_iret (pc := 73) C Zd dX10_howMany_73
set_option maxRecDepth 100000 in
theorem mX10_howMany (G : kG) (a : Nat → Nat) (st : kS) (x1 : Int32) {z : Int32} (h : fX10_howMany st x1 = some z) : kMet G yX10_howMany cX10_howMany 2 (some .int) rmfX10_howMany (0, 0) [.ref (a 0), .int x1] (wM G a st) (some (.int z)) (wM G a st) := kMet.mk (by decide +kernel) (Nat.le_of_ble_eq_true rfl) (fun E C Zd => wX10_howMany  C Zd  x1 h)
theorem yvX10_count : kYV yX10_count RX10 cX10_count 2 (some .int) 1 := ⟨q38_15, q38_16, q1_5, q38_17, by decide +kernel⟩
abbrev rmfX10_count : Room := { frames := 2, cells := 0, slots := 0, locals := 44 }
def fX10_count (st : kS) (x1 : Int32) : Option (Int32) := (fX10_howMany st x1).bind (fun z_1 => some z_1)
set_option maxRecDepth 100000 in
set_option maxHeartbeats 4000000 in
theorem wX10_count {G : kG} {E : kE} {a : Nat → Nat} {st0 : kS} (C : kOk G E cX10_count RX10 2 rmfX10_count) {z : Int32} (Zd : kEnd G E (0, 0) (some .int) (some (.int z)) (wM G a st0)) (x1 : Int32) (h : fX10_count st0 x1 = some z) : kX G E (0, 0) (wM G a st0) 0 [(0, .ref (a 0)), (1, .int x1)] [] := by
  unfold fX10_count at h
  refine x_aload_n (pc := 0) C 0 dX10_count_0 rfl rfl ?_
  refine x_iload_n (pc := 1) C 1 dX10_count_1 rfl rfl ?_
  obtain ⟨z_1, hz_1, h⟩ := kB h
  refine x_callV (pc := 2) C 0 [.int x1] rfl rfl (mX10_howMany G a st0 x1 hz_1) yvX10_howMany q38_18 ⟨Nat.le_of_ble_eq_true rfl, Nat.le_of_ble_eq_true rfl, rfl, rfl⟩ ⟨Nat.zero_le _, Nat.zero_le _⟩ rfl rfl (Nat.le_of_ble_eq_true rfl) rfl dX10_count_2 ?_
  obtain rfl := Option.some.inj h
  exact x_iret (pc := 5) C Zd dX10_count_5
set_option maxRecDepth 100000 in
theorem mX10_count (G : kG) (a : Nat → Nat) (st : kS) (x1 : Int32) {z : Int32} (h : fX10_count st x1 = some z) : kMet G yX10_count cX10_count 2 (some .int) rmfX10_count (0, 0) [.ref (a 0), .int x1] (wM G a st) (some (.int z)) (wM G a st) := kMet.mk (by decide +kernel) (Nat.le_of_ble_eq_true rfl) (fun E C Zd => wX10_count  C Zd  x1 h)
theorem yvX10_mix : kYV yX10_mix RX10 cX10_mix 3 none 1 := ⟨q40_10, q40_11, q1_5, q40_12, by decide +kernel⟩
abbrev rmfX10_mix : Room := { frames := 0, cells := 0, slots := 0, locals := 0 }
def fX10_mix (st : kS) (x1 : Int64) : kS := (sJ st 2 ((31 * (gJ st 2)) + x1))
set_option maxRecDepth 100000 in
set_option maxHeartbeats 4000000 in
theorem wX10_mix {G : kG} {E : kE} {a : Nat → Nat} (C : kOk G E cX10_mix RX10 3 rmfX10_mix) {z : kS} (Zd : kEnd G E (0, 0) none none (wM G a z)) (st : kS) (x1 : Int64) (h : fX10_mix st x1 = z) : kX G E (0, 0) (wM G a st) 0 [(0, .ref (a 0)), (1, .long x1)] [] := by
  unfold fX10_mix at h
  refine x_aload_n (pc := 0) C 0 dX10_mix_0 rfl rfl ?_
  refine x_ldc2 (pc := 1) C q40_13 dX10_mix_1 ?_
  refine x_aload_n (pc := 4) C 0 dX10_mix_4 rfl rfl ?_
  refine x_get (pc := 5) C inlX10 0 rfl rfl 42 (by decide) q40_4 (v := .long (gJ st 2)) rfl dX10_mix_5 ?_
  refine x_lmul (pc := 8) C dX10_mix_8 ?_
  refine x_lload_n (pc := 9) C 1 dX10_mix_9 rfl rfl ?_
  refine x_ladd (pc := 10) C dX10_mix_10 ?_
  refine x_put (pc := 11) C inlX10 tyX10 tyX10_ok nmX10 0 rfl rfl 42 (by decide) q40_4 rfl .long (v := .long ((31 * (gJ st 2)) + x1)) (by decide +kernel) rfl rfl (Nat.le_of_ble_eq_true rfl) (swM_J2 G a _ _) dX10_mix_11 ?_
  subst h
  exact x_vret (pc := 14) C Zd dX10_mix_14
set_option maxRecDepth 100000 in
theorem mX10_mix (G : kG) (a : Nat → Nat) (st : kS) (x1 : Int64) : kMet G yX10_mix cX10_mix 3 none rmfX10_mix (0, 0) [.ref (a 0), .long x1] (wM G a st) none (wM G a (fX10_mix st x1)) := kMet.mk (by decide +kernel) (Nat.le_of_ble_eq_true rfl) (fun E C Zd => wX10_mix  C Zd  st x1 rfl)
theorem yvX10_mixHouse : kYV yX10_mixHouse RX10 cX10_mixHouse 3 none 1 := ⟨q40_6, q40_7, q1_5, q40_8, by decide +kernel⟩
abbrev rmfX10_mixHouse : Room := { frames := 2, cells := 0, slots := 0, locals := 45 }
def fX10_mixHouse_L2_B (K : Int32 → kS → Option (kS)) (Gc : Int32 → kS → Option (kS)) (st : kS) (v1 : Int32) (v2 : Int32) : Option (kS) := if 4 ≤ v2 then (K v2 st) else ((fX10_houseNow st v1 v2).bind (fun z_2 => Gc (v2 + 1) (fX10_mix st z_2.toInt64)))
set_option maxRecDepth 100000 in
set_option maxHeartbeats 4000000 in
theorem wX10_mixHouse_L2_B {G : kG} {E : kE} {a : Nat → Nat} (C : kOk G E cX10_mixHouse RX10 3 rmfX10_mixHouse) {z : kS} (Zd : kEnd G E (0, 0) none none (wM G a z)) {K Gc : Int32 → kS → Option (kS)} (st : kS) (v1 : Int32) (v2 : Int32) (hK : ∀ (u2 : Int32) (su : kS), K u2 su = some z → kX G E (0, 0) (wM G a su) 24 [(0, .ref (a 0)), (1, .int v1)] []) (hG : ∀ (u2 : Int32) (su : kS), Gc u2 su = some z → kX G E (0, 0) (wM G a su) 2 [(0, .ref (a 0)), (1, .int v1), (2, .int u2)] []) (h : fX10_mixHouse_L2_B K Gc st v1 v2 = some z) : kX G E (0, 0) (wM G a st) 2 [(0, .ref (a 0)), (1, .int v1), (2, .int v2)] [] := by
  unfold fX10_mixHouse_L2_B at h
  refine x_iload_n (pc := 2) C 2 dX10_mixHouse_2 rfl rfl ?_
  refine x_iconst (pc := 3) C 4 dX10_mixHouse_3 (by decide) ?_
  refine x_icmp_ge (pc := 4) C 24 dX10_mixHouse_4 (by decide) (fun c_1 => ?_) (fun c_1 => ?_)
  · have h := kIp c_1 h
    refine kX.pick [0, 1] (lv' := [(0, .ref (a 0)), (1, .int v1)]) rfl ?_
    exact hK v2 st h
  · have h := kIn c_1 h
    refine x_aload_n (pc := 7) C 0 dX10_mixHouse_7 rfl rfl ?_
    refine x_aload_n (pc := 8) C 0 dX10_mixHouse_8 rfl rfl ?_
    refine x_iload_n (pc := 9) C 1 dX10_mixHouse_9 rfl rfl ?_
    refine x_iload_n (pc := 10) C 2 dX10_mixHouse_10 rfl rfl ?_
    obtain ⟨z_2, hz_2, h⟩ := kB h
    refine x_callV (pc := 11) C 0 [.int v1, .int v2] rfl rfl (mX10_houseNow G a st v1 v2 hz_2) yvX10_houseNow q21_3 ⟨Nat.le_of_ble_eq_true rfl, Nat.le_of_ble_eq_true rfl, rfl, rfl⟩ ⟨Nat.zero_le _, Nat.zero_le _⟩ rfl rfl (Nat.le_of_ble_eq_true rfl) rfl dX10_mixHouse_11 ?_
    refine x_i2l (pc := 14) C dX10_mixHouse_14 ?_
    refine x_callV (pc := 15) C 0 [.long z_2.toInt64] rfl rfl (mX10_mix G a st z_2.toInt64) yvX10_mix q40_9 ⟨Nat.le_of_ble_eq_true rfl, Nat.le_of_ble_eq_true rfl, rfl, rfl⟩ ⟨Nat.zero_le _, Nat.zero_le _⟩ rfl rfl (Nat.le_of_ble_eq_true rfl) rfl dX10_mixHouse_15 ?_
    refine x_iinc (pc := 18) C 2 (v := v2 + 1) (lv' := [(2, .int (v2 + 1)), (0, .ref (a 0)), (1, .int v1)]) dX10_mixHouse_18 rfl rfl (by decide) rfl ?_
    refine x_goto (pc := 21) C 2 dX10_mixHouse_21 (by decide) ?_
    refine kX.pick [1, 2, 0] (lv' := [(0, .ref (a 0)), (1, .int v1), (2, .int (v2 + 1))]) rfl ?_
    exact hG (v2 + 1) (fX10_mix st z_2.toInt64) h
def fX10_mixHouse_L2 (K : Int32 → kS → Option (kS)) (v1 : Int32) : Nat → Int32 → kS → Option (kS)
  | 0, _, _ => none
  | F + 1, v2, st => fX10_mixHouse_L2_B K (fX10_mixHouse_L2 K v1 F) st v1 v2
set_option maxRecDepth 100000 in
set_option maxHeartbeats 4000000 in
theorem wX10_mixHouse_L2 {G : kG} {E : kE} {a : Nat → Nat} (C : kOk G E cX10_mixHouse RX10 3 rmfX10_mixHouse) {z : kS} (Zd : kEnd G E (0, 0) none none (wM G a z)) {K : Int32 → kS → Option (kS)} (v1 : Int32) (hK : ∀ (u2 : Int32) (su : kS), K u2 su = some z → kX G E (0, 0) (wM G a su) 24 [(0, .ref (a 0)), (1, .int v1)] []) : ∀ (F : Nat) (v2 : Int32) (st : kS), fX10_mixHouse_L2 K v1 F v2 st = some z → kX G E (0, 0) (wM G a st) 2 [(0, .ref (a 0)), (1, .int v1), (2, .int v2)] [] := by
  intro F
  induction F with
  | zero =>
    intro v2 st h
    exact absurd (show none = some z from h) (fun q => by cases q)
  | succ F ih =>
    intro v2 st h
    exact wX10_mixHouse_L2_B  C Zd  st v1 v2 hK (fun v2 st h => ih v2 st h) h
def fX10_mixHouse_J54 (K : Int32 → kS → Option (kS)) (Gc : Int32 → kS → Option (kS)) (st : kS) (v1 : Int32) (v2 : Int32) (s0 : Int64) : Option (kS) := Gc (v2 + 1) (fX10_mix st s0)
set_option maxRecDepth 100000 in
set_option maxHeartbeats 4000000 in
theorem wX10_mixHouse_J54 {G : kG} {E : kE} {a : Nat → Nat} (C : kOk G E cX10_mixHouse RX10 3 rmfX10_mixHouse) {z : kS} (Zd : kEnd G E (0, 0) none none (wM G a z)) {K Gc : Int32 → kS → Option (kS)} (st : kS) (v1 : Int32) (v2 : Int32) (s0 : Int64) (hK : ∀ (u2 : Int32) (su : kS), K u2 su = some z → kX G E (0, 0) (wM G a su) 63 [(0, .ref (a 0)), (1, .int v1)] []) (hG : ∀ (u2 : Int32) (su : kS), Gc u2 su = some z → kX G E (0, 0) (wM G a su) 26 [(0, .ref (a 0)), (1, .int v1), (2, .int u2)] []) (h : fX10_mixHouse_J54 K Gc st v1 v2 s0 = some z) : kX G E (0, 0) (wM G a st) 54 [(0, .ref (a 0)), (1, .int v1), (2, .int v2)] [.long s0, .ref (a 0)] := by
  unfold fX10_mixHouse_J54 at h
  refine x_callV (pc := 54) C 0 [.long s0] rfl rfl (mX10_mix G a st s0) yvX10_mix q40_9 ⟨Nat.le_of_ble_eq_true rfl, Nat.le_of_ble_eq_true rfl, rfl, rfl⟩ ⟨Nat.zero_le _, Nat.zero_le _⟩ rfl rfl (Nat.le_of_ble_eq_true rfl) rfl dX10_mixHouse_54 ?_
  refine x_iinc (pc := 57) C 2 (v := v2 + 1) (lv' := [(2, .int (v2 + 1)), (0, .ref (a 0)), (1, .int v1)]) dX10_mixHouse_57 rfl rfl (by decide) rfl ?_
  refine x_goto (pc := 60) C 26 dX10_mixHouse_60 (by decide) ?_
  refine kX.pick [1, 2, 0] (lv' := [(0, .ref (a 0)), (1, .int v1), (2, .int (v2 + 1))]) rfl ?_
  exact hG (v2 + 1) (fX10_mix st s0) h
def fX10_mixHouse_L26_B (K : Int32 → kS → Option (kS)) (Gc : Int32 → kS → Option (kS)) (st : kS) (v1 : Int32) (v2 : Int32) : Option (kS) := if (gI st 0) ≤ v2 then (K v2 st) else ((ka 36 (gA st 2) ((6 * v1) + v2)).bind (fun x_6 => if x_6 = 0 then (fX10_mixHouse_J54 K Gc st v1 v2 0) else (fX10_mixHouse_J54 K Gc st v1 v2 1)))
set_option maxRecDepth 100000 in
set_option maxHeartbeats 4000000 in
theorem wX10_mixHouse_L26_B {G : kG} {E : kE} {a : Nat → Nat} (C : kOk G E cX10_mixHouse RX10 3 rmfX10_mixHouse) {z : kS} (Zd : kEnd G E (0, 0) none none (wM G a z)) {K Gc : Int32 → kS → Option (kS)} (st : kS) (v1 : Int32) (v2 : Int32) (hK : ∀ (u2 : Int32) (su : kS), K u2 su = some z → kX G E (0, 0) (wM G a su) 63 [(0, .ref (a 0)), (1, .int v1)] []) (hG : ∀ (u2 : Int32) (su : kS), Gc u2 su = some z → kX G E (0, 0) (wM G a su) 26 [(0, .ref (a 0)), (1, .int v1), (2, .int u2)] []) (h : fX10_mixHouse_L26_B K Gc st v1 v2 = some z) : kX G E (0, 0) (wM G a st) 26 [(0, .ref (a 0)), (1, .int v1), (2, .int v2)] [] := by
  unfold fX10_mixHouse_L26_B at h
  refine x_iload_n (pc := 26) C 2 dX10_mixHouse_26 rfl rfl ?_
  refine x_aload_n (pc := 27) C 0 dX10_mixHouse_27 rfl rfl ?_
  refine x_get (pc := 28) C inlX10 0 rfl rfl 0 (by decide) q15_2 (v := .int (gI st 0)) rfl dX10_mixHouse_28 ?_
  refine x_icmp_ge (pc := 31) C 63 dX10_mixHouse_31 (by decide) (fun c_5 => ?_) (fun c_5 => ?_)
  · have h := kIp c_5 h
    refine kX.pick [0, 1] (lv' := [(0, .ref (a 0)), (1, .int v1)]) rfl ?_
    exact hK v2 st h
  · have h := kIn c_5 h
    refine x_aload_n (pc := 34) C 0 dX10_mixHouse_34 rfl rfl ?_
    refine x_aload_n (pc := 35) C 0 dX10_mixHouse_35 rfl rfl ?_
    refine x_get (pc := 36) C inlX10 0 rfl rfl 3 (by decide) q5_13 (v := .ref (a 2)) rfl dX10_mixHouse_36 ?_
    refine x_bipush (pc := 39) C 6 dX10_mixHouse_39 (by decide) ?_
    refine x_iload_n (pc := 41) C 1 dX10_mixHouse_41 rfl rfl ?_
    refine x_imul (pc := 42) C dX10_mixHouse_42 ?_
    refine x_iload_n (pc := 43) C 2 dX10_mixHouse_43 rfl rfl ?_
    refine x_iadd (pc := 44) C dX10_mixHouse_44 ?_
    obtain ⟨x_6, hx_6, h⟩ := kB h
    obtain ⟨hi_7, hx_6⟩ := ka_some hx_6
    refine y_zald (pc := 45) C 2 (lwM_A2 G a rfl) hi_7 hx_6 dX10_mixHouse_45 ?_
    refine x_if_eq (pc := 46) C 53 dX10_mixHouse_46 (by decide) (fun c_8 => ?_) (fun c_8 => ?_)
    · have h := kIp c_8 h
      refine x_lconst (pc := 53) C 0 dX10_mixHouse_53 (by decide) ?_
      exact wX10_mixHouse_J54  C Zd  st v1 v2 0 hK hG h
    · have h := kIn c_8 h
      refine x_lconst (pc := 49) C 1 dX10_mixHouse_49 (by decide) ?_
      refine x_goto (pc := 50) C 54 dX10_mixHouse_50 (by decide) ?_
      exact wX10_mixHouse_J54  C Zd  st v1 v2 1 hK hG h
def fX10_mixHouse_L26 (K : Int32 → kS → Option (kS)) (v1 : Int32) : Nat → Int32 → kS → Option (kS)
  | 0, _, _ => none
  | F + 1, v2, st => fX10_mixHouse_L26_B K (fX10_mixHouse_L26 K v1 F) st v1 v2
set_option maxRecDepth 100000 in
set_option maxHeartbeats 4000000 in
theorem wX10_mixHouse_L26 {G : kG} {E : kE} {a : Nat → Nat} (C : kOk G E cX10_mixHouse RX10 3 rmfX10_mixHouse) {z : kS} (Zd : kEnd G E (0, 0) none none (wM G a z)) {K : Int32 → kS → Option (kS)} (v1 : Int32) (hK : ∀ (u2 : Int32) (su : kS), K u2 su = some z → kX G E (0, 0) (wM G a su) 63 [(0, .ref (a 0)), (1, .int v1)] []) : ∀ (F : Nat) (v2 : Int32) (st : kS), fX10_mixHouse_L26 K v1 F v2 st = some z → kX G E (0, 0) (wM G a st) 26 [(0, .ref (a 0)), (1, .int v1), (2, .int v2)] [] := by
  intro F
  induction F with
  | zero =>
    intro v2 st h
    exact absurd (show none = some z from h) (fun q => by cases q)
  | succ F ih =>
    intro v2 st h
    exact wX10_mixHouse_L26_B  C Zd  st v1 v2 hK (fun v2 st h => ih v2 st h) h
def fX10_mixHouse (st : kS) (x1 : Int32) : Option (kS) := fX10_mixHouse_L2 (fun v2_3 st_4 => fX10_mixHouse_L26 (fun v2_9 st_10 => (fX10_walkOf st_10 x1).bind (fun z_11 => some (fX10_mix st_10 z_11.toInt64))) x1 kFU 0 st_4) x1 kFU 0 st
set_option maxRecDepth 100000 in
set_option maxHeartbeats 4000000 in
theorem wX10_mixHouse {G : kG} {E : kE} {a : Nat → Nat} (C : kOk G E cX10_mixHouse RX10 3 rmfX10_mixHouse) {z : kS} (Zd : kEnd G E (0, 0) none none (wM G a z)) (st : kS) (x1 : Int32) (h : fX10_mixHouse st x1 = some z) : kX G E (0, 0) (wM G a st) 0 [(0, .ref (a 0)), (1, .int x1)] [] := by
  unfold fX10_mixHouse at h
  refine x_iconst (pc := 0) C 0 dX10_mixHouse_0 (by decide) ?_
  refine x_istore_n (pc := 1) C (lv' := [(2, .int 0), (0, .ref (a 0)), (1, .int x1)]) dX10_mixHouse_1 rfl (by decide) rfl ?_
  refine kX.pick [1, 2, 0] (lv' := [(0, .ref (a 0)), (1, .int x1), (2, .int 0)]) rfl ?_
  refine wX10_mixHouse_L2  C Zd  x1 (fun v2_3 st_4 h => ?_) kFU 0 st h
  refine x_iconst (pc := 24) C 0 dX10_mixHouse_24 (by decide) ?_
  refine x_istore_n (pc := 25) C (lv' := [(2, .int 0), (0, .ref (a 0)), (1, .int x1)]) dX10_mixHouse_25 rfl (by decide) rfl ?_
  refine kX.pick [1, 2, 0] (lv' := [(0, .ref (a 0)), (1, .int x1), (2, .int 0)]) rfl ?_
  refine wX10_mixHouse_L26  C Zd  x1 (fun v2_9 st_10 h => ?_) kFU 0 st_4 h
  refine x_aload_n (pc := 63) C 0 dX10_mixHouse_63 rfl rfl ?_
  refine x_aload_n (pc := 64) C 0 dX10_mixHouse_64 rfl rfl ?_
  refine x_iload_n (pc := 65) C 1 dX10_mixHouse_65 rfl rfl ?_
  obtain ⟨z_11, hz_11, h⟩ := kB h
  refine x_callV (pc := 66) C 0 [.int x1] rfl rfl (mX10_walkOf G a st_10 x1 hz_11) yvX10_walkOf q24_9 ⟨Nat.le_of_ble_eq_true rfl, Nat.le_of_ble_eq_true rfl, rfl, rfl⟩ ⟨Nat.zero_le _, Nat.zero_le _⟩ rfl rfl (Nat.le_of_ble_eq_true rfl) rfl dX10_mixHouse_66 ?_
  refine x_i2l (pc := 69) C dX10_mixHouse_69 ?_
  refine x_callV (pc := 70) C 0 [.long z_11.toInt64] rfl rfl (mX10_mix G a st_10 z_11.toInt64) yvX10_mix q40_9 ⟨Nat.le_of_ble_eq_true rfl, Nat.le_of_ble_eq_true rfl, rfl, rfl⟩ ⟨Nat.zero_le _, Nat.zero_le _⟩ rfl rfl (Nat.le_of_ble_eq_true rfl) rfl dX10_mixHouse_70 ?_
  obtain rfl := Option.some.inj h
  exact x_vret (pc := 73) C Zd dX10_mixHouse_73
set_option maxRecDepth 100000 in
theorem mX10_mixHouse (G : kG) (a : Nat → Nat) (st : kS) (x1 : Int32) {z : kS} (h : fX10_mixHouse st x1 = some z) : kMet G yX10_mixHouse cX10_mixHouse 3 none rmfX10_mixHouse (0, 0) [.ref (a 0), .int x1] (wM G a st) none (wM G a z) := kMet.mk (by decide +kernel) (Nat.le_of_ble_eq_true rfl) (fun E C Zd => wX10_mixHouse  C Zd  st x1 h)
theorem yvX10_digest : kYV yX10_digest RX10 cX10_digest 2 (some .long) 0 := ⟨q40_0, q40_1, q1_5, q40_2, by decide +kernel⟩
abbrev rmfX10_digest : Room := { frames := 5, cells := 0, slots := 0, locals := 119 }
def fX10_digest_L9_B (K : Int32 → kS → Option (Int64 × kS)) (Gc : Int32 → kS → Option (Int64 × kS)) (st : kS) (v1 : Int32) : Option (Int64 × kS) := if (gI st 0) ≤ v1 then (K v1 st) else ((fX10_mixHouse st v1).bind (fun z_2 => Gc (v1 + 1) z_2))
set_option maxRecDepth 100000 in
set_option maxHeartbeats 4000000 in
theorem wX10_digest_L9_B {G : kG} {E : kE} {a : Nat → Nat} (C : kOk G E cX10_digest RX10 2 rmfX10_digest) {z : Int64 × kS} (Zd : kEnd G E (0, 0) (some .long) (some (.long z.1)) (wM G a z.2)) {K Gc : Int32 → kS → Option (Int64 × kS)} (st : kS) (v1 : Int32) (hK : ∀ (u1 : Int32) (su : kS), K u1 su = some z → kX G E (0, 0) (wM G a su) 28 [(0, .ref (a 0))] []) (hG : ∀ (u1 : Int32) (su : kS), Gc u1 su = some z → kX G E (0, 0) (wM G a su) 9 [(0, .ref (a 0)), (1, .int u1)] []) (h : fX10_digest_L9_B K Gc st v1 = some z) : kX G E (0, 0) (wM G a st) 9 [(0, .ref (a 0)), (1, .int v1)] [] := by
  unfold fX10_digest_L9_B at h
  refine x_iload_n (pc := 9) C 1 dX10_digest_9 rfl rfl ?_
  refine x_aload_n (pc := 10) C 0 dX10_digest_10 rfl rfl ?_
  refine x_get (pc := 11) C inlX10 0 rfl rfl 0 (by decide) q15_2 (v := .int (gI st 0)) rfl dX10_digest_11 ?_
  refine x_icmp_ge (pc := 14) C 28 dX10_digest_14 (by decide) (fun c_1 => ?_) (fun c_1 => ?_)
  · have h := kIp c_1 h
    refine kX.pick [0] (lv' := [(0, .ref (a 0))]) rfl ?_
    exact hK v1 st h
  · have h := kIn c_1 h
    refine x_aload_n (pc := 17) C 0 dX10_digest_17 rfl rfl ?_
    refine x_iload_n (pc := 18) C 1 dX10_digest_18 rfl rfl ?_
    obtain ⟨z_2, hz_2, h⟩ := kB h
    refine x_callV (pc := 19) C 0 [.int v1] rfl rfl (mX10_mixHouse G a st v1 hz_2) yvX10_mixHouse q40_5 ⟨Nat.le_of_ble_eq_true rfl, Nat.le_of_ble_eq_true rfl, rfl, rfl⟩ ⟨Nat.zero_le _, Nat.zero_le _⟩ rfl rfl (Nat.le_of_ble_eq_true rfl) rfl dX10_digest_19 ?_
    refine x_iinc (pc := 22) C 1 (v := v1 + 1) (lv' := [(1, .int (v1 + 1)), (0, .ref (a 0))]) dX10_digest_22 rfl rfl (by decide) rfl ?_
    refine x_goto (pc := 25) C 9 dX10_digest_25 (by decide) ?_
    refine kX.pick [1, 0] (lv' := [(0, .ref (a 0)), (1, .int (v1 + 1))]) rfl ?_
    exact hG (v1 + 1) z_2 h
def fX10_digest_L9 (K : Int32 → kS → Option (Int64 × kS)) : Nat → Int32 → kS → Option (Int64 × kS)
  | 0, _, _ => none
  | F + 1, v1, st => fX10_digest_L9_B K (fX10_digest_L9 K F) st v1
set_option maxRecDepth 100000 in
set_option maxHeartbeats 4000000 in
theorem wX10_digest_L9 {G : kG} {E : kE} {a : Nat → Nat} (C : kOk G E cX10_digest RX10 2 rmfX10_digest) {z : Int64 × kS} (Zd : kEnd G E (0, 0) (some .long) (some (.long z.1)) (wM G a z.2)) {K : Int32 → kS → Option (Int64 × kS)} (hK : ∀ (u1 : Int32) (su : kS), K u1 su = some z → kX G E (0, 0) (wM G a su) 28 [(0, .ref (a 0))] []) : ∀ (F : Nat) (v1 : Int32) (st : kS), fX10_digest_L9 K F v1 st = some z → kX G E (0, 0) (wM G a st) 9 [(0, .ref (a 0)), (1, .int v1)] [] := by
  intro F
  induction F with
  | zero =>
    intro v1 st h
    exact absurd (show none = some z from h) (fun q => by cases q)
  | succ F ih =>
    intro v1 st h
    exact wX10_digest_L9_B  C Zd  st v1 hK (fun v1 st h => ih v1 st h) h
def fX10_digest_L126_B (K : Int32 → kS → Option (Int64 × kS)) (Gc : Int32 → kS → Option (Int64 × kS)) (st : kS) (v1 : Int32) : Option (Int64 × kS) := if (gI st 4) ≤ v1 then (K v1 st) else ((ka 26 (gA st 6) v1).bind (fun x_8 => Gc (v1 + 1) (fX10_mix st x_8.toInt64)))
set_option maxRecDepth 100000 in
set_option maxHeartbeats 4000000 in
theorem wX10_digest_L126_B {G : kG} {E : kE} {a : Nat → Nat} (C : kOk G E cX10_digest RX10 2 rmfX10_digest) {z : Int64 × kS} (Zd : kEnd G E (0, 0) (some .long) (some (.long z.1)) (wM G a z.2)) {K Gc : Int32 → kS → Option (Int64 × kS)} (st : kS) (v1 : Int32) (hK : ∀ (u1 : Int32) (su : kS), K u1 su = some z → kX G E (0, 0) (wM G a su) 151 [(0, .ref (a 0))] []) (hG : ∀ (u1 : Int32) (su : kS), Gc u1 su = some z → kX G E (0, 0) (wM G a su) 126 [(0, .ref (a 0)), (1, .int u1)] []) (h : fX10_digest_L126_B K Gc st v1 = some z) : kX G E (0, 0) (wM G a st) 126 [(0, .ref (a 0)), (1, .int v1)] [] := by
  unfold fX10_digest_L126_B at h
  refine x_iload_n (pc := 126) C 1 dX10_digest_126 rfl rfl ?_
  refine x_aload_n (pc := 127) C 0 dX10_digest_127 rfl rfl ?_
  refine x_get (pc := 128) C inlX10 0 rfl rfl 10 (by decide) q7_14 (v := .int (gI st 4)) rfl dX10_digest_128 ?_
  refine x_icmp_ge (pc := 131) C 151 dX10_digest_131 (by decide) (fun c_7 => ?_) (fun c_7 => ?_)
  · have h := kIp c_7 h
    refine kX.pick [0] (lv' := [(0, .ref (a 0))]) rfl ?_
    exact hK v1 st h
  · have h := kIn c_7 h
    refine x_aload_n (pc := 134) C 0 dX10_digest_134 rfl rfl ?_
    refine x_aload_n (pc := 135) C 0 dX10_digest_135 rfl rfl ?_
    refine x_get (pc := 136) C inlX10 0 rfl rfl 11 (by decide) q5_19 (v := .ref (a 6)) rfl dX10_digest_136 ?_
    refine x_iload_n (pc := 139) C 1 dX10_digest_139 rfl rfl ?_
    obtain ⟨x_8, hx_8, h⟩ := kB h
    obtain ⟨hi_9, hx_8⟩ := ka_some hx_8
    refine y_bald (pc := 140) C 6 (lwM_A6 G a rfl) hi_9 hx_8 dX10_digest_140 ?_
    refine x_i2l (pc := 141) C dX10_digest_141 ?_
    refine x_callV (pc := 142) C 0 [.long x_8.toInt64] rfl rfl (mX10_mix G a st x_8.toInt64) yvX10_mix q40_9 ⟨Nat.le_of_ble_eq_true rfl, Nat.le_of_ble_eq_true rfl, rfl, rfl⟩ ⟨Nat.zero_le _, Nat.zero_le _⟩ rfl rfl (Nat.le_of_ble_eq_true rfl) rfl dX10_digest_142 ?_
    refine x_iinc (pc := 145) C 1 (v := v1 + 1) (lv' := [(1, .int (v1 + 1)), (0, .ref (a 0))]) dX10_digest_145 rfl rfl (by decide) rfl ?_
    refine x_goto (pc := 148) C 126 dX10_digest_148 (by decide) ?_
    refine kX.pick [1, 0] (lv' := [(0, .ref (a 0)), (1, .int (v1 + 1))]) rfl ?_
    exact hG (v1 + 1) (fX10_mix st x_8.toInt64) h
def fX10_digest_L126 (K : Int32 → kS → Option (Int64 × kS)) : Nat → Int32 → kS → Option (Int64 × kS)
  | 0, _, _ => none
  | F + 1, v1, st => fX10_digest_L126_B K (fX10_digest_L126 K F) st v1
set_option maxRecDepth 100000 in
set_option maxHeartbeats 4000000 in
theorem wX10_digest_L126 {G : kG} {E : kE} {a : Nat → Nat} (C : kOk G E cX10_digest RX10 2 rmfX10_digest) {z : Int64 × kS} (Zd : kEnd G E (0, 0) (some .long) (some (.long z.1)) (wM G a z.2)) {K : Int32 → kS → Option (Int64 × kS)} (hK : ∀ (u1 : Int32) (su : kS), K u1 su = some z → kX G E (0, 0) (wM G a su) 151 [(0, .ref (a 0))] []) : ∀ (F : Nat) (v1 : Int32) (st : kS), fX10_digest_L126 K F v1 st = some z → kX G E (0, 0) (wM G a st) 126 [(0, .ref (a 0)), (1, .int v1)] [] := by
  intro F
  induction F with
  | zero =>
    intro v1 st h
    exact absurd (show none = some z from h) (fun q => by cases q)
  | succ F ih =>
    intro v1 st h
    exact wX10_digest_L126_B  C Zd  st v1 hK (fun v1 st h => ih v1 st h) h
def fX10_digest_L153_B (K : Int32 → kS → Option (Int64 × kS)) (Gc : Int32 → kS → Option (Int64 × kS)) (st : kS) (v1 : Int32) : Option (Int64 × kS) := if 6 ≤ v1 then (K v1 st) else ((fX10_howMany st v1).bind (fun z_13 => Gc (v1 + 1) (fX10_mix st z_13.toInt64)))
set_option maxRecDepth 100000 in
set_option maxHeartbeats 4000000 in
theorem wX10_digest_L153_B {G : kG} {E : kE} {a : Nat → Nat} (C : kOk G E cX10_digest RX10 2 rmfX10_digest) {z : Int64 × kS} (Zd : kEnd G E (0, 0) (some .long) (some (.long z.1)) (wM G a z.2)) {K Gc : Int32 → kS → Option (Int64 × kS)} (st : kS) (v1 : Int32) (hK : ∀ (u1 : Int32) (su : kS), K u1 su = some z → kX G E (0, 0) (wM G a su) 175 [(0, .ref (a 0))] []) (hG : ∀ (u1 : Int32) (su : kS), Gc u1 su = some z → kX G E (0, 0) (wM G a su) 153 [(0, .ref (a 0)), (1, .int u1)] []) (h : fX10_digest_L153_B K Gc st v1 = some z) : kX G E (0, 0) (wM G a st) 153 [(0, .ref (a 0)), (1, .int v1)] [] := by
  unfold fX10_digest_L153_B at h
  refine x_iload_n (pc := 153) C 1 dX10_digest_153 rfl rfl ?_
  refine x_bipush (pc := 154) C 6 dX10_digest_154 (by decide) ?_
  refine x_icmp_ge (pc := 156) C 175 dX10_digest_156 (by decide) (fun c_12 => ?_) (fun c_12 => ?_)
  · have h := kIp c_12 h
    refine kX.pick [0] (lv' := [(0, .ref (a 0))]) rfl ?_
    exact hK v1 st h
  · have h := kIn c_12 h
    refine x_aload_n (pc := 159) C 0 dX10_digest_159 rfl rfl ?_
    refine x_aload_n (pc := 160) C 0 dX10_digest_160 rfl rfl ?_
    refine x_iload_n (pc := 161) C 1 dX10_digest_161 rfl rfl ?_
    obtain ⟨z_13, hz_13, h⟩ := kB h
    refine x_callV (pc := 162) C 0 [.int v1] rfl rfl (mX10_howMany G a st v1 hz_13) yvX10_howMany q38_18 ⟨Nat.le_of_ble_eq_true rfl, Nat.le_of_ble_eq_true rfl, rfl, rfl⟩ ⟨Nat.zero_le _, Nat.zero_le _⟩ rfl rfl (Nat.le_of_ble_eq_true rfl) rfl dX10_digest_162 ?_
    refine x_i2l (pc := 165) C dX10_digest_165 ?_
    refine x_callV (pc := 166) C 0 [.long z_13.toInt64] rfl rfl (mX10_mix G a st z_13.toInt64) yvX10_mix q40_9 ⟨Nat.le_of_ble_eq_true rfl, Nat.le_of_ble_eq_true rfl, rfl, rfl⟩ ⟨Nat.zero_le _, Nat.zero_le _⟩ rfl rfl (Nat.le_of_ble_eq_true rfl) rfl dX10_digest_166 ?_
    refine x_iinc (pc := 169) C 1 (v := v1 + 1) (lv' := [(1, .int (v1 + 1)), (0, .ref (a 0))]) dX10_digest_169 rfl rfl (by decide) rfl ?_
    refine x_goto (pc := 172) C 153 dX10_digest_172 (by decide) ?_
    refine kX.pick [1, 0] (lv' := [(0, .ref (a 0)), (1, .int (v1 + 1))]) rfl ?_
    exact hG (v1 + 1) (fX10_mix st z_13.toInt64) h
def fX10_digest_L153 (K : Int32 → kS → Option (Int64 × kS)) : Nat → Int32 → kS → Option (Int64 × kS)
  | 0, _, _ => none
  | F + 1, v1, st => fX10_digest_L153_B K (fX10_digest_L153 K F) st v1
set_option maxRecDepth 100000 in
set_option maxHeartbeats 4000000 in
theorem wX10_digest_L153 {G : kG} {E : kE} {a : Nat → Nat} (C : kOk G E cX10_digest RX10 2 rmfX10_digest) {z : Int64 × kS} (Zd : kEnd G E (0, 0) (some .long) (some (.long z.1)) (wM G a z.2)) {K : Int32 → kS → Option (Int64 × kS)} (hK : ∀ (u1 : Int32) (su : kS), K u1 su = some z → kX G E (0, 0) (wM G a su) 175 [(0, .ref (a 0))] []) : ∀ (F : Nat) (v1 : Int32) (st : kS), fX10_digest_L153 K F v1 st = some z → kX G E (0, 0) (wM G a st) 153 [(0, .ref (a 0)), (1, .int v1)] [] := by
  intro F
  induction F with
  | zero =>
    intro v1 st h
    exact absurd (show none = some z from h) (fun q => by cases q)
  | succ F ih =>
    intro v1 st h
    exact wX10_digest_L153_B  C Zd  st v1 hK (fun v1 st h => ih v1 st h) h
def fX10_digest_J99 (st : kS) : Option (Int64 × kS) := if (gI st 3) = 0 then (fX10_digest_L126 (fun v1_10 st_11 => fX10_digest_L153 (fun v1_14 st_15 => some ((gJ st_15 2), st_15)) kFU 0 st_11) kFU 0 st) else ((fX10_fewestNow st).bind (fun z_16 => (fX10_surelyNow (fX10_mix z_16.2 z_16.1.toInt64)).bind (fun z_17 => fX10_digest_L126 (fun v1_18 st_19 => fX10_digest_L153 (fun v1_20 st_21 => some ((gJ st_21 2), st_21)) kFU 0 st_19) kFU 0 (fX10_mix z_17.2 z_17.1.toInt64))))
set_option maxRecDepth 100000 in
set_option maxHeartbeats 4000000 in
theorem wX10_digest_J99 {G : kG} {E : kE} {a : Nat → Nat} (C : kOk G E cX10_digest RX10 2 rmfX10_digest) {z : Int64 × kS} (Zd : kEnd G E (0, 0) (some .long) (some (.long z.1)) (wM G a z.2)) (st : kS) (h : fX10_digest_J99 st = some z) : kX G E (0, 0) (wM G a st) 99 [(0, .ref (a 0))] [] := by
  unfold fX10_digest_J99 at h
  refine x_aload_n (pc := 99) C 0 dX10_digest_99 rfl rfl ?_
  refine x_get (pc := 100) C inlX10 0 rfl rfl 8 (by decide) q15_4 (v := .int (gI st 3)) rfl dX10_digest_100 ?_
  refine x_if_eq (pc := 103) C 124 dX10_digest_103 (by decide) (fun c_6 => ?_) (fun c_6 => ?_)
  · have h := kIp c_6 h
    refine x_iconst (pc := 124) C 0 dX10_digest_124 (by decide) ?_
    refine x_istore_n (pc := 125) C (lv' := [(1, .int 0), (0, .ref (a 0))]) dX10_digest_125 rfl (by decide) rfl ?_
    refine kX.pick [1, 0] (lv' := [(0, .ref (a 0)), (1, .int 0)]) rfl ?_
    refine wX10_digest_L126  C Zd   (fun v1_10 st_11 h => ?_) kFU 0 st h
    refine x_iconst (pc := 151) C 0 dX10_digest_151 (by decide) ?_
    refine x_istore_n (pc := 152) C (lv' := [(1, .int 0), (0, .ref (a 0))]) dX10_digest_152 rfl (by decide) rfl ?_
    refine kX.pick [1, 0] (lv' := [(0, .ref (a 0)), (1, .int 0)]) rfl ?_
    refine wX10_digest_L153  C Zd   (fun v1_14 st_15 h => ?_) kFU 0 st_11 h
    refine x_aload_n (pc := 175) C 0 dX10_digest_175 rfl rfl ?_
    refine x_get (pc := 176) C inlX10 0 rfl rfl 42 (by decide) q40_4 (v := .long (gJ st_15 2)) rfl dX10_digest_176 ?_
    obtain rfl := Option.some.inj h
    exact x_lret (pc := 179) C Zd dX10_digest_179
  · have h := kIn c_6 h
    refine x_aload_n (pc := 106) C 0 dX10_digest_106 rfl rfl ?_
    refine x_aload_n (pc := 107) C 0 dX10_digest_107 rfl rfl ?_
    obtain ⟨z_16, hz_16, h⟩ := kB h
    refine x_callV (pc := 108) C 0 [] rfl rfl (mX10_fewestNow G a st hz_16) yvX10_fewestNow q32_4 ⟨Nat.le_of_ble_eq_true rfl, Nat.le_of_ble_eq_true rfl, rfl, rfl⟩ ⟨Nat.zero_le _, Nat.zero_le _⟩ rfl rfl (Nat.le_of_ble_eq_true rfl) rfl dX10_digest_108 ?_
    refine x_i2l (pc := 111) C dX10_digest_111 ?_
    refine x_callV (pc := 112) C 0 [.long z_16.1.toInt64] rfl rfl (mX10_mix G a z_16.2 z_16.1.toInt64) yvX10_mix q40_9 ⟨Nat.le_of_ble_eq_true rfl, Nat.le_of_ble_eq_true rfl, rfl, rfl⟩ ⟨Nat.zero_le _, Nat.zero_le _⟩ rfl rfl (Nat.le_of_ble_eq_true rfl) rfl dX10_digest_112 ?_
    refine x_aload_n (pc := 115) C 0 dX10_digest_115 rfl rfl ?_
    refine x_aload_n (pc := 116) C 0 dX10_digest_116 rfl rfl ?_
    obtain ⟨z_17, hz_17, h⟩ := kB h
    refine x_callV (pc := 117) C 0 [] rfl rfl (mX10_surelyNow G a (fX10_mix z_16.2 z_16.1.toInt64) hz_17) yvX10_surelyNow q33_7 ⟨Nat.le_of_ble_eq_true rfl, Nat.le_of_ble_eq_true rfl, rfl, rfl⟩ ⟨Nat.zero_le _, Nat.zero_le _⟩ rfl rfl (Nat.le_of_ble_eq_true rfl) rfl dX10_digest_117 ?_
    refine x_i2l (pc := 120) C dX10_digest_120 ?_
    refine x_callV (pc := 121) C 0 [.long z_17.1.toInt64] rfl rfl (mX10_mix G a z_17.2 z_17.1.toInt64) yvX10_mix q40_9 ⟨Nat.le_of_ble_eq_true rfl, Nat.le_of_ble_eq_true rfl, rfl, rfl⟩ ⟨Nat.zero_le _, Nat.zero_le _⟩ rfl rfl (Nat.le_of_ble_eq_true rfl) rfl dX10_digest_121 ?_
    refine x_iconst (pc := 124) C 0 dX10_digest_124 (by decide) ?_
    refine x_istore_n (pc := 125) C (lv' := [(1, .int 0), (0, .ref (a 0))]) dX10_digest_125 rfl (by decide) rfl ?_
    refine kX.pick [1, 0] (lv' := [(0, .ref (a 0)), (1, .int 0)]) rfl ?_
    refine wX10_digest_L126  C Zd   (fun v1_18 st_19 h => ?_) kFU 0 (fX10_mix z_17.2 z_17.1.toInt64) h
    refine x_iconst (pc := 151) C 0 dX10_digest_151 (by decide) ?_
    refine x_istore_n (pc := 152) C (lv' := [(1, .int 0), (0, .ref (a 0))]) dX10_digest_152 rfl (by decide) rfl ?_
    refine kX.pick [1, 0] (lv' := [(0, .ref (a 0)), (1, .int 0)]) rfl ?_
    refine wX10_digest_L153  C Zd   (fun v1_20 st_21 h => ?_) kFU 0 st_19 h
    refine x_aload_n (pc := 175) C 0 dX10_digest_175 rfl rfl ?_
    refine x_get (pc := 176) C inlX10 0 rfl rfl 42 (by decide) q40_4 (v := .long (gJ st_21 2)) rfl dX10_digest_176 ?_
    obtain rfl := Option.some.inj h
    exact x_lret (pc := 179) C Zd dX10_digest_179
def fX10_digest (st : kS) : Option (Int64 × kS) := fX10_digest_L9 (fun v1_3 st_4 => if (gI st_4 0) ≤ 0 then (fX10_digest_J99 st_4) else ((fX10_touchIn 6 (gA st_4 3) st_4).bind (fun z_22 => (fX10_joinsNow (fX10_mix st_4 z_22.toInt64)).bind (fun z_23 => (fX10_apartOf (fX10_mix (fX10_mix st_4 z_22.toInt64) z_23.toInt64) 2 0).bind (fun z_24 => (fX10_apartOf (fX10_mix z_24.2 z_24.1.toInt64) 2 1).bind (fun z_25 => (fX10_waysOf (fX10_mix z_25.2 z_25.1.toInt64) 3 (-1)).bind (fun z_26 => (fX10_mustOf (fX10_mix z_26.2 z_26.1) 3).bind (fun z_27 => fX10_digest_J99 (fX10_mix z_27.2 z_27.1.toInt64))))))))) kFU 0 (sJ st 2 571)
set_option maxRecDepth 100000 in
set_option maxHeartbeats 4000000 in
theorem wX10_digest {G : kG} {E : kE} {a : Nat → Nat} (C : kOk G E cX10_digest RX10 2 rmfX10_digest) {z : Int64 × kS} (Zd : kEnd G E (0, 0) (some .long) (some (.long z.1)) (wM G a z.2)) (st : kS) (h : fX10_digest st = some z) : kX G E (0, 0) (wM G a st) 0 [(0, .ref (a 0))] [] := by
  unfold fX10_digest at h
  refine x_aload_n (pc := 0) C 0 dX10_digest_0 rfl rfl ?_
  refine x_ldc2 (pc := 1) C q40_3 dX10_digest_1 ?_
  refine x_put (pc := 4) C inlX10 tyX10 tyX10_ok nmX10 0 rfl rfl 42 (by decide) q40_4 rfl .long (v := .long 571) (by decide +kernel) rfl rfl (Nat.le_of_ble_eq_true rfl) (swM_J2 G a _ _) dX10_digest_4 ?_
  refine x_iconst (pc := 7) C 0 dX10_digest_7 (by decide) ?_
  refine x_istore_n (pc := 8) C (lv' := [(1, .int 0), (0, .ref (a 0))]) dX10_digest_8 rfl (by decide) rfl ?_
  refine kX.pick [1, 0] (lv' := [(0, .ref (a 0)), (1, .int 0)]) rfl ?_
  refine wX10_digest_L9  C Zd   (fun v1_3 st_4 h => ?_) kFU 0 (sJ st 2 571) h
  refine x_aload_n (pc := 28) C 0 dX10_digest_28 rfl rfl ?_
  refine x_get (pc := 29) C inlX10 0 rfl rfl 0 (by decide) q15_2 (v := .int (gI st_4 0)) rfl dX10_digest_29 ?_
  refine x_if_le (pc := 32) C 99 dX10_digest_32 (by decide) (fun c_5 => ?_) (fun c_5 => ?_)
  · have h := kIp c_5 h
    exact wX10_digest_J99  C Zd  st_4  h
  · have h := kIn c_5 h
    refine x_aload_n (pc := 35) C 0 dX10_digest_35 rfl rfl ?_
    refine x_aload_n (pc := 36) C 0 dX10_digest_36 rfl rfl ?_
    refine x_aload_n (pc := 37) C 0 dX10_digest_37 rfl rfl ?_
    refine x_get (pc := 38) C inlX10 0 rfl rfl 4 (by decide) q5_14 (v := .ref (a 3)) rfl dX10_digest_38 ?_
    obtain ⟨z_22, hz_22, h⟩ := kB h
    refine x_callV (pc := 41) C 0 [.ref (a 3)] rfl rfl (mX10_touchIn G a (N := 6) (f := (gA st_4 3)) 3 (lwM_A3 G a rfl) (by decide) st_4 hz_22) yvX10_touchIn q22_21 ⟨Nat.le_of_ble_eq_true rfl, Nat.le_of_ble_eq_true rfl, rfl, rfl⟩ ⟨Nat.zero_le _, Nat.zero_le _⟩ rfl rfl (Nat.le_of_ble_eq_true rfl) rfl dX10_digest_41 ?_
    refine x_i2l (pc := 44) C dX10_digest_44 ?_
    refine x_callV (pc := 45) C 0 [.long z_22.toInt64] rfl rfl (mX10_mix G a st_4 z_22.toInt64) yvX10_mix q40_9 ⟨Nat.le_of_ble_eq_true rfl, Nat.le_of_ble_eq_true rfl, rfl, rfl⟩ ⟨Nat.zero_le _, Nat.zero_le _⟩ rfl rfl (Nat.le_of_ble_eq_true rfl) rfl dX10_digest_45 ?_
    refine x_aload_n (pc := 48) C 0 dX10_digest_48 rfl rfl ?_
    refine x_aload_n (pc := 49) C 0 dX10_digest_49 rfl rfl ?_
    obtain ⟨z_23, hz_23, h⟩ := kB h
    refine x_callV (pc := 50) C 0 [] rfl rfl (mX10_joinsNow G a (fX10_mix st_4 z_22.toInt64) hz_23) yvX10_joinsNow q23_10 ⟨Nat.le_of_ble_eq_true rfl, Nat.le_of_ble_eq_true rfl, rfl, rfl⟩ ⟨Nat.zero_le _, Nat.zero_le _⟩ rfl rfl (Nat.le_of_ble_eq_true rfl) rfl dX10_digest_50 ?_
    refine x_i2l (pc := 53) C dX10_digest_53 ?_
    refine x_callV (pc := 54) C 0 [.long z_23.toInt64] rfl rfl (mX10_mix G a (fX10_mix st_4 z_22.toInt64) z_23.toInt64) yvX10_mix q40_9 ⟨Nat.le_of_ble_eq_true rfl, Nat.le_of_ble_eq_true rfl, rfl, rfl⟩ ⟨Nat.zero_le _, Nat.zero_le _⟩ rfl rfl (Nat.le_of_ble_eq_true rfl) rfl dX10_digest_54 ?_
    refine x_aload_n (pc := 57) C 0 dX10_digest_57 rfl rfl ?_
    refine x_aload_n (pc := 58) C 0 dX10_digest_58 rfl rfl ?_
    refine x_iconst (pc := 59) C 2 dX10_digest_59 (by decide) ?_
    refine x_iconst (pc := 60) C 0 dX10_digest_60 (by decide) ?_
    obtain ⟨z_24, hz_24, h⟩ := kB h
    refine x_callV (pc := 61) C 0 [.int 2, .int 0] rfl rfl (mX10_apartOf G a (fX10_mix (fX10_mix st_4 z_22.toInt64) z_23.toInt64) 2 0 hz_24) yvX10_apartOf q30_12 ⟨Nat.le_of_ble_eq_true rfl, Nat.le_of_ble_eq_true rfl, rfl, rfl⟩ ⟨Nat.zero_le _, Nat.zero_le _⟩ rfl rfl (Nat.le_of_ble_eq_true rfl) rfl dX10_digest_61 ?_
    refine x_i2l (pc := 64) C dX10_digest_64 ?_
    refine x_callV (pc := 65) C 0 [.long z_24.1.toInt64] rfl rfl (mX10_mix G a z_24.2 z_24.1.toInt64) yvX10_mix q40_9 ⟨Nat.le_of_ble_eq_true rfl, Nat.le_of_ble_eq_true rfl, rfl, rfl⟩ ⟨Nat.zero_le _, Nat.zero_le _⟩ rfl rfl (Nat.le_of_ble_eq_true rfl) rfl dX10_digest_65 ?_
    refine x_aload_n (pc := 68) C 0 dX10_digest_68 rfl rfl ?_
    refine x_aload_n (pc := 69) C 0 dX10_digest_69 rfl rfl ?_
    refine x_iconst (pc := 70) C 2 dX10_digest_70 (by decide) ?_
    refine x_iconst (pc := 71) C 1 dX10_digest_71 (by decide) ?_
    obtain ⟨z_25, hz_25, h⟩ := kB h
    refine x_callV (pc := 72) C 0 [.int 2, .int 1] rfl rfl (mX10_apartOf G a (fX10_mix z_24.2 z_24.1.toInt64) 2 1 hz_25) yvX10_apartOf q30_12 ⟨Nat.le_of_ble_eq_true rfl, Nat.le_of_ble_eq_true rfl, rfl, rfl⟩ ⟨Nat.zero_le _, Nat.zero_le _⟩ rfl rfl (Nat.le_of_ble_eq_true rfl) rfl dX10_digest_72 ?_
    refine x_i2l (pc := 75) C dX10_digest_75 ?_
    refine x_callV (pc := 76) C 0 [.long z_25.1.toInt64] rfl rfl (mX10_mix G a z_25.2 z_25.1.toInt64) yvX10_mix q40_9 ⟨Nat.le_of_ble_eq_true rfl, Nat.le_of_ble_eq_true rfl, rfl, rfl⟩ ⟨Nat.zero_le _, Nat.zero_le _⟩ rfl rfl (Nat.le_of_ble_eq_true rfl) rfl dX10_digest_76 ?_
    refine x_aload_n (pc := 79) C 0 dX10_digest_79 rfl rfl ?_
    refine x_aload_n (pc := 80) C 0 dX10_digest_80 rfl rfl ?_
    refine x_iconst (pc := 81) C 3 dX10_digest_81 (by decide) ?_
    refine x_iconst (pc := 82) C (-1) dX10_digest_82 (by decide) ?_
    obtain ⟨z_26, hz_26, h⟩ := kB h
    refine x_callV (pc := 83) C 0 [.int 3, .int (-1)] rfl rfl (mX10_waysOf G a (fX10_mix z_25.2 z_25.1.toInt64) 3 (-1) hz_26) yvX10_waysOf q36_13 ⟨Nat.le_of_ble_eq_true rfl, Nat.le_of_ble_eq_true rfl, rfl, rfl⟩ ⟨Nat.zero_le _, Nat.zero_le _⟩ rfl rfl (Nat.le_of_ble_eq_true rfl) rfl dX10_digest_83 ?_
    refine x_callV (pc := 86) C 0 [.long z_26.1] rfl rfl (mX10_mix G a z_26.2 z_26.1) yvX10_mix q40_9 ⟨Nat.le_of_ble_eq_true rfl, Nat.le_of_ble_eq_true rfl, rfl, rfl⟩ ⟨Nat.zero_le _, Nat.zero_le _⟩ rfl rfl (Nat.le_of_ble_eq_true rfl) rfl dX10_digest_86 ?_
    refine x_aload_n (pc := 89) C 0 dX10_digest_89 rfl rfl ?_
    refine x_aload_n (pc := 90) C 0 dX10_digest_90 rfl rfl ?_
    refine x_iconst (pc := 91) C 3 dX10_digest_91 (by decide) ?_
    obtain ⟨z_27, hz_27, h⟩ := kB h
    refine x_callV (pc := 92) C 0 [.int 3] rfl rfl (mX10_mustOf G a (fX10_mix z_26.2 z_26.1) 3 hz_27) yvX10_mustOf q37_6 ⟨Nat.le_of_ble_eq_true rfl, Nat.le_of_ble_eq_true rfl, rfl, rfl⟩ ⟨Nat.zero_le _, Nat.zero_le _⟩ rfl rfl (Nat.le_of_ble_eq_true rfl) rfl dX10_digest_92 ?_
    refine x_i2l (pc := 95) C dX10_digest_95 ?_
    refine x_callV (pc := 96) C 0 [.long z_27.1.toInt64] rfl rfl (mX10_mix G a z_27.2 z_27.1.toInt64) yvX10_mix q40_9 ⟨Nat.le_of_ble_eq_true rfl, Nat.le_of_ble_eq_true rfl, rfl, rfl⟩ ⟨Nat.zero_le _, Nat.zero_le _⟩ rfl rfl (Nat.le_of_ble_eq_true rfl) rfl dX10_digest_96 ?_
    exact wX10_digest_J99  C Zd  (fX10_mix z_27.2 z_27.1.toInt64)  h
set_option maxRecDepth 100000 in
theorem mX10_digest (G : kG) (a : Nat → Nat) (st : kS)  {z : Int64 × kS} (h : fX10_digest st = some z) : kMet G yX10_digest cX10_digest 2 (some .long) rmfX10_digest (0, 0) [.ref (a 0)] (wM G a st) (some (.long z.1)) (wM G a z.2) := kMet.mk (by decide +kernel) (Nat.le_of_ble_eq_true rfl) (fun E C Zd => wX10_digest  C Zd  st  h)
