theorem yvX10_apart : kYV yX10_apart RX10 cX10_apart 3 (some .int) 2 := ⟨q30_9, q30_10, q1_5, q30_11, by decide +kernel⟩
abbrev rmfX10_apart : Room := { frames := 5, cells := 0, slots := 0, locals := 119 }
def fX10_apart (st : kS) (x1 : Int32) (x2 : Int32) : Option (Int32 × kS) := if (gI st 0) = 0 then (some ((-103), st)) else (if (fX10_within x1 0 5) = 0 then (some ((-102), st)) else (if (fX10_within x2 0 1) = 0 then (some ((-102), st)) else ((fX10_apartOf st x1 x2).bind (fun z_4 => some (z_4.1, z_4.2)))))
set_option maxRecDepth 100000 in
set_option maxHeartbeats 4000000 in
theorem wX10_apart {G : kG} {E : kE} {a : Nat → Nat} (C : kOk G E cX10_apart RX10 3 rmfX10_apart) {z : Int32 × kS} (Zd : kEnd G E (0, 0) (some .int) (some (.int z.1)) (wM G a z.2)) (st : kS) (x1 : Int32) (x2 : Int32) (h : fX10_apart st x1 x2 = some z) : kX G E (0, 0) (wM G a st) 0 [(0, .ref (a 0)), (1, .int x1), (2, .int x2)] [] := by
  unfold fX10_apart at h
  refine x_aload_n (pc := 0) C 0 dX10_apart_0 rfl rfl ?_
  refine x_get (pc := 1) C inlX10 0 rfl rfl 0 (by decide) q15_2 (v := .int (gI st 0)) rfl dX10_apart_1 ?_
  refine x_if_ne (pc := 4) C 10 dX10_apart_4 (by decide) (fun c_1 => ?_) (fun c_1 => ?_)
  · have h := kIn c_1 h
    refine x_iload_n (pc := 10) C 1 dX10_apart_10 rfl rfl ?_
    refine x_iconst (pc := 11) C 0 dX10_apart_11 (by decide) ?_
    refine x_iconst (pc := 12) C 5 dX10_apart_12 (by decide) ?_
    refine x_callS (pc := 13) C [.int x1, .int 0, .int 5] (mX10_within G x1 0 5) ysX10_within q10_2 ⟨Nat.le_of_ble_eq_true rfl, Nat.le_of_ble_eq_true rfl, rfl, rfl⟩ ⟨Nat.zero_le _, Nat.zero_le _⟩ rfl rfl (Nat.le_of_ble_eq_true rfl) rfl dX10_apart_13 ?_
    refine x_if_eq (pc := 16) C 37 dX10_apart_16 (by decide) (fun c_2 => ?_) (fun c_2 => ?_)
    · have h := kIp c_2 h
      refine x_bipush (pc := 37) C (-102) dX10_apart_37 (by decide) ?_
      obtain rfl := Option.some.inj h
      exact x_iret (pc := 39) C Zd dX10_apart_39
    · have h := kIn c_2 h
      refine x_iload_n (pc := 19) C 2 dX10_apart_19 rfl rfl ?_
      refine x_iconst (pc := 20) C 0 dX10_apart_20 (by decide) ?_
      refine x_iconst (pc := 21) C 1 dX10_apart_21 (by decide) ?_
      refine x_callS (pc := 22) C [.int x2, .int 0, .int 1] (mX10_within G x2 0 1) ysX10_within q10_2 ⟨Nat.le_of_ble_eq_true rfl, Nat.le_of_ble_eq_true rfl, rfl, rfl⟩ ⟨Nat.zero_le _, Nat.zero_le _⟩ rfl rfl (Nat.le_of_ble_eq_true rfl) rfl dX10_apart_22 ?_
      refine x_if_eq (pc := 25) C 37 dX10_apart_25 (by decide) (fun c_3 => ?_) (fun c_3 => ?_)
      · have h := kIp c_3 h
        refine x_bipush (pc := 37) C (-102) dX10_apart_37 (by decide) ?_
        obtain rfl := Option.some.inj h
        exact x_iret (pc := 39) C Zd dX10_apart_39
      · have h := kIn c_3 h
        refine x_aload_n (pc := 28) C 0 dX10_apart_28 rfl rfl ?_
        refine x_iload_n (pc := 29) C 1 dX10_apart_29 rfl rfl ?_
        refine x_iload_n (pc := 30) C 2 dX10_apart_30 rfl rfl ?_
        obtain ⟨z_4, hz_4, h⟩ := kB h
        refine x_callV (pc := 31) C 0 [.int x1, .int x2] rfl rfl (mX10_apartOf G a st x1 x2 hz_4) yvX10_apartOf q30_12 ⟨Nat.le_of_ble_eq_true rfl, Nat.le_of_ble_eq_true rfl, rfl, rfl⟩ ⟨Nat.zero_le _, Nat.zero_le _⟩ rfl rfl (Nat.le_of_ble_eq_true rfl) rfl dX10_apart_31 ?_
        refine x_goto (pc := 34) C 39 dX10_apart_34 (by decide) ?_
        obtain rfl := Option.some.inj h
        exact x_iret (pc := 39) C Zd dX10_apart_39
  · have h := kIp c_1 h
    refine x_bipush (pc := 7) C (-103) dX10_apart_7 (by decide) ?_
    obtain rfl := Option.some.inj h
    exact x_iret (pc := 9) C Zd dX10_apart_9
set_option maxRecDepth 100000 in
theorem mX10_apart (G : kG) (a : Nat → Nat) (st : kS) (x1 : Int32) (x2 : Int32) {z : Int32 × kS} (h : fX10_apart st x1 x2 = some z) : kMet G yX10_apart cX10_apart 3 (some .int) rmfX10_apart (0, 0) [.ref (a 0), .int x1, .int x2] (wM G a st) (some (.int z.1)) (wM G a z.2) := kMet.mk (by decide +kernel) (Nat.le_of_ble_eq_true rfl) (fun E C Zd => wX10_apart  C Zd  st x1 x2 h)
theorem yvX10_choose : kYV yX10_choose RX10 cX10_choose 3 (some .int) 2 := ⟨q31_4, q31_5, q1_5, q31_6, by decide +kernel⟩
abbrev rmfX10_choose : Room := { frames := 5, cells := 0, slots := 0, locals := 122 }
def fX10_choose (st : kS) (x1 : Int32) (x2 : Int32) : Option (Int32 × kS) := (fX10_isHouse st x1).bind (fun z_1 => if z_1 = 0 then (some ((-101), st)) else (if (fX10_within x2 1 5) = 0 then (some ((-102), st)) else ((fX10_chooseOf st x1 x2).bind (fun z_4 => some (z_4.1, z_4.2)))))
set_option maxRecDepth 100000 in
set_option maxHeartbeats 4000000 in
theorem wX10_choose {G : kG} {E : kE} {a : Nat → Nat} (C : kOk G E cX10_choose RX10 3 rmfX10_choose) {z : Int32 × kS} (Zd : kEnd G E (0, 0) (some .int) (some (.int z.1)) (wM G a z.2)) (st : kS) (x1 : Int32) (x2 : Int32) (h : fX10_choose st x1 x2 = some z) : kX G E (0, 0) (wM G a st) 0 [(0, .ref (a 0)), (1, .int x1), (2, .int x2)] [] := by
  unfold fX10_choose at h
  refine x_aload_n (pc := 0) C 0 dX10_choose_0 rfl rfl ?_
  refine x_iload_n (pc := 1) C 1 dX10_choose_1 rfl rfl ?_
  obtain ⟨z_1, hz_1, h⟩ := kB h
  refine x_callV (pc := 2) C 0 [.int x1] rfl rfl (mX10_isHouse G a st x1 hz_1) yvX10_isHouse q19_14 ⟨Nat.le_of_ble_eq_true rfl, Nat.le_of_ble_eq_true rfl, rfl, rfl⟩ ⟨Nat.zero_le _, Nat.zero_le _⟩ rfl rfl (Nat.le_of_ble_eq_true rfl) rfl dX10_choose_2 ?_
  refine x_if_ne (pc := 5) C 11 dX10_choose_5 (by decide) (fun c_2 => ?_) (fun c_2 => ?_)
  · have h := kIn c_2 h
    refine x_iload_n (pc := 11) C 2 dX10_choose_11 rfl rfl ?_
    refine x_iconst (pc := 12) C 1 dX10_choose_12 (by decide) ?_
    refine x_iconst (pc := 13) C 5 dX10_choose_13 (by decide) ?_
    refine x_callS (pc := 14) C [.int x2, .int 1, .int 5] (mX10_within G x2 1 5) ysX10_within q10_2 ⟨Nat.le_of_ble_eq_true rfl, Nat.le_of_ble_eq_true rfl, rfl, rfl⟩ ⟨Nat.zero_le _, Nat.zero_le _⟩ rfl rfl (Nat.le_of_ble_eq_true rfl) rfl dX10_choose_14 ?_
    refine x_if_eq (pc := 17) C 29 dX10_choose_17 (by decide) (fun c_3 => ?_) (fun c_3 => ?_)
    · have h := kIp c_3 h
      refine x_bipush (pc := 29) C (-102) dX10_choose_29 (by decide) ?_
      obtain rfl := Option.some.inj h
      exact x_iret (pc := 31) C Zd dX10_choose_31
    · have h := kIn c_3 h
      refine x_aload_n (pc := 20) C 0 dX10_choose_20 rfl rfl ?_
      refine x_iload_n (pc := 21) C 1 dX10_choose_21 rfl rfl ?_
      refine x_iload_n (pc := 22) C 2 dX10_choose_22 rfl rfl ?_
      obtain ⟨z_4, hz_4, h⟩ := kB h
      refine x_callV (pc := 23) C 0 [.int x1, .int x2] rfl rfl (mX10_chooseOf G a st x1 x2 hz_4) yvX10_chooseOf q28_23 ⟨Nat.le_of_ble_eq_true rfl, Nat.le_of_ble_eq_true rfl, rfl, rfl⟩ ⟨Nat.zero_le _, Nat.zero_le _⟩ rfl rfl (Nat.le_of_ble_eq_true rfl) rfl dX10_choose_23 ?_
      refine x_goto (pc := 26) C 31 dX10_choose_26 (by decide) ?_
      obtain rfl := Option.some.inj h
      exact x_iret (pc := 31) C Zd dX10_choose_31
  · have h := kIp c_2 h
    refine x_bipush (pc := 8) C (-101) dX10_choose_8 (by decide) ?_
    obtain rfl := Option.some.inj h
    exact x_iret (pc := 10) C Zd dX10_choose_10
set_option maxRecDepth 100000 in
theorem mX10_choose (G : kG) (a : Nat → Nat) (st : kS) (x1 : Int32) (x2 : Int32) {z : Int32 × kS} (h : fX10_choose st x1 x2 = some z) : kMet G yX10_choose cX10_choose 3 (some .int) rmfX10_choose (0, 0) [.ref (a 0), .int x1, .int x2] (wM G a st) (some (.int z.1)) (wM G a z.2) := kMet.mk (by decide +kernel) (Nat.le_of_ble_eq_true rfl) (fun E C Zd => wX10_choose  C Zd  st x1 x2 h)
theorem yvX10_fewestNow : kYV yX10_fewestNow RX10 cX10_fewestNow 5 (some .int) 0 := ⟨q32_5, q32_6, q1_5, q32_7, by decide +kernel⟩
abbrev rmfX10_fewestNow : Room := { frames := 2, cells := 0, slots := 0, locals := 43 }
def fX10_fewestNow_L2_B (K : Int32 → kS → Option (Int32 × kS)) (Gc : Int32 → kS → Option (Int32 × kS)) (st : kS) (v1 : Int32) : Option (Int32 × kS) := if (gI st 16) ≤ v1 then (K v1 st) else (if v1 < 0 ∨ 720 ≤ v1.toNatClampNeg then none else Gc (v1 + 1) (sA st 18 (upd (gA st 18) v1.toNatClampNeg 268435456)))
set_option maxRecDepth 100000 in
set_option maxHeartbeats 4000000 in
theorem wX10_fewestNow_L2_B {G : kG} {E : kE} {a : Nat → Nat} (C : kOk G E cX10_fewestNow RX10 5 rmfX10_fewestNow) {z : Int32 × kS} (Zd : kEnd G E (0, 0) (some .int) (some (.int z.1)) (wM G a z.2)) {K Gc : Int32 → kS → Option (Int32 × kS)} (st : kS) (v1 : Int32) (hK : ∀ (u1 : Int32) (su : kS), K u1 su = some z → kX G E (0, 0) (wM G a su) 24 [(0, .ref (a 0))] []) (hG : ∀ (u1 : Int32) (su : kS), Gc u1 su = some z → kX G E (0, 0) (wM G a su) 2 [(0, .ref (a 0)), (1, .int u1)] []) (h : fX10_fewestNow_L2_B K Gc st v1 = some z) : kX G E (0, 0) (wM G a st) 2 [(0, .ref (a 0)), (1, .int v1)] [] := by
  unfold fX10_fewestNow_L2_B at h
  refine x_iload_n (pc := 2) C 1 dX10_fewestNow_2 rfl rfl ?_
  refine x_aload_n (pc := 3) C 0 dX10_fewestNow_3 rfl rfl ?_
  refine x_get (pc := 4) C inlX10 0 rfl rfl 29 (by decide) q15_10 (v := .int (gI st 16)) rfl dX10_fewestNow_4 ?_
  refine x_icmp_ge (pc := 7) C 24 dX10_fewestNow_7 (by decide) (fun c_1 => ?_) (fun c_1 => ?_)
  · have h := kIp c_1 h
    refine kX.pick [0] (lv' := [(0, .ref (a 0))]) rfl ?_
    exact hK v1 st h
  · have h := kIn c_1 h
    refine x_aload_n (pc := 10) C 0 dX10_fewestNow_10 rfl rfl ?_
    refine x_get (pc := 11) C inlX10 0 rfl rfl 36 (by decide) q6_8 (v := .ref (a 18)) rfl dX10_fewestNow_11 ?_
    refine x_iload_n (pc := 14) C 1 dX10_fewestNow_14 rfl rfl ?_
    refine x_ldc (pc := 15) C q32_8 dX10_fewestNow_15 ?_
    obtain ⟨hi_2, h⟩ := kGn h
    refine x_iast (pc := 17) C 18 (lwM_A18 G a rfl) hi_2 (swM_A18 G a _ _) dX10_fewestNow_17 ?_
    refine x_iinc (pc := 18) C 1 (v := v1 + 1) (lv' := [(1, .int (v1 + 1)), (0, .ref (a 0))]) dX10_fewestNow_18 rfl rfl (by decide) rfl ?_
    refine x_goto (pc := 21) C 2 dX10_fewestNow_21 (by decide) ?_
    refine kX.pick [1, 0] (lv' := [(0, .ref (a 0)), (1, .int (v1 + 1))]) rfl ?_
    exact hG (v1 + 1) (sA st 18 (upd (gA st 18) v1.toNatClampNeg 268435456)) h
def fX10_fewestNow_L2 (K : Int32 → kS → Option (Int32 × kS)) : Nat → Int32 → kS → Option (Int32 × kS)
  | 0, _, _ => none
  | F + 1, v1, st => fX10_fewestNow_L2_B K (fX10_fewestNow_L2 K F) st v1
set_option maxRecDepth 100000 in
set_option maxHeartbeats 4000000 in
theorem wX10_fewestNow_L2 {G : kG} {E : kE} {a : Nat → Nat} (C : kOk G E cX10_fewestNow RX10 5 rmfX10_fewestNow) {z : Int32 × kS} (Zd : kEnd G E (0, 0) (some .int) (some (.int z.1)) (wM G a z.2)) {K : Int32 → kS → Option (Int32 × kS)} (hK : ∀ (u1 : Int32) (su : kS), K u1 su = some z → kX G E (0, 0) (wM G a su) 24 [(0, .ref (a 0))] []) : ∀ (F : Nat) (v1 : Int32) (st : kS), fX10_fewestNow_L2 K F v1 st = some z → kX G E (0, 0) (wM G a st) 2 [(0, .ref (a 0)), (1, .int v1)] [] := by
  intro F
  induction F with
  | zero =>
    intro v1 st h
    exact absurd (show none = some z from h) (fun q => by cases q)
  | succ F ih =>
    intro v1 st h
    exact wX10_fewestNow_L2_B  C Zd  st v1 hK (fun v1 st h => ih v1 st h) h
def fX10_fewestNow_L55_B (K : Int32 → Int32 → kS → Option (Int32 × kS)) (Gc : Int32 → Int32 → kS → Option (Int32 × kS)) (st : kS) (v1 : Int32) (v2 : Int32) (v3 : Int32) : Option (Int32 × kS) := if (gI st 0) ≤ v3 then (K v1 v3 st) else ((ka 720 (gA st 19) v2).bind (fun x_11 => (fX10_behind st x_11 v3).bind (fun z_13 => (ka 720 (gA st 18) z_13).bind (fun x_14 => if x_14 = 268435456 then ((ka 720 (gA st 19) v2).bind (fun x_17 => (ka 720 (gA st 18) x_17).bind (fun x_19 => if z_13 < 0 ∨ 720 ≤ z_13.toNatClampNeg then none else if v1 < 0 ∨ 720 ≤ v1.toNatClampNeg then none else Gc (v1 + 1) (v3 + 1) (sA (sA st 18 (upd (gA st 18) z_13.toNatClampNeg (x_19 + 1))) 19 (upd (gA st 19) v1.toNatClampNeg z_13))))) else (Gc v1 (v3 + 1) st)))))
set_option maxRecDepth 100000 in
set_option maxHeartbeats 4000000 in
theorem wX10_fewestNow_L55_B {G : kG} {E : kE} {a : Nat → Nat} (C : kOk G E cX10_fewestNow RX10 5 rmfX10_fewestNow) {z : Int32 × kS} (Zd : kEnd G E (0, 0) (some .int) (some (.int z.1)) (wM G a z.2)) {K Gc : Int32 → Int32 → kS → Option (Int32 × kS)} (st : kS) (v1 : Int32) (v2 : Int32) (v3 : Int32) (hK : ∀ (u1 : Int32) (u3 : Int32) (su : kS), K u1 u3 su = some z → kX G E (0, 0) (wM G a su) 125 [(0, .ref (a 0)), (1, .int u1), (2, .int v2)] []) (hG : ∀ (u1 : Int32) (u3 : Int32) (su : kS), Gc u1 u3 su = some z → kX G E (0, 0) (wM G a su) 55 [(0, .ref (a 0)), (1, .int u1), (2, .int v2), (3, .int u3)] []) (h : fX10_fewestNow_L55_B K Gc st v1 v2 v3 = some z) : kX G E (0, 0) (wM G a st) 55 [(0, .ref (a 0)), (1, .int v1), (2, .int v2), (3, .int v3)] [] := by
  unfold fX10_fewestNow_L55_B at h
  refine x_iload_n (pc := 55) C 3 dX10_fewestNow_55 rfl rfl ?_
  refine x_aload_n (pc := 56) C 0 dX10_fewestNow_56 rfl rfl ?_
  refine x_get (pc := 57) C inlX10 0 rfl rfl 0 (by decide) q15_2 (v := .int (gI st 0)) rfl dX10_fewestNow_57 ?_
  refine x_icmp_ge (pc := 60) C 125 dX10_fewestNow_60 (by decide) (fun c_10 => ?_) (fun c_10 => ?_)
  · have h := kIp c_10 h
    refine kX.pick [0, 1, 2] (lv' := [(0, .ref (a 0)), (1, .int v1), (2, .int v2)]) rfl ?_
    exact hK v1 v3 st h
  · have h := kIn c_10 h
    refine x_aload_n (pc := 63) C 0 dX10_fewestNow_63 rfl rfl ?_
    refine x_aload_n (pc := 64) C 0 dX10_fewestNow_64 rfl rfl ?_
    refine x_get (pc := 65) C inlX10 0 rfl rfl 37 (by decide) q6_9 (v := .ref (a 19)) rfl dX10_fewestNow_65 ?_
    refine x_iload_n (pc := 68) C 2 dX10_fewestNow_68 rfl rfl ?_
    obtain ⟨x_11, hx_11, h⟩ := kB h
    obtain ⟨hi_12, hx_11⟩ := ka_some hx_11
    refine y_iald (pc := 69) C 19 (lwM_A19 G a rfl) hi_12 hx_11 dX10_fewestNow_69 ?_
    refine x_iload_n (pc := 70) C 3 dX10_fewestNow_70 rfl rfl ?_
    obtain ⟨z_13, hz_13, h⟩ := kB h
    refine x_callV (pc := 71) C 0 [.int x_11, .int v3] rfl rfl (mX10_behind G a st x_11 v3 hz_13) yvX10_behind q26_6 ⟨Nat.le_of_ble_eq_true rfl, Nat.le_of_ble_eq_true rfl, rfl, rfl⟩ ⟨Nat.zero_le _, Nat.zero_le _⟩ rfl rfl (Nat.le_of_ble_eq_true rfl) rfl dX10_fewestNow_71 ?_
    refine x_istore (pc := 74) C (lv' := [(4, .int z_13), (0, .ref (a 0)), (1, .int v1), (2, .int v2), (3, .int v3)]) dX10_fewestNow_74 (by decide) rfl ?_
    refine x_aload_n (pc := 76) C 1 dX10_fewestNow_76 rfl rfl ?_
    refine x_get (pc := 77) C inlX10 0 rfl rfl 36 (by decide) q6_8 (v := .ref (a 18)) rfl dX10_fewestNow_77 ?_
    refine x_iload (pc := 80) C 0 dX10_fewestNow_80 rfl ?_
    obtain ⟨x_14, hx_14, h⟩ := kB h
    obtain ⟨hi_15, hx_14⟩ := ka_some hx_14
    refine y_iald (pc := 82) C 18 (lwM_A18 G a rfl) hi_15 hx_14 dX10_fewestNow_82 ?_
    refine x_ldc (pc := 83) C q32_8 dX10_fewestNow_83 ?_
    refine x_icmp_ne (pc := 85) C 119 dX10_fewestNow_85 (by decide) (fun c_16 => ?_) (fun c_16 => ?_)
    · have h := kIn c_16 h
      refine x_iinc (pc := 119) C 4 (v := v3 + 1) (lv' := [(3, .int (v3 + 1)), (4, .int z_13), (0, .ref (a 0)), (1, .int v1), (2, .int v2)]) dX10_fewestNow_119 rfl rfl (by decide) rfl ?_
      refine x_goto (pc := 122) C 55 dX10_fewestNow_122 (by decide) ?_
      refine kX.pick [2, 3, 4, 0] (lv' := [(0, .ref (a 0)), (1, .int v1), (2, .int v2), (3, .int (v3 + 1))]) rfl ?_
      exact hG v1 (v3 + 1) st h
    · have h := kIp c_16 h
      refine x_aload_n (pc := 88) C 1 dX10_fewestNow_88 rfl rfl ?_
      refine x_get (pc := 89) C inlX10 0 rfl rfl 36 (by decide) q6_8 (v := .ref (a 18)) rfl dX10_fewestNow_89 ?_
      refine x_iload (pc := 92) C 0 dX10_fewestNow_92 rfl ?_
      refine x_aload_n (pc := 94) C 1 dX10_fewestNow_94 rfl rfl ?_
      refine x_get (pc := 95) C inlX10 0 rfl rfl 36 (by decide) q6_8 (v := .ref (a 18)) rfl dX10_fewestNow_95 ?_
      refine x_aload_n (pc := 98) C 1 dX10_fewestNow_98 rfl rfl ?_
      refine x_get (pc := 99) C inlX10 0 rfl rfl 37 (by decide) q6_9 (v := .ref (a 19)) rfl dX10_fewestNow_99 ?_
      refine x_iload_n (pc := 102) C 3 dX10_fewestNow_102 rfl rfl ?_
      obtain ⟨x_17, hx_17, h⟩ := kB h
      obtain ⟨hi_18, hx_17⟩ := ka_some hx_17
      refine y_iald (pc := 103) C 19 (lwM_A19 G a rfl) hi_18 hx_17 dX10_fewestNow_103 ?_
      obtain ⟨x_19, hx_19, h⟩ := kB h
      obtain ⟨hi_20, hx_19⟩ := ka_some hx_19
      refine y_iald (pc := 104) C 18 (lwM_A18 G a rfl) hi_20 hx_19 dX10_fewestNow_104 ?_
      refine x_iconst (pc := 105) C 1 dX10_fewestNow_105 (by decide) ?_
      refine x_iadd (pc := 106) C dX10_fewestNow_106 ?_
      obtain ⟨hi_21, h⟩ := kGn h
      refine x_iast (pc := 107) C 18 (lwM_A18 G a rfl) hi_21 (swM_A18 G a _ _) dX10_fewestNow_107 ?_
      refine x_aload_n (pc := 108) C 1 dX10_fewestNow_108 rfl rfl ?_
      refine x_get (pc := 109) C inlX10 0 rfl rfl 37 (by decide) q6_9 (v := .ref (a 19)) rfl dX10_fewestNow_109 ?_
      refine x_iload_n (pc := 112) C 2 dX10_fewestNow_112 rfl rfl ?_
      refine x_iload (pc := 113) C 0 dX10_fewestNow_113 rfl ?_
      obtain ⟨hi_22, h⟩ := kGn h
      refine x_iast (pc := 115) C 19 (lwM_A19 G a (gA_n (by decide))) hi_22 (swM_A19 G a _ _) dX10_fewestNow_115 ?_
      refine x_iinc (pc := 116) C 2 (v := v1 + 1) (lv' := [(1, .int (v1 + 1)), (4, .int z_13), (0, .ref (a 0)), (2, .int v2), (3, .int v3)]) dX10_fewestNow_116 rfl rfl (by decide) rfl ?_
      refine x_iinc (pc := 119) C 4 (v := v3 + 1) (lv' := [(3, .int (v3 + 1)), (1, .int (v1 + 1)), (4, .int z_13), (0, .ref (a 0)), (2, .int v2)]) dX10_fewestNow_119 rfl rfl (by decide) rfl ?_
      refine x_goto (pc := 122) C 55 dX10_fewestNow_122 (by decide) ?_
      refine kX.pick [3, 1, 4, 0] (lv' := [(0, .ref (a 0)), (1, .int (v1 + 1)), (2, .int v2), (3, .int (v3 + 1))]) rfl ?_
      exact hG (v1 + 1) (v3 + 1) (sA (sA st 18 (upd (gA st 18) z_13.toNatClampNeg (x_19 + 1))) 19 (upd (gA st 19) v1.toNatClampNeg z_13)) h
def fX10_fewestNow_L55 (K : Int32 → Int32 → kS → Option (Int32 × kS)) (v2 : Int32) : Nat → Int32 → Int32 → kS → Option (Int32 × kS)
  | 0, _, _, _ => none
  | F + 1, v1, v3, st => fX10_fewestNow_L55_B K (fX10_fewestNow_L55 K v2 F) st v1 v2 v3
set_option maxRecDepth 100000 in
set_option maxHeartbeats 4000000 in
theorem wX10_fewestNow_L55 {G : kG} {E : kE} {a : Nat → Nat} (C : kOk G E cX10_fewestNow RX10 5 rmfX10_fewestNow) {z : Int32 × kS} (Zd : kEnd G E (0, 0) (some .int) (some (.int z.1)) (wM G a z.2)) {K : Int32 → Int32 → kS → Option (Int32 × kS)} (v2 : Int32) (hK : ∀ (u1 : Int32) (u3 : Int32) (su : kS), K u1 u3 su = some z → kX G E (0, 0) (wM G a su) 125 [(0, .ref (a 0)), (1, .int u1), (2, .int v2)] []) : ∀ (F : Nat) (v1 : Int32) (v3 : Int32) (st : kS), fX10_fewestNow_L55 K v2 F v1 v3 st = some z → kX G E (0, 0) (wM G a st) 55 [(0, .ref (a 0)), (1, .int v1), (2, .int v2), (3, .int v3)] [] := by
  intro F
  induction F with
  | zero =>
    intro v1 v3 st h
    exact absurd (show none = some z from h) (fun q => by cases q)
  | succ F ih =>
    intro v1 v3 st h
    exact wX10_fewestNow_L55_B  C Zd  st v1 v2 v3 hK (fun v1 v3 st h => ih v1 v3 st h) h
def fX10_fewestNow_L48_B (K : Int32 → Int32 → kS → Option (Int32 × kS)) (Gc : Int32 → Int32 → kS → Option (Int32 × kS)) (st : kS) (v1 : Int32) (v2 : Int32) : Option (Int32 × kS) := if v1 ≤ v2 then (K v1 v2 st) else (fX10_fewestNow_L55 (fun v1_23 v3_24 st_25 => Gc v1_23 (v2 + 1) st_25) v2 kFU v1 0 st)
set_option maxRecDepth 100000 in
set_option maxHeartbeats 4000000 in
theorem wX10_fewestNow_L48_B {G : kG} {E : kE} {a : Nat → Nat} (C : kOk G E cX10_fewestNow RX10 5 rmfX10_fewestNow) {z : Int32 × kS} (Zd : kEnd G E (0, 0) (some .int) (some (.int z.1)) (wM G a z.2)) {K Gc : Int32 → Int32 → kS → Option (Int32 × kS)} (st : kS) (v1 : Int32) (v2 : Int32) (hK : ∀ (u1 : Int32) (u2 : Int32) (su : kS), K u1 u2 su = some z → kX G E (0, 0) (wM G a su) 131 [(0, .ref (a 0))] []) (hG : ∀ (u1 : Int32) (u2 : Int32) (su : kS), Gc u1 u2 su = some z → kX G E (0, 0) (wM G a su) 48 [(0, .ref (a 0)), (1, .int u1), (2, .int u2)] []) (h : fX10_fewestNow_L48_B K Gc st v1 v2 = some z) : kX G E (0, 0) (wM G a st) 48 [(0, .ref (a 0)), (1, .int v1), (2, .int v2)] [] := by
  unfold fX10_fewestNow_L48_B at h
  refine x_iload_n (pc := 48) C 2 dX10_fewestNow_48 rfl rfl ?_
  refine x_iload_n (pc := 49) C 1 dX10_fewestNow_49 rfl rfl ?_
  refine x_icmp_ge (pc := 50) C 131 dX10_fewestNow_50 (by decide) (fun c_9 => ?_) (fun c_9 => ?_)
  · have h := kIp c_9 h
    refine kX.pick [0] (lv' := [(0, .ref (a 0))]) rfl ?_
    exact hK v1 v2 st h
  · have h := kIn c_9 h
    refine x_iconst (pc := 53) C 0 dX10_fewestNow_53 (by decide) ?_
    refine x_istore_n (pc := 54) C (lv' := [(3, .int 0), (0, .ref (a 0)), (1, .int v1), (2, .int v2)]) dX10_fewestNow_54 rfl (by decide) rfl ?_
    refine kX.pick [1, 2, 3, 0] (lv' := [(0, .ref (a 0)), (1, .int v1), (2, .int v2), (3, .int 0)]) rfl ?_
    refine wX10_fewestNow_L55  C Zd  v2 (fun v1_23 v3_24 st_25 h => ?_) kFU v1 0 st h
    refine x_iinc (pc := 125) C 2 (v := v2 + 1) (lv' := [(2, .int (v2 + 1)), (0, .ref (a 0)), (1, .int v1_23)]) dX10_fewestNow_125 rfl rfl (by decide) rfl ?_
    refine x_goto (pc := 128) C 48 dX10_fewestNow_128 (by decide) ?_
    refine kX.pick [1, 2, 0] (lv' := [(0, .ref (a 0)), (1, .int v1_23), (2, .int (v2 + 1))]) rfl ?_
    exact hG v1_23 (v2 + 1) st_25 h
def fX10_fewestNow_L48 (K : Int32 → Int32 → kS → Option (Int32 × kS)) : Nat → Int32 → Int32 → kS → Option (Int32 × kS)
  | 0, _, _, _ => none
  | F + 1, v1, v2, st => fX10_fewestNow_L48_B K (fX10_fewestNow_L48 K F) st v1 v2
set_option maxRecDepth 100000 in
set_option maxHeartbeats 4000000 in
theorem wX10_fewestNow_L48 {G : kG} {E : kE} {a : Nat → Nat} (C : kOk G E cX10_fewestNow RX10 5 rmfX10_fewestNow) {z : Int32 × kS} (Zd : kEnd G E (0, 0) (some .int) (some (.int z.1)) (wM G a z.2)) {K : Int32 → Int32 → kS → Option (Int32 × kS)} (hK : ∀ (u1 : Int32) (u2 : Int32) (su : kS), K u1 u2 su = some z → kX G E (0, 0) (wM G a su) 131 [(0, .ref (a 0))] []) : ∀ (F : Nat) (v1 : Int32) (v2 : Int32) (st : kS), fX10_fewestNow_L48 K F v1 v2 st = some z → kX G E (0, 0) (wM G a st) 48 [(0, .ref (a 0)), (1, .int v1), (2, .int v2)] [] := by
  intro F
  induction F with
  | zero =>
    intro v1 v2 st h
    exact absurd (show none = some z from h) (fun q => by cases q)
  | succ F ih =>
    intro v1 v2 st h
    exact wX10_fewestNow_L48_B  C Zd  st v1 v2 hK (fun v1 v2 st h => ih v1 v2 st h) h
def fX10_fewestNow (st : kS) : Option (Int32 × kS) := fX10_fewestNow_L2 (fun v1_3 st_4 => (fX10_indexNow st_4).bind (fun z_5 => if z_5 < 0 ∨ 720 ≤ z_5.toNatClampNeg then none else (fX10_indexNow (sA st_4 18 (upd (gA st_4 18) z_5.toNatClampNeg 0))).bind (fun z_7 => if (0 : Int32) < 0 ∨ 720 ≤ (0 : Int32).toNatClampNeg then none else fX10_fewestNow_L48 (fun v1_26 v2_27 st_28 => (fX10_code 6 (gA st_28 5) st_28).bind (fun z_29 => (ka 46656 (gA st_28 13) z_29).bind (fun x_30 => (ka 720 (gA st_28 18) x_30).bind (fun x_32 => if x_32 = 268435456 then (some ((-1), st_28)) else (some (x_32, st_28)))))) kFU 1 0 (sA (sA st_4 18 (upd (gA st_4 18) z_5.toNatClampNeg 0)) 19 (upd (gA st_4 19) (0 : Int32).toNatClampNeg z_7))))) kFU 0 st
set_option maxRecDepth 100000 in
set_option maxHeartbeats 4000000 in
theorem wX10_fewestNow {G : kG} {E : kE} {a : Nat → Nat} (C : kOk G E cX10_fewestNow RX10 5 rmfX10_fewestNow) {z : Int32 × kS} (Zd : kEnd G E (0, 0) (some .int) (some (.int z.1)) (wM G a z.2)) (st : kS) (h : fX10_fewestNow st = some z) : kX G E (0, 0) (wM G a st) 0 [(0, .ref (a 0))] [] := by
  unfold fX10_fewestNow at h
  refine x_iconst (pc := 0) C 0 dX10_fewestNow_0 (by decide) ?_
  refine x_istore_n (pc := 1) C (lv' := [(1, .int 0), (0, .ref (a 0))]) dX10_fewestNow_1 rfl (by decide) rfl ?_
  refine kX.pick [1, 0] (lv' := [(0, .ref (a 0)), (1, .int 0)]) rfl ?_
  refine wX10_fewestNow_L2  C Zd   (fun v1_3 st_4 h => ?_) kFU 0 st h
  refine x_aload_n (pc := 24) C 0 dX10_fewestNow_24 rfl rfl ?_
  refine x_get (pc := 25) C inlX10 0 rfl rfl 36 (by decide) q6_8 (v := .ref (a 18)) rfl dX10_fewestNow_25 ?_
  refine x_aload_n (pc := 28) C 0 dX10_fewestNow_28 rfl rfl ?_
  obtain ⟨z_5, hz_5, h⟩ := kB h
  refine x_callV (pc := 29) C 0 [] rfl rfl (mX10_indexNow G a st_4 hz_5) yvX10_indexNow q25_22 ⟨Nat.le_of_ble_eq_true rfl, Nat.le_of_ble_eq_true rfl, rfl, rfl⟩ ⟨Nat.zero_le _, Nat.zero_le _⟩ rfl rfl (Nat.le_of_ble_eq_true rfl) rfl dX10_fewestNow_29 ?_
  refine x_iconst (pc := 32) C 0 dX10_fewestNow_32 (by decide) ?_
  obtain ⟨hi_6, h⟩ := kGn h
  refine x_iast (pc := 33) C 18 (lwM_A18 G a rfl) hi_6 (swM_A18 G a _ _) dX10_fewestNow_33 ?_
  refine x_aload_n (pc := 34) C 0 dX10_fewestNow_34 rfl rfl ?_
  refine x_get (pc := 35) C inlX10 0 rfl rfl 37 (by decide) q6_9 (v := .ref (a 19)) rfl dX10_fewestNow_35 ?_
  refine x_iconst (pc := 38) C 0 dX10_fewestNow_38 (by decide) ?_
  refine x_aload_n (pc := 39) C 0 dX10_fewestNow_39 rfl rfl ?_
  obtain ⟨z_7, hz_7, h⟩ := kB h
  refine x_callV (pc := 40) C 0 [] rfl rfl (mX10_indexNow G a (sA st_4 18 (upd (gA st_4 18) z_5.toNatClampNeg 0)) hz_7) yvX10_indexNow q25_22 ⟨Nat.le_of_ble_eq_true rfl, Nat.le_of_ble_eq_true rfl, rfl, rfl⟩ ⟨Nat.zero_le _, Nat.zero_le _⟩ rfl rfl (Nat.le_of_ble_eq_true rfl) rfl dX10_fewestNow_40 ?_
  obtain ⟨hi_8, h⟩ := kGn h
  refine x_iast (pc := 43) C 19 (lwM_A19 G a (gA_n (by decide))) hi_8 (swM_A19 G a _ _) dX10_fewestNow_43 ?_
  refine x_iconst (pc := 44) C 1 dX10_fewestNow_44 (by decide) ?_
  refine x_istore_n (pc := 45) C (lv' := [(1, .int 1), (0, .ref (a 0))]) dX10_fewestNow_45 rfl (by decide) rfl ?_
  refine x_iconst (pc := 46) C 0 dX10_fewestNow_46 (by decide) ?_
  refine x_istore_n (pc := 47) C (lv' := [(2, .int 0), (1, .int 1), (0, .ref (a 0))]) dX10_fewestNow_47 rfl (by decide) rfl ?_
  refine kX.pick [2, 1, 0] (lv' := [(0, .ref (a 0)), (1, .int 1), (2, .int 0)]) rfl ?_
  refine wX10_fewestNow_L48  C Zd   (fun v1_26 v2_27 st_28 h => ?_) kFU 1 0 (sA (sA st_4 18 (upd (gA st_4 18) z_5.toNatClampNeg 0)) 19 (upd (gA st_4 19) (0 : Int32).toNatClampNeg z_7)) h
  refine x_aload_n (pc := 131) C 0 dX10_fewestNow_131 rfl rfl ?_
  refine x_get (pc := 132) C inlX10 0 rfl rfl 36 (by decide) q6_8 (v := .ref (a 18)) rfl dX10_fewestNow_132 ?_
  refine x_aload_n (pc := 135) C 0 dX10_fewestNow_135 rfl rfl ?_
  refine x_get (pc := 136) C inlX10 0 rfl rfl 31 (by decide) q6_3 (v := .ref (a 13)) rfl dX10_fewestNow_136 ?_
  refine x_aload_n (pc := 139) C 0 dX10_fewestNow_139 rfl rfl ?_
  refine x_aload_n (pc := 140) C 0 dX10_fewestNow_140 rfl rfl ?_
  refine x_get (pc := 141) C inlX10 0 rfl rfl 7 (by decide) q5_16 (v := .ref (a 5)) rfl dX10_fewestNow_141 ?_
  obtain ⟨z_29, hz_29, h⟩ := kB h
  refine x_callV (pc := 144) C 0 [.ref (a 5)] rfl rfl (mX10_code G a (N := 6) (f := (gA st_28 5)) 5 (lwM_A5 G a rfl) (by decide) st_28 hz_29) yvX10_code q16_7 ⟨Nat.le_of_ble_eq_true rfl, Nat.le_of_ble_eq_true rfl, rfl, rfl⟩ ⟨Nat.zero_le _, Nat.zero_le _⟩ rfl rfl (Nat.le_of_ble_eq_true rfl) rfl dX10_fewestNow_144 ?_
  obtain ⟨x_30, hx_30, h⟩ := kB h
  obtain ⟨hi_31, hx_30⟩ := ka_some hx_30
  refine y_iald (pc := 147) C 13 (lwM_A13 G a rfl) hi_31 hx_30 dX10_fewestNow_147 ?_
  obtain ⟨x_32, hx_32, h⟩ := kB h
  obtain ⟨hi_33, hx_32⟩ := ka_some hx_32
  refine y_iald (pc := 148) C 18 (lwM_A18 G a rfl) hi_33 hx_32 dX10_fewestNow_148 ?_
  refine x_istore_n (pc := 149) C (lv' := [(2, .int x_32), (0, .ref (a 0))]) dX10_fewestNow_149 rfl (by decide) rfl ?_
  refine x_iload_n (pc := 150) C 0 dX10_fewestNow_150 rfl rfl ?_
  refine x_ldc (pc := 151) C q32_8 dX10_fewestNow_151 ?_
  refine x_icmp_ne (pc := 153) C 160 dX10_fewestNow_153 (by decide) (fun c_34 => ?_) (fun c_34 => ?_)
  · have h := kIn c_34 h
    refine x_iload_n (pc := 160) C 0 dX10_fewestNow_160 rfl rfl ?_
    obtain rfl := Option.some.inj h
    exact x_iret (pc := 161) C Zd dX10_fewestNow_161
  · have h := kIp c_34 h
    refine x_iconst (pc := 156) C (-1) dX10_fewestNow_156 (by decide) ?_
    refine x_goto (pc := 157) C 161 dX10_fewestNow_157 (by decide) ?_
    obtain rfl := Option.some.inj h
    exact x_iret (pc := 161) C Zd dX10_fewestNow_161
set_option maxRecDepth 100000 in
theorem mX10_fewestNow (G : kG) (a : Nat → Nat) (st : kS)  {z : Int32 × kS} (h : fX10_fewestNow st = some z) : kMet G yX10_fewestNow cX10_fewestNow 5 (some .int) rmfX10_fewestNow (0, 0) [.ref (a 0)] (wM G a st) (some (.int z.1)) (wM G a z.2) := kMet.mk (by decide +kernel) (Nat.le_of_ble_eq_true rfl) (fun E C Zd => wX10_fewestNow  C Zd  st  h)
theorem yvX10_fewest : kYV yX10_fewest RX10 cX10_fewest 1 (some .int) 0 := ⟨q32_1, q32_2, q1_5, q32_3, by decide +kernel⟩
abbrev rmfX10_fewest : Room := { frames := 3, cells := 0, slots := 0, locals := 67 }
def fX10_fewest (st : kS) : Option (Int32 × kS) := if (gI st 3) = 0 then (some ((-103), st)) else ((fX10_fewestNow st).bind (fun z_2 => some (z_2.1, z_2.2)))
set_option maxRecDepth 100000 in
set_option maxHeartbeats 4000000 in
theorem wX10_fewest {G : kG} {E : kE} {a : Nat → Nat} (C : kOk G E cX10_fewest RX10 1 rmfX10_fewest) {z : Int32 × kS} (Zd : kEnd G E (0, 0) (some .int) (some (.int z.1)) (wM G a z.2)) (st : kS) (h : fX10_fewest st = some z) : kX G E (0, 0) (wM G a st) 0 [(0, .ref (a 0))] [] := by
  unfold fX10_fewest at h
  refine x_aload_n (pc := 0) C 0 dX10_fewest_0 rfl rfl ?_
  refine x_get (pc := 1) C inlX10 0 rfl rfl 8 (by decide) q15_4 (v := .int (gI st 3)) rfl dX10_fewest_1 ?_
  refine x_if_eq (pc := 4) C 14 dX10_fewest_4 (by decide) (fun c_1 => ?_) (fun c_1 => ?_)
  · have h := kIp c_1 h
    refine x_bipush (pc := 14) C (-103) dX10_fewest_14 (by decide) ?_
    obtain rfl := Option.some.inj h
    exact x_iret (pc := 16) C Zd dX10_fewest_16
  · have h := kIn c_1 h
    refine x_aload_n (pc := 7) C 0 dX10_fewest_7 rfl rfl ?_
    obtain ⟨z_2, hz_2, h⟩ := kB h
    refine x_callV (pc := 8) C 0 [] rfl rfl (mX10_fewestNow G a st hz_2) yvX10_fewestNow q32_4 ⟨Nat.le_of_ble_eq_true rfl, Nat.le_of_ble_eq_true rfl, rfl, rfl⟩ ⟨Nat.zero_le _, Nat.zero_le _⟩ rfl rfl (Nat.le_of_ble_eq_true rfl) rfl dX10_fewest_8 ?_
    refine x_goto (pc := 11) C 16 dX10_fewest_11 (by decide) ?_
    obtain rfl := Option.some.inj h
    exact x_iret (pc := 16) C Zd dX10_fewest_16
set_option maxRecDepth 100000 in
theorem mX10_fewest (G : kG) (a : Nat → Nat) (st : kS)  {z : Int32 × kS} (h : fX10_fewest st = some z) : kMet G yX10_fewest cX10_fewest 1 (some .int) rmfX10_fewest (0, 0) [.ref (a 0)] (wM G a st) (some (.int z.1)) (wM G a z.2) := kMet.mk (by decide +kernel) (Nat.le_of_ble_eq_true rfl) (fun E C Zd => wX10_fewest  C Zd  st  h)
theorem yvX10_isSure : kYV yX10_isSure RX10 cX10_isSure 7 (some .boolean) 2 := ⟨q33_12, q33_13, q1_5, q33_14, by decide +kernel⟩
abbrev rmfX10_isSure : Room := { frames := 1, cells := 0, slots := 0, locals := 22 }
def fX10_isSure_L24_B (K : Int32 → Int32 → Option (Int32)) (Gc : Int32 → Int32 → Option (Int32)) (st : kS) (v1 : Int32) (v2 : Int32) (v4 : Int32) (v5 : Int32) (v6 : Int32) : Option (Int32) := if 2 ≤ v6 then (K v5 v6) else (if v5 = 0 then ((fX10_placeBy st v4 v6).bind (fun z_5 => (fX10_behind st v1 z_5).bind (fun z_6 => (ka 720 (gA st 18) z_6).bind (fun x_7 => if v2 ≤ x_7 then (Gc 0 (v6 + 1)) else (Gc 1 (v6 + 1)))))) else (K v5 v6))
set_option maxRecDepth 100000 in
set_option maxHeartbeats 4000000 in
theorem wX10_isSure_L24_B {G : kG} {E : kE} {a : Nat → Nat} {st0 : kS} (C : kOk G E cX10_isSure RX10 7 rmfX10_isSure) {z : Int32} (Zd : kEnd G E (0, 0) (some .boolean) (some (.int z)) (wM G a st0)) {K Gc : Int32 → Int32 → Option (Int32)} (v1 : Int32) (v2 : Int32) (v4 : Int32) (v5 : Int32) (v6 : Int32) (hK : ∀ (u5 : Int32) (u6 : Int32), K u5 u6 = some z → kX G E (0, 0) (wM G a st0) 70 [(0, .ref (a 0)), (1, .int v1), (2, .int v2), (4, .int v4), (5, .int u5)] []) (hG : ∀ (u5 : Int32) (u6 : Int32), Gc u5 u6 = some z → kX G E (0, 0) (wM G a st0) 24 [(0, .ref (a 0)), (1, .int v1), (2, .int v2), (4, .int v4), (5, .int u5), (6, .int u6)] []) (h : fX10_isSure_L24_B K Gc st0 v1 v2 v4 v5 v6 = some z) : kX G E (0, 0) (wM G a st0) 24 [(0, .ref (a 0)), (1, .int v1), (2, .int v2), (4, .int v4), (5, .int v5), (6, .int v6)] [] := by
  unfold fX10_isSure_L24_B at h
  refine x_iload (pc := 24) C 5 dX10_isSure_24 rfl ?_
  refine x_iconst (pc := 26) C 2 dX10_isSure_26 (by decide) ?_
  refine x_icmp_ge (pc := 27) C 70 dX10_isSure_27 (by decide) (fun c_3 => ?_) (fun c_3 => ?_)
  · have h := kIp c_3 h
    refine kX.pick [0, 1, 2, 3, 4] (lv' := [(0, .ref (a 0)), (1, .int v1), (2, .int v2), (4, .int v4), (5, .int v5)]) rfl ?_
    exact hK v5 v6 h
  · have h := kIn c_3 h
    refine x_iload (pc := 30) C 4 dX10_isSure_30 rfl ?_
    refine x_if_ne (pc := 32) C 70 dX10_isSure_32 (by decide) (fun c_4 => ?_) (fun c_4 => ?_)
    · have h := kIn c_4 h
      refine kX.pick [0, 1, 2, 3, 4] (lv' := [(0, .ref (a 0)), (1, .int v1), (2, .int v2), (4, .int v4), (5, .int v5)]) rfl ?_
      exact hK v5 v6 h
    · have h := kIp c_4 h
      refine x_aload_n (pc := 35) C 0 dX10_isSure_35 rfl rfl ?_
      refine x_get (pc := 36) C inlX10 0 rfl rfl 36 (by decide) q6_8 (v := .ref (a 18)) rfl dX10_isSure_36 ?_
      refine x_aload_n (pc := 39) C 0 dX10_isSure_39 rfl rfl ?_
      refine x_iload_n (pc := 40) C 1 dX10_isSure_40 rfl rfl ?_
      refine x_aload_n (pc := 41) C 0 dX10_isSure_41 rfl rfl ?_
      refine x_iload (pc := 42) C 3 dX10_isSure_42 rfl ?_
      refine x_iload (pc := 44) C 5 dX10_isSure_44 rfl ?_
      obtain ⟨z_5, hz_5, h⟩ := kB h
      refine x_callV (pc := 46) C 0 [.int v4, .int v6] rfl rfl (mX10_placeBy G a st0 v4 v6 hz_5) yvX10_placeBy q26_2 ⟨Nat.le_of_ble_eq_true rfl, Nat.le_of_ble_eq_true rfl, rfl, rfl⟩ ⟨Nat.zero_le _, Nat.zero_le _⟩ rfl rfl (Nat.le_of_ble_eq_true rfl) rfl dX10_isSure_46 ?_
      obtain ⟨z_6, hz_6, h⟩ := kB h
      refine x_callV (pc := 49) C 0 [.int v1, .int z_5] rfl rfl (mX10_behind G a st0 v1 z_5 hz_6) yvX10_behind q26_6 ⟨Nat.le_of_ble_eq_true rfl, Nat.le_of_ble_eq_true rfl, rfl, rfl⟩ ⟨Nat.zero_le _, Nat.zero_le _⟩ rfl rfl (Nat.le_of_ble_eq_true rfl) rfl dX10_isSure_49 ?_
      obtain ⟨x_7, hx_7, h⟩ := kB h
      obtain ⟨hi_8, hx_7⟩ := ka_some hx_7
      refine y_iald (pc := 52) C 18 (lwM_A18 G a rfl) hi_8 hx_7 dX10_isSure_52 ?_
      refine x_iload_n (pc := 53) C 2 dX10_isSure_53 rfl rfl ?_
      refine x_icmp_ge (pc := 54) C 61 dX10_isSure_54 (by decide) (fun c_9 => ?_) (fun c_9 => ?_)
      · have h := kIp c_9 h
        refine x_iconst (pc := 61) C 0 dX10_isSure_61 (by decide) ?_
        refine x_istore (pc := 62) C (lv' := [(5, .int 0), (0, .ref (a 0)), (1, .int v1), (2, .int v2), (4, .int v4), (6, .int v6)]) dX10_isSure_62 (by decide) rfl ?_
        refine x_iinc (pc := 64) C 5 (v := v6 + 1) (lv' := [(6, .int (v6 + 1)), (5, .int 0), (0, .ref (a 0)), (1, .int v1), (2, .int v2), (4, .int v4)]) dX10_isSure_64 rfl rfl (by decide) rfl ?_
        refine x_goto (pc := 67) C 24 dX10_isSure_67 (by decide) ?_
        refine kX.pick [2, 3, 4, 5, 1, 0] (lv' := [(0, .ref (a 0)), (1, .int v1), (2, .int v2), (4, .int v4), (5, .int 0), (6, .int (v6 + 1))]) rfl ?_
        exact hG 0 (v6 + 1) h
      · have h := kIn c_9 h
        refine x_iconst (pc := 57) C 1 dX10_isSure_57 (by decide) ?_
        refine x_goto (pc := 58) C 62 dX10_isSure_58 (by decide) ?_
        refine x_istore (pc := 62) C (lv' := [(5, .int 1), (0, .ref (a 0)), (1, .int v1), (2, .int v2), (4, .int v4), (6, .int v6)]) dX10_isSure_62 (by decide) rfl ?_
        refine x_iinc (pc := 64) C 5 (v := v6 + 1) (lv' := [(6, .int (v6 + 1)), (5, .int 1), (0, .ref (a 0)), (1, .int v1), (2, .int v2), (4, .int v4)]) dX10_isSure_64 rfl rfl (by decide) rfl ?_
        refine x_goto (pc := 67) C 24 dX10_isSure_67 (by decide) ?_
        refine kX.pick [2, 3, 4, 5, 1, 0] (lv' := [(0, .ref (a 0)), (1, .int v1), (2, .int v2), (4, .int v4), (5, .int 1), (6, .int (v6 + 1))]) rfl ?_
        exact hG 1 (v6 + 1) h
def fX10_isSure_L24 (K : Int32 → Int32 → Option (Int32)) (st : kS) (v1 : Int32) (v2 : Int32) (v4 : Int32) : Nat → Int32 → Int32 → Option (Int32)
  | 0, _, _ => none
  | F + 1, v5, v6 => fX10_isSure_L24_B K (fX10_isSure_L24 K st v1 v2 v4 F) st v1 v2 v4 v5 v6
set_option maxRecDepth 100000 in
set_option maxHeartbeats 4000000 in
theorem wX10_isSure_L24 {G : kG} {E : kE} {a : Nat → Nat} {st0 : kS} (C : kOk G E cX10_isSure RX10 7 rmfX10_isSure) {z : Int32} (Zd : kEnd G E (0, 0) (some .boolean) (some (.int z)) (wM G a st0)) {K : Int32 → Int32 → Option (Int32)} (v1 : Int32) (v2 : Int32) (v4 : Int32) (hK : ∀ (u5 : Int32) (u6 : Int32), K u5 u6 = some z → kX G E (0, 0) (wM G a st0) 70 [(0, .ref (a 0)), (1, .int v1), (2, .int v2), (4, .int v4), (5, .int u5)] []) : ∀ (F : Nat) (v5 : Int32) (v6 : Int32), fX10_isSure_L24 K st0 v1 v2 v4 F v5 v6 = some z → kX G E (0, 0) (wM G a st0) 24 [(0, .ref (a 0)), (1, .int v1), (2, .int v2), (4, .int v4), (5, .int v5), (6, .int v6)] [] := by
  intro F
  induction F with
  | zero =>
    intro v5 v6 h
    exact absurd (show none = some z from h) (fun q => by cases q)
  | succ F ih =>
    intro v5 v6 h
    exact wX10_isSure_L24_B  C Zd  v1 v2 v4 v5 v6 hK (fun v5 v6 h => ih v5 v6 h) h
def fX10_isSure_L5_B (K : Int32 → Int32 → Option (Int32)) (Gc : Int32 → Int32 → Option (Int32)) (st : kS) (v1 : Int32) (v2 : Int32) (v3 : Int32) (v4 : Int32) : Option (Int32) := if (gI st 0) ≤ v4 then (K v3 v4) else (if v3 = 0 then (K v3 v4) else (fX10_isSure_L24 (fun v5_10 v6_11 => Gc v5_10 (v4 + 1)) st v1 v2 v4 kFU 0 (-1)))
set_option maxRecDepth 100000 in
set_option maxHeartbeats 4000000 in
theorem wX10_isSure_L5_B {G : kG} {E : kE} {a : Nat → Nat} {st0 : kS} (C : kOk G E cX10_isSure RX10 7 rmfX10_isSure) {z : Int32} (Zd : kEnd G E (0, 0) (some .boolean) (some (.int z)) (wM G a st0)) {K Gc : Int32 → Int32 → Option (Int32)} (v1 : Int32) (v2 : Int32) (v3 : Int32) (v4 : Int32) (hK : ∀ (u3 : Int32) (u4 : Int32), K u3 u4 = some z → kX G E (0, 0) (wM G a st0) 79 [(3, .int u3)] []) (hG : ∀ (u3 : Int32) (u4 : Int32), Gc u3 u4 = some z → kX G E (0, 0) (wM G a st0) 5 [(0, .ref (a 0)), (1, .int v1), (2, .int v2), (3, .int u3), (4, .int u4)] []) (h : fX10_isSure_L5_B K Gc st0 v1 v2 v3 v4 = some z) : kX G E (0, 0) (wM G a st0) 5 [(0, .ref (a 0)), (1, .int v1), (2, .int v2), (3, .int v3), (4, .int v4)] [] := by
  unfold fX10_isSure_L5_B at h
  refine x_iload (pc := 5) C 4 dX10_isSure_5 rfl ?_
  refine x_aload_n (pc := 7) C 0 dX10_isSure_7 rfl rfl ?_
  refine x_get (pc := 8) C inlX10 0 rfl rfl 0 (by decide) q15_2 (v := .int (gI st0 0)) rfl dX10_isSure_8 ?_
  refine x_icmp_ge (pc := 11) C 79 dX10_isSure_11 (by decide) (fun c_1 => ?_) (fun c_1 => ?_)
  · have h := kIp c_1 h
    refine kX.pick [3] (lv' := [(3, .int v3)]) rfl ?_
    exact hK v3 v4 h
  · have h := kIn c_1 h
    refine x_iload_n (pc := 14) C 3 dX10_isSure_14 rfl rfl ?_
    refine x_if_eq (pc := 15) C 79 dX10_isSure_15 (by decide) (fun c_2 => ?_) (fun c_2 => ?_)
    · have h := kIp c_2 h
      refine kX.pick [3] (lv' := [(3, .int v3)]) rfl ?_
      exact hK v3 v4 h
    · have h := kIn c_2 h
      refine x_iconst (pc := 18) C 0 dX10_isSure_18 (by decide) ?_
      refine x_istore (pc := 19) C (lv' := [(5, .int 0), (0, .ref (a 0)), (1, .int v1), (2, .int v2), (3, .int v3), (4, .int v4)]) dX10_isSure_19 (by decide) rfl ?_
      refine x_iconst (pc := 21) C (-1) dX10_isSure_21 (by decide) ?_
      refine x_istore (pc := 22) C (lv' := [(6, .int (-1)), (5, .int 0), (0, .ref (a 0)), (1, .int v1), (2, .int v2), (3, .int v3), (4, .int v4)]) dX10_isSure_22 (by decide) rfl ?_
      refine kX.pick [2, 3, 4, 6, 1, 0] (lv' := [(0, .ref (a 0)), (1, .int v1), (2, .int v2), (4, .int v4), (5, .int 0), (6, .int (-1))]) rfl ?_
      refine wX10_isSure_L24  C Zd  v1 v2 v4 (fun v5_10 v6_11 h => ?_) kFU 0 (-1) h
      refine x_iload (pc := 70) C 4 dX10_isSure_70 rfl ?_
      refine x_istore_n (pc := 72) C (lv' := [(3, .int v5_10), (0, .ref (a 0)), (1, .int v1), (2, .int v2), (4, .int v4), (5, .int v5_10)]) dX10_isSure_72 rfl (by decide) rfl ?_
      refine x_iinc (pc := 73) C 4 (v := v4 + 1) (lv' := [(4, .int (v4 + 1)), (3, .int v5_10), (0, .ref (a 0)), (1, .int v1), (2, .int v2), (5, .int v5_10)]) dX10_isSure_73 rfl rfl (by decide) rfl ?_
      refine x_goto (pc := 76) C 5 dX10_isSure_76 (by decide) ?_
      refine kX.pick [2, 3, 4, 1, 0] (lv' := [(0, .ref (a 0)), (1, .int v1), (2, .int v2), (3, .int v5_10), (4, .int (v4 + 1))]) rfl ?_
      exact hG v5_10 (v4 + 1) h
def fX10_isSure_L5 (K : Int32 → Int32 → Option (Int32)) (st : kS) (v1 : Int32) (v2 : Int32) : Nat → Int32 → Int32 → Option (Int32)
  | 0, _, _ => none
  | F + 1, v3, v4 => fX10_isSure_L5_B K (fX10_isSure_L5 K st v1 v2 F) st v1 v2 v3 v4
set_option maxRecDepth 100000 in
set_option maxHeartbeats 4000000 in
theorem wX10_isSure_L5 {G : kG} {E : kE} {a : Nat → Nat} {st0 : kS} (C : kOk G E cX10_isSure RX10 7 rmfX10_isSure) {z : Int32} (Zd : kEnd G E (0, 0) (some .boolean) (some (.int z)) (wM G a st0)) {K : Int32 → Int32 → Option (Int32)} (v1 : Int32) (v2 : Int32) (hK : ∀ (u3 : Int32) (u4 : Int32), K u3 u4 = some z → kX G E (0, 0) (wM G a st0) 79 [(3, .int u3)] []) : ∀ (F : Nat) (v3 : Int32) (v4 : Int32), fX10_isSure_L5 K st0 v1 v2 F v3 v4 = some z → kX G E (0, 0) (wM G a st0) 5 [(0, .ref (a 0)), (1, .int v1), (2, .int v2), (3, .int v3), (4, .int v4)] [] := by
  intro F
  induction F with
  | zero =>
    intro v3 v4 h
    exact absurd (show none = some z from h) (fun q => by cases q)
  | succ F ih =>
    intro v3 v4 h
    exact wX10_isSure_L5_B  C Zd  v1 v2 v3 v4 hK (fun v3 v4 h => ih v3 v4 h) h
def fX10_isSure (st : kS) (x1 : Int32) (x2 : Int32) : Option (Int32) := fX10_isSure_L5 (fun v3_12 v4_13 => if ¬ (v3_12 = 0 ∨ v3_12 = 1) then none else some v3_12) st x1 x2 kFU 1 0
set_option maxRecDepth 100000 in
set_option maxHeartbeats 4000000 in
theorem wX10_isSure {G : kG} {E : kE} {a : Nat → Nat} {st0 : kS} (C : kOk G E cX10_isSure RX10 7 rmfX10_isSure) {z : Int32} (Zd : kEnd G E (0, 0) (some .boolean) (some (.int z)) (wM G a st0)) (x1 : Int32) (x2 : Int32) (h : fX10_isSure st0 x1 x2 = some z) : kX G E (0, 0) (wM G a st0) 0 [(0, .ref (a 0)), (1, .int x1), (2, .int x2)] [] := by
  unfold fX10_isSure at h
  refine x_iconst (pc := 0) C 1 dX10_isSure_0 (by decide) ?_
  refine x_istore_n (pc := 1) C (lv' := [(3, .int 1), (0, .ref (a 0)), (1, .int x1), (2, .int x2)]) dX10_isSure_1 rfl (by decide) rfl ?_
  refine x_iconst (pc := 2) C 0 dX10_isSure_2 (by decide) ?_
  refine x_istore (pc := 3) C (lv' := [(4, .int 0), (3, .int 1), (0, .ref (a 0)), (1, .int x1), (2, .int x2)]) dX10_isSure_3 (by decide) rfl ?_
  refine kX.pick [2, 3, 4, 1, 0] (lv' := [(0, .ref (a 0)), (1, .int x1), (2, .int x2), (3, .int 1), (4, .int 0)]) rfl ?_
  refine wX10_isSure_L5  C Zd  x1 x2 (fun v3_12 v4_13 h => ?_) kFU 1 0 h
  refine x_iload_n (pc := 79) C 0 dX10_isSure_79 rfl rfl ?_
  obtain ⟨c_14, h⟩ := kGn h
  obtain rfl := Option.some.inj h
  exact x_zret (pc := 80) C (kBn c_14) Zd dX10_isSure_80
set_option maxRecDepth 100000 in
theorem mX10_isSure (G : kG) (a : Nat → Nat) (st : kS) (x1 : Int32) (x2 : Int32) {z : Int32} (h : fX10_isSure st x1 x2 = some z) : kMet G yX10_isSure cX10_isSure 7 (some .boolean) rmfX10_isSure (0, 0) [.ref (a 0), .int x1, .int x2] (wM G a st) (some (.int z)) (wM G a st) := kMet.mk (by decide +kernel) (Nat.le_of_ble_eq_true rfl) (fun E C Zd => wX10_isSure  C Zd  x1 x2 h)
theorem yvX10_surelyNow : kYV yX10_surelyNow RX10 cX10_surelyNow 4 (some .int) 0 := ⟨q33_8, q33_9, q1_5, q33_10, by decide +kernel⟩
abbrev rmfX10_surelyNow : Room := { frames := 2, cells := 0, slots := 0, locals := 48 }
def fX10_surelyNow_L2_B (K : Int32 → kS → Option (Int32 × kS)) (Gc : Int32 → kS → Option (Int32 × kS)) (st : kS) (v1 : Int32) : Option (Int32 × kS) := if (gI st 16) ≤ v1 then (K v1 st) else ((ka 720 (gA st 12) v1).bind (fun x_2 => (fX10_code 6 (gA st 5) st).bind (fun z_4 => if x_2 = z_4 then (if v1 < 0 ∨ 720 ≤ v1.toNatClampNeg then none else Gc (v1 + 1) (sA st 18 (upd (gA st 18) v1.toNatClampNeg 0))) else (if v1 < 0 ∨ 720 ≤ v1.toNatClampNeg then none else Gc (v1 + 1) (sA st 18 (upd (gA st 18) v1.toNatClampNeg 268435456))))))
set_option maxRecDepth 100000 in
set_option maxHeartbeats 4000000 in
theorem wX10_surelyNow_L2_B {G : kG} {E : kE} {a : Nat → Nat} (C : kOk G E cX10_surelyNow RX10 4 rmfX10_surelyNow) {z : Int32 × kS} (Zd : kEnd G E (0, 0) (some .int) (some (.int z.1)) (wM G a z.2)) {K Gc : Int32 → kS → Option (Int32 × kS)} (st : kS) (v1 : Int32) (hK : ∀ (u1 : Int32) (su : kS), K u1 su = some z → kX G E (0, 0) (wM G a su) 45 [(0, .ref (a 0))] []) (hG : ∀ (u1 : Int32) (su : kS), Gc u1 su = some z → kX G E (0, 0) (wM G a su) 2 [(0, .ref (a 0)), (1, .int u1)] []) (h : fX10_surelyNow_L2_B K Gc st v1 = some z) : kX G E (0, 0) (wM G a st) 2 [(0, .ref (a 0)), (1, .int v1)] [] := by
  unfold fX10_surelyNow_L2_B at h
  refine x_iload_n (pc := 2) C 1 dX10_surelyNow_2 rfl rfl ?_
  refine x_aload_n (pc := 3) C 0 dX10_surelyNow_3 rfl rfl ?_
  refine x_get (pc := 4) C inlX10 0 rfl rfl 29 (by decide) q15_10 (v := .int (gI st 16)) rfl dX10_surelyNow_4 ?_
  refine x_icmp_ge (pc := 7) C 45 dX10_surelyNow_7 (by decide) (fun c_1 => ?_) (fun c_1 => ?_)
  · have h := kIp c_1 h
    refine kX.pick [0] (lv' := [(0, .ref (a 0))]) rfl ?_
    exact hK v1 st h
  · have h := kIn c_1 h
    refine x_aload_n (pc := 10) C 0 dX10_surelyNow_10 rfl rfl ?_
    refine x_get (pc := 11) C inlX10 0 rfl rfl 36 (by decide) q6_8 (v := .ref (a 18)) rfl dX10_surelyNow_11 ?_
    refine x_iload_n (pc := 14) C 1 dX10_surelyNow_14 rfl rfl ?_
    refine x_aload_n (pc := 15) C 0 dX10_surelyNow_15 rfl rfl ?_
    refine x_get (pc := 16) C inlX10 0 rfl rfl 30 (by decide) q6_1 (v := .ref (a 12)) rfl dX10_surelyNow_16 ?_
    refine x_iload_n (pc := 19) C 1 dX10_surelyNow_19 rfl rfl ?_
    obtain ⟨x_2, hx_2, h⟩ := kB h
    obtain ⟨hi_3, hx_2⟩ := ka_some hx_2
    refine y_iald (pc := 20) C 12 (lwM_A12 G a rfl) hi_3 hx_2 dX10_surelyNow_20 ?_
    refine x_aload_n (pc := 21) C 0 dX10_surelyNow_21 rfl rfl ?_
    refine x_aload_n (pc := 22) C 0 dX10_surelyNow_22 rfl rfl ?_
    refine x_get (pc := 23) C inlX10 0 rfl rfl 7 (by decide) q5_16 (v := .ref (a 5)) rfl dX10_surelyNow_23 ?_
    obtain ⟨z_4, hz_4, h⟩ := kB h
    refine x_callV (pc := 26) C 0 [.ref (a 5)] rfl rfl (mX10_code G a (N := 6) (f := (gA st 5)) 5 (lwM_A5 G a rfl) (by decide) st hz_4) yvX10_code q16_7 ⟨Nat.le_of_ble_eq_true rfl, Nat.le_of_ble_eq_true rfl, rfl, rfl⟩ ⟨Nat.zero_le _, Nat.zero_le _⟩ rfl rfl (Nat.le_of_ble_eq_true rfl) rfl dX10_surelyNow_26 ?_
    refine x_icmp_ne (pc := 29) C 36 dX10_surelyNow_29 (by decide) (fun c_5 => ?_) (fun c_5 => ?_)
    · have h := kIn c_5 h
      refine x_ldc (pc := 36) C q32_8 dX10_surelyNow_36 ?_
      obtain ⟨hi_6, h⟩ := kGn h
      refine x_iast (pc := 38) C 18 (lwM_A18 G a rfl) hi_6 (swM_A18 G a _ _) dX10_surelyNow_38 ?_
      refine x_iinc (pc := 39) C 1 (v := v1 + 1) (lv' := [(1, .int (v1 + 1)), (0, .ref (a 0))]) dX10_surelyNow_39 rfl rfl (by decide) rfl ?_
      refine x_goto (pc := 42) C 2 dX10_surelyNow_42 (by decide) ?_
      refine kX.pick [1, 0] (lv' := [(0, .ref (a 0)), (1, .int (v1 + 1))]) rfl ?_
      exact hG (v1 + 1) (sA st 18 (upd (gA st 18) v1.toNatClampNeg 268435456)) h
    · have h := kIp c_5 h
      refine x_iconst (pc := 32) C 0 dX10_surelyNow_32 (by decide) ?_
      refine x_goto (pc := 33) C 38 dX10_surelyNow_33 (by decide) ?_
      obtain ⟨hi_7, h⟩ := kGn h
      refine x_iast (pc := 38) C 18 (lwM_A18 G a rfl) hi_7 (swM_A18 G a _ _) dX10_surelyNow_38 ?_
      refine x_iinc (pc := 39) C 1 (v := v1 + 1) (lv' := [(1, .int (v1 + 1)), (0, .ref (a 0))]) dX10_surelyNow_39 rfl rfl (by decide) rfl ?_
      refine x_goto (pc := 42) C 2 dX10_surelyNow_42 (by decide) ?_
      refine kX.pick [1, 0] (lv' := [(0, .ref (a 0)), (1, .int (v1 + 1))]) rfl ?_
      exact hG (v1 + 1) (sA st 18 (upd (gA st 18) v1.toNatClampNeg 0)) h
def fX10_surelyNow_L2 (K : Int32 → kS → Option (Int32 × kS)) : Nat → Int32 → kS → Option (Int32 × kS)
  | 0, _, _ => none
  | F + 1, v1, st => fX10_surelyNow_L2_B K (fX10_surelyNow_L2 K F) st v1
set_option maxRecDepth 100000 in
set_option maxHeartbeats 4000000 in
theorem wX10_surelyNow_L2 {G : kG} {E : kE} {a : Nat → Nat} (C : kOk G E cX10_surelyNow RX10 4 rmfX10_surelyNow) {z : Int32 × kS} (Zd : kEnd G E (0, 0) (some .int) (some (.int z.1)) (wM G a z.2)) {K : Int32 → kS → Option (Int32 × kS)} (hK : ∀ (u1 : Int32) (su : kS), K u1 su = some z → kX G E (0, 0) (wM G a su) 45 [(0, .ref (a 0))] []) : ∀ (F : Nat) (v1 : Int32) (st : kS), fX10_surelyNow_L2 K F v1 st = some z → kX G E (0, 0) (wM G a st) 2 [(0, .ref (a 0)), (1, .int v1)] [] := by
  intro F
  induction F with
  | zero =>
    intro v1 st h
    exact absurd (show none = some z from h) (fun q => by cases q)
  | succ F ih =>
    intro v1 st h
    exact wX10_surelyNow_L2_B  C Zd  st v1 hK (fun v1 st h => ih v1 st h) h
def fX10_surelyNow_L57_B (K : Int32 → Int32 → kS → Option (Int32 × kS)) (Gc : Int32 → Int32 → kS → Option (Int32 × kS)) (st : kS) (v1 : Int32) (v2 : Int32) (v3 : Int32) : Option (Int32 × kS) := if (gI st 16) ≤ v3 then (K v1 v3 st) else ((ka 720 (gA st 18) v3).bind (fun x_12 => if x_12 = 268435456 then ((fX10_isSure st v3 v2).bind (fun z_15 => if z_15 = 0 then (Gc v1 (v3 + 1) st) else (if v3 < 0 ∨ 720 ≤ v3.toNatClampNeg then none else Gc 1 (v3 + 1) (sA st 18 (upd (gA st 18) v3.toNatClampNeg v2))))) else (Gc v1 (v3 + 1) st)))
set_option maxRecDepth 100000 in
set_option maxHeartbeats 4000000 in
theorem wX10_surelyNow_L57_B {G : kG} {E : kE} {a : Nat → Nat} (C : kOk G E cX10_surelyNow RX10 4 rmfX10_surelyNow) {z : Int32 × kS} (Zd : kEnd G E (0, 0) (some .int) (some (.int z.1)) (wM G a z.2)) {K Gc : Int32 → Int32 → kS → Option (Int32 × kS)} (st : kS) (v1 : Int32) (v2 : Int32) (v3 : Int32) (hK : ∀ (u1 : Int32) (u3 : Int32) (su : kS), K u1 u3 su = some z → kX G E (0, 0) (wM G a su) 100 [(0, .ref (a 0)), (1, .int u1), (2, .int v2)] []) (hG : ∀ (u1 : Int32) (u3 : Int32) (su : kS), Gc u1 u3 su = some z → kX G E (0, 0) (wM G a su) 57 [(0, .ref (a 0)), (1, .int u1), (2, .int v2), (3, .int u3)] []) (h : fX10_surelyNow_L57_B K Gc st v1 v2 v3 = some z) : kX G E (0, 0) (wM G a st) 57 [(0, .ref (a 0)), (1, .int v1), (2, .int v2), (3, .int v3)] [] := by
  unfold fX10_surelyNow_L57_B at h
  refine x_iload_n (pc := 57) C 3 dX10_surelyNow_57 rfl rfl ?_
  refine x_aload_n (pc := 58) C 0 dX10_surelyNow_58 rfl rfl ?_
  refine x_get (pc := 59) C inlX10 0 rfl rfl 29 (by decide) q15_10 (v := .int (gI st 16)) rfl dX10_surelyNow_59 ?_
  refine x_icmp_ge (pc := 62) C 100 dX10_surelyNow_62 (by decide) (fun c_11 => ?_) (fun c_11 => ?_)
  · have h := kIp c_11 h
    refine kX.pick [0, 1, 2] (lv' := [(0, .ref (a 0)), (1, .int v1), (2, .int v2)]) rfl ?_
    exact hK v1 v3 st h
  · have h := kIn c_11 h
    refine x_aload_n (pc := 65) C 0 dX10_surelyNow_65 rfl rfl ?_
    refine x_get (pc := 66) C inlX10 0 rfl rfl 36 (by decide) q6_8 (v := .ref (a 18)) rfl dX10_surelyNow_66 ?_
    refine x_iload_n (pc := 69) C 3 dX10_surelyNow_69 rfl rfl ?_
    obtain ⟨x_12, hx_12, h⟩ := kB h
    obtain ⟨hi_13, hx_12⟩ := ka_some hx_12
    refine y_iald (pc := 70) C 18 (lwM_A18 G a rfl) hi_13 hx_12 dX10_surelyNow_70 ?_
    refine x_ldc (pc := 71) C q32_8 dX10_surelyNow_71 ?_
    refine x_icmp_ne (pc := 73) C 94 dX10_surelyNow_73 (by decide) (fun c_14 => ?_) (fun c_14 => ?_)
    · have h := kIn c_14 h
      refine x_iinc (pc := 94) C 3 (v := v3 + 1) (lv' := [(3, .int (v3 + 1)), (0, .ref (a 0)), (1, .int v1), (2, .int v2)]) dX10_surelyNow_94 rfl rfl (by decide) rfl ?_
      refine x_goto (pc := 97) C 57 dX10_surelyNow_97 (by decide) ?_
      refine kX.pick [1, 2, 3, 0] (lv' := [(0, .ref (a 0)), (1, .int v1), (2, .int v2), (3, .int (v3 + 1))]) rfl ?_
      exact hG v1 (v3 + 1) st h
    · have h := kIp c_14 h
      refine x_aload_n (pc := 76) C 0 dX10_surelyNow_76 rfl rfl ?_
      refine x_iload_n (pc := 77) C 3 dX10_surelyNow_77 rfl rfl ?_
      refine x_iload_n (pc := 78) C 2 dX10_surelyNow_78 rfl rfl ?_
      obtain ⟨z_15, hz_15, h⟩ := kB h
      refine x_callV (pc := 79) C 0 [.int v3, .int v2] rfl rfl (mX10_isSure G a st v3 v2 hz_15) yvX10_isSure q33_11 ⟨Nat.le_of_ble_eq_true rfl, Nat.le_of_ble_eq_true rfl, rfl, rfl⟩ ⟨Nat.zero_le _, Nat.zero_le _⟩ rfl rfl (Nat.le_of_ble_eq_true rfl) rfl dX10_surelyNow_79 ?_
      refine x_if_eq (pc := 82) C 94 dX10_surelyNow_82 (by decide) (fun c_16 => ?_) (fun c_16 => ?_)
      · have h := kIp c_16 h
        refine x_iinc (pc := 94) C 3 (v := v3 + 1) (lv' := [(3, .int (v3 + 1)), (0, .ref (a 0)), (1, .int v1), (2, .int v2)]) dX10_surelyNow_94 rfl rfl (by decide) rfl ?_
        refine x_goto (pc := 97) C 57 dX10_surelyNow_97 (by decide) ?_
        refine kX.pick [1, 2, 3, 0] (lv' := [(0, .ref (a 0)), (1, .int v1), (2, .int v2), (3, .int (v3 + 1))]) rfl ?_
        exact hG v1 (v3 + 1) st h
      · have h := kIn c_16 h
        refine x_aload_n (pc := 85) C 0 dX10_surelyNow_85 rfl rfl ?_
        refine x_get (pc := 86) C inlX10 0 rfl rfl 36 (by decide) q6_8 (v := .ref (a 18)) rfl dX10_surelyNow_86 ?_
        refine x_iload_n (pc := 89) C 3 dX10_surelyNow_89 rfl rfl ?_
        refine x_iload_n (pc := 90) C 2 dX10_surelyNow_90 rfl rfl ?_
        obtain ⟨hi_17, h⟩ := kGn h
        refine x_iast (pc := 91) C 18 (lwM_A18 G a rfl) hi_17 (swM_A18 G a _ _) dX10_surelyNow_91 ?_
        refine x_iconst (pc := 92) C 1 dX10_surelyNow_92 (by decide) ?_
        refine x_istore_n (pc := 93) C (lv' := [(1, .int 1), (0, .ref (a 0)), (2, .int v2), (3, .int v3)]) dX10_surelyNow_93 rfl (by decide) rfl ?_
        refine x_iinc (pc := 94) C 3 (v := v3 + 1) (lv' := [(3, .int (v3 + 1)), (1, .int 1), (0, .ref (a 0)), (2, .int v2)]) dX10_surelyNow_94 rfl rfl (by decide) rfl ?_
        refine x_goto (pc := 97) C 57 dX10_surelyNow_97 (by decide) ?_
        refine kX.pick [2, 1, 3, 0] (lv' := [(0, .ref (a 0)), (1, .int 1), (2, .int v2), (3, .int (v3 + 1))]) rfl ?_
        exact hG 1 (v3 + 1) (sA st 18 (upd (gA st 18) v3.toNatClampNeg v2)) h
def fX10_surelyNow_L57 (K : Int32 → Int32 → kS → Option (Int32 × kS)) (v2 : Int32) : Nat → Int32 → Int32 → kS → Option (Int32 × kS)
  | 0, _, _, _ => none
  | F + 1, v1, v3, st => fX10_surelyNow_L57_B K (fX10_surelyNow_L57 K v2 F) st v1 v2 v3
set_option maxRecDepth 100000 in
set_option maxHeartbeats 4000000 in
theorem wX10_surelyNow_L57 {G : kG} {E : kE} {a : Nat → Nat} (C : kOk G E cX10_surelyNow RX10 4 rmfX10_surelyNow) {z : Int32 × kS} (Zd : kEnd G E (0, 0) (some .int) (some (.int z.1)) (wM G a z.2)) {K : Int32 → Int32 → kS → Option (Int32 × kS)} (v2 : Int32) (hK : ∀ (u1 : Int32) (u3 : Int32) (su : kS), K u1 u3 su = some z → kX G E (0, 0) (wM G a su) 100 [(0, .ref (a 0)), (1, .int u1), (2, .int v2)] []) : ∀ (F : Nat) (v1 : Int32) (v3 : Int32) (st : kS), fX10_surelyNow_L57 K v2 F v1 v3 st = some z → kX G E (0, 0) (wM G a st) 57 [(0, .ref (a 0)), (1, .int v1), (2, .int v2), (3, .int v3)] [] := by
  intro F
  induction F with
  | zero =>
    intro v1 v3 st h
    exact absurd (show none = some z from h) (fun q => by cases q)
  | succ F ih =>
    intro v1 v3 st h
    exact wX10_surelyNow_L57_B  C Zd  st v1 v2 v3 hK (fun v1 v3 st h => ih v1 v3 st h) h
def fX10_surelyNow_L49_B (K : Int32 → Int32 → kS → Option (Int32 × kS)) (Gc : Int32 → Int32 → kS → Option (Int32 × kS)) (st : kS) (v1 : Int32) (v2 : Int32) : Option (Int32 × kS) := if v1 = 0 then (K v1 v2 st) else (fX10_surelyNow_L57 (fun v1_18 v3_19 st_20 => Gc v1_18 (v2 + 1) st_20) v2 kFU 0 0 st)
set_option maxRecDepth 100000 in
set_option maxHeartbeats 4000000 in
theorem wX10_surelyNow_L49_B {G : kG} {E : kE} {a : Nat → Nat} (C : kOk G E cX10_surelyNow RX10 4 rmfX10_surelyNow) {z : Int32 × kS} (Zd : kEnd G E (0, 0) (some .int) (some (.int z.1)) (wM G a z.2)) {K Gc : Int32 → Int32 → kS → Option (Int32 × kS)} (st : kS) (v1 : Int32) (v2 : Int32) (hK : ∀ (u1 : Int32) (u2 : Int32) (su : kS), K u1 u2 su = some z → kX G E (0, 0) (wM G a su) 106 [(0, .ref (a 0))] []) (hG : ∀ (u1 : Int32) (u2 : Int32) (su : kS), Gc u1 u2 su = some z → kX G E (0, 0) (wM G a su) 49 [(0, .ref (a 0)), (1, .int u1), (2, .int u2)] []) (h : fX10_surelyNow_L49_B K Gc st v1 v2 = some z) : kX G E (0, 0) (wM G a st) 49 [(0, .ref (a 0)), (1, .int v1), (2, .int v2)] [] := by
  unfold fX10_surelyNow_L49_B at h
  refine x_iload_n (pc := 49) C 1 dX10_surelyNow_49 rfl rfl ?_
  refine x_if_eq (pc := 50) C 106 dX10_surelyNow_50 (by decide) (fun c_10 => ?_) (fun c_10 => ?_)
  · have h := kIp c_10 h
    refine kX.pick [0] (lv' := [(0, .ref (a 0))]) rfl ?_
    exact hK v1 v2 st h
  · have h := kIn c_10 h
    refine x_iconst (pc := 53) C 0 dX10_surelyNow_53 (by decide) ?_
    refine x_istore_n (pc := 54) C (lv' := [(1, .int 0), (0, .ref (a 0)), (2, .int v2)]) dX10_surelyNow_54 rfl (by decide) rfl ?_
    refine x_iconst (pc := 55) C 0 dX10_surelyNow_55 (by decide) ?_
    refine x_istore_n (pc := 56) C (lv' := [(3, .int 0), (1, .int 0), (0, .ref (a 0)), (2, .int v2)]) dX10_surelyNow_56 rfl (by decide) rfl ?_
    refine kX.pick [2, 1, 3, 0] (lv' := [(0, .ref (a 0)), (1, .int 0), (2, .int v2), (3, .int 0)]) rfl ?_
    refine wX10_surelyNow_L57  C Zd  v2 (fun v1_18 v3_19 st_20 h => ?_) kFU 0 0 st h
    refine x_iinc (pc := 100) C 2 (v := v2 + 1) (lv' := [(2, .int (v2 + 1)), (0, .ref (a 0)), (1, .int v1_18)]) dX10_surelyNow_100 rfl rfl (by decide) rfl ?_
    refine x_goto (pc := 103) C 49 dX10_surelyNow_103 (by decide) ?_
    refine kX.pick [1, 2, 0] (lv' := [(0, .ref (a 0)), (1, .int v1_18), (2, .int (v2 + 1))]) rfl ?_
    exact hG v1_18 (v2 + 1) st_20 h
def fX10_surelyNow_L49 (K : Int32 → Int32 → kS → Option (Int32 × kS)) : Nat → Int32 → Int32 → kS → Option (Int32 × kS)
  | 0, _, _, _ => none
  | F + 1, v1, v2, st => fX10_surelyNow_L49_B K (fX10_surelyNow_L49 K F) st v1 v2
set_option maxRecDepth 100000 in
set_option maxHeartbeats 4000000 in
theorem wX10_surelyNow_L49 {G : kG} {E : kE} {a : Nat → Nat} (C : kOk G E cX10_surelyNow RX10 4 rmfX10_surelyNow) {z : Int32 × kS} (Zd : kEnd G E (0, 0) (some .int) (some (.int z.1)) (wM G a z.2)) {K : Int32 → Int32 → kS → Option (Int32 × kS)} (hK : ∀ (u1 : Int32) (u2 : Int32) (su : kS), K u1 u2 su = some z → kX G E (0, 0) (wM G a su) 106 [(0, .ref (a 0))] []) : ∀ (F : Nat) (v1 : Int32) (v2 : Int32) (st : kS), fX10_surelyNow_L49 K F v1 v2 st = some z → kX G E (0, 0) (wM G a st) 49 [(0, .ref (a 0)), (1, .int v1), (2, .int v2)] [] := by
  intro F
  induction F with
  | zero =>
    intro v1 v2 st h
    exact absurd (show none = some z from h) (fun q => by cases q)
  | succ F ih =>
    intro v1 v2 st h
    exact wX10_surelyNow_L49_B  C Zd  st v1 v2 hK (fun v1 v2 st h => ih v1 v2 st h) h
def fX10_surelyNow (st : kS) : Option (Int32 × kS) := fX10_surelyNow_L2 (fun v1_8 st_9 => fX10_surelyNow_L49 (fun v1_21 v2_22 st_23 => (fX10_indexNow st_23).bind (fun z_24 => (ka 720 (gA st_23 18) z_24).bind (fun x_25 => if x_25 = 268435456 then (some ((-1), st_23)) else (some (x_25, st_23))))) kFU 1 1 st_9) kFU 0 st
set_option maxRecDepth 100000 in
set_option maxHeartbeats 4000000 in
theorem wX10_surelyNow {G : kG} {E : kE} {a : Nat → Nat} (C : kOk G E cX10_surelyNow RX10 4 rmfX10_surelyNow) {z : Int32 × kS} (Zd : kEnd G E (0, 0) (some .int) (some (.int z.1)) (wM G a z.2)) (st : kS) (h : fX10_surelyNow st = some z) : kX G E (0, 0) (wM G a st) 0 [(0, .ref (a 0))] [] := by
  unfold fX10_surelyNow at h
  refine x_iconst (pc := 0) C 0 dX10_surelyNow_0 (by decide) ?_
  refine x_istore_n (pc := 1) C (lv' := [(1, .int 0), (0, .ref (a 0))]) dX10_surelyNow_1 rfl (by decide) rfl ?_
  refine kX.pick [1, 0] (lv' := [(0, .ref (a 0)), (1, .int 0)]) rfl ?_
  refine wX10_surelyNow_L2  C Zd   (fun v1_8 st_9 h => ?_) kFU 0 st h
  refine x_iconst (pc := 45) C 1 dX10_surelyNow_45 (by decide) ?_
  refine x_istore_n (pc := 46) C (lv' := [(1, .int 1), (0, .ref (a 0))]) dX10_surelyNow_46 rfl (by decide) rfl ?_
  refine x_iconst (pc := 47) C 1 dX10_surelyNow_47 (by decide) ?_
  refine x_istore_n (pc := 48) C (lv' := [(2, .int 1), (1, .int 1), (0, .ref (a 0))]) dX10_surelyNow_48 rfl (by decide) rfl ?_
  refine kX.pick [2, 1, 0] (lv' := [(0, .ref (a 0)), (1, .int 1), (2, .int 1)]) rfl ?_
  refine wX10_surelyNow_L49  C Zd   (fun v1_21 v2_22 st_23 h => ?_) kFU 1 1 st_9 h
  refine x_aload_n (pc := 106) C 0 dX10_surelyNow_106 rfl rfl ?_
  refine x_get (pc := 107) C inlX10 0 rfl rfl 36 (by decide) q6_8 (v := .ref (a 18)) rfl dX10_surelyNow_107 ?_
  refine x_aload_n (pc := 110) C 0 dX10_surelyNow_110 rfl rfl ?_
  obtain ⟨z_24, hz_24, h⟩ := kB h
  refine x_callV (pc := 111) C 0 [] rfl rfl (mX10_indexNow G a st_23 hz_24) yvX10_indexNow q25_22 ⟨Nat.le_of_ble_eq_true rfl, Nat.le_of_ble_eq_true rfl, rfl, rfl⟩ ⟨Nat.zero_le _, Nat.zero_le _⟩ rfl rfl (Nat.le_of_ble_eq_true rfl) rfl dX10_surelyNow_111 ?_
  obtain ⟨x_25, hx_25, h⟩ := kB h
  obtain ⟨hi_26, hx_25⟩ := ka_some hx_25
  refine y_iald (pc := 114) C 18 (lwM_A18 G a rfl) hi_26 hx_25 dX10_surelyNow_114 ?_
  refine x_istore_n (pc := 115) C (lv' := [(2, .int x_25), (0, .ref (a 0))]) dX10_surelyNow_115 rfl (by decide) rfl ?_
  refine x_iload_n (pc := 116) C 0 dX10_surelyNow_116 rfl rfl ?_
  refine x_ldc (pc := 117) C q32_8 dX10_surelyNow_117 ?_
  refine x_icmp_ne (pc := 119) C 126 dX10_surelyNow_119 (by decide) (fun c_27 => ?_) (fun c_27 => ?_)
  · have h := kIn c_27 h
    refine x_iload_n (pc := 126) C 0 dX10_surelyNow_126 rfl rfl ?_
    obtain rfl := Option.some.inj h
    exact x_iret (pc := 127) C Zd dX10_surelyNow_127
  · have h := kIp c_27 h
    refine x_iconst (pc := 122) C (-1) dX10_surelyNow_122 (by decide) ?_
    refine x_goto (pc := 123) C 127 dX10_surelyNow_123 (by decide) ?_
    obtain rfl := Option.some.inj h
    exact x_iret (pc := 127) C Zd dX10_surelyNow_127
set_option maxRecDepth 100000 in
theorem mX10_surelyNow (G : kG) (a : Nat → Nat) (st : kS)  {z : Int32 × kS} (h : fX10_surelyNow st = some z) : kMet G yX10_surelyNow cX10_surelyNow 4 (some .int) rmfX10_surelyNow (0, 0) [.ref (a 0)] (wM G a st) (some (.int z.1)) (wM G a z.2) := kMet.mk (by decide +kernel) (Nat.le_of_ble_eq_true rfl) (fun E C Zd => wX10_surelyNow  C Zd  st  h)
theorem yvX10_surely : kYV yX10_surely RX10 cX10_surely 1 (some .int) 0 := ⟨q33_4, q33_5, q1_5, q33_6, by decide +kernel⟩
abbrev rmfX10_surely : Room := { frames := 3, cells := 0, slots := 0, locals := 71 }
def fX10_surely (st : kS) : Option (Int32 × kS) := if (gI st 3) = 0 then (some ((-103), st)) else ((fX10_surelyNow st).bind (fun z_2 => some (z_2.1, z_2.2)))
set_option maxRecDepth 100000 in
set_option maxHeartbeats 4000000 in
theorem wX10_surely {G : kG} {E : kE} {a : Nat → Nat} (C : kOk G E cX10_surely RX10 1 rmfX10_surely) {z : Int32 × kS} (Zd : kEnd G E (0, 0) (some .int) (some (.int z.1)) (wM G a z.2)) (st : kS) (h : fX10_surely st = some z) : kX G E (0, 0) (wM G a st) 0 [(0, .ref (a 0))] [] := by
  unfold fX10_surely at h
  refine x_aload_n (pc := 0) C 0 dX10_surely_0 rfl rfl ?_
  refine x_get (pc := 1) C inlX10 0 rfl rfl 8 (by decide) q15_4 (v := .int (gI st 3)) rfl dX10_surely_1 ?_
  refine x_if_eq (pc := 4) C 14 dX10_surely_4 (by decide) (fun c_1 => ?_) (fun c_1 => ?_)
  · have h := kIp c_1 h
    refine x_bipush (pc := 14) C (-103) dX10_surely_14 (by decide) ?_
    obtain rfl := Option.some.inj h
    exact x_iret (pc := 16) C Zd dX10_surely_16
  · have h := kIn c_1 h
    refine x_aload_n (pc := 7) C 0 dX10_surely_7 rfl rfl ?_
    obtain ⟨z_2, hz_2, h⟩ := kB h
    refine x_callV (pc := 8) C 0 [] rfl rfl (mX10_surelyNow G a st hz_2) yvX10_surelyNow q33_7 ⟨Nat.le_of_ble_eq_true rfl, Nat.le_of_ble_eq_true rfl, rfl, rfl⟩ ⟨Nat.zero_le _, Nat.zero_le _⟩ rfl rfl (Nat.le_of_ble_eq_true rfl) rfl dX10_surely_8 ?_
    refine x_goto (pc := 11) C 16 dX10_surely_11 (by decide) ?_
    obtain rfl := Option.some.inj h
    exact x_iret (pc := 16) C Zd dX10_surely_16
set_option maxRecDepth 100000 in
theorem mX10_surely (G : kG) (a : Nat → Nat) (st : kS)  {z : Int32 × kS} (h : fX10_surely st = some z) : kMet G yX10_surely cX10_surely 1 (some .int) rmfX10_surely (0, 0) [.ref (a 0)] (wM G a st) (some (.int z.1)) (wM G a z.2) := kMet.mk (by decide +kernel) (Nat.le_of_ble_eq_true rfl) (fun E C Zd => wX10_surely  C Zd  st  h)
theorem yvX10_isStillPlace : kYV yX10_isStillPlace RX10 cX10_isStillPlace 2 (some .boolean) 1 := ⟨q34_21, q34_22, q1_5, q34_23, by decide +kernel⟩
abbrev rmfX10_isStillPlace : Room := { frames := 1, cells := 0, slots := 0, locals := 21 }
def fX10_isStillPlace (st : kS) (x1 : Int32) : Option (Int32) := (ka 6 (gA st 3) x1).bind (fun x_1 => (fX10_isStill st x_1).bind (fun z_3 => if ¬ (z_3 = 0 ∨ z_3 = 1) then none else some z_3))
set_option maxRecDepth 100000 in
set_option maxHeartbeats 4000000 in
theorem wX10_isStillPlace {G : kG} {E : kE} {a : Nat → Nat} {st0 : kS} (C : kOk G E cX10_isStillPlace RX10 2 rmfX10_isStillPlace) {z : Int32} (Zd : kEnd G E (0, 0) (some .boolean) (some (.int z)) (wM G a st0)) (x1 : Int32) (h : fX10_isStillPlace st0 x1 = some z) : kX G E (0, 0) (wM G a st0) 0 [(0, .ref (a 0)), (1, .int x1)] [] := by
  unfold fX10_isStillPlace at h
  refine x_aload_n (pc := 0) C 0 dX10_isStillPlace_0 rfl rfl ?_
  refine x_aload_n (pc := 1) C 0 dX10_isStillPlace_1 rfl rfl ?_
  refine x_get (pc := 2) C inlX10 0 rfl rfl 4 (by decide) q5_14 (v := .ref (a 3)) rfl dX10_isStillPlace_2 ?_
  refine x_iload_n (pc := 5) C 1 dX10_isStillPlace_5 rfl rfl ?_
  obtain ⟨x_1, hx_1, h⟩ := kB h
  obtain ⟨hi_2, hx_1⟩ := ka_some hx_1
  refine y_iald (pc := 6) C 3 (lwM_A3 G a rfl) hi_2 hx_1 dX10_isStillPlace_6 ?_
  obtain ⟨z_3, hz_3, h⟩ := kB h
  refine x_callV (pc := 7) C 0 [.int x_1] rfl rfl (mX10_isStill G a st0 x_1 hz_3) yvX10_isStill q15_23 ⟨Nat.le_of_ble_eq_true rfl, Nat.le_of_ble_eq_true rfl, rfl, rfl⟩ ⟨Nat.zero_le _, Nat.zero_le _⟩ rfl rfl (Nat.le_of_ble_eq_true rfl) rfl dX10_isStillPlace_7 ?_
  obtain ⟨c_4, h⟩ := kGn h
  obtain rfl := Option.some.inj h
  exact x_zret (pc := 10) C (kBn c_4) Zd dX10_isStillPlace_10
set_option maxRecDepth 100000 in
theorem mX10_isStillPlace (G : kG) (a : Nat → Nat) (st : kS) (x1 : Int32) {z : Int32} (h : fX10_isStillPlace st x1 = some z) : kMet G yX10_isStillPlace cX10_isStillPlace 2 (some .boolean) rmfX10_isStillPlace (0, 0) [.ref (a 0), .int x1] (wM G a st) (some (.int z)) (wM G a st) := kMet.mk (by decide +kernel) (Nat.le_of_ble_eq_true rfl) (fun E C Zd => wX10_isStillPlace  C Zd  x1 h)
