theorem yvX10_areBeside : kYV yX10_areBeside RX10 cX10_areBeside 5 (some .boolean) 3 := ⟨q20_3, q20_4, q1_5, q20_5, by decide +kernel⟩
abbrev rmfX10_areBeside : Room := { frames := 1, cells := 0, slots := 0, locals := 23 }
def fX10_areBeside (N1 : Nat) (f1 : Nat → Int32) (st : kS) (x2 : Int32) (x3 : Int32) : Option (Int32) := (fX10_placeIn N1 f1 st x2).bind (fun z_1 => (fX10_placeIn N1 f1 st x3).bind (fun z_2 => if (z_1 - z_2) = 1 then (some 1) else (if (z_1 - z_2) = (-1) then (some 1) else (if (z_1 - z_2) = ((gI st 0) - 1) then (some 1) else (if (z_1 - z_2) = (1 - (gI st 0)) then (some 1) else (some 0))))))
set_option maxRecDepth 100000 in
set_option maxHeartbeats 4000000 in
theorem wX10_areBeside {G : kG} {E : kE} {a : Nat → Nat} {st0 : kS} {q1 a1 N1 : Nat} {f1 : Nat → Int32} (hN1 : N1 < 2 ^ 31) (C : kOk G E cX10_areBeside RX10 5 rmfX10_areBeside) {z : Int32} (Zd : kEnd G E (0, 0) (some .boolean) (some (.int z)) (wM G a st0)) (hq1 : (wM G a st0)[q1]? = some (a1, .inl (G.2.1, N1, .inl f1))) (x2 : Int32) (x3 : Int32) (h : fX10_areBeside N1 f1 st0 x2 x3 = some z) : kX G E (0, 0) (wM G a st0) 0 [(0, .ref (a 0)), (1, .ref a1), (2, .int x2), (3, .int x3)] [] := by
  unfold fX10_areBeside at h
  refine x_aload_n (pc := 0) C 0 dX10_areBeside_0 rfl rfl ?_
  refine x_aload_n (pc := 1) C 1 dX10_areBeside_1 rfl rfl ?_
  refine x_iload_n (pc := 2) C 2 dX10_areBeside_2 rfl rfl ?_
  obtain ⟨z_1, hz_1, h⟩ := kB h
  refine x_callV (pc := 3) C 0 [.ref a1, .int x2] rfl rfl (mX10_placeIn G a (N := N1) (f := f1) q1 hq1 hN1 st0 x2 hz_1) yvX10_placeIn q19_18 ⟨Nat.le_of_ble_eq_true rfl, Nat.le_of_ble_eq_true rfl, rfl, rfl⟩ ⟨Nat.zero_le _, Nat.zero_le _⟩ rfl rfl (Nat.le_of_ble_eq_true rfl) rfl dX10_areBeside_3 ?_
  refine x_aload_n (pc := 6) C 0 dX10_areBeside_6 rfl rfl ?_
  refine x_aload_n (pc := 7) C 1 dX10_areBeside_7 rfl rfl ?_
  refine x_iload_n (pc := 8) C 3 dX10_areBeside_8 rfl rfl ?_
  obtain ⟨z_2, hz_2, h⟩ := kB h
  refine x_callV (pc := 9) C 0 [.ref a1, .int x3] rfl rfl (mX10_placeIn G a (N := N1) (f := f1) q1 hq1 hN1 st0 x3 hz_2) yvX10_placeIn q19_18 ⟨Nat.le_of_ble_eq_true rfl, Nat.le_of_ble_eq_true rfl, rfl, rfl⟩ ⟨Nat.zero_le _, Nat.zero_le _⟩ rfl rfl (Nat.le_of_ble_eq_true rfl) rfl dX10_areBeside_9 ?_
  refine x_isub (pc := 12) C dX10_areBeside_12 ?_
  refine x_istore (pc := 13) C (lv' := [(4, .int (z_1 - z_2)), (0, .ref (a 0)), (1, .ref a1), (2, .int x2), (3, .int x3)]) dX10_areBeside_13 (by decide) rfl ?_
  refine x_iload (pc := 15) C 0 dX10_areBeside_15 rfl ?_
  refine x_iconst (pc := 17) C 1 dX10_areBeside_17 (by decide) ?_
  refine x_icmp_eq (pc := 18) C 49 dX10_areBeside_18 (by decide) (fun c_3 => ?_) (fun c_3 => ?_)
  · have h := kIp c_3 h
    refine x_iconst (pc := 49) C 1 dX10_areBeside_49 (by decide) ?_
    refine x_goto (pc := 50) C 54 dX10_areBeside_50 (by decide) ?_
    obtain rfl := Option.some.inj h
    exact x_zret (pc := 54) C rfl Zd dX10_areBeside_54
  · have h := kIn c_3 h
    refine x_iload (pc := 21) C 0 dX10_areBeside_21 rfl ?_
    refine x_iconst (pc := 23) C (-1) dX10_areBeside_23 (by decide) ?_
    refine x_icmp_eq (pc := 24) C 49 dX10_areBeside_24 (by decide) (fun c_4 => ?_) (fun c_4 => ?_)
    · have h := kIp c_4 h
      refine x_iconst (pc := 49) C 1 dX10_areBeside_49 (by decide) ?_
      refine x_goto (pc := 50) C 54 dX10_areBeside_50 (by decide) ?_
      obtain rfl := Option.some.inj h
      exact x_zret (pc := 54) C rfl Zd dX10_areBeside_54
    · have h := kIn c_4 h
      refine x_iload (pc := 27) C 0 dX10_areBeside_27 rfl ?_
      refine x_aload_n (pc := 29) C 1 dX10_areBeside_29 rfl rfl ?_
      refine x_get (pc := 30) C inlX10 0 rfl rfl 0 (by decide) q15_2 (v := .int (gI st0 0)) rfl dX10_areBeside_30 ?_
      refine x_iconst (pc := 33) C 1 dX10_areBeside_33 (by decide) ?_
      refine x_isub (pc := 34) C dX10_areBeside_34 ?_
      refine x_icmp_eq (pc := 35) C 49 dX10_areBeside_35 (by decide) (fun c_5 => ?_) (fun c_5 => ?_)
      · have h := kIp c_5 h
        refine x_iconst (pc := 49) C 1 dX10_areBeside_49 (by decide) ?_
        refine x_goto (pc := 50) C 54 dX10_areBeside_50 (by decide) ?_
        obtain rfl := Option.some.inj h
        exact x_zret (pc := 54) C rfl Zd dX10_areBeside_54
      · have h := kIn c_5 h
        refine x_iload (pc := 38) C 0 dX10_areBeside_38 rfl ?_
        refine x_iconst (pc := 40) C 1 dX10_areBeside_40 (by decide) ?_
        refine x_aload_n (pc := 41) C 1 dX10_areBeside_41 rfl rfl ?_
        refine x_get (pc := 42) C inlX10 0 rfl rfl 0 (by decide) q15_2 (v := .int (gI st0 0)) rfl dX10_areBeside_42 ?_
        refine x_isub (pc := 45) C dX10_areBeside_45 ?_
        refine x_icmp_ne (pc := 46) C 53 dX10_areBeside_46 (by decide) (fun c_6 => ?_) (fun c_6 => ?_)
        · have h := kIn c_6 h
          refine x_iconst (pc := 53) C 0 dX10_areBeside_53 (by decide) ?_
          obtain rfl := Option.some.inj h
          exact x_zret (pc := 54) C rfl Zd dX10_areBeside_54
        · have h := kIp c_6 h
          refine x_iconst (pc := 49) C 1 dX10_areBeside_49 (by decide) ?_
          refine x_goto (pc := 50) C 54 dX10_areBeside_50 (by decide) ?_
          obtain rfl := Option.some.inj h
          exact x_zret (pc := 54) C rfl Zd dX10_areBeside_54
set_option maxRecDepth 100000 in
theorem mX10_areBeside (G : kG) (a : Nat → Nat) {st : kS} {a1 : Nat} {N : Nat} {f : Nat → Int32} (q1 : Nat) (hq1 : (wM G a st)[q1]? = some (a1, .inl (G.2.1, N, .inl f))) (hN1 : N < 2 ^ 31) (_ : kS) (x2 : Int32) (x3 : Int32) {z : Int32} (h : fX10_areBeside N f st x2 x3 = some z) : kMet G yX10_areBeside cX10_areBeside 5 (some .boolean) rmfX10_areBeside (0, 0) [.ref (a 0), .ref a1, .int x2, .int x3] (wM G a st) (some (.int z)) (wM G a st) := kMet.mk (by decide +kernel) (Nat.le_of_ble_eq_true rfl) (fun E C Zd => wX10_areBeside hN1 C Zd hq1 x2 x3 h)
theorem yvX10_betweenBoth : kYV yX10_betweenBoth RX10 cX10_betweenBoth 4 (some .int) 0 := ⟨q19_23, q20_0, q1_5, q20_1, by decide +kernel⟩
abbrev rmfX10_betweenBoth : Room := { frames := 2, cells := 0, slots := 0, locals := 47 }
def fX10_betweenBoth_L6_B (K : Int32 → Int32 → Int32 → Option (Int32)) (Gc : Int32 → Int32 → Int32 → Option (Int32)) (st : kS) (v1 : Int32) (v2 : Int32) (v3 : Int32) : Option (Int32) := if (gI st 0) ≤ v3 then (K v1 v2 v3) else (if v3 = (gI st 14) then (Gc v1 v2 (v3 + 1)) else (if v3 = (gI st 15) then (Gc v1 v2 (v3 + 1)) else ((fX10_areBeside 6 (gA st 3) st v3 (gI st 14)).bind (fun z_4 => if z_4 = 0 then (Gc v1 v2 (v3 + 1)) else ((fX10_areBeside 6 (gA st 3) st v3 (gI st 15)).bind (fun z_6 => if z_6 = 0 then (Gc v1 v2 (v3 + 1)) else (Gc v3 (v2 + 1) (v3 + 1))))))))
set_option maxRecDepth 100000 in
set_option maxHeartbeats 4000000 in
theorem wX10_betweenBoth_L6_B {G : kG} {E : kE} {a : Nat → Nat} {st0 : kS} (C : kOk G E cX10_betweenBoth RX10 4 rmfX10_betweenBoth) {z : Int32} (Zd : kEnd G E (0, 0) (some .int) (some (.int z)) (wM G a st0)) {K Gc : Int32 → Int32 → Int32 → Option (Int32)} (v1 : Int32) (v2 : Int32) (v3 : Int32) (hK : ∀ (u1 : Int32) (u2 : Int32) (u3 : Int32), K u1 u2 u3 = some z → kX G E (0, 0) (wM G a st0) 73 [(1, .int u1), (2, .int u2)] []) (hG : ∀ (u1 : Int32) (u2 : Int32) (u3 : Int32), Gc u1 u2 u3 = some z → kX G E (0, 0) (wM G a st0) 6 [(0, .ref (a 0)), (1, .int u1), (2, .int u2), (3, .int u3)] []) (h : fX10_betweenBoth_L6_B K Gc st0 v1 v2 v3 = some z) : kX G E (0, 0) (wM G a st0) 6 [(0, .ref (a 0)), (1, .int v1), (2, .int v2), (3, .int v3)] [] := by
  unfold fX10_betweenBoth_L6_B at h
  refine x_iload_n (pc := 6) C 3 dX10_betweenBoth_6 rfl rfl ?_
  refine x_aload_n (pc := 7) C 0 dX10_betweenBoth_7 rfl rfl ?_
  refine x_get (pc := 8) C inlX10 0 rfl rfl 0 (by decide) q15_2 (v := .int (gI st0 0)) rfl dX10_betweenBoth_8 ?_
  refine x_icmp_ge (pc := 11) C 73 dX10_betweenBoth_11 (by decide) (fun c_1 => ?_) (fun c_1 => ?_)
  · have h := kIp c_1 h
    refine kX.pick [1, 2] (lv' := [(1, .int v1), (2, .int v2)]) rfl ?_
    exact hK v1 v2 v3 h
  · have h := kIn c_1 h
    refine x_iload_n (pc := 14) C 3 dX10_betweenBoth_14 rfl rfl ?_
    refine x_aload_n (pc := 15) C 0 dX10_betweenBoth_15 rfl rfl ?_
    refine x_get (pc := 16) C inlX10 0 rfl rfl 27 (by decide) q11_5 (v := .int (gI st0 14)) rfl dX10_betweenBoth_16 ?_
    refine x_icmp_eq (pc := 19) C 67 dX10_betweenBoth_19 (by decide) (fun c_2 => ?_) (fun c_2 => ?_)
    · have h := kIp c_2 h
      refine x_iinc (pc := 67) C 3 (v := v3 + 1) (lv' := [(3, .int (v3 + 1)), (0, .ref (a 0)), (1, .int v1), (2, .int v2)]) dX10_betweenBoth_67 rfl rfl (by decide) rfl ?_
      refine x_goto (pc := 70) C 6 dX10_betweenBoth_70 (by decide) ?_
      refine kX.pick [1, 2, 3, 0] (lv' := [(0, .ref (a 0)), (1, .int v1), (2, .int v2), (3, .int (v3 + 1))]) rfl ?_
      exact hG v1 v2 (v3 + 1) h
    · have h := kIn c_2 h
      refine x_iload_n (pc := 22) C 3 dX10_betweenBoth_22 rfl rfl ?_
      refine x_aload_n (pc := 23) C 0 dX10_betweenBoth_23 rfl rfl ?_
      refine x_get (pc := 24) C inlX10 0 rfl rfl 28 (by decide) q11_6 (v := .int (gI st0 15)) rfl dX10_betweenBoth_24 ?_
      refine x_icmp_eq (pc := 27) C 67 dX10_betweenBoth_27 (by decide) (fun c_3 => ?_) (fun c_3 => ?_)
      · have h := kIp c_3 h
        refine x_iinc (pc := 67) C 3 (v := v3 + 1) (lv' := [(3, .int (v3 + 1)), (0, .ref (a 0)), (1, .int v1), (2, .int v2)]) dX10_betweenBoth_67 rfl rfl (by decide) rfl ?_
        refine x_goto (pc := 70) C 6 dX10_betweenBoth_70 (by decide) ?_
        refine kX.pick [1, 2, 3, 0] (lv' := [(0, .ref (a 0)), (1, .int v1), (2, .int v2), (3, .int (v3 + 1))]) rfl ?_
        exact hG v1 v2 (v3 + 1) h
      · have h := kIn c_3 h
        refine x_aload_n (pc := 30) C 0 dX10_betweenBoth_30 rfl rfl ?_
        refine x_aload_n (pc := 31) C 0 dX10_betweenBoth_31 rfl rfl ?_
        refine x_get (pc := 32) C inlX10 0 rfl rfl 4 (by decide) q5_14 (v := .ref (a 3)) rfl dX10_betweenBoth_32 ?_
        refine x_iload_n (pc := 35) C 3 dX10_betweenBoth_35 rfl rfl ?_
        refine x_aload_n (pc := 36) C 0 dX10_betweenBoth_36 rfl rfl ?_
        refine x_get (pc := 37) C inlX10 0 rfl rfl 27 (by decide) q11_5 (v := .int (gI st0 14)) rfl dX10_betweenBoth_37 ?_
        obtain ⟨z_4, hz_4, h⟩ := kB h
        refine x_callV (pc := 40) C 0 [.ref (a 3), .int v3, .int (gI st0 14)] rfl rfl (mX10_areBeside G a (N := 6) (f := (gA st0 3)) 3 (lwM_A3 G a rfl) (by decide) st0 v3 (gI st0 14) hz_4) yvX10_areBeside q20_2 ⟨Nat.le_of_ble_eq_true rfl, Nat.le_of_ble_eq_true rfl, rfl, rfl⟩ ⟨Nat.zero_le _, Nat.zero_le _⟩ rfl rfl (Nat.le_of_ble_eq_true rfl) rfl dX10_betweenBoth_40 ?_
        refine x_if_eq (pc := 43) C 67 dX10_betweenBoth_43 (by decide) (fun c_5 => ?_) (fun c_5 => ?_)
        · have h := kIp c_5 h
          refine x_iinc (pc := 67) C 3 (v := v3 + 1) (lv' := [(3, .int (v3 + 1)), (0, .ref (a 0)), (1, .int v1), (2, .int v2)]) dX10_betweenBoth_67 rfl rfl (by decide) rfl ?_
          refine x_goto (pc := 70) C 6 dX10_betweenBoth_70 (by decide) ?_
          refine kX.pick [1, 2, 3, 0] (lv' := [(0, .ref (a 0)), (1, .int v1), (2, .int v2), (3, .int (v3 + 1))]) rfl ?_
          exact hG v1 v2 (v3 + 1) h
        · have h := kIn c_5 h
          refine x_aload_n (pc := 46) C 0 dX10_betweenBoth_46 rfl rfl ?_
          refine x_aload_n (pc := 47) C 0 dX10_betweenBoth_47 rfl rfl ?_
          refine x_get (pc := 48) C inlX10 0 rfl rfl 4 (by decide) q5_14 (v := .ref (a 3)) rfl dX10_betweenBoth_48 ?_
          refine x_iload_n (pc := 51) C 3 dX10_betweenBoth_51 rfl rfl ?_
          refine x_aload_n (pc := 52) C 0 dX10_betweenBoth_52 rfl rfl ?_
          refine x_get (pc := 53) C inlX10 0 rfl rfl 28 (by decide) q11_6 (v := .int (gI st0 15)) rfl dX10_betweenBoth_53 ?_
          obtain ⟨z_6, hz_6, h⟩ := kB h
          refine x_callV (pc := 56) C 0 [.ref (a 3), .int v3, .int (gI st0 15)] rfl rfl (mX10_areBeside G a (N := 6) (f := (gA st0 3)) 3 (lwM_A3 G a rfl) (by decide) st0 v3 (gI st0 15) hz_6) yvX10_areBeside q20_2 ⟨Nat.le_of_ble_eq_true rfl, Nat.le_of_ble_eq_true rfl, rfl, rfl⟩ ⟨Nat.zero_le _, Nat.zero_le _⟩ rfl rfl (Nat.le_of_ble_eq_true rfl) rfl dX10_betweenBoth_56 ?_
          refine x_if_eq (pc := 59) C 67 dX10_betweenBoth_59 (by decide) (fun c_7 => ?_) (fun c_7 => ?_)
          · have h := kIp c_7 h
            refine x_iinc (pc := 67) C 3 (v := v3 + 1) (lv' := [(3, .int (v3 + 1)), (0, .ref (a 0)), (1, .int v1), (2, .int v2)]) dX10_betweenBoth_67 rfl rfl (by decide) rfl ?_
            refine x_goto (pc := 70) C 6 dX10_betweenBoth_70 (by decide) ?_
            refine kX.pick [1, 2, 3, 0] (lv' := [(0, .ref (a 0)), (1, .int v1), (2, .int v2), (3, .int (v3 + 1))]) rfl ?_
            exact hG v1 v2 (v3 + 1) h
          · have h := kIn c_7 h
            refine x_iload_n (pc := 62) C 3 dX10_betweenBoth_62 rfl rfl ?_
            refine x_istore_n (pc := 63) C (lv' := [(1, .int v3), (0, .ref (a 0)), (2, .int v2), (3, .int v3)]) dX10_betweenBoth_63 rfl (by decide) rfl ?_
            refine x_iinc (pc := 64) C 2 (v := v2 + 1) (lv' := [(2, .int (v2 + 1)), (1, .int v3), (0, .ref (a 0)), (3, .int v3)]) dX10_betweenBoth_64 rfl rfl (by decide) rfl ?_
            refine x_iinc (pc := 67) C 3 (v := v3 + 1) (lv' := [(3, .int (v3 + 1)), (2, .int (v2 + 1)), (1, .int v3), (0, .ref (a 0))]) dX10_betweenBoth_67 rfl rfl (by decide) rfl ?_
            refine x_goto (pc := 70) C 6 dX10_betweenBoth_70 (by decide) ?_
            refine kX.pick [3, 2, 1, 0] (lv' := [(0, .ref (a 0)), (1, .int v3), (2, .int (v2 + 1)), (3, .int (v3 + 1))]) rfl ?_
            exact hG v3 (v2 + 1) (v3 + 1) h
def fX10_betweenBoth_L6 (K : Int32 → Int32 → Int32 → Option (Int32)) (st : kS) : Nat → Int32 → Int32 → Int32 → Option (Int32)
  | 0, _, _, _ => none
  | F + 1, v1, v2, v3 => fX10_betweenBoth_L6_B K (fX10_betweenBoth_L6 K st F) st v1 v2 v3
set_option maxRecDepth 100000 in
set_option maxHeartbeats 4000000 in
theorem wX10_betweenBoth_L6 {G : kG} {E : kE} {a : Nat → Nat} {st0 : kS} (C : kOk G E cX10_betweenBoth RX10 4 rmfX10_betweenBoth) {z : Int32} (Zd : kEnd G E (0, 0) (some .int) (some (.int z)) (wM G a st0)) {K : Int32 → Int32 → Int32 → Option (Int32)} (hK : ∀ (u1 : Int32) (u2 : Int32) (u3 : Int32), K u1 u2 u3 = some z → kX G E (0, 0) (wM G a st0) 73 [(1, .int u1), (2, .int u2)] []) : ∀ (F : Nat) (v1 : Int32) (v2 : Int32) (v3 : Int32), fX10_betweenBoth_L6 K st0 F v1 v2 v3 = some z → kX G E (0, 0) (wM G a st0) 6 [(0, .ref (a 0)), (1, .int v1), (2, .int v2), (3, .int v3)] [] := by
  intro F
  induction F with
  | zero =>
    intro v1 v2 v3 h
    exact absurd (show none = some z from h) (fun q => by cases q)
  | succ F ih =>
    intro v1 v2 v3 h
    exact wX10_betweenBoth_L6_B  C Zd  v1 v2 v3 hK (fun v1 v2 v3 h => ih v1 v2 v3 h) h
def fX10_betweenBoth (st : kS) : Option (Int32) := fX10_betweenBoth_L6 (fun v1_8 v2_9 v3_10 => if v2_9 = 1 then (some v1_8) else (some (-1))) st kFU (-1) 0 0
set_option maxRecDepth 100000 in
set_option maxHeartbeats 4000000 in
theorem wX10_betweenBoth {G : kG} {E : kE} {a : Nat → Nat} {st0 : kS} (C : kOk G E cX10_betweenBoth RX10 4 rmfX10_betweenBoth) {z : Int32} (Zd : kEnd G E (0, 0) (some .int) (some (.int z)) (wM G a st0)) (h : fX10_betweenBoth st0 = some z) : kX G E (0, 0) (wM G a st0) 0 [(0, .ref (a 0))] [] := by
  unfold fX10_betweenBoth at h
  refine x_iconst (pc := 0) C (-1) dX10_betweenBoth_0 (by decide) ?_
  refine x_istore_n (pc := 1) C (lv' := [(1, .int (-1)), (0, .ref (a 0))]) dX10_betweenBoth_1 rfl (by decide) rfl ?_
  refine x_iconst (pc := 2) C 0 dX10_betweenBoth_2 (by decide) ?_
  refine x_istore_n (pc := 3) C (lv' := [(2, .int 0), (1, .int (-1)), (0, .ref (a 0))]) dX10_betweenBoth_3 rfl (by decide) rfl ?_
  refine x_iconst (pc := 4) C 0 dX10_betweenBoth_4 (by decide) ?_
  refine x_istore_n (pc := 5) C (lv' := [(3, .int 0), (2, .int 0), (1, .int (-1)), (0, .ref (a 0))]) dX10_betweenBoth_5 rfl (by decide) rfl ?_
  refine kX.pick [3, 2, 1, 0] (lv' := [(0, .ref (a 0)), (1, .int (-1)), (2, .int 0), (3, .int 0)]) rfl ?_
  refine wX10_betweenBoth_L6  C Zd   (fun v1_8 v2_9 v3_10 h => ?_) kFU (-1) 0 0 h
  refine x_iload_n (pc := 73) C 1 dX10_betweenBoth_73 rfl rfl ?_
  refine x_iconst (pc := 74) C 1 dX10_betweenBoth_74 (by decide) ?_
  refine x_icmp_ne (pc := 75) C 82 dX10_betweenBoth_75 (by decide) (fun c_11 => ?_) (fun c_11 => ?_)
  · have h := kIn c_11 h
    refine x_iconst (pc := 82) C (-1) dX10_betweenBoth_82 (by decide) ?_
    obtain rfl := Option.some.inj h
    exact x_iret (pc := 83) C Zd dX10_betweenBoth_83
  · have h := kIp c_11 h
    refine x_iload_n (pc := 78) C 0 dX10_betweenBoth_78 rfl rfl ?_
    refine x_goto (pc := 79) C 83 dX10_betweenBoth_79 (by decide) ?_
    obtain rfl := Option.some.inj h
    exact x_iret (pc := 83) C Zd dX10_betweenBoth_83
set_option maxRecDepth 100000 in
theorem mX10_betweenBoth (G : kG) (a : Nat → Nat) (st : kS)  {z : Int32} (h : fX10_betweenBoth st = some z) : kMet G yX10_betweenBoth cX10_betweenBoth 4 (some .int) rmfX10_betweenBoth (0, 0) [.ref (a 0)] (wM G a st) (some (.int z)) (wM G a st) := kMet.mk (by decide +kernel) (Nat.le_of_ble_eq_true rfl) (fun E C Zd => wX10_betweenBoth  C Zd   h)
theorem yvX10_letter : kYV yX10_letter RX10 cX10_letter 2 (some .int) 0 := ⟨q19_11, q19_12, q1_5, q19_13, by decide +kernel⟩
abbrev rmfX10_letter : Room := { frames := 3, cells := 0, slots := 0, locals := 70 }
def fX10_letter_J54 (st : kS) : Option (Int32 × kS) := (fX10_placeIn 6 (gA st 3) (sI st 4 0) (gI st 14)).bind (fun z_7 => if (gI st 12) = 0 then (some ((gI st 14), (sI st 4 0))) else (if (gI st 12) = 1 then (if (gI st 0) = 0 then none else (ka 6 (gA st 3) (kr (z_7 + (gI st 13)) (gI st 0))).bind (fun x_11 => some (x_11, (sI st 4 0)))) else (if (gI st 12) = 2 then (if (gI st 0) = 0 then none else (ka 6 (gA st 3) (kr ((z_7 + (9 * (gI st 0))) - (gI st 13)) (gI st 0))).bind (fun x_15 => some (x_15, (sI st 4 0)))) else ((fX10_betweenBoth (sI st 4 0)).bind (fun z_17 => some (z_17, (sI st 4 0)))))))
set_option maxRecDepth 100000 in
set_option maxHeartbeats 4000000 in
theorem wX10_letter_J54 {G : kG} {E : kE} {a : Nat → Nat} (C : kOk G E cX10_letter RX10 2 rmfX10_letter) {z : Int32 × kS} (Zd : kEnd G E (0, 0) (some .int) (some (.int z.1)) (wM G a z.2)) (st : kS) (h : fX10_letter_J54 st = some z) : kX G E (0, 0) (wM G a st) 54 [(0, .ref (a 0))] [] := by
  unfold fX10_letter_J54 at h
  refine x_aload_n (pc := 54) C 0 dX10_letter_54 rfl rfl ?_
  refine x_iconst (pc := 55) C 0 dX10_letter_55 (by decide) ?_
  refine x_put (pc := 56) C inlX10 tyX10 tyX10_ok nmX10 0 rfl rfl 10 (by decide) q7_14 rfl .int (v := .int 0) (by decide +kernel) rfl rfl (Nat.le_of_ble_eq_true rfl) (swM_I4 G a _ _) dX10_letter_56 ?_
  refine x_aload_n (pc := 59) C 0 dX10_letter_59 rfl rfl ?_
  refine x_aload_n (pc := 60) C 0 dX10_letter_60 rfl rfl ?_
  refine x_get (pc := 61) C inlX10 0 rfl rfl 4 (by decide) q5_14 (v := .ref (a 3)) rfl dX10_letter_61 ?_
  refine x_aload_n (pc := 64) C 0 dX10_letter_64 rfl rfl ?_
  refine x_get (pc := 65) C inlX10 0 rfl rfl 27 (by decide) q11_5 (v := .int (gI st 14)) rfl dX10_letter_65 ?_
  obtain ⟨z_7, hz_7, h⟩ := kB h
  refine x_callV (pc := 68) C 0 [.ref (a 3), .int (gI st 14)] rfl rfl (mX10_placeIn G a (N := 6) (f := (gA st 3)) 3 (lwM_A3 G a (gA_sI _ _ _ _)) (by decide) (sI st 4 0) (gI st 14) hz_7) yvX10_placeIn q19_18 ⟨Nat.le_of_ble_eq_true rfl, Nat.le_of_ble_eq_true rfl, rfl, rfl⟩ ⟨Nat.zero_le _, Nat.zero_le _⟩ rfl rfl (Nat.le_of_ble_eq_true rfl) rfl dX10_letter_68 ?_
  refine x_istore_n (pc := 71) C (lv' := [(1, .int z_7), (0, .ref (a 0))]) dX10_letter_71 rfl (by decide) rfl ?_
  refine x_aload_n (pc := 72) C 1 dX10_letter_72 rfl rfl ?_
  refine x_get (pc := 73) C inlX10 0 rfl rfl 25 (by decide) q11_3 (v := .int (gI st 12)) rfl dX10_letter_73 ?_
  rcases Decidable.em ((gI st 12) = 0) with c_8 | c_8
  · have h := kIp c_8 h
    refine x_tsIn (pc := 76) C 104 dX10_letter_76 (by rw [c_8]; decide) (by rw [c_8]; decide) (by rw [c_8]; rfl) (by decide) ?_
    refine x_aload_n (pc := 104) C 1 dX10_letter_104 rfl rfl ?_
    refine x_get (pc := 105) C inlX10 0 rfl rfl 27 (by decide) q11_5 (v := .int (gI st 14)) rfl dX10_letter_105 ?_
    obtain rfl := Option.some.inj h
    exact x_iret (pc := 108) C Zd dX10_letter_108
  have h := kIn c_8 h
  rcases Decidable.em ((gI st 12) = 1) with c_9 | c_9
  · have h := kIp c_9 h
    refine x_tsIn (pc := 76) C 109 dX10_letter_76 (by rw [c_9]; decide) (by rw [c_9]; decide) (by rw [c_9]; rfl) (by decide) ?_
    refine x_aload_n (pc := 109) C 1 dX10_letter_109 rfl rfl ?_
    refine x_get (pc := 110) C inlX10 0 rfl rfl 4 (by decide) q5_14 (v := .ref (a 3)) rfl dX10_letter_110 ?_
    refine x_iload_n (pc := 113) C 0 dX10_letter_113 rfl rfl ?_
    refine x_aload_n (pc := 114) C 1 dX10_letter_114 rfl rfl ?_
    refine x_get (pc := 115) C inlX10 0 rfl rfl 26 (by decide) q11_4 (v := .int (gI st 13)) rfl dX10_letter_115 ?_
    refine x_iadd (pc := 118) C dX10_letter_118 ?_
    refine x_aload_n (pc := 119) C 1 dX10_letter_119 rfl rfl ?_
    refine x_get (pc := 120) C inlX10 0 rfl rfl 0 (by decide) q15_2 (v := .int (gI st 0)) rfl dX10_letter_120 ?_
    obtain ⟨c_10, h⟩ := kGd h
    refine y_irem (pc := 123) C dX10_letter_123 c_10 ?_
    obtain ⟨x_11, hx_11, h⟩ := kB h
    obtain ⟨hi_12, hx_11⟩ := ka_some hx_11
    refine y_iald (pc := 124) C 3 (lwM_A3 G a (gA_sI _ _ _ _)) hi_12 hx_11 dX10_letter_124 ?_
    obtain rfl := Option.some.inj h
    exact x_iret (pc := 125) C Zd dX10_letter_125
  have h := kIn c_9 h
  rcases Decidable.em ((gI st 12) = 2) with c_13 | c_13
  · have h := kIp c_13 h
    refine x_tsIn (pc := 76) C 126 dX10_letter_76 (by rw [c_13]; decide) (by rw [c_13]; decide) (by rw [c_13]; rfl) (by decide) ?_
    refine x_aload_n (pc := 126) C 1 dX10_letter_126 rfl rfl ?_
    refine x_get (pc := 127) C inlX10 0 rfl rfl 4 (by decide) q5_14 (v := .ref (a 3)) rfl dX10_letter_127 ?_
    refine x_iload_n (pc := 130) C 0 dX10_letter_130 rfl rfl ?_
    refine x_bipush (pc := 131) C 9 dX10_letter_131 (by decide) ?_
    refine x_aload_n (pc := 133) C 1 dX10_letter_133 rfl rfl ?_
    refine x_get (pc := 134) C inlX10 0 rfl rfl 0 (by decide) q15_2 (v := .int (gI st 0)) rfl dX10_letter_134 ?_
    refine x_imul (pc := 137) C dX10_letter_137 ?_
    refine x_iadd (pc := 138) C dX10_letter_138 ?_
    refine x_aload_n (pc := 139) C 1 dX10_letter_139 rfl rfl ?_
    refine x_get (pc := 140) C inlX10 0 rfl rfl 26 (by decide) q11_4 (v := .int (gI st 13)) rfl dX10_letter_140 ?_
    refine x_isub (pc := 143) C dX10_letter_143 ?_
    refine x_aload_n (pc := 144) C 1 dX10_letter_144 rfl rfl ?_
    refine x_get (pc := 145) C inlX10 0 rfl rfl 0 (by decide) q15_2 (v := .int (gI st 0)) rfl dX10_letter_145 ?_
    obtain ⟨c_14, h⟩ := kGd h
    refine y_irem (pc := 148) C dX10_letter_148 c_14 ?_
    obtain ⟨x_15, hx_15, h⟩ := kB h
    obtain ⟨hi_16, hx_15⟩ := ka_some hx_15
    refine y_iald (pc := 149) C 3 (lwM_A3 G a (gA_sI _ _ _ _)) hi_16 hx_15 dX10_letter_149 ?_
    obtain rfl := Option.some.inj h
    exact x_iret (pc := 150) C Zd dX10_letter_150
  have h := kIn c_13 h
  refine x_tsOut (pc := 76) C 151 dX10_letter_76 (k_out (fun i hi1 hi2 => by
      have hq : i = 0 ∨ i = 1 ∨ i = 2 := by omega
      rcases hq with rfl | rfl | rfl
      · exact lv_neT c_8 rfl
      · exact lv_neT c_9 rfl
      · exact lv_neT c_13 rfl)) (by decide) ?_
  refine x_aload_n (pc := 151) C 1 dX10_letter_151 rfl rfl ?_
  obtain ⟨z_17, hz_17, h⟩ := kB h
  refine x_callV (pc := 152) C 0 [] rfl rfl (mX10_betweenBoth G a (sI st 4 0) hz_17) yvX10_betweenBoth q19_22 ⟨Nat.le_of_ble_eq_true rfl, Nat.le_of_ble_eq_true rfl, rfl, rfl⟩ ⟨Nat.zero_le _, Nat.zero_le _⟩ rfl rfl (Nat.le_of_ble_eq_true rfl) rfl dX10_letter_152 ?_
  obtain rfl := Option.some.inj h
  exact x_iret (pc := 155) C Zd dX10_letter_155
def fX10_letter (st : kS) : Option (Int32 × kS) := (fX10_readLetter st).bind (fun z_1 => if (gI z_1 0) = 0 then (some ((-103), z_1)) else (if (gI z_1 9) = 0 then (some ((-103), z_1)) else ((fX10_isHouse z_1 (gI z_1 14)).bind (fun z_4 => if z_4 = 0 then (some ((-101), z_1)) else (if (gI z_1 12) = 3 then ((fX10_isHouse z_1 (gI z_1 15)).bind (fun z_18 => if z_18 = 0 then (some ((-101), z_1)) else (fX10_letter_J54 z_1))) else (fX10_letter_J54 z_1))))))
set_option maxRecDepth 100000 in
set_option maxHeartbeats 4000000 in
theorem wX10_letter {G : kG} {E : kE} {a : Nat → Nat} (C : kOk G E cX10_letter RX10 2 rmfX10_letter) {z : Int32 × kS} (Zd : kEnd G E (0, 0) (some .int) (some (.int z.1)) (wM G a z.2)) (st : kS) (h : fX10_letter st = some z) : kX G E (0, 0) (wM G a st) 0 [(0, .ref (a 0))] [] := by
  unfold fX10_letter at h
  refine x_aload_n (pc := 0) C 0 dX10_letter_0 rfl rfl ?_
  obtain ⟨z_1, hz_1, h⟩ := kB h
  refine x_callV (pc := 1) C 0 [] rfl rfl (mX10_readLetter G a st hz_1) yvX10_readLetter q10_19 ⟨Nat.le_of_ble_eq_true rfl, Nat.le_of_ble_eq_true rfl, rfl, rfl⟩ ⟨Nat.zero_le _, Nat.zero_le _⟩ rfl rfl (Nat.le_of_ble_eq_true rfl) rfl dX10_letter_1 ?_
  refine x_aload_n (pc := 4) C 0 dX10_letter_4 rfl rfl ?_
  refine x_get (pc := 5) C inlX10 0 rfl rfl 0 (by decide) q15_2 (v := .int (gI z_1 0)) rfl dX10_letter_5 ?_
  refine x_if_eq (pc := 8) C 18 dX10_letter_8 (by decide) (fun c_2 => ?_) (fun c_2 => ?_)
  · have h := kIp c_2 h
    refine x_bipush (pc := 18) C (-103) dX10_letter_18 (by decide) ?_
    obtain rfl := Option.some.inj h
    exact x_iret (pc := 20) C Zd dX10_letter_20
  · have h := kIn c_2 h
    refine x_aload_n (pc := 11) C 0 dX10_letter_11 rfl rfl ?_
    refine x_get (pc := 12) C inlX10 0 rfl rfl 19 (by decide) q10_11 (v := .int (gI z_1 9)) rfl dX10_letter_12 ?_
    refine x_if_ne (pc := 15) C 21 dX10_letter_15 (by decide) (fun c_3 => ?_) (fun c_3 => ?_)
    · have h := kIn c_3 h
      refine x_aload_n (pc := 21) C 0 dX10_letter_21 rfl rfl ?_
      refine x_aload_n (pc := 22) C 0 dX10_letter_22 rfl rfl ?_
      refine x_get (pc := 23) C inlX10 0 rfl rfl 27 (by decide) q11_5 (v := .int (gI z_1 14)) rfl dX10_letter_23 ?_
      obtain ⟨z_4, hz_4, h⟩ := kB h
      refine x_callV (pc := 26) C 0 [.int (gI z_1 14)] rfl rfl (mX10_isHouse G a z_1 (gI z_1 14) hz_4) yvX10_isHouse q19_14 ⟨Nat.le_of_ble_eq_true rfl, Nat.le_of_ble_eq_true rfl, rfl, rfl⟩ ⟨Nat.zero_le _, Nat.zero_le _⟩ rfl rfl (Nat.le_of_ble_eq_true rfl) rfl dX10_letter_26 ?_
      refine x_if_eq (pc := 29) C 51 dX10_letter_29 (by decide) (fun c_5 => ?_) (fun c_5 => ?_)
      · have h := kIp c_5 h
        refine x_bipush (pc := 51) C (-101) dX10_letter_51 (by decide) ?_
        obtain rfl := Option.some.inj h
        exact x_iret (pc := 53) C Zd dX10_letter_53
      · have h := kIn c_5 h
        refine x_aload_n (pc := 32) C 0 dX10_letter_32 rfl rfl ?_
        refine x_get (pc := 33) C inlX10 0 rfl rfl 25 (by decide) q11_3 (v := .int (gI z_1 12)) rfl dX10_letter_33 ?_
        refine x_iconst (pc := 36) C 3 dX10_letter_36 (by decide) ?_
        refine x_icmp_ne (pc := 37) C 54 dX10_letter_37 (by decide) (fun c_6 => ?_) (fun c_6 => ?_)
        · have h := kIn c_6 h
          exact wX10_letter_J54  C Zd  z_1  h
        · have h := kIp c_6 h
          refine x_aload_n (pc := 40) C 0 dX10_letter_40 rfl rfl ?_
          refine x_aload_n (pc := 41) C 0 dX10_letter_41 rfl rfl ?_
          refine x_get (pc := 42) C inlX10 0 rfl rfl 28 (by decide) q11_6 (v := .int (gI z_1 15)) rfl dX10_letter_42 ?_
          obtain ⟨z_18, hz_18, h⟩ := kB h
          refine x_callV (pc := 45) C 0 [.int (gI z_1 15)] rfl rfl (mX10_isHouse G a z_1 (gI z_1 15) hz_18) yvX10_isHouse q19_14 ⟨Nat.le_of_ble_eq_true rfl, Nat.le_of_ble_eq_true rfl, rfl, rfl⟩ ⟨Nat.zero_le _, Nat.zero_le _⟩ rfl rfl (Nat.le_of_ble_eq_true rfl) rfl dX10_letter_45 ?_
          refine x_if_ne (pc := 48) C 54 dX10_letter_48 (by decide) (fun c_19 => ?_) (fun c_19 => ?_)
          · have h := kIn c_19 h
            exact wX10_letter_J54  C Zd  z_1  h
          · have h := kIp c_19 h
            refine x_bipush (pc := 51) C (-101) dX10_letter_51 (by decide) ?_
            obtain rfl := Option.some.inj h
            exact x_iret (pc := 53) C Zd dX10_letter_53
    · have h := kIp c_3 h
      refine x_bipush (pc := 18) C (-103) dX10_letter_18 (by decide) ?_
      obtain rfl := Option.some.inj h
      exact x_iret (pc := 20) C Zd dX10_letter_20
set_option maxRecDepth 100000 in
theorem mX10_letter (G : kG) (a : Nat → Nat) (st : kS)  {z : Int32 × kS} (h : fX10_letter st = some z) : kMet G yX10_letter cX10_letter 2 (some .int) rmfX10_letter (0, 0) [.ref (a 0)] (wM G a st) (some (.int z.1)) (wM G a z.2) := kMet.mk (by decide +kernel) (Nat.le_of_ble_eq_true rfl) (fun E C Zd => wX10_letter  C Zd  st  h)
theorem yvX10_houseNow : kYV yX10_houseNow RX10 cX10_houseNow 3 (some .int) 2 := ⟨q21_4, q21_5, q1_5, q21_6, by decide +kernel⟩
abbrev rmfX10_houseNow : Room := { frames := 1, cells := 0, slots := 0, locals := 23 }
def fX10_houseNow (st : kS) (x1 : Int32) (x2 : Int32) : Option (Int32) := if x2 = 0 then ((ka 6 (gA st 1) x1).bind (fun x_2 => some x_2)) else (if x2 = 1 then ((fX10_placeIn 6 (gA st 3) st x1).bind (fun z_5 => some z_5)) else (if x2 = 2 then ((fX10_placeIn 6 (gA st 4) st x1).bind (fun z_7 => some z_7)) else (if (gI st 3) = 0 then (some (-1)) else ((fX10_placeIn 6 (gA st 5) st x1).bind (fun z_9 => some z_9)))))
set_option maxRecDepth 100000 in
set_option maxHeartbeats 4000000 in
theorem wX10_houseNow {G : kG} {E : kE} {a : Nat → Nat} {st0 : kS} (C : kOk G E cX10_houseNow RX10 3 rmfX10_houseNow) {z : Int32} (Zd : kEnd G E (0, 0) (some .int) (some (.int z)) (wM G a st0)) (x1 : Int32) (x2 : Int32) (h : fX10_houseNow st0 x1 x2 = some z) : kX G E (0, 0) (wM G a st0) 0 [(0, .ref (a 0)), (1, .int x1), (2, .int x2)] [] := by
  unfold fX10_houseNow at h
  refine x_iload_n (pc := 0) C 2 dX10_houseNow_0 rfl rfl ?_
  rcases Decidable.em (x2 = 0) with c_1 | c_1
  · have h := kIp c_1 h
    refine x_tsIn (pc := 1) C 28 dX10_houseNow_1 (by rw [c_1]; decide) (by rw [c_1]; decide) (by rw [c_1]; rfl) (by decide) ?_
    refine x_aload_n (pc := 28) C 0 dX10_houseNow_28 rfl rfl ?_
    refine x_get (pc := 29) C inlX10 0 rfl rfl 2 (by decide) q5_11 (v := .ref (a 1)) rfl dX10_houseNow_29 ?_
    refine x_iload_n (pc := 32) C 1 dX10_houseNow_32 rfl rfl ?_
    obtain ⟨x_2, hx_2, h⟩ := kB h
    obtain ⟨hi_3, hx_2⟩ := ka_some hx_2
    refine y_iald (pc := 33) C 1 (lwM_A1 G a rfl) hi_3 hx_2 dX10_houseNow_33 ?_
    obtain rfl := Option.some.inj h
    exact x_iret (pc := 34) C Zd dX10_houseNow_34
  have h := kIn c_1 h
  rcases Decidable.em (x2 = 1) with c_4 | c_4
  · have h := kIp c_4 h
    refine x_tsIn (pc := 1) C 35 dX10_houseNow_1 (by rw [c_4]; decide) (by rw [c_4]; decide) (by rw [c_4]; rfl) (by decide) ?_
    refine x_aload_n (pc := 35) C 0 dX10_houseNow_35 rfl rfl ?_
    refine x_aload_n (pc := 36) C 0 dX10_houseNow_36 rfl rfl ?_
    refine x_get (pc := 37) C inlX10 0 rfl rfl 4 (by decide) q5_14 (v := .ref (a 3)) rfl dX10_houseNow_37 ?_
    refine x_iload_n (pc := 40) C 1 dX10_houseNow_40 rfl rfl ?_
    obtain ⟨z_5, hz_5, h⟩ := kB h
    refine x_callV (pc := 41) C 0 [.ref (a 3), .int x1] rfl rfl (mX10_placeIn G a (N := 6) (f := (gA st0 3)) 3 (lwM_A3 G a rfl) (by decide) st0 x1 hz_5) yvX10_placeIn q19_18 ⟨Nat.le_of_ble_eq_true rfl, Nat.le_of_ble_eq_true rfl, rfl, rfl⟩ ⟨Nat.zero_le _, Nat.zero_le _⟩ rfl rfl (Nat.le_of_ble_eq_true rfl) rfl dX10_houseNow_41 ?_
    obtain rfl := Option.some.inj h
    exact x_iret (pc := 44) C Zd dX10_houseNow_44
  have h := kIn c_4 h
  rcases Decidable.em (x2 = 2) with c_6 | c_6
  · have h := kIp c_6 h
    refine x_tsIn (pc := 1) C 45 dX10_houseNow_1 (by rw [c_6]; decide) (by rw [c_6]; decide) (by rw [c_6]; rfl) (by decide) ?_
    refine x_aload_n (pc := 45) C 0 dX10_houseNow_45 rfl rfl ?_
    refine x_aload_n (pc := 46) C 0 dX10_houseNow_46 rfl rfl ?_
    refine x_get (pc := 47) C inlX10 0 rfl rfl 5 (by decide) q5_15 (v := .ref (a 4)) rfl dX10_houseNow_47 ?_
    refine x_iload_n (pc := 50) C 1 dX10_houseNow_50 rfl rfl ?_
    obtain ⟨z_7, hz_7, h⟩ := kB h
    refine x_callV (pc := 51) C 0 [.ref (a 4), .int x1] rfl rfl (mX10_placeIn G a (N := 6) (f := (gA st0 4)) 4 (lwM_A4 G a rfl) (by decide) st0 x1 hz_7) yvX10_placeIn q19_18 ⟨Nat.le_of_ble_eq_true rfl, Nat.le_of_ble_eq_true rfl, rfl, rfl⟩ ⟨Nat.zero_le _, Nat.zero_le _⟩ rfl rfl (Nat.le_of_ble_eq_true rfl) rfl dX10_houseNow_51 ?_
    obtain rfl := Option.some.inj h
    exact x_iret (pc := 54) C Zd dX10_houseNow_54
  have h := kIn c_6 h
  refine x_tsOut (pc := 1) C 55 dX10_houseNow_1 (k_out (fun i hi1 hi2 => by
      have hq : i = 0 ∨ i = 1 ∨ i = 2 := by omega
      rcases hq with rfl | rfl | rfl
      · exact lv_neT c_1 rfl
      · exact lv_neT c_4 rfl
      · exact lv_neT c_6 rfl)) (by decide) ?_
  refine x_aload_n (pc := 55) C 0 dX10_houseNow_55 rfl rfl ?_
  refine x_get (pc := 56) C inlX10 0 rfl rfl 8 (by decide) q15_4 (v := .int (gI st0 3)) rfl dX10_houseNow_56 ?_
  refine x_if_eq (pc := 59) C 74 dX10_houseNow_59 (by decide) (fun c_8 => ?_) (fun c_8 => ?_)
  · have h := kIp c_8 h
    refine x_iconst (pc := 74) C (-1) dX10_houseNow_74 (by decide) ?_
    obtain rfl := Option.some.inj h
    exact x_iret (pc := 75) C Zd dX10_houseNow_75
  · have h := kIn c_8 h
    refine x_aload_n (pc := 62) C 0 dX10_houseNow_62 rfl rfl ?_
    refine x_aload_n (pc := 63) C 0 dX10_houseNow_63 rfl rfl ?_
    refine x_get (pc := 64) C inlX10 0 rfl rfl 7 (by decide) q5_16 (v := .ref (a 5)) rfl dX10_houseNow_64 ?_
    refine x_iload_n (pc := 67) C 1 dX10_houseNow_67 rfl rfl ?_
    obtain ⟨z_9, hz_9, h⟩ := kB h
    refine x_callV (pc := 68) C 0 [.ref (a 5), .int x1] rfl rfl (mX10_placeIn G a (N := 6) (f := (gA st0 5)) 5 (lwM_A5 G a rfl) (by decide) st0 x1 hz_9) yvX10_placeIn q19_18 ⟨Nat.le_of_ble_eq_true rfl, Nat.le_of_ble_eq_true rfl, rfl, rfl⟩ ⟨Nat.zero_le _, Nat.zero_le _⟩ rfl rfl (Nat.le_of_ble_eq_true rfl) rfl dX10_houseNow_68 ?_
    refine x_goto (pc := 71) C 75 dX10_houseNow_71 (by decide) ?_
    obtain rfl := Option.some.inj h
    exact x_iret (pc := 75) C Zd dX10_houseNow_75
set_option maxRecDepth 100000 in
theorem mX10_houseNow (G : kG) (a : Nat → Nat) (st : kS) (x1 : Int32) (x2 : Int32) {z : Int32} (h : fX10_houseNow st x1 x2 = some z) : kMet G yX10_houseNow cX10_houseNow 3 (some .int) rmfX10_houseNow (0, 0) [.ref (a 0), .int x1, .int x2] (wM G a st) (some (.int z)) (wM G a st) := kMet.mk (by decide +kernel) (Nat.le_of_ble_eq_true rfl) (fun E C Zd => wX10_houseNow  C Zd  x1 x2 h)
theorem yvX10_house : kYV yX10_house RX10 cX10_house 3 (some .int) 2 := ⟨q21_0, q21_1, q1_5, q21_2, by decide +kernel⟩
abbrev rmfX10_house : Room := { frames := 2, cells := 0, slots := 0, locals := 45 }
def fX10_house (st : kS) (x1 : Int32) (x2 : Int32) : Option (Int32) := (fX10_isHouse st x1).bind (fun z_1 => if z_1 = 0 then (some (-101)) else (if (fX10_within x2 0 3) = 0 then (some (-102)) else ((fX10_houseNow st x1 x2).bind (fun z_4 => some z_4))))
set_option maxRecDepth 100000 in
set_option maxHeartbeats 4000000 in
theorem wX10_house {G : kG} {E : kE} {a : Nat → Nat} {st0 : kS} (C : kOk G E cX10_house RX10 3 rmfX10_house) {z : Int32} (Zd : kEnd G E (0, 0) (some .int) (some (.int z)) (wM G a st0)) (x1 : Int32) (x2 : Int32) (h : fX10_house st0 x1 x2 = some z) : kX G E (0, 0) (wM G a st0) 0 [(0, .ref (a 0)), (1, .int x1), (2, .int x2)] [] := by
  unfold fX10_house at h
  refine x_aload_n (pc := 0) C 0 dX10_house_0 rfl rfl ?_
  refine x_iload_n (pc := 1) C 1 dX10_house_1 rfl rfl ?_
  obtain ⟨z_1, hz_1, h⟩ := kB h
  refine x_callV (pc := 2) C 0 [.int x1] rfl rfl (mX10_isHouse G a st0 x1 hz_1) yvX10_isHouse q19_14 ⟨Nat.le_of_ble_eq_true rfl, Nat.le_of_ble_eq_true rfl, rfl, rfl⟩ ⟨Nat.zero_le _, Nat.zero_le _⟩ rfl rfl (Nat.le_of_ble_eq_true rfl) rfl dX10_house_2 ?_
  refine x_if_ne (pc := 5) C 13 dX10_house_5 (by decide) (fun c_2 => ?_) (fun c_2 => ?_)
  · have h := kIn c_2 h
    refine x_iload_n (pc := 13) C 2 dX10_house_13 rfl rfl ?_
    refine x_iconst (pc := 14) C 0 dX10_house_14 (by decide) ?_
    refine x_iconst (pc := 15) C 3 dX10_house_15 (by decide) ?_
    refine x_callS (pc := 16) C [.int x2, .int 0, .int 3] (mX10_within G x2 0 3) ysX10_within q10_2 ⟨Nat.le_of_ble_eq_true rfl, Nat.le_of_ble_eq_true rfl, rfl, rfl⟩ ⟨Nat.zero_le _, Nat.zero_le _⟩ rfl rfl (Nat.le_of_ble_eq_true rfl) rfl dX10_house_16 ?_
    refine x_if_eq (pc := 19) C 31 dX10_house_19 (by decide) (fun c_3 => ?_) (fun c_3 => ?_)
    · have h := kIp c_3 h
      refine x_bipush (pc := 31) C (-102) dX10_house_31 (by decide) ?_
      obtain rfl := Option.some.inj h
      exact x_iret (pc := 33) C Zd dX10_house_33
    · have h := kIn c_3 h
      refine x_aload_n (pc := 22) C 0 dX10_house_22 rfl rfl ?_
      refine x_iload_n (pc := 23) C 1 dX10_house_23 rfl rfl ?_
      refine x_iload_n (pc := 24) C 2 dX10_house_24 rfl rfl ?_
      obtain ⟨z_4, hz_4, h⟩ := kB h
      refine x_callV (pc := 25) C 0 [.int x1, .int x2] rfl rfl (mX10_houseNow G a st0 x1 x2 hz_4) yvX10_houseNow q21_3 ⟨Nat.le_of_ble_eq_true rfl, Nat.le_of_ble_eq_true rfl, rfl, rfl⟩ ⟨Nat.zero_le _, Nat.zero_le _⟩ rfl rfl (Nat.le_of_ble_eq_true rfl) rfl dX10_house_25 ?_
      refine x_goto (pc := 28) C 33 dX10_house_28 (by decide) ?_
      obtain rfl := Option.some.inj h
      exact x_iret (pc := 33) C Zd dX10_house_33
  · have h := kIp c_2 h
    refine x_bipush (pc := 8) C (-101) dX10_house_8 (by decide) ?_
    refine x_goto (pc := 10) C 33 dX10_house_10 (by decide) ?_
    obtain rfl := Option.some.inj h
    exact x_iret (pc := 33) C Zd dX10_house_33
set_option maxRecDepth 100000 in
theorem mX10_house (G : kG) (a : Nat → Nat) (st : kS) (x1 : Int32) (x2 : Int32) {z : Int32} (h : fX10_house st x1 x2 = some z) : kMet G yX10_house cX10_house 3 (some .int) rmfX10_house (0, 0) [.ref (a 0), .int x1, .int x2] (wM G a st) (some (.int z)) (wM G a st) := kMet.mk (by decide +kernel) (Nat.le_of_ble_eq_true rfl) (fun E C Zd => wX10_house  C Zd  x1 x2 h)
theorem yvX10_as : kYV yX10_as RX10 cX10_as 4 (some .int) 2 := ⟨q21_13, q21_14, q1_5, q21_15, by decide +kernel⟩
abbrev rmfX10_as : Room := { frames := 2, cells := 0, slots := 0, locals := 43 }
def fX10_as (st : kS) (x1 : Int32) (x2 : Int32) : Option (Int32) := (fX10_isHouse st x1).bind (fun z_1 => if z_1 = 0 then (some (-101)) else (if (fX10_within x2 0 3) = 0 then (some (-102)) else ((ka 6 (gA st 1) x1).bind (fun x_4 => if x2 = 0 then (some x1) else (if x_4 = x2 then (some x1) else (if x2 = 1 then (if x_4 = 3 then (some x1) else (some (-1))) else (some (-1))))))))
set_option maxRecDepth 100000 in
set_option maxHeartbeats 4000000 in
theorem wX10_as {G : kG} {E : kE} {a : Nat → Nat} {st0 : kS} (C : kOk G E cX10_as RX10 4 rmfX10_as) {z : Int32} (Zd : kEnd G E (0, 0) (some .int) (some (.int z)) (wM G a st0)) (x1 : Int32) (x2 : Int32) (h : fX10_as st0 x1 x2 = some z) : kX G E (0, 0) (wM G a st0) 0 [(0, .ref (a 0)), (1, .int x1), (2, .int x2)] [] := by
  unfold fX10_as at h
  refine x_aload_n (pc := 0) C 0 dX10_as_0 rfl rfl ?_
  refine x_iload_n (pc := 1) C 1 dX10_as_1 rfl rfl ?_
  obtain ⟨z_1, hz_1, h⟩ := kB h
  refine x_callV (pc := 2) C 0 [.int x1] rfl rfl (mX10_isHouse G a st0 x1 hz_1) yvX10_isHouse q19_14 ⟨Nat.le_of_ble_eq_true rfl, Nat.le_of_ble_eq_true rfl, rfl, rfl⟩ ⟨Nat.zero_le _, Nat.zero_le _⟩ rfl rfl (Nat.le_of_ble_eq_true rfl) rfl dX10_as_2 ?_
  refine x_if_ne (pc := 5) C 11 dX10_as_5 (by decide) (fun c_2 => ?_) (fun c_2 => ?_)
  · have h := kIn c_2 h
    refine x_iload_n (pc := 11) C 2 dX10_as_11 rfl rfl ?_
    refine x_iconst (pc := 12) C 0 dX10_as_12 (by decide) ?_
    refine x_iconst (pc := 13) C 3 dX10_as_13 (by decide) ?_
    refine x_callS (pc := 14) C [.int x2, .int 0, .int 3] (mX10_within G x2 0 3) ysX10_within q10_2 ⟨Nat.le_of_ble_eq_true rfl, Nat.le_of_ble_eq_true rfl, rfl, rfl⟩ ⟨Nat.zero_le _, Nat.zero_le _⟩ rfl rfl (Nat.le_of_ble_eq_true rfl) rfl dX10_as_14 ?_
    refine x_if_ne (pc := 17) C 23 dX10_as_17 (by decide) (fun c_3 => ?_) (fun c_3 => ?_)
    · have h := kIn c_3 h
      refine x_aload_n (pc := 23) C 0 dX10_as_23 rfl rfl ?_
      refine x_get (pc := 24) C inlX10 0 rfl rfl 2 (by decide) q5_11 (v := .ref (a 1)) rfl dX10_as_24 ?_
      refine x_iload_n (pc := 27) C 1 dX10_as_27 rfl rfl ?_
      obtain ⟨x_4, hx_4, h⟩ := kB h
      obtain ⟨hi_5, hx_4⟩ := ka_some hx_4
      refine y_iald (pc := 28) C 1 (lwM_A1 G a rfl) hi_5 hx_4 dX10_as_28 ?_
      refine x_istore_n (pc := 29) C (lv' := [(3, .int x_4), (0, .ref (a 0)), (1, .int x1), (2, .int x2)]) dX10_as_29 rfl (by decide) rfl ?_
      refine x_iload_n (pc := 30) C 3 dX10_as_30 rfl rfl ?_
      refine x_if_eq (pc := 31) C 49 dX10_as_31 (by decide) (fun c_6 => ?_) (fun c_6 => ?_)
      · have h := kIp c_6 h
        refine x_iload_n (pc := 49) C 2 dX10_as_49 rfl rfl ?_
        refine x_goto (pc := 50) C 54 dX10_as_50 (by decide) ?_
        obtain rfl := Option.some.inj h
        exact x_iret (pc := 54) C Zd dX10_as_54
      · have h := kIn c_6 h
        refine x_iload_n (pc := 34) C 0 dX10_as_34 rfl rfl ?_
        refine x_iload_n (pc := 35) C 3 dX10_as_35 rfl rfl ?_
        refine x_icmp_eq (pc := 36) C 49 dX10_as_36 (by decide) (fun c_7 => ?_) (fun c_7 => ?_)
        · have h := kIp c_7 h
          refine x_iload_n (pc := 49) C 2 dX10_as_49 rfl rfl ?_
          refine x_goto (pc := 50) C 54 dX10_as_50 (by decide) ?_
          obtain rfl := Option.some.inj h
          exact x_iret (pc := 54) C Zd dX10_as_54
        · have h := kIn c_7 h
          refine x_iload_n (pc := 39) C 3 dX10_as_39 rfl rfl ?_
          refine x_iconst (pc := 40) C 1 dX10_as_40 (by decide) ?_
          refine x_icmp_ne (pc := 41) C 53 dX10_as_41 (by decide) (fun c_8 => ?_) (fun c_8 => ?_)
          · have h := kIn c_8 h
            refine x_iconst (pc := 53) C (-1) dX10_as_53 (by decide) ?_
            obtain rfl := Option.some.inj h
            exact x_iret (pc := 54) C Zd dX10_as_54
          · have h := kIp c_8 h
            refine x_iload_n (pc := 44) C 0 dX10_as_44 rfl rfl ?_
            refine x_iconst (pc := 45) C 3 dX10_as_45 (by decide) ?_
            refine x_icmp_ne (pc := 46) C 53 dX10_as_46 (by decide) (fun c_9 => ?_) (fun c_9 => ?_)
            · have h := kIn c_9 h
              refine x_iconst (pc := 53) C (-1) dX10_as_53 (by decide) ?_
              obtain rfl := Option.some.inj h
              exact x_iret (pc := 54) C Zd dX10_as_54
            · have h := kIp c_9 h
              refine x_iload_n (pc := 49) C 2 dX10_as_49 rfl rfl ?_
              refine x_goto (pc := 50) C 54 dX10_as_50 (by decide) ?_
              obtain rfl := Option.some.inj h
              exact x_iret (pc := 54) C Zd dX10_as_54
    · have h := kIp c_3 h
      refine x_bipush (pc := 20) C (-102) dX10_as_20 (by decide) ?_
      obtain rfl := Option.some.inj h
      exact x_iret (pc := 22) C Zd dX10_as_22
  · have h := kIp c_2 h
    refine x_bipush (pc := 8) C (-101) dX10_as_8 (by decide) ?_
    obtain rfl := Option.some.inj h
    exact x_iret (pc := 10) C Zd dX10_as_10
set_option maxRecDepth 100000 in
theorem mX10_as (G : kG) (a : Nat → Nat) (st : kS) (x1 : Int32) (x2 : Int32) {z : Int32} (h : fX10_as st x1 x2 = some z) : kMet G yX10_as cX10_as 4 (some .int) rmfX10_as (0, 0) [.ref (a 0), .int x1, .int x2] (wM G a st) (some (.int z)) (wM G a st) := kMet.mk (by decide +kernel) (Nat.le_of_ble_eq_true rfl) (fun E C Zd => wX10_as  C Zd  x1 x2 h)
theorem yvX10_at : kYV yX10_at RX10 cX10_at 2 (some .int) 1 := ⟨q21_21, q21_22, q1_5, q21_23, by decide +kernel⟩
abbrev rmfX10_at : Room := { frames := 2, cells := 0, slots := 0, locals := 43 }
def fX10_at (st : kS) (x1 : Int32) : Option (Int32) := (fX10_isHouse st x1).bind (fun z_1 => if z_1 = 0 then (some (-101)) else ((ka 6 (gA st 3) x1).bind (fun x_3 => some x_3)))
set_option maxRecDepth 100000 in
set_option maxHeartbeats 4000000 in
theorem wX10_at {G : kG} {E : kE} {a : Nat → Nat} {st0 : kS} (C : kOk G E cX10_at RX10 2 rmfX10_at) {z : Int32} (Zd : kEnd G E (0, 0) (some .int) (some (.int z)) (wM G a st0)) (x1 : Int32) (h : fX10_at st0 x1 = some z) : kX G E (0, 0) (wM G a st0) 0 [(0, .ref (a 0)), (1, .int x1)] [] := by
  unfold fX10_at at h
  refine x_aload_n (pc := 0) C 0 dX10_at_0 rfl rfl ?_
  refine x_iload_n (pc := 1) C 1 dX10_at_1 rfl rfl ?_
  obtain ⟨z_1, hz_1, h⟩ := kB h
  refine x_callV (pc := 2) C 0 [.int x1] rfl rfl (mX10_isHouse G a st0 x1 hz_1) yvX10_isHouse q19_14 ⟨Nat.le_of_ble_eq_true rfl, Nat.le_of_ble_eq_true rfl, rfl, rfl⟩ ⟨Nat.zero_le _, Nat.zero_le _⟩ rfl rfl (Nat.le_of_ble_eq_true rfl) rfl dX10_at_2 ?_
  refine x_if_eq (pc := 5) C 17 dX10_at_5 (by decide) (fun c_2 => ?_) (fun c_2 => ?_)
  · have h := kIp c_2 h
    refine x_bipush (pc := 17) C (-101) dX10_at_17 (by decide) ?_
    obtain rfl := Option.some.inj h
    exact x_iret (pc := 19) C Zd dX10_at_19
  · have h := kIn c_2 h
    refine x_aload_n (pc := 8) C 0 dX10_at_8 rfl rfl ?_
    refine x_get (pc := 9) C inlX10 0 rfl rfl 4 (by decide) q5_14 (v := .ref (a 3)) rfl dX10_at_9 ?_
    refine x_iload_n (pc := 12) C 1 dX10_at_12 rfl rfl ?_
    obtain ⟨x_3, hx_3, h⟩ := kB h
    obtain ⟨hi_4, hx_3⟩ := ka_some hx_3
    refine y_iald (pc := 13) C 3 (lwM_A3 G a rfl) hi_4 hx_3 dX10_at_13 ?_
    refine x_goto (pc := 14) C 19 dX10_at_14 (by decide) ?_
    obtain rfl := Option.some.inj h
    exact x_iret (pc := 19) C Zd dX10_at_19
set_option maxRecDepth 100000 in
theorem mX10_at (G : kG) (a : Nat → Nat) (st : kS) (x1 : Int32) {z : Int32} (h : fX10_at st x1 = some z) : kMet G yX10_at cX10_at 2 (some .int) rmfX10_at (0, 0) [.ref (a 0), .int x1] (wM G a st) (some (.int z)) (wM G a st) := kMet.mk (by decide +kernel) (Nat.le_of_ble_eq_true rfl) (fun E C Zd => wX10_at  C Zd  x1 h)
theorem yvX10_feud : kYV yX10_feud RX10 cX10_feud 3 (some .int) 2 := ⟨q22_6, q22_7, q1_5, q22_8, by decide +kernel⟩
abbrev rmfX10_feud : Room := { frames := 2, cells := 0, slots := 0, locals := 43 }
def fX10_feud (st : kS) (x1 : Int32) (x2 : Int32) : Option (Int32) := (fX10_isHouse st x1).bind (fun z_1 => if z_1 = 0 then (some (-101)) else ((fX10_isHouse st x2).bind (fun z_3 => if z_3 = 0 then (some (-101)) else ((ka 36 (gA st 2) ((6 * x1) + x2)).bind (fun x_5 => if x_5 = 0 then (some 0) else (some 1))))))
set_option maxRecDepth 100000 in
set_option maxHeartbeats 4000000 in
theorem wX10_feud {G : kG} {E : kE} {a : Nat → Nat} {st0 : kS} (C : kOk G E cX10_feud RX10 3 rmfX10_feud) {z : Int32} (Zd : kEnd G E (0, 0) (some .int) (some (.int z)) (wM G a st0)) (x1 : Int32) (x2 : Int32) (h : fX10_feud st0 x1 x2 = some z) : kX G E (0, 0) (wM G a st0) 0 [(0, .ref (a 0)), (1, .int x1), (2, .int x2)] [] := by
  unfold fX10_feud at h
  refine x_aload_n (pc := 0) C 0 dX10_feud_0 rfl rfl ?_
  refine x_iload_n (pc := 1) C 1 dX10_feud_1 rfl rfl ?_
  obtain ⟨z_1, hz_1, h⟩ := kB h
  refine x_callV (pc := 2) C 0 [.int x1] rfl rfl (mX10_isHouse G a st0 x1 hz_1) yvX10_isHouse q19_14 ⟨Nat.le_of_ble_eq_true rfl, Nat.le_of_ble_eq_true rfl, rfl, rfl⟩ ⟨Nat.zero_le _, Nat.zero_le _⟩ rfl rfl (Nat.le_of_ble_eq_true rfl) rfl dX10_feud_2 ?_
  refine x_if_eq (pc := 5) C 16 dX10_feud_5 (by decide) (fun c_2 => ?_) (fun c_2 => ?_)
  · have h := kIp c_2 h
    refine x_bipush (pc := 16) C (-101) dX10_feud_16 (by decide) ?_
    refine x_goto (pc := 18) C 40 dX10_feud_18 (by decide) ?_
    obtain rfl := Option.some.inj h
    exact x_iret (pc := 40) C Zd dX10_feud_40
  · have h := kIn c_2 h
    refine x_aload_n (pc := 8) C 0 dX10_feud_8 rfl rfl ?_
    refine x_iload_n (pc := 9) C 2 dX10_feud_9 rfl rfl ?_
    obtain ⟨z_3, hz_3, h⟩ := kB h
    refine x_callV (pc := 10) C 0 [.int x2] rfl rfl (mX10_isHouse G a st0 x2 hz_3) yvX10_isHouse q19_14 ⟨Nat.le_of_ble_eq_true rfl, Nat.le_of_ble_eq_true rfl, rfl, rfl⟩ ⟨Nat.zero_le _, Nat.zero_le _⟩ rfl rfl (Nat.le_of_ble_eq_true rfl) rfl dX10_feud_10 ?_
    refine x_if_ne (pc := 13) C 21 dX10_feud_13 (by decide) (fun c_4 => ?_) (fun c_4 => ?_)
    · have h := kIn c_4 h
      refine x_aload_n (pc := 21) C 0 dX10_feud_21 rfl rfl ?_
      refine x_get (pc := 22) C inlX10 0 rfl rfl 3 (by decide) q5_13 (v := .ref (a 2)) rfl dX10_feud_22 ?_
      refine x_bipush (pc := 25) C 6 dX10_feud_25 (by decide) ?_
      refine x_iload_n (pc := 27) C 1 dX10_feud_27 rfl rfl ?_
      refine x_imul (pc := 28) C dX10_feud_28 ?_
      refine x_iload_n (pc := 29) C 2 dX10_feud_29 rfl rfl ?_
      refine x_iadd (pc := 30) C dX10_feud_30 ?_
      obtain ⟨x_5, hx_5, h⟩ := kB h
      obtain ⟨hi_6, hx_5⟩ := ka_some hx_5
      refine y_zald (pc := 31) C 2 (lwM_A2 G a rfl) hi_6 hx_5 dX10_feud_31 ?_
      refine x_if_eq (pc := 32) C 39 dX10_feud_32 (by decide) (fun c_7 => ?_) (fun c_7 => ?_)
      · have h := kIp c_7 h
        refine x_iconst (pc := 39) C 0 dX10_feud_39 (by decide) ?_
        obtain rfl := Option.some.inj h
        exact x_iret (pc := 40) C Zd dX10_feud_40
      · have h := kIn c_7 h
        refine x_iconst (pc := 35) C 1 dX10_feud_35 (by decide) ?_
        refine x_goto (pc := 36) C 40 dX10_feud_36 (by decide) ?_
        obtain rfl := Option.some.inj h
        exact x_iret (pc := 40) C Zd dX10_feud_40
    · have h := kIp c_4 h
      refine x_bipush (pc := 16) C (-101) dX10_feud_16 (by decide) ?_
      refine x_goto (pc := 18) C 40 dX10_feud_18 (by decide) ?_
      obtain rfl := Option.some.inj h
      exact x_iret (pc := 40) C Zd dX10_feud_40
set_option maxRecDepth 100000 in
theorem mX10_feud (G : kG) (a : Nat → Nat) (st : kS) (x1 : Int32) (x2 : Int32) {z : Int32} (h : fX10_feud st x1 x2 = some z) : kMet G yX10_feud cX10_feud 3 (some .int) rmfX10_feud (0, 0) [.ref (a 0), .int x1, .int x2] (wM G a st) (some (.int z)) (wM G a st) := kMet.mk (by decide +kernel) (Nat.le_of_ble_eq_true rfl) (fun E C Zd => wX10_feud  C Zd  x1 x2 h)
theorem yvX10_touchIn : kYV yX10_touchIn RX10 cX10_touchIn 6 (some .int) 1 := ⟨q22_22, q22_23, q1_5, q23_0, by decide +kernel⟩
abbrev rmfX10_touchIn : Room := { frames := 2, cells := 0, slots := 0, locals := 47 }
def fX10_touchIn_J52 (K : Int32 → Int32 → Option (Int32)) (Gc : Int32 → Int32 → Option (Int32)) (N1 : Nat) (f1 : Nat → Int32) (st : kS) (v2 : Int32) (v3 : Int32) (v4 : Int32) (s0 : Int32) : Option (Int32) := if s0 = 0 then (Gc (v2 + 0) (v4 + 1)) else ((ka 36 (gA st 2) ((6 * v3) + v4)).bind (fun x_7 => if x_7 = 0 then (Gc (v2 + 0) (v4 + 1)) else ((fX10_areBeside N1 f1 st v3 v4).bind (fun z_10 => if z_10 = 0 then (Gc (v2 + 0) (v4 + 1)) else (Gc (v2 + 1) (v4 + 1))))))
set_option maxRecDepth 100000 in
set_option maxHeartbeats 4000000 in
theorem wX10_touchIn_J52 {G : kG} {E : kE} {a : Nat → Nat} {st0 : kS} {q1 a1 N1 : Nat} {f1 : Nat → Int32} (hN1 : N1 < 2 ^ 31) (C : kOk G E cX10_touchIn RX10 6 rmfX10_touchIn) {z : Int32} (Zd : kEnd G E (0, 0) (some .int) (some (.int z)) (wM G a st0)) (hq1 : (wM G a st0)[q1]? = some (a1, .inl (G.2.1, N1, .inl f1))) {K Gc : Int32 → Int32 → Option (Int32)} (v2 : Int32) (v3 : Int32) (v4 : Int32) (s0 : Int32) (hK : ∀ (u2 : Int32) (u4 : Int32), K u2 u4 = some z → kX G E (0, 0) (wM G a st0) 99 [(0, .ref (a 0)), (1, .ref a1), (2, .int u2), (3, .int v3)] []) (hG : ∀ (u2 : Int32) (u4 : Int32), Gc u2 u4 = some z → kX G E (0, 0) (wM G a st0) 17 [(0, .ref (a 0)), (1, .ref a1), (2, .int u2), (3, .int v3), (4, .int u4)] []) (h : fX10_touchIn_J52 K Gc N1 f1 st0 v2 v3 v4 s0 = some z) : kX G E (0, 0) (wM G a st0) 52 [(0, .ref (a 0)), (1, .ref a1), (2, .int v2), (3, .int v3), (4, .int v4)] [.int s0] := by
  unfold fX10_touchIn_J52 at h
  refine x_istore (pc := 52) C (lv' := [(5, .int s0), (0, .ref (a 0)), (1, .ref a1), (2, .int v2), (3, .int v3), (4, .int v4)]) dX10_touchIn_52 (by decide) rfl ?_
  refine x_iload_n (pc := 54) C 3 dX10_touchIn_54 rfl rfl ?_
  refine x_iload (pc := 55) C 0 dX10_touchIn_55 rfl ?_
  refine x_if_eq (pc := 57) C 90 dX10_touchIn_57 (by decide) (fun c_6 => ?_) (fun c_6 => ?_)
  · have h := kIp c_6 h
    refine x_iconst (pc := 90) C 0 dX10_touchIn_90 (by decide) ?_
    refine x_iadd (pc := 91) C dX10_touchIn_91 ?_
    refine x_istore_n (pc := 92) C (lv' := [(2, .int (v2 + 0)), (5, .int s0), (0, .ref (a 0)), (1, .ref a1), (3, .int v3), (4, .int v4)]) dX10_touchIn_92 rfl (by decide) rfl ?_
    refine x_iinc (pc := 93) C 5 (v := v4 + 1) (lv' := [(4, .int (v4 + 1)), (2, .int (v2 + 0)), (5, .int s0), (0, .ref (a 0)), (1, .ref a1), (3, .int v3)]) dX10_touchIn_93 rfl rfl (by decide) rfl ?_
    refine x_goto (pc := 96) C 17 dX10_touchIn_96 (by decide) ?_
    refine kX.pick [3, 4, 1, 5, 0] (lv' := [(0, .ref (a 0)), (1, .ref a1), (2, .int (v2 + 0)), (3, .int v3), (4, .int (v4 + 1))]) rfl ?_
    exact hG (v2 + 0) (v4 + 1) h
  · have h := kIn c_6 h
    refine x_aload_n (pc := 60) C 1 dX10_touchIn_60 rfl rfl ?_
    refine x_get (pc := 61) C inlX10 0 rfl rfl 3 (by decide) q5_13 (v := .ref (a 2)) rfl dX10_touchIn_61 ?_
    refine x_bipush (pc := 64) C 6 dX10_touchIn_64 (by decide) ?_
    refine x_iload_n (pc := 66) C 4 dX10_touchIn_66 rfl rfl ?_
    refine x_imul (pc := 67) C dX10_touchIn_67 ?_
    refine x_iload (pc := 68) C 5 dX10_touchIn_68 rfl ?_
    refine x_iadd (pc := 70) C dX10_touchIn_70 ?_
    obtain ⟨x_7, hx_7, h⟩ := kB h
    obtain ⟨hi_8, hx_7⟩ := ka_some hx_7
    refine y_zald (pc := 71) C 2 (lwM_A2 G a rfl) hi_8 hx_7 dX10_touchIn_71 ?_
    refine x_if_eq (pc := 72) C 90 dX10_touchIn_72 (by decide) (fun c_9 => ?_) (fun c_9 => ?_)
    · have h := kIp c_9 h
      refine x_iconst (pc := 90) C 0 dX10_touchIn_90 (by decide) ?_
      refine x_iadd (pc := 91) C dX10_touchIn_91 ?_
      refine x_istore_n (pc := 92) C (lv' := [(2, .int (v2 + 0)), (5, .int s0), (0, .ref (a 0)), (1, .ref a1), (3, .int v3), (4, .int v4)]) dX10_touchIn_92 rfl (by decide) rfl ?_
      refine x_iinc (pc := 93) C 5 (v := v4 + 1) (lv' := [(4, .int (v4 + 1)), (2, .int (v2 + 0)), (5, .int s0), (0, .ref (a 0)), (1, .ref a1), (3, .int v3)]) dX10_touchIn_93 rfl rfl (by decide) rfl ?_
      refine x_goto (pc := 96) C 17 dX10_touchIn_96 (by decide) ?_
      refine kX.pick [3, 4, 1, 5, 0] (lv' := [(0, .ref (a 0)), (1, .ref a1), (2, .int (v2 + 0)), (3, .int v3), (4, .int (v4 + 1))]) rfl ?_
      exact hG (v2 + 0) (v4 + 1) h
    · have h := kIn c_9 h
      refine x_aload_n (pc := 75) C 1 dX10_touchIn_75 rfl rfl ?_
      refine x_aload_n (pc := 76) C 2 dX10_touchIn_76 rfl rfl ?_
      refine x_iload_n (pc := 77) C 4 dX10_touchIn_77 rfl rfl ?_
      refine x_iload (pc := 78) C 5 dX10_touchIn_78 rfl ?_
      obtain ⟨z_10, hz_10, h⟩ := kB h
      refine x_callV (pc := 80) C 0 [.ref a1, .int v3, .int v4] rfl rfl (mX10_areBeside G a (N := N1) (f := f1) q1 hq1 hN1 st0 v3 v4 hz_10) yvX10_areBeside q20_2 ⟨Nat.le_of_ble_eq_true rfl, Nat.le_of_ble_eq_true rfl, rfl, rfl⟩ ⟨Nat.zero_le _, Nat.zero_le _⟩ rfl rfl (Nat.le_of_ble_eq_true rfl) rfl dX10_touchIn_80 ?_
      refine x_if_eq (pc := 83) C 90 dX10_touchIn_83 (by decide) (fun c_11 => ?_) (fun c_11 => ?_)
      · have h := kIp c_11 h
        refine x_iconst (pc := 90) C 0 dX10_touchIn_90 (by decide) ?_
        refine x_iadd (pc := 91) C dX10_touchIn_91 ?_
        refine x_istore_n (pc := 92) C (lv' := [(2, .int (v2 + 0)), (5, .int s0), (0, .ref (a 0)), (1, .ref a1), (3, .int v3), (4, .int v4)]) dX10_touchIn_92 rfl (by decide) rfl ?_
        refine x_iinc (pc := 93) C 5 (v := v4 + 1) (lv' := [(4, .int (v4 + 1)), (2, .int (v2 + 0)), (5, .int s0), (0, .ref (a 0)), (1, .ref a1), (3, .int v3)]) dX10_touchIn_93 rfl rfl (by decide) rfl ?_
        refine x_goto (pc := 96) C 17 dX10_touchIn_96 (by decide) ?_
        refine kX.pick [3, 4, 1, 5, 0] (lv' := [(0, .ref (a 0)), (1, .ref a1), (2, .int (v2 + 0)), (3, .int v3), (4, .int (v4 + 1))]) rfl ?_
        exact hG (v2 + 0) (v4 + 1) h
      · have h := kIn c_11 h
        refine x_iconst (pc := 86) C 1 dX10_touchIn_86 (by decide) ?_
        refine x_goto (pc := 87) C 91 dX10_touchIn_87 (by decide) ?_
        refine x_iadd (pc := 91) C dX10_touchIn_91 ?_
        refine x_istore_n (pc := 92) C (lv' := [(2, .int (v2 + 1)), (5, .int s0), (0, .ref (a 0)), (1, .ref a1), (3, .int v3), (4, .int v4)]) dX10_touchIn_92 rfl (by decide) rfl ?_
        refine x_iinc (pc := 93) C 5 (v := v4 + 1) (lv' := [(4, .int (v4 + 1)), (2, .int (v2 + 1)), (5, .int s0), (0, .ref (a 0)), (1, .ref a1), (3, .int v3)]) dX10_touchIn_93 rfl rfl (by decide) rfl ?_
        refine x_goto (pc := 96) C 17 dX10_touchIn_96 (by decide) ?_
        refine kX.pick [3, 4, 1, 5, 0] (lv' := [(0, .ref (a 0)), (1, .ref a1), (2, .int (v2 + 1)), (3, .int v3), (4, .int (v4 + 1))]) rfl ?_
        exact hG (v2 + 1) (v4 + 1) h
def fX10_touchIn_J51 (K : Int32 → Int32 → Option (Int32)) (Gc : Int32 → Int32 → Option (Int32)) (N1 : Nat) (f1 : Nat → Int32) (st : kS) (v2 : Int32) (v3 : Int32) (v4 : Int32) : Option (Int32) := fX10_touchIn_J52 K Gc N1 f1 st v2 v3 v4 0
set_option maxRecDepth 100000 in
set_option maxHeartbeats 4000000 in
theorem wX10_touchIn_J51 {G : kG} {E : kE} {a : Nat → Nat} {st0 : kS} {q1 a1 N1 : Nat} {f1 : Nat → Int32} (hN1 : N1 < 2 ^ 31) (C : kOk G E cX10_touchIn RX10 6 rmfX10_touchIn) {z : Int32} (Zd : kEnd G E (0, 0) (some .int) (some (.int z)) (wM G a st0)) (hq1 : (wM G a st0)[q1]? = some (a1, .inl (G.2.1, N1, .inl f1))) {K Gc : Int32 → Int32 → Option (Int32)} (v2 : Int32) (v3 : Int32) (v4 : Int32) (hK : ∀ (u2 : Int32) (u4 : Int32), K u2 u4 = some z → kX G E (0, 0) (wM G a st0) 99 [(0, .ref (a 0)), (1, .ref a1), (2, .int u2), (3, .int v3)] []) (hG : ∀ (u2 : Int32) (u4 : Int32), Gc u2 u4 = some z → kX G E (0, 0) (wM G a st0) 17 [(0, .ref (a 0)), (1, .ref a1), (2, .int u2), (3, .int v3), (4, .int u4)] []) (h : fX10_touchIn_J51 K Gc N1 f1 st0 v2 v3 v4 = some z) : kX G E (0, 0) (wM G a st0) 51 [(0, .ref (a 0)), (1, .ref a1), (2, .int v2), (3, .int v3), (4, .int v4)] [] := by
  unfold fX10_touchIn_J51 at h
  refine x_iconst (pc := 51) C 0 dX10_touchIn_51 (by decide) ?_
  exact wX10_touchIn_J52 hN1 C Zd hq1 v2 v3 v4 0 hK hG h
def fX10_touchIn_L17_B (K : Int32 → Int32 → Option (Int32)) (Gc : Int32 → Int32 → Option (Int32)) (N1 : Nat) (f1 : Nat → Int32) (st : kS) (v2 : Int32) (v3 : Int32) (v4 : Int32) : Option (Int32) := if (gI st 0) ≤ v4 then (K v2 v4) else ((ka 6 (gA st 1) v3).bind (fun x_3 => if x_3 = 2 then (fX10_touchIn_J51 K Gc N1 f1 st v2 v3 v4) else ((ka 6 (gA st 1) v4).bind (fun x_12 => if x_12 = 2 then (fX10_touchIn_J51 K Gc N1 f1 st v2 v3 v4) else (fX10_touchIn_J52 K Gc N1 f1 st v2 v3 v4 1)))))
set_option maxRecDepth 100000 in
set_option maxHeartbeats 4000000 in
theorem wX10_touchIn_L17_B {G : kG} {E : kE} {a : Nat → Nat} {st0 : kS} {q1 a1 N1 : Nat} {f1 : Nat → Int32} (hN1 : N1 < 2 ^ 31) (C : kOk G E cX10_touchIn RX10 6 rmfX10_touchIn) {z : Int32} (Zd : kEnd G E (0, 0) (some .int) (some (.int z)) (wM G a st0)) (hq1 : (wM G a st0)[q1]? = some (a1, .inl (G.2.1, N1, .inl f1))) {K Gc : Int32 → Int32 → Option (Int32)} (v2 : Int32) (v3 : Int32) (v4 : Int32) (hK : ∀ (u2 : Int32) (u4 : Int32), K u2 u4 = some z → kX G E (0, 0) (wM G a st0) 99 [(0, .ref (a 0)), (1, .ref a1), (2, .int u2), (3, .int v3)] []) (hG : ∀ (u2 : Int32) (u4 : Int32), Gc u2 u4 = some z → kX G E (0, 0) (wM G a st0) 17 [(0, .ref (a 0)), (1, .ref a1), (2, .int u2), (3, .int v3), (4, .int u4)] []) (h : fX10_touchIn_L17_B K Gc N1 f1 st0 v2 v3 v4 = some z) : kX G E (0, 0) (wM G a st0) 17 [(0, .ref (a 0)), (1, .ref a1), (2, .int v2), (3, .int v3), (4, .int v4)] [] := by
  unfold fX10_touchIn_L17_B at h
  refine x_iload (pc := 17) C 4 dX10_touchIn_17 rfl ?_
  refine x_aload_n (pc := 19) C 0 dX10_touchIn_19 rfl rfl ?_
  refine x_get (pc := 20) C inlX10 0 rfl rfl 0 (by decide) q15_2 (v := .int (gI st0 0)) rfl dX10_touchIn_20 ?_
  refine x_icmp_ge (pc := 23) C 99 dX10_touchIn_23 (by decide) (fun c_2 => ?_) (fun c_2 => ?_)
  · have h := kIp c_2 h
    refine kX.pick [0, 1, 2, 3] (lv' := [(0, .ref (a 0)), (1, .ref a1), (2, .int v2), (3, .int v3)]) rfl ?_
    exact hK v2 v4 h
  · have h := kIn c_2 h
    refine x_aload_n (pc := 26) C 0 dX10_touchIn_26 rfl rfl ?_
    refine x_get (pc := 27) C inlX10 0 rfl rfl 2 (by decide) q5_11 (v := .ref (a 1)) rfl dX10_touchIn_27 ?_
    refine x_iload_n (pc := 30) C 3 dX10_touchIn_30 rfl rfl ?_
    obtain ⟨x_3, hx_3, h⟩ := kB h
    obtain ⟨hi_4, hx_3⟩ := ka_some hx_3
    refine y_iald (pc := 31) C 1 (lwM_A1 G a rfl) hi_4 hx_3 dX10_touchIn_31 ?_
    refine x_iconst (pc := 32) C 2 dX10_touchIn_32 (by decide) ?_
    refine x_icmp_eq (pc := 33) C 51 dX10_touchIn_33 (by decide) (fun c_5 => ?_) (fun c_5 => ?_)
    · have h := kIp c_5 h
      exact wX10_touchIn_J51 hN1 C Zd hq1 v2 v3 v4 hK hG h
    · have h := kIn c_5 h
      refine x_aload_n (pc := 36) C 0 dX10_touchIn_36 rfl rfl ?_
      refine x_get (pc := 37) C inlX10 0 rfl rfl 2 (by decide) q5_11 (v := .ref (a 1)) rfl dX10_touchIn_37 ?_
      refine x_iload (pc := 40) C 4 dX10_touchIn_40 rfl ?_
      obtain ⟨x_12, hx_12, h⟩ := kB h
      obtain ⟨hi_13, hx_12⟩ := ka_some hx_12
      refine y_iald (pc := 42) C 1 (lwM_A1 G a rfl) hi_13 hx_12 dX10_touchIn_42 ?_
      refine x_iconst (pc := 43) C 2 dX10_touchIn_43 (by decide) ?_
      refine x_icmp_eq (pc := 44) C 51 dX10_touchIn_44 (by decide) (fun c_14 => ?_) (fun c_14 => ?_)
      · have h := kIp c_14 h
        exact wX10_touchIn_J51 hN1 C Zd hq1 v2 v3 v4 hK hG h
      · have h := kIn c_14 h
        refine x_iconst (pc := 47) C 1 dX10_touchIn_47 (by decide) ?_
        refine x_goto (pc := 48) C 52 dX10_touchIn_48 (by decide) ?_
        exact wX10_touchIn_J52 hN1 C Zd hq1 v2 v3 v4 1 hK hG h
def fX10_touchIn_L17 (K : Int32 → Int32 → Option (Int32)) (N1 : Nat) (f1 : Nat → Int32) (st : kS) (v3 : Int32) : Nat → Int32 → Int32 → Option (Int32)
  | 0, _, _ => none
  | F + 1, v2, v4 => fX10_touchIn_L17_B K (fX10_touchIn_L17 K N1 f1 st v3 F) N1 f1 st v2 v3 v4
set_option maxRecDepth 100000 in
set_option maxHeartbeats 4000000 in
theorem wX10_touchIn_L17 {G : kG} {E : kE} {a : Nat → Nat} {st0 : kS} {q1 a1 N1 : Nat} {f1 : Nat → Int32} (hN1 : N1 < 2 ^ 31) (C : kOk G E cX10_touchIn RX10 6 rmfX10_touchIn) {z : Int32} (Zd : kEnd G E (0, 0) (some .int) (some (.int z)) (wM G a st0)) (hq1 : (wM G a st0)[q1]? = some (a1, .inl (G.2.1, N1, .inl f1))) {K : Int32 → Int32 → Option (Int32)} (v3 : Int32) (hK : ∀ (u2 : Int32) (u4 : Int32), K u2 u4 = some z → kX G E (0, 0) (wM G a st0) 99 [(0, .ref (a 0)), (1, .ref a1), (2, .int u2), (3, .int v3)] []) : ∀ (F : Nat) (v2 : Int32) (v4 : Int32), fX10_touchIn_L17 K N1 f1 st0 v3 F v2 v4 = some z → kX G E (0, 0) (wM G a st0) 17 [(0, .ref (a 0)), (1, .ref a1), (2, .int v2), (3, .int v3), (4, .int v4)] [] := by
  intro F
  induction F with
  | zero =>
    intro v2 v4 h
    exact absurd (show none = some z from h) (fun q => by cases q)
  | succ F ih =>
    intro v2 v4 h
    exact wX10_touchIn_L17_B hN1 C Zd hq1 v2 v3 v4 hK (fun v2 v4 h => ih v2 v4 h) h
def fX10_touchIn_L4_B (K : Int32 → Int32 → Option (Int32)) (Gc : Int32 → Int32 → Option (Int32)) (N1 : Nat) (f1 : Nat → Int32) (st : kS) (v2 : Int32) (v3 : Int32) : Option (Int32) := if (gI st 0) ≤ v3 then (K v2 v3) else (fX10_touchIn_L17 (fun v2_15 v4_16 => Gc v2_15 (v3 + 1)) N1 f1 st v3 kFU v2 (v3 + 1))
set_option maxRecDepth 100000 in
set_option maxHeartbeats 4000000 in
theorem wX10_touchIn_L4_B {G : kG} {E : kE} {a : Nat → Nat} {st0 : kS} {q1 a1 N1 : Nat} {f1 : Nat → Int32} (hN1 : N1 < 2 ^ 31) (C : kOk G E cX10_touchIn RX10 6 rmfX10_touchIn) {z : Int32} (Zd : kEnd G E (0, 0) (some .int) (some (.int z)) (wM G a st0)) (hq1 : (wM G a st0)[q1]? = some (a1, .inl (G.2.1, N1, .inl f1))) {K Gc : Int32 → Int32 → Option (Int32)} (v2 : Int32) (v3 : Int32) (hK : ∀ (u2 : Int32) (u3 : Int32), K u2 u3 = some z → kX G E (0, 0) (wM G a st0) 105 [(2, .int u2)] []) (hG : ∀ (u2 : Int32) (u3 : Int32), Gc u2 u3 = some z → kX G E (0, 0) (wM G a st0) 4 [(0, .ref (a 0)), (1, .ref a1), (2, .int u2), (3, .int u3)] []) (h : fX10_touchIn_L4_B K Gc N1 f1 st0 v2 v3 = some z) : kX G E (0, 0) (wM G a st0) 4 [(0, .ref (a 0)), (1, .ref a1), (2, .int v2), (3, .int v3)] [] := by
  unfold fX10_touchIn_L4_B at h
  refine x_iload_n (pc := 4) C 3 dX10_touchIn_4 rfl rfl ?_
  refine x_aload_n (pc := 5) C 0 dX10_touchIn_5 rfl rfl ?_
  refine x_get (pc := 6) C inlX10 0 rfl rfl 0 (by decide) q15_2 (v := .int (gI st0 0)) rfl dX10_touchIn_6 ?_
  refine x_icmp_ge (pc := 9) C 105 dX10_touchIn_9 (by decide) (fun c_1 => ?_) (fun c_1 => ?_)
  · have h := kIp c_1 h
    refine kX.pick [2] (lv' := [(2, .int v2)]) rfl ?_
    exact hK v2 v3 h
  · have h := kIn c_1 h
    refine x_iload_n (pc := 12) C 3 dX10_touchIn_12 rfl rfl ?_
    refine x_iconst (pc := 13) C 1 dX10_touchIn_13 (by decide) ?_
    refine x_iadd (pc := 14) C dX10_touchIn_14 ?_
    refine x_istore (pc := 15) C (lv' := [(4, .int (v3 + 1)), (0, .ref (a 0)), (1, .ref a1), (2, .int v2), (3, .int v3)]) dX10_touchIn_15 (by decide) rfl ?_
    refine kX.pick [1, 2, 3, 4, 0] (lv' := [(0, .ref (a 0)), (1, .ref a1), (2, .int v2), (3, .int v3), (4, .int (v3 + 1))]) rfl ?_
    refine wX10_touchIn_L17 hN1 C Zd hq1 v3 (fun v2_15 v4_16 h => ?_) kFU v2 (v3 + 1) h
    refine x_iinc (pc := 99) C 3 (v := v3 + 1) (lv' := [(3, .int (v3 + 1)), (0, .ref (a 0)), (1, .ref a1), (2, .int v2_15)]) dX10_touchIn_99 rfl rfl (by decide) rfl ?_
    refine x_goto (pc := 102) C 4 dX10_touchIn_102 (by decide) ?_
    refine kX.pick [1, 2, 3, 0] (lv' := [(0, .ref (a 0)), (1, .ref a1), (2, .int v2_15), (3, .int (v3 + 1))]) rfl ?_
    exact hG v2_15 (v3 + 1) h
def fX10_touchIn_L4 (K : Int32 → Int32 → Option (Int32)) (N1 : Nat) (f1 : Nat → Int32) (st : kS) : Nat → Int32 → Int32 → Option (Int32)
  | 0, _, _ => none
  | F + 1, v2, v3 => fX10_touchIn_L4_B K (fX10_touchIn_L4 K N1 f1 st F) N1 f1 st v2 v3
set_option maxRecDepth 100000 in
set_option maxHeartbeats 4000000 in
theorem wX10_touchIn_L4 {G : kG} {E : kE} {a : Nat → Nat} {st0 : kS} {q1 a1 N1 : Nat} {f1 : Nat → Int32} (hN1 : N1 < 2 ^ 31) (C : kOk G E cX10_touchIn RX10 6 rmfX10_touchIn) {z : Int32} (Zd : kEnd G E (0, 0) (some .int) (some (.int z)) (wM G a st0)) (hq1 : (wM G a st0)[q1]? = some (a1, .inl (G.2.1, N1, .inl f1))) {K : Int32 → Int32 → Option (Int32)} (hK : ∀ (u2 : Int32) (u3 : Int32), K u2 u3 = some z → kX G E (0, 0) (wM G a st0) 105 [(2, .int u2)] []) : ∀ (F : Nat) (v2 : Int32) (v3 : Int32), fX10_touchIn_L4 K N1 f1 st0 F v2 v3 = some z → kX G E (0, 0) (wM G a st0) 4 [(0, .ref (a 0)), (1, .ref a1), (2, .int v2), (3, .int v3)] [] := by
  intro F
  induction F with
  | zero =>
    intro v2 v3 h
    exact absurd (show none = some z from h) (fun q => by cases q)
  | succ F ih =>
    intro v2 v3 h
    exact wX10_touchIn_L4_B hN1 C Zd hq1 v2 v3 hK (fun v2 v3 h => ih v2 v3 h) h
def fX10_touchIn (N1 : Nat) (f1 : Nat → Int32) (st : kS) : Option (Int32) := fX10_touchIn_L4 (fun v2_17 v3_18 => some v2_17) N1 f1 st kFU 0 0
set_option maxRecDepth 100000 in
set_option maxHeartbeats 4000000 in
theorem wX10_touchIn {G : kG} {E : kE} {a : Nat → Nat} {st0 : kS} {q1 a1 N1 : Nat} {f1 : Nat → Int32} (hN1 : N1 < 2 ^ 31) (C : kOk G E cX10_touchIn RX10 6 rmfX10_touchIn) {z : Int32} (Zd : kEnd G E (0, 0) (some .int) (some (.int z)) (wM G a st0)) (hq1 : (wM G a st0)[q1]? = some (a1, .inl (G.2.1, N1, .inl f1))) (h : fX10_touchIn N1 f1 st0 = some z) : kX G E (0, 0) (wM G a st0) 0 [(0, .ref (a 0)), (1, .ref a1)] [] := by
  unfold fX10_touchIn at h
  refine x_iconst (pc := 0) C 0 dX10_touchIn_0 (by decide) ?_
  refine x_istore_n (pc := 1) C (lv' := [(2, .int 0), (0, .ref (a 0)), (1, .ref a1)]) dX10_touchIn_1 rfl (by decide) rfl ?_
  refine x_iconst (pc := 2) C 0 dX10_touchIn_2 (by decide) ?_
  refine x_istore_n (pc := 3) C (lv' := [(3, .int 0), (2, .int 0), (0, .ref (a 0)), (1, .ref a1)]) dX10_touchIn_3 rfl (by decide) rfl ?_
  refine kX.pick [2, 3, 1, 0] (lv' := [(0, .ref (a 0)), (1, .ref a1), (2, .int 0), (3, .int 0)]) rfl ?_
  refine wX10_touchIn_L4 hN1 C Zd hq1  (fun v2_17 v3_18 h => ?_) kFU 0 0 h
  refine x_iload_n (pc := 105) C 0 dX10_touchIn_105 rfl rfl ?_
  obtain rfl := Option.some.inj h
  exact x_iret (pc := 106) C Zd dX10_touchIn_106
set_option maxRecDepth 100000 in
theorem mX10_touchIn (G : kG) (a : Nat → Nat) {st : kS} {a1 : Nat} {N : Nat} {f : Nat → Int32} (q1 : Nat) (hq1 : (wM G a st)[q1]? = some (a1, .inl (G.2.1, N, .inl f))) (hN1 : N < 2 ^ 31) (_ : kS)  {z : Int32} (h : fX10_touchIn N f st = some z) : kMet G yX10_touchIn cX10_touchIn 6 (some .int) rmfX10_touchIn (0, 0) [.ref (a 0), .ref a1] (wM G a st) (some (.int z)) (wM G a st) := kMet.mk (by decide +kernel) (Nat.le_of_ble_eq_true rfl) (fun E C Zd => wX10_touchIn hN1 C Zd hq1  h)
theorem yvX10_touch : kYV yX10_touch RX10 cX10_touch 1 (some .int) 0 := ⟨q22_18, q22_19, q1_5, q22_20, by decide +kernel⟩
abbrev rmfX10_touch : Room := { frames := 3, cells := 0, slots := 0, locals := 72 }
def fX10_touch (st : kS) : Option (Int32) := if (gI st 0) = 0 then (some (-103)) else ((fX10_touchIn 6 (gA st 3) st).bind (fun z_2 => some z_2))
set_option maxRecDepth 100000 in
set_option maxHeartbeats 4000000 in
theorem wX10_touch {G : kG} {E : kE} {a : Nat → Nat} {st0 : kS} (C : kOk G E cX10_touch RX10 1 rmfX10_touch) {z : Int32} (Zd : kEnd G E (0, 0) (some .int) (some (.int z)) (wM G a st0)) (h : fX10_touch st0 = some z) : kX G E (0, 0) (wM G a st0) 0 [(0, .ref (a 0))] [] := by
  unfold fX10_touch at h
  refine x_aload_n (pc := 0) C 0 dX10_touch_0 rfl rfl ?_
  refine x_get (pc := 1) C inlX10 0 rfl rfl 0 (by decide) q15_2 (v := .int (gI st0 0)) rfl dX10_touch_1 ?_
  refine x_if_ne (pc := 4) C 12 dX10_touch_4 (by decide) (fun c_1 => ?_) (fun c_1 => ?_)
  · have h := kIn c_1 h
    refine x_aload_n (pc := 12) C 0 dX10_touch_12 rfl rfl ?_
    refine x_aload_n (pc := 13) C 0 dX10_touch_13 rfl rfl ?_
    refine x_get (pc := 14) C inlX10 0 rfl rfl 4 (by decide) q5_14 (v := .ref (a 3)) rfl dX10_touch_14 ?_
    obtain ⟨z_2, hz_2, h⟩ := kB h
    refine x_callV (pc := 17) C 0 [.ref (a 3)] rfl rfl (mX10_touchIn G a (N := 6) (f := (gA st0 3)) 3 (lwM_A3 G a rfl) (by decide) st0 hz_2) yvX10_touchIn q22_21 ⟨Nat.le_of_ble_eq_true rfl, Nat.le_of_ble_eq_true rfl, rfl, rfl⟩ ⟨Nat.zero_le _, Nat.zero_le _⟩ rfl rfl (Nat.le_of_ble_eq_true rfl) rfl dX10_touch_17 ?_
    obtain rfl := Option.some.inj h
    exact x_iret (pc := 20) C Zd dX10_touch_20
  · have h := kIp c_1 h
    refine x_bipush (pc := 7) C (-103) dX10_touch_7 (by decide) ?_
    refine x_goto (pc := 9) C 20 dX10_touch_9 (by decide) ?_
    obtain rfl := Option.some.inj h
    exact x_iret (pc := 20) C Zd dX10_touch_20
set_option maxRecDepth 100000 in
theorem mX10_touch (G : kG) (a : Nat → Nat) (st : kS)  {z : Int32} (h : fX10_touch st = some z) : kMet G yX10_touch cX10_touch 1 (some .int) rmfX10_touch (0, 0) [.ref (a 0)] (wM G a st) (some (.int z)) (wM G a st) := kMet.mk (by decide +kernel) (Nat.le_of_ble_eq_true rfl) (fun E C Zd => wX10_touch  C Zd   h)
