def fL_law_L612_B (K : Int32 → Int32 → Int32 → Option (Int32 × kS)) (Gc : Int32 → Int32 → Int32 → Option (Int32 × kS)) (L : Nat) (xs : Nat → Int32) (st : kS) (v4 : Int32) (v5 : Int32) (v6 : Int32) (v7 : Int32) (v8 : Int32) (v10 : Int32) (v11 : Int32) (v13 : Int32) (v14 : Int32) (v15 : Int32) (v16 : Int32) (v17 : Int32) (v18 : Int32) (v19 : Int32) (v20 : Int32) (v21 : Int32) : Option (Int32 × kS) := if v15 ≤ v21 then (K v19 v20 v21) else (if v4 = 0 then none else (fL_change st v4 v20 (kr v19 v4)).bind (fun z_70 => Gc (v19 / v4) z_70 (v21 + 1)))
set_option maxRecDepth 100000 in
set_option maxHeartbeats 4000000 in
theorem wL_law_L612_B {G : kG} {E : kE} {a : Nat → Nat} {cs : Nat × Nat} {b L : Nat} {xs : Nat → Int32} (C : kOk G E cL_law RL 36 room_1) {z : Int32 × kS} (Zd : kLawZ E b cs z.1) (X : kScr E b L xs) {K Gc : Int32 → Int32 → Int32 → Option (Int32 × kS)} (st : kS) (v4 : Int32) (v5 : Int32) (v6 : Int32) (v7 : Int32) (v8 : Int32) (v10 : Int32) (v11 : Int32) (v13 : Int32) (v14 : Int32) (v15 : Int32) (v16 : Int32) (v17 : Int32) (v18 : Int32) (v19 : Int32) (v20 : Int32) (v21 : Int32) (hK : ∀ (u19 : Int32) (u20 : Int32) (u21 : Int32), K u19 u20 u21 = some z → kX G E cs (wL G a st) 647 [(0, .ref b), (1, .ref (a 0)), (2, .ref (a 31)), (3, .ref (a 32)), (4, .int v4), (5, .int v5), (6, .int v6), (7, .int v7), (8, .int v8), (10, .int v10), (11, .int v11), (13, .int v13), (14, .int v14), (15, .int v15), (16, .int v16), (17, .int v17), (18, .int v18), (20, .int u20)] []) (hG : ∀ (u19 : Int32) (u20 : Int32) (u21 : Int32), Gc u19 u20 u21 = some z → kX G E cs (wL G a st) 612 [(0, .ref b), (1, .ref (a 0)), (2, .ref (a 31)), (3, .ref (a 32)), (4, .int v4), (5, .int v5), (6, .int v6), (7, .int v7), (8, .int v8), (10, .int v10), (11, .int v11), (13, .int v13), (14, .int v14), (15, .int v15), (16, .int v16), (17, .int v17), (18, .int v18), (19, .int u19), (20, .int u20), (21, .int u21)] []) (h : fL_law_L612_B K Gc L xs st v4 v5 v6 v7 v8 v10 v11 v13 v14 v15 v16 v17 v18 v19 v20 v21 = some z) : kX G E cs (wL G a st) 612 [(0, .ref b), (1, .ref (a 0)), (2, .ref (a 31)), (3, .ref (a 32)), (4, .int v4), (5, .int v5), (6, .int v6), (7, .int v7), (8, .int v8), (10, .int v10), (11, .int v11), (13, .int v13), (14, .int v14), (15, .int v15), (16, .int v16), (17, .int v17), (18, .int v18), (19, .int v19), (20, .int v20), (21, .int v21)] [] := by
  unfold fL_law_L612_B at h
  refine x_iload (pc := 612) C 19 dL_law_612 rfl ?_
  refine x_iload (pc := 614) C 13 dL_law_614 rfl ?_
  refine x_icmp_ge (pc := 616) C 647 dL_law_616 (by decide) (fun c_68 => ?_) (fun c_68 => ?_)
  · have h := kIp c_68 h
    refine kX.pick [0, 1, 2, 3, 4, 5, 6, 7, 8, 9, 10, 11, 12, 13, 14, 15, 16, 18] (lv' := [(0, .ref b), (1, .ref (a 0)), (2, .ref (a 31)), (3, .ref (a 32)), (4, .int v4), (5, .int v5), (6, .int v6), (7, .int v7), (8, .int v8), (10, .int v10), (11, .int v11), (13, .int v13), (14, .int v14), (15, .int v15), (16, .int v16), (17, .int v17), (18, .int v18), (20, .int v20)]) rfl ?_
    exact hK v19 v20 v21 h
  · have h := kIn c_68 h
    refine x_iload (pc := 619) C 4 dL_law_619 rfl ?_
    refine x_aload_n (pc := 621) C 2 dL_law_621 rfl rfl ?_
    refine x_iload (pc := 622) C 18 dL_law_622 rfl ?_
    refine x_iload (pc := 624) C 17 dL_law_624 rfl ?_
    refine x_iload (pc := 626) C 4 dL_law_626 rfl ?_
    obtain ⟨c_69, h⟩ := kGd h
    refine y_irem (pc := 628) C dL_law_628 c_69 ?_
    obtain ⟨z_70, hz_70, h⟩ := kB h
    refine x_callS (pc := 629) C [.int v4, .ref (a 31), .int v20, .int (kr v19 v4)] (mL_change G a st v4 v20 (kr v19 v4) hz_70) ysL_change q12_17 ⟨Nat.le_of_ble_eq_true rfl, Nat.le_of_ble_eq_true rfl, rfl, rfl⟩ Zd.2.1 rfl rfl (Nat.le_of_ble_eq_true rfl) rfl dL_law_629 ?_
    refine x_istore (pc := 632) C (lv' := [(20, .int z_70), (0, .ref b), (1, .ref (a 0)), (2, .ref (a 31)), (3, .ref (a 32)), (4, .int v4), (5, .int v5), (6, .int v6), (7, .int v7), (8, .int v8), (10, .int v10), (11, .int v11), (13, .int v13), (14, .int v14), (15, .int v15), (16, .int v16), (17, .int v17), (18, .int v18), (19, .int v19), (21, .int v21)]) dL_law_632 (by decide) rfl ?_
    refine x_iload (pc := 634) C 18 dL_law_634 rfl ?_
    refine x_iload (pc := 636) C 5 dL_law_636 rfl ?_
    refine y_idiv (pc := 638) C dL_law_638 c_69 ?_
    refine x_istore (pc := 639) C (lv' := [(19, .int (v19 / v4)), (20, .int z_70), (0, .ref b), (1, .ref (a 0)), (2, .ref (a 31)), (3, .ref (a 32)), (4, .int v4), (5, .int v5), (6, .int v6), (7, .int v7), (8, .int v8), (10, .int v10), (11, .int v11), (13, .int v13), (14, .int v14), (15, .int v15), (16, .int v16), (17, .int v17), (18, .int v18), (21, .int v21)]) dL_law_639 (by decide) rfl ?_
    refine x_iinc (pc := 641) C 19 (v := v21 + 1) (lv' := [(21, .int (v21 + 1)), (19, .int (v19 / v4)), (20, .int z_70), (0, .ref b), (1, .ref (a 0)), (2, .ref (a 31)), (3, .ref (a 32)), (4, .int v4), (5, .int v5), (6, .int v6), (7, .int v7), (8, .int v8), (10, .int v10), (11, .int v11), (13, .int v13), (14, .int v14), (15, .int v15), (16, .int v16), (17, .int v17), (18, .int v18)]) dL_law_641 rfl rfl (by decide) rfl ?_
    refine x_goto (pc := 644) C 612 dL_law_644 (by decide) ?_
    refine kX.pick [3, 4, 5, 6, 7, 8, 9, 10, 11, 12, 13, 14, 15, 16, 17, 18, 19, 1, 2, 0] (lv' := [(0, .ref b), (1, .ref (a 0)), (2, .ref (a 31)), (3, .ref (a 32)), (4, .int v4), (5, .int v5), (6, .int v6), (7, .int v7), (8, .int v8), (10, .int v10), (11, .int v11), (13, .int v13), (14, .int v14), (15, .int v15), (16, .int v16), (17, .int v17), (18, .int v18), (19, .int (v19 / v4)), (20, .int z_70), (21, .int (v21 + 1))]) rfl ?_
    exact hG (v19 / v4) z_70 (v21 + 1) h
def fL_law_L612 (K : Int32 → Int32 → Int32 → Option (Int32 × kS)) (L : Nat) (xs : Nat → Int32) (st : kS) (v4 : Int32) (v5 : Int32) (v6 : Int32) (v7 : Int32) (v8 : Int32) (v10 : Int32) (v11 : Int32) (v13 : Int32) (v14 : Int32) (v15 : Int32) (v16 : Int32) (v17 : Int32) (v18 : Int32) : Nat → Int32 → Int32 → Int32 → Option (Int32 × kS)
  | 0, _, _, _ => none
  | F + 1, v19, v20, v21 => fL_law_L612_B K (fL_law_L612 K L xs st v4 v5 v6 v7 v8 v10 v11 v13 v14 v15 v16 v17 v18 F) L xs st v4 v5 v6 v7 v8 v10 v11 v13 v14 v15 v16 v17 v18 v19 v20 v21
set_option maxRecDepth 100000 in
set_option maxHeartbeats 4000000 in
theorem wL_law_L612 {G : kG} {E : kE} {a : Nat → Nat} {cs : Nat × Nat} {b L : Nat} {xs : Nat → Int32} (C : kOk G E cL_law RL 36 room_1) {z : Int32 × kS} (Zd : kLawZ E b cs z.1) (X : kScr E b L xs) {K : Int32 → Int32 → Int32 → Option (Int32 × kS)} (st : kS) (v4 : Int32) (v5 : Int32) (v6 : Int32) (v7 : Int32) (v8 : Int32) (v10 : Int32) (v11 : Int32) (v13 : Int32) (v14 : Int32) (v15 : Int32) (v16 : Int32) (v17 : Int32) (v18 : Int32) (hK : ∀ (u19 : Int32) (u20 : Int32) (u21 : Int32), K u19 u20 u21 = some z → kX G E cs (wL G a st) 647 [(0, .ref b), (1, .ref (a 0)), (2, .ref (a 31)), (3, .ref (a 32)), (4, .int v4), (5, .int v5), (6, .int v6), (7, .int v7), (8, .int v8), (10, .int v10), (11, .int v11), (13, .int v13), (14, .int v14), (15, .int v15), (16, .int v16), (17, .int v17), (18, .int v18), (20, .int u20)] []) : ∀ (F : Nat) (v19 : Int32) (v20 : Int32) (v21 : Int32), fL_law_L612 K L xs st v4 v5 v6 v7 v8 v10 v11 v13 v14 v15 v16 v17 v18 F v19 v20 v21 = some z → kX G E cs (wL G a st) 612 [(0, .ref b), (1, .ref (a 0)), (2, .ref (a 31)), (3, .ref (a 32)), (4, .int v4), (5, .int v5), (6, .int v6), (7, .int v7), (8, .int v8), (10, .int v10), (11, .int v11), (13, .int v13), (14, .int v14), (15, .int v15), (16, .int v16), (17, .int v17), (18, .int v18), (19, .int v19), (20, .int v20), (21, .int v21)] [] := by
  intro F
  induction F with
  | zero =>
    intro v19 v20 v21 h
    exact absurd (show none = some z from h) (fun q => by cases q)
  | succ F ih =>
    intro v19 v20 v21 h
    exact wL_law_L612_B  C Zd X  st v4 v5 v6 v7 v8 v10 v11 v13 v14 v15 v16 v17 v18 v19 v20 v21 hK (fun v19 v20 v21 h => ih v19 v20 v21 h) h
def fL_law_L594_B (K : Int32 → Int32 → Option (Int32 × kS)) (Gc : Int32 → Int32 → Option (Int32 × kS)) (L : Nat) (xs : Nat → Int32) (st : kS) (v4 : Int32) (v5 : Int32) (v6 : Int32) (v7 : Int32) (v8 : Int32) (v10 : Int32) (v11 : Int32) (v13 : Int32) (v14 : Int32) (v15 : Int32) (v16 : Int32) (v17 : Int32) (v18 : Int32) : Option (Int32 × kS) := if v16 ≤ v18 then (K v17 v18) else (fL_law_L612 (fun v19_71 v20_72 v21_73 => if (fL_at v20_72 v14) = v13 then (Gc (v17 + 1) (v18 + 1)) else (Gc (v17 + 0) (v18 + 1))) L xs st v4 v5 v6 v7 v8 v10 v11 v13 v14 v15 v16 v17 v18 kFU v18 v6 0)
set_option maxRecDepth 100000 in
set_option maxHeartbeats 4000000 in
theorem wL_law_L594_B {G : kG} {E : kE} {a : Nat → Nat} {cs : Nat × Nat} {b L : Nat} {xs : Nat → Int32} (C : kOk G E cL_law RL 36 room_1) {z : Int32 × kS} (Zd : kLawZ E b cs z.1) (X : kScr E b L xs) {K Gc : Int32 → Int32 → Option (Int32 × kS)} (st : kS) (v4 : Int32) (v5 : Int32) (v6 : Int32) (v7 : Int32) (v8 : Int32) (v10 : Int32) (v11 : Int32) (v13 : Int32) (v14 : Int32) (v15 : Int32) (v16 : Int32) (v17 : Int32) (v18 : Int32) (hK : ∀ (u17 : Int32) (u18 : Int32), K u17 u18 = some z → kX G E cs (wL G a st) 675 [(0, .ref b), (1, .ref (a 0)), (2, .ref (a 31)), (3, .ref (a 32)), (4, .int v4), (5, .int v5), (6, .int v6), (7, .int v7), (8, .int v8), (10, .int v10), (11, .int v11), (13, .int v13), (14, .int v14), (15, .int v15), (16, .int v16), (17, .int u17)] []) (hG : ∀ (u17 : Int32) (u18 : Int32), Gc u17 u18 = some z → kX G E cs (wL G a st) 594 [(0, .ref b), (1, .ref (a 0)), (2, .ref (a 31)), (3, .ref (a 32)), (4, .int v4), (5, .int v5), (6, .int v6), (7, .int v7), (8, .int v8), (10, .int v10), (11, .int v11), (13, .int v13), (14, .int v14), (15, .int v15), (16, .int v16), (17, .int u17), (18, .int u18)] []) (h : fL_law_L594_B K Gc L xs st v4 v5 v6 v7 v8 v10 v11 v13 v14 v15 v16 v17 v18 = some z) : kX G E cs (wL G a st) 594 [(0, .ref b), (1, .ref (a 0)), (2, .ref (a 31)), (3, .ref (a 32)), (4, .int v4), (5, .int v5), (6, .int v6), (7, .int v7), (8, .int v8), (10, .int v10), (11, .int v11), (13, .int v13), (14, .int v14), (15, .int v15), (16, .int v16), (17, .int v17), (18, .int v18)] [] := by
  unfold fL_law_L594_B at h
  refine x_iload (pc := 594) C 16 dL_law_594 rfl ?_
  refine x_iload (pc := 596) C 14 dL_law_596 rfl ?_
  refine x_icmp_ge (pc := 598) C 675 dL_law_598 (by decide) (fun c_67 => ?_) (fun c_67 => ?_)
  · have h := kIp c_67 h
    refine kX.pick [0, 1, 2, 3, 4, 5, 6, 7, 8, 9, 10, 11, 12, 13, 14, 15] (lv' := [(0, .ref b), (1, .ref (a 0)), (2, .ref (a 31)), (3, .ref (a 32)), (4, .int v4), (5, .int v5), (6, .int v6), (7, .int v7), (8, .int v8), (10, .int v10), (11, .int v11), (13, .int v13), (14, .int v14), (15, .int v15), (16, .int v16), (17, .int v17)]) rfl ?_
    exact hK v17 v18 h
  · have h := kIn c_67 h
    refine x_iload (pc := 601) C 16 dL_law_601 rfl ?_
    refine x_istore (pc := 603) C (lv' := [(19, .int v18), (0, .ref b), (1, .ref (a 0)), (2, .ref (a 31)), (3, .ref (a 32)), (4, .int v4), (5, .int v5), (6, .int v6), (7, .int v7), (8, .int v8), (10, .int v10), (11, .int v11), (13, .int v13), (14, .int v14), (15, .int v15), (16, .int v16), (17, .int v17), (18, .int v18)]) dL_law_603 (by decide) rfl ?_
    refine x_iload (pc := 605) C 7 dL_law_605 rfl ?_
    refine x_istore (pc := 607) C (lv' := [(20, .int v6), (19, .int v18), (0, .ref b), (1, .ref (a 0)), (2, .ref (a 31)), (3, .ref (a 32)), (4, .int v4), (5, .int v5), (6, .int v6), (7, .int v7), (8, .int v8), (10, .int v10), (11, .int v11), (13, .int v13), (14, .int v14), (15, .int v15), (16, .int v16), (17, .int v17), (18, .int v18)]) dL_law_607 (by decide) rfl ?_
    refine x_iconst (pc := 609) C 0 dL_law_609 (by decide) ?_
    refine x_istore (pc := 610) C (lv' := [(21, .int 0), (20, .int v6), (19, .int v18), (0, .ref b), (1, .ref (a 0)), (2, .ref (a 31)), (3, .ref (a 32)), (4, .int v4), (5, .int v5), (6, .int v6), (7, .int v7), (8, .int v8), (10, .int v10), (11, .int v11), (13, .int v13), (14, .int v14), (15, .int v15), (16, .int v16), (17, .int v17), (18, .int v18)]) dL_law_610 (by decide) rfl ?_
    refine kX.pick [3, 4, 5, 6, 7, 8, 9, 10, 11, 12, 13, 14, 15, 16, 17, 18, 19, 2, 1, 0] (lv' := [(0, .ref b), (1, .ref (a 0)), (2, .ref (a 31)), (3, .ref (a 32)), (4, .int v4), (5, .int v5), (6, .int v6), (7, .int v7), (8, .int v8), (10, .int v10), (11, .int v11), (13, .int v13), (14, .int v14), (15, .int v15), (16, .int v16), (17, .int v17), (18, .int v18), (19, .int v18), (20, .int v6), (21, .int 0)]) rfl ?_
    refine wL_law_L612  C Zd X  st v4 v5 v6 v7 v8 v10 v11 v13 v14 v15 v16 v17 v18 (fun v19_71 v20_72 v21_73 h => ?_) kFU v18 v6 0 h
    refine x_iload (pc := 647) C 15 dL_law_647 rfl ?_
    refine x_iload (pc := 649) C 17 dL_law_649 rfl ?_
    refine x_iload (pc := 651) C 12 dL_law_651 rfl ?_
    refine x_callS (pc := 653) C [.int v20_72, .int v14] (mL_at G v20_72 v14) ysL_at q12_20 ⟨Nat.le_of_ble_eq_true rfl, Nat.le_of_ble_eq_true rfl, rfl, rfl⟩ Zd.2.1 rfl rfl (Nat.le_of_ble_eq_true rfl) rfl dL_law_653 ?_
    refine x_iload (pc := 656) C 11 dL_law_656 rfl ?_
    refine x_icmp_ne (pc := 658) C 665 dL_law_658 (by decide) (fun c_74 => ?_) (fun c_74 => ?_)
    · have h := kIn c_74 h
      refine x_iconst (pc := 665) C 0 dL_law_665 (by decide) ?_
      refine x_iadd (pc := 666) C dL_law_666 ?_
      refine x_istore (pc := 667) C (lv' := [(17, .int (v17 + 0)), (0, .ref b), (1, .ref (a 0)), (2, .ref (a 31)), (3, .ref (a 32)), (4, .int v4), (5, .int v5), (6, .int v6), (7, .int v7), (8, .int v8), (10, .int v10), (11, .int v11), (13, .int v13), (14, .int v14), (15, .int v15), (16, .int v16), (18, .int v18), (20, .int v20_72)]) dL_law_667 (by decide) rfl ?_
      refine x_iinc (pc := 669) C 16 (v := v18 + 1) (lv' := [(18, .int (v18 + 1)), (17, .int (v17 + 0)), (0, .ref b), (1, .ref (a 0)), (2, .ref (a 31)), (3, .ref (a 32)), (4, .int v4), (5, .int v5), (6, .int v6), (7, .int v7), (8, .int v8), (10, .int v10), (11, .int v11), (13, .int v13), (14, .int v14), (15, .int v15), (16, .int v16), (20, .int v20_72)]) dL_law_669 rfl rfl (by decide) rfl ?_
      refine x_goto (pc := 672) C 594 dL_law_672 (by decide) ?_
      refine kX.pick [2, 3, 4, 5, 6, 7, 8, 9, 10, 11, 12, 13, 14, 15, 16, 1, 0] (lv' := [(0, .ref b), (1, .ref (a 0)), (2, .ref (a 31)), (3, .ref (a 32)), (4, .int v4), (5, .int v5), (6, .int v6), (7, .int v7), (8, .int v8), (10, .int v10), (11, .int v11), (13, .int v13), (14, .int v14), (15, .int v15), (16, .int v16), (17, .int (v17 + 0)), (18, .int (v18 + 1))]) rfl ?_
      exact hG (v17 + 0) (v18 + 1) h
    · have h := kIp c_74 h
      refine x_iconst (pc := 661) C 1 dL_law_661 (by decide) ?_
      refine x_goto (pc := 662) C 666 dL_law_662 (by decide) ?_
      refine x_iadd (pc := 666) C dL_law_666 ?_
      refine x_istore (pc := 667) C (lv' := [(17, .int (v17 + 1)), (0, .ref b), (1, .ref (a 0)), (2, .ref (a 31)), (3, .ref (a 32)), (4, .int v4), (5, .int v5), (6, .int v6), (7, .int v7), (8, .int v8), (10, .int v10), (11, .int v11), (13, .int v13), (14, .int v14), (15, .int v15), (16, .int v16), (18, .int v18), (20, .int v20_72)]) dL_law_667 (by decide) rfl ?_
      refine x_iinc (pc := 669) C 16 (v := v18 + 1) (lv' := [(18, .int (v18 + 1)), (17, .int (v17 + 1)), (0, .ref b), (1, .ref (a 0)), (2, .ref (a 31)), (3, .ref (a 32)), (4, .int v4), (5, .int v5), (6, .int v6), (7, .int v7), (8, .int v8), (10, .int v10), (11, .int v11), (13, .int v13), (14, .int v14), (15, .int v15), (16, .int v16), (20, .int v20_72)]) dL_law_669 rfl rfl (by decide) rfl ?_
      refine x_goto (pc := 672) C 594 dL_law_672 (by decide) ?_
      refine kX.pick [2, 3, 4, 5, 6, 7, 8, 9, 10, 11, 12, 13, 14, 15, 16, 1, 0] (lv' := [(0, .ref b), (1, .ref (a 0)), (2, .ref (a 31)), (3, .ref (a 32)), (4, .int v4), (5, .int v5), (6, .int v6), (7, .int v7), (8, .int v8), (10, .int v10), (11, .int v11), (13, .int v13), (14, .int v14), (15, .int v15), (16, .int v16), (17, .int (v17 + 1)), (18, .int (v18 + 1))]) rfl ?_
      exact hG (v17 + 1) (v18 + 1) h
def fL_law_L594 (K : Int32 → Int32 → Option (Int32 × kS)) (L : Nat) (xs : Nat → Int32) (st : kS) (v4 : Int32) (v5 : Int32) (v6 : Int32) (v7 : Int32) (v8 : Int32) (v10 : Int32) (v11 : Int32) (v13 : Int32) (v14 : Int32) (v15 : Int32) (v16 : Int32) : Nat → Int32 → Int32 → Option (Int32 × kS)
  | 0, _, _ => none
  | F + 1, v17, v18 => fL_law_L594_B K (fL_law_L594 K L xs st v4 v5 v6 v7 v8 v10 v11 v13 v14 v15 v16 F) L xs st v4 v5 v6 v7 v8 v10 v11 v13 v14 v15 v16 v17 v18
set_option maxRecDepth 100000 in
set_option maxHeartbeats 4000000 in
theorem wL_law_L594 {G : kG} {E : kE} {a : Nat → Nat} {cs : Nat × Nat} {b L : Nat} {xs : Nat → Int32} (C : kOk G E cL_law RL 36 room_1) {z : Int32 × kS} (Zd : kLawZ E b cs z.1) (X : kScr E b L xs) {K : Int32 → Int32 → Option (Int32 × kS)} (st : kS) (v4 : Int32) (v5 : Int32) (v6 : Int32) (v7 : Int32) (v8 : Int32) (v10 : Int32) (v11 : Int32) (v13 : Int32) (v14 : Int32) (v15 : Int32) (v16 : Int32) (hK : ∀ (u17 : Int32) (u18 : Int32), K u17 u18 = some z → kX G E cs (wL G a st) 675 [(0, .ref b), (1, .ref (a 0)), (2, .ref (a 31)), (3, .ref (a 32)), (4, .int v4), (5, .int v5), (6, .int v6), (7, .int v7), (8, .int v8), (10, .int v10), (11, .int v11), (13, .int v13), (14, .int v14), (15, .int v15), (16, .int v16), (17, .int u17)] []) : ∀ (F : Nat) (v17 : Int32) (v18 : Int32), fL_law_L594 K L xs st v4 v5 v6 v7 v8 v10 v11 v13 v14 v15 v16 F v17 v18 = some z → kX G E cs (wL G a st) 594 [(0, .ref b), (1, .ref (a 0)), (2, .ref (a 31)), (3, .ref (a 32)), (4, .int v4), (5, .int v5), (6, .int v6), (7, .int v7), (8, .int v8), (10, .int v10), (11, .int v11), (13, .int v13), (14, .int v14), (15, .int v15), (16, .int v16), (17, .int v17), (18, .int v18)] [] := by
  intro F
  induction F with
  | zero =>
    intro v17 v18 h
    exact absurd (show none = some z from h) (fun q => by cases q)
  | succ F ih =>
    intro v17 v18 h
    exact wL_law_L594_B  C Zd X  st v4 v5 v6 v7 v8 v10 v11 v13 v14 v15 v16 v17 v18 hK (fun v17 v18 h => ih v17 v18 h) h
def fL_law_L729_B (K : Int32 → Int32 → Option (Int32 × kS)) (Gc : Int32 → Int32 → Option (Int32 × kS)) (L : Nat) (xs : Nat → Int32) (st : kS) (v4 : Int32) (v5 : Int32) (v6 : Int32) (v7 : Int32) (v8 : Int32) (v10 : Int32) (v18 : Int32) (v19 : Int32) (v20 : Int32) : Option (Int32 × kS) := if v18 ≤ v20 then (K v19 v20) else (Gc (v19 * v4) (v20 + 1))
set_option maxRecDepth 100000 in
set_option maxHeartbeats 4000000 in
theorem wL_law_L729_B {G : kG} {E : kE} {a : Nat → Nat} {cs : Nat × Nat} {b L : Nat} {xs : Nat → Int32} (C : kOk G E cL_law RL 36 room_1) {z : Int32 × kS} (Zd : kLawZ E b cs z.1) (X : kScr E b L xs) {K Gc : Int32 → Int32 → Option (Int32 × kS)} (st : kS) (v4 : Int32) (v5 : Int32) (v6 : Int32) (v7 : Int32) (v8 : Int32) (v10 : Int32) (v18 : Int32) (v19 : Int32) (v20 : Int32) (hK : ∀ (u19 : Int32) (u20 : Int32), K u19 u20 = some z → kX G E cs (wL G a st) 749 [(0, .ref b), (1, .ref (a 0)), (2, .ref (a 31)), (3, .ref (a 32)), (4, .int v4), (5, .int v5), (6, .int v6), (7, .int v7), (8, .int v8), (10, .int v10), (18, .int v18), (19, .int u19)] []) (hG : ∀ (u19 : Int32) (u20 : Int32), Gc u19 u20 = some z → kX G E cs (wL G a st) 729 [(0, .ref b), (1, .ref (a 0)), (2, .ref (a 31)), (3, .ref (a 32)), (4, .int v4), (5, .int v5), (6, .int v6), (7, .int v7), (8, .int v8), (10, .int v10), (18, .int v18), (19, .int u19), (20, .int u20)] []) (h : fL_law_L729_B K Gc L xs st v4 v5 v6 v7 v8 v10 v18 v19 v20 = some z) : kX G E cs (wL G a st) 729 [(0, .ref b), (1, .ref (a 0)), (2, .ref (a 31)), (3, .ref (a 32)), (4, .int v4), (5, .int v5), (6, .int v6), (7, .int v7), (8, .int v8), (10, .int v10), (18, .int v18), (19, .int v19), (20, .int v20)] [] := by
  unfold fL_law_L729_B at h
  refine x_iload (pc := 729) C 12 dL_law_729 rfl ?_
  refine x_iload (pc := 731) C 10 dL_law_731 rfl ?_
  refine x_icmp_ge (pc := 733) C 749 dL_law_733 (by decide) (fun c_81 => ?_) (fun c_81 => ?_)
  · have h := kIp c_81 h
    refine kX.pick [0, 1, 2, 3, 4, 5, 6, 7, 8, 9, 10, 11] (lv' := [(0, .ref b), (1, .ref (a 0)), (2, .ref (a 31)), (3, .ref (a 32)), (4, .int v4), (5, .int v5), (6, .int v6), (7, .int v7), (8, .int v8), (10, .int v10), (18, .int v18), (19, .int v19)]) rfl ?_
    exact hK v19 v20 h
  · have h := kIn c_81 h
    refine x_iload (pc := 736) C 11 dL_law_736 rfl ?_
    refine x_iload (pc := 738) C 4 dL_law_738 rfl ?_
    refine x_imul (pc := 740) C dL_law_740 ?_
    refine x_istore (pc := 741) C (lv' := [(19, .int (v19 * v4)), (0, .ref b), (1, .ref (a 0)), (2, .ref (a 31)), (3, .ref (a 32)), (4, .int v4), (5, .int v5), (6, .int v6), (7, .int v7), (8, .int v8), (10, .int v10), (18, .int v18), (20, .int v20)]) dL_law_741 (by decide) rfl ?_
    refine x_iinc (pc := 743) C 12 (v := v20 + 1) (lv' := [(20, .int (v20 + 1)), (19, .int (v19 * v4)), (0, .ref b), (1, .ref (a 0)), (2, .ref (a 31)), (3, .ref (a 32)), (4, .int v4), (5, .int v5), (6, .int v6), (7, .int v7), (8, .int v8), (10, .int v10), (18, .int v18)]) dL_law_743 rfl rfl (by decide) rfl ?_
    refine x_goto (pc := 746) C 729 dL_law_746 (by decide) ?_
    refine kX.pick [2, 3, 4, 5, 6, 7, 8, 9, 10, 11, 12, 1, 0] (lv' := [(0, .ref b), (1, .ref (a 0)), (2, .ref (a 31)), (3, .ref (a 32)), (4, .int v4), (5, .int v5), (6, .int v6), (7, .int v7), (8, .int v8), (10, .int v10), (18, .int v18), (19, .int (v19 * v4)), (20, .int (v20 + 1))]) rfl ?_
    exact hG (v19 * v4) (v20 + 1) h
def fL_law_L729 (K : Int32 → Int32 → Option (Int32 × kS)) (L : Nat) (xs : Nat → Int32) (st : kS) (v4 : Int32) (v5 : Int32) (v6 : Int32) (v7 : Int32) (v8 : Int32) (v10 : Int32) (v18 : Int32) : Nat → Int32 → Int32 → Option (Int32 × kS)
  | 0, _, _ => none
  | F + 1, v19, v20 => fL_law_L729_B K (fL_law_L729 K L xs st v4 v5 v6 v7 v8 v10 v18 F) L xs st v4 v5 v6 v7 v8 v10 v18 v19 v20
set_option maxRecDepth 100000 in
set_option maxHeartbeats 4000000 in
theorem wL_law_L729 {G : kG} {E : kE} {a : Nat → Nat} {cs : Nat × Nat} {b L : Nat} {xs : Nat → Int32} (C : kOk G E cL_law RL 36 room_1) {z : Int32 × kS} (Zd : kLawZ E b cs z.1) (X : kScr E b L xs) {K : Int32 → Int32 → Option (Int32 × kS)} (st : kS) (v4 : Int32) (v5 : Int32) (v6 : Int32) (v7 : Int32) (v8 : Int32) (v10 : Int32) (v18 : Int32) (hK : ∀ (u19 : Int32) (u20 : Int32), K u19 u20 = some z → kX G E cs (wL G a st) 749 [(0, .ref b), (1, .ref (a 0)), (2, .ref (a 31)), (3, .ref (a 32)), (4, .int v4), (5, .int v5), (6, .int v6), (7, .int v7), (8, .int v8), (10, .int v10), (18, .int v18), (19, .int u19)] []) : ∀ (F : Nat) (v19 : Int32) (v20 : Int32), fL_law_L729 K L xs st v4 v5 v6 v7 v8 v10 v18 F v19 v20 = some z → kX G E cs (wL G a st) 729 [(0, .ref b), (1, .ref (a 0)), (2, .ref (a 31)), (3, .ref (a 32)), (4, .int v4), (5, .int v5), (6, .int v6), (7, .int v7), (8, .int v8), (10, .int v10), (18, .int v18), (19, .int v19), (20, .int v20)] [] := by
  intro F
  induction F with
  | zero =>
    intro v19 v20 h
    exact absurd (show none = some z from h) (fun q => by cases q)
  | succ F ih =>
    intro v19 v20 h
    exact wL_law_L729_B  C Zd X  st v4 v5 v6 v7 v8 v10 v18 v19 v20 hK (fun v19 v20 h => ih v19 v20 h) h
def fL_law_J826 (K : Int32 → Int32 → Int32 → Int32 → Int32 → Option (Int32 × kS)) (Gc : Int32 → Int32 → Int32 → Int32 → Int32 → Option (Int32 × kS)) (L : Nat) (xs : Nat → Int32) (st : kS) (v4 : Int32) (v5 : Int32) (v6 : Int32) (v7 : Int32) (v8 : Int32) (v10 : Int32) (v18 : Int32) (v19 : Int32) (v20 : Int64) (v22 : Int32) (v23 : Int32) (v24 : Int32) (v26 : Int32) (v28 : Int32) (v29 : Int32) (s0 : Int32) : Option (Int32 × kS) := if v4 = 0 then none else Gc (v24 / v4) v29 (v26 ||| (kshl 1 (kr v24 v4))) s0 (v28 + 1)
set_option maxRecDepth 100000 in
set_option maxHeartbeats 4000000 in
theorem wL_law_J826 {G : kG} {E : kE} {a : Nat → Nat} {cs : Nat × Nat} {b L : Nat} {xs : Nat → Int32} (C : kOk G E cL_law RL 36 room_1) {z : Int32 × kS} (Zd : kLawZ E b cs z.1) (X : kScr E b L xs) {K Gc : Int32 → Int32 → Int32 → Int32 → Int32 → Option (Int32 × kS)} (st : kS) (v4 : Int32) (v5 : Int32) (v6 : Int32) (v7 : Int32) (v8 : Int32) (v10 : Int32) (v18 : Int32) (v19 : Int32) (v20 : Int64) (v22 : Int32) (v23 : Int32) (v24 : Int32) (v26 : Int32) (v28 : Int32) (v29 : Int32) (s0 : Int32) (hK : ∀ (u24 : Int32) (u25 : Int32) (u26 : Int32) (u27 : Int32) (u28 : Int32), K u24 u25 u26 u27 u28 = some z → kX G E cs (wL G a st) 857 [(0, .ref b), (1, .ref (a 0)), (2, .ref (a 31)), (3, .ref (a 32)), (4, .int v4), (5, .int v5), (6, .int v6), (7, .int v7), (8, .int v8), (10, .int v10), (18, .int v18), (19, .int v19), (20, .long v20), (22, .int v22), (23, .int v23), (25, .int u25), (26, .int u26), (27, .int u27)] []) (hG : ∀ (u24 : Int32) (u25 : Int32) (u26 : Int32) (u27 : Int32) (u28 : Int32), Gc u24 u25 u26 u27 u28 = some z → kX G E cs (wL G a st) 787 [(0, .ref b), (1, .ref (a 0)), (2, .ref (a 31)), (3, .ref (a 32)), (4, .int v4), (5, .int v5), (6, .int v6), (7, .int v7), (8, .int v8), (10, .int v10), (18, .int v18), (19, .int v19), (20, .long v20), (22, .int v22), (23, .int v23), (24, .int u24), (25, .int u25), (26, .int u26), (27, .int u27), (28, .int u28)] []) (h : fL_law_J826 K Gc L xs st v4 v5 v6 v7 v8 v10 v18 v19 v20 v22 v23 v24 v26 v28 v29 s0 = some z) : kX G E cs (wL G a st) 826 [(0, .ref b), (1, .ref (a 0)), (2, .ref (a 31)), (3, .ref (a 32)), (4, .int v4), (5, .int v5), (6, .int v6), (7, .int v7), (8, .int v8), (10, .int v10), (18, .int v18), (19, .int v19), (20, .long v20), (22, .int v22), (23, .int v23), (24, .int v24), (26, .int v26), (28, .int v28), (29, .int v29)] [.int s0] := by
  unfold fL_law_J826 at h
  refine x_istore (pc := 826) C (lv' := [(27, .int s0), (0, .ref b), (1, .ref (a 0)), (2, .ref (a 31)), (3, .ref (a 32)), (4, .int v4), (5, .int v5), (6, .int v6), (7, .int v7), (8, .int v8), (10, .int v10), (18, .int v18), (19, .int v19), (20, .long v20), (22, .int v22), (23, .int v23), (24, .int v24), (26, .int v26), (28, .int v28), (29, .int v29)]) dL_law_826 (by decide) rfl ?_
  refine x_iload (pc := 828) C 17 dL_law_828 rfl ?_
  refine x_iconst (pc := 830) C 1 dL_law_830 (by decide) ?_
  refine x_iload (pc := 831) C 16 dL_law_831 rfl ?_
  refine x_iload (pc := 833) C 5 dL_law_833 rfl ?_
  obtain ⟨c_90, h⟩ := kGd h
  refine y_irem (pc := 835) C dL_law_835 c_90 ?_
  refine y_ishl (pc := 836) C dL_law_836 ?_
  refine x_ior (pc := 837) C dL_law_837 ?_
  refine x_istore (pc := 838) C (lv' := [(26, .int (v26 ||| (kshl 1 (kr v24 v4)))), (27, .int s0), (0, .ref b), (1, .ref (a 0)), (2, .ref (a 31)), (3, .ref (a 32)), (4, .int v4), (5, .int v5), (6, .int v6), (7, .int v7), (8, .int v8), (10, .int v10), (18, .int v18), (19, .int v19), (20, .long v20), (22, .int v22), (23, .int v23), (24, .int v24), (28, .int v28), (29, .int v29)]) dL_law_838 (by decide) rfl ?_
  refine x_iload (pc := 840) C 19 dL_law_840 rfl ?_
  refine x_istore (pc := 842) C (lv' := [(25, .int v29), (26, .int (v26 ||| (kshl 1 (kr v24 v4)))), (27, .int s0), (0, .ref b), (1, .ref (a 0)), (2, .ref (a 31)), (3, .ref (a 32)), (4, .int v4), (5, .int v5), (6, .int v6), (7, .int v7), (8, .int v8), (10, .int v10), (18, .int v18), (19, .int v19), (20, .long v20), (22, .int v22), (23, .int v23), (24, .int v24), (28, .int v28), (29, .int v29)]) dL_law_842 (by decide) rfl ?_
  refine x_iload (pc := 844) C 18 dL_law_844 rfl ?_
  refine x_iload (pc := 846) C 7 dL_law_846 rfl ?_
  refine y_idiv (pc := 848) C dL_law_848 c_90 ?_
  refine x_istore (pc := 849) C (lv' := [(24, .int (v24 / v4)), (25, .int v29), (26, .int (v26 ||| (kshl 1 (kr v24 v4)))), (27, .int s0), (0, .ref b), (1, .ref (a 0)), (2, .ref (a 31)), (3, .ref (a 32)), (4, .int v4), (5, .int v5), (6, .int v6), (7, .int v7), (8, .int v8), (10, .int v10), (18, .int v18), (19, .int v19), (20, .long v20), (22, .int v22), (23, .int v23), (28, .int v28), (29, .int v29)]) dL_law_849 (by decide) rfl ?_
  refine x_iinc (pc := 851) C 19 (v := v28 + 1) (lv' := [(28, .int (v28 + 1)), (24, .int (v24 / v4)), (25, .int v29), (26, .int (v26 ||| (kshl 1 (kr v24 v4)))), (27, .int s0), (0, .ref b), (1, .ref (a 0)), (2, .ref (a 31)), (3, .ref (a 32)), (4, .int v4), (5, .int v5), (6, .int v6), (7, .int v7), (8, .int v8), (10, .int v10), (18, .int v18), (19, .int v19), (20, .long v20), (22, .int v22), (23, .int v23), (29, .int v29)]) dL_law_851 rfl rfl (by decide) rfl ?_
  refine x_goto (pc := 854) C 787 dL_law_854 (by decide) ?_
  refine kX.pick [5, 6, 7, 8, 9, 10, 11, 12, 13, 14, 15, 16, 17, 18, 19, 1, 2, 3, 4, 0] (lv' := [(0, .ref b), (1, .ref (a 0)), (2, .ref (a 31)), (3, .ref (a 32)), (4, .int v4), (5, .int v5), (6, .int v6), (7, .int v7), (8, .int v8), (10, .int v10), (18, .int v18), (19, .int v19), (20, .long v20), (22, .int v22), (23, .int v23), (24, .int (v24 / v4)), (25, .int v29), (26, .int (v26 ||| (kshl 1 (kr v24 v4)))), (27, .int s0), (28, .int (v28 + 1))]) rfl ?_
  exact hG (v24 / v4) v29 (v26 ||| (kshl 1 (kr v24 v4))) s0 (v28 + 1) h
def fL_law_L787_B (K : Int32 → Int32 → Int32 → Int32 → Int32 → Option (Int32 × kS)) (Gc : Int32 → Int32 → Int32 → Int32 → Int32 → Option (Int32 × kS)) (L : Nat) (xs : Nat → Int32) (st : kS) (v4 : Int32) (v5 : Int32) (v6 : Int32) (v7 : Int32) (v8 : Int32) (v10 : Int32) (v18 : Int32) (v19 : Int32) (v20 : Int64) (v22 : Int32) (v23 : Int32) (v24 : Int32) (v25 : Int32) (v26 : Int32) (v27 : Int32) (v28 : Int32) : Option (Int32 × kS) := if v18 ≤ v28 then (K v24 v25 v26 v27 v28) else (if v27 = 0 then (K v24 v25 v26 v27 v28) else (if v4 = 0 then none else (fL_change st v4 v25 (kr v24 v4)).bind (fun z_88 => if z_88 = v25 then (fL_law_J826 K Gc L xs st v4 v5 v6 v7 v8 v10 v18 v19 v20 v22 v23 v24 v26 v28 z_88 0) else (fL_law_J826 K Gc L xs st v4 v5 v6 v7 v8 v10 v18 v19 v20 v22 v23 v24 v26 v28 z_88 1))))
set_option maxRecDepth 100000 in
set_option maxHeartbeats 4000000 in
theorem wL_law_L787_B {G : kG} {E : kE} {a : Nat → Nat} {cs : Nat × Nat} {b L : Nat} {xs : Nat → Int32} (C : kOk G E cL_law RL 36 room_1) {z : Int32 × kS} (Zd : kLawZ E b cs z.1) (X : kScr E b L xs) {K Gc : Int32 → Int32 → Int32 → Int32 → Int32 → Option (Int32 × kS)} (st : kS) (v4 : Int32) (v5 : Int32) (v6 : Int32) (v7 : Int32) (v8 : Int32) (v10 : Int32) (v18 : Int32) (v19 : Int32) (v20 : Int64) (v22 : Int32) (v23 : Int32) (v24 : Int32) (v25 : Int32) (v26 : Int32) (v27 : Int32) (v28 : Int32) (hK : ∀ (u24 : Int32) (u25 : Int32) (u26 : Int32) (u27 : Int32) (u28 : Int32), K u24 u25 u26 u27 u28 = some z → kX G E cs (wL G a st) 857 [(0, .ref b), (1, .ref (a 0)), (2, .ref (a 31)), (3, .ref (a 32)), (4, .int v4), (5, .int v5), (6, .int v6), (7, .int v7), (8, .int v8), (10, .int v10), (18, .int v18), (19, .int v19), (20, .long v20), (22, .int v22), (23, .int v23), (25, .int u25), (26, .int u26), (27, .int u27)] []) (hG : ∀ (u24 : Int32) (u25 : Int32) (u26 : Int32) (u27 : Int32) (u28 : Int32), Gc u24 u25 u26 u27 u28 = some z → kX G E cs (wL G a st) 787 [(0, .ref b), (1, .ref (a 0)), (2, .ref (a 31)), (3, .ref (a 32)), (4, .int v4), (5, .int v5), (6, .int v6), (7, .int v7), (8, .int v8), (10, .int v10), (18, .int v18), (19, .int v19), (20, .long v20), (22, .int v22), (23, .int v23), (24, .int u24), (25, .int u25), (26, .int u26), (27, .int u27), (28, .int u28)] []) (h : fL_law_L787_B K Gc L xs st v4 v5 v6 v7 v8 v10 v18 v19 v20 v22 v23 v24 v25 v26 v27 v28 = some z) : kX G E cs (wL G a st) 787 [(0, .ref b), (1, .ref (a 0)), (2, .ref (a 31)), (3, .ref (a 32)), (4, .int v4), (5, .int v5), (6, .int v6), (7, .int v7), (8, .int v8), (10, .int v10), (18, .int v18), (19, .int v19), (20, .long v20), (22, .int v22), (23, .int v23), (24, .int v24), (25, .int v25), (26, .int v26), (27, .int v27), (28, .int v28)] [] := by
  unfold fL_law_L787_B at h
  refine x_iload (pc := 787) C 19 dL_law_787 rfl ?_
  refine x_iload (pc := 789) C 10 dL_law_789 rfl ?_
  refine x_icmp_ge (pc := 791) C 857 dL_law_791 (by decide) (fun c_85 => ?_) (fun c_85 => ?_)
  · have h := kIp c_85 h
    refine kX.pick [0, 1, 2, 3, 4, 5, 6, 7, 8, 9, 10, 11, 12, 13, 14, 16, 17, 18] (lv' := [(0, .ref b), (1, .ref (a 0)), (2, .ref (a 31)), (3, .ref (a 32)), (4, .int v4), (5, .int v5), (6, .int v6), (7, .int v7), (8, .int v8), (10, .int v10), (18, .int v18), (19, .int v19), (20, .long v20), (22, .int v22), (23, .int v23), (25, .int v25), (26, .int v26), (27, .int v27)]) rfl ?_
    exact hK v24 v25 v26 v27 v28 h
  · have h := kIn c_85 h
    refine x_iload (pc := 794) C 18 dL_law_794 rfl ?_
    refine x_if_eq (pc := 796) C 857 dL_law_796 (by decide) (fun c_86 => ?_) (fun c_86 => ?_)
    · have h := kIp c_86 h
      refine kX.pick [0, 1, 2, 3, 4, 5, 6, 7, 8, 9, 10, 11, 12, 13, 14, 16, 17, 18] (lv' := [(0, .ref b), (1, .ref (a 0)), (2, .ref (a 31)), (3, .ref (a 32)), (4, .int v4), (5, .int v5), (6, .int v6), (7, .int v7), (8, .int v8), (10, .int v10), (18, .int v18), (19, .int v19), (20, .long v20), (22, .int v22), (23, .int v23), (25, .int v25), (26, .int v26), (27, .int v27)]) rfl ?_
      exact hK v24 v25 v26 v27 v28 h
    · have h := kIn c_86 h
      refine x_iload (pc := 799) C 4 dL_law_799 rfl ?_
      refine x_aload_n (pc := 801) C 2 dL_law_801 rfl rfl ?_
      refine x_iload (pc := 802) C 16 dL_law_802 rfl ?_
      refine x_iload (pc := 804) C 15 dL_law_804 rfl ?_
      refine x_iload (pc := 806) C 4 dL_law_806 rfl ?_
      obtain ⟨c_87, h⟩ := kGd h
      refine y_irem (pc := 808) C dL_law_808 c_87 ?_
      obtain ⟨z_88, hz_88, h⟩ := kB h
      refine x_callS (pc := 809) C [.int v4, .ref (a 31), .int v25, .int (kr v24 v4)] (mL_change G a st v4 v25 (kr v24 v4) hz_88) ysL_change q12_17 ⟨Nat.le_of_ble_eq_true rfl, Nat.le_of_ble_eq_true rfl, rfl, rfl⟩ Zd.2.1 rfl rfl (Nat.le_of_ble_eq_true rfl) rfl dL_law_809 ?_
      refine x_istore (pc := 812) C (lv' := [(29, .int z_88), (0, .ref b), (1, .ref (a 0)), (2, .ref (a 31)), (3, .ref (a 32)), (4, .int v4), (5, .int v5), (6, .int v6), (7, .int v7), (8, .int v8), (10, .int v10), (18, .int v18), (19, .int v19), (20, .long v20), (22, .int v22), (23, .int v23), (24, .int v24), (25, .int v25), (26, .int v26), (27, .int v27), (28, .int v28)]) dL_law_812 (by decide) rfl ?_
      refine x_iload (pc := 814) C 0 dL_law_814 rfl ?_
      refine x_iload (pc := 816) C 17 dL_law_816 rfl ?_
      refine x_icmp_eq (pc := 818) C 825 dL_law_818 (by decide) (fun c_89 => ?_) (fun c_89 => ?_)
      · have h := kIp c_89 h
        refine x_iconst (pc := 825) C 0 dL_law_825 (by decide) ?_
        refine kX.pick [1, 2, 3, 4, 5, 6, 7, 8, 9, 10, 11, 12, 13, 14, 15, 16, 18, 20, 0] (lv' := [(0, .ref b), (1, .ref (a 0)), (2, .ref (a 31)), (3, .ref (a 32)), (4, .int v4), (5, .int v5), (6, .int v6), (7, .int v7), (8, .int v8), (10, .int v10), (18, .int v18), (19, .int v19), (20, .long v20), (22, .int v22), (23, .int v23), (24, .int v24), (26, .int v26), (28, .int v28), (29, .int z_88)]) rfl ?_
        exact wL_law_J826  C Zd X  st v4 v5 v6 v7 v8 v10 v18 v19 v20 v22 v23 v24 v26 v28 z_88 0 hK hG h
      · have h := kIn c_89 h
        refine x_iconst (pc := 821) C 1 dL_law_821 (by decide) ?_
        refine x_goto (pc := 822) C 826 dL_law_822 (by decide) ?_
        refine kX.pick [1, 2, 3, 4, 5, 6, 7, 8, 9, 10, 11, 12, 13, 14, 15, 16, 18, 20, 0] (lv' := [(0, .ref b), (1, .ref (a 0)), (2, .ref (a 31)), (3, .ref (a 32)), (4, .int v4), (5, .int v5), (6, .int v6), (7, .int v7), (8, .int v8), (10, .int v10), (18, .int v18), (19, .int v19), (20, .long v20), (22, .int v22), (23, .int v23), (24, .int v24), (26, .int v26), (28, .int v28), (29, .int z_88)]) rfl ?_
        exact wL_law_J826  C Zd X  st v4 v5 v6 v7 v8 v10 v18 v19 v20 v22 v23 v24 v26 v28 z_88 1 hK hG h
def fL_law_L787 (K : Int32 → Int32 → Int32 → Int32 → Int32 → Option (Int32 × kS)) (L : Nat) (xs : Nat → Int32) (st : kS) (v4 : Int32) (v5 : Int32) (v6 : Int32) (v7 : Int32) (v8 : Int32) (v10 : Int32) (v18 : Int32) (v19 : Int32) (v20 : Int64) (v22 : Int32) (v23 : Int32) : Nat → Int32 → Int32 → Int32 → Int32 → Int32 → Option (Int32 × kS)
  | 0, _, _, _, _, _ => none
  | F + 1, v24, v25, v26, v27, v28 => fL_law_L787_B K (fL_law_L787 K L xs st v4 v5 v6 v7 v8 v10 v18 v19 v20 v22 v23 F) L xs st v4 v5 v6 v7 v8 v10 v18 v19 v20 v22 v23 v24 v25 v26 v27 v28
set_option maxRecDepth 100000 in
set_option maxHeartbeats 4000000 in
theorem wL_law_L787 {G : kG} {E : kE} {a : Nat → Nat} {cs : Nat × Nat} {b L : Nat} {xs : Nat → Int32} (C : kOk G E cL_law RL 36 room_1) {z : Int32 × kS} (Zd : kLawZ E b cs z.1) (X : kScr E b L xs) {K : Int32 → Int32 → Int32 → Int32 → Int32 → Option (Int32 × kS)} (st : kS) (v4 : Int32) (v5 : Int32) (v6 : Int32) (v7 : Int32) (v8 : Int32) (v10 : Int32) (v18 : Int32) (v19 : Int32) (v20 : Int64) (v22 : Int32) (v23 : Int32) (hK : ∀ (u24 : Int32) (u25 : Int32) (u26 : Int32) (u27 : Int32) (u28 : Int32), K u24 u25 u26 u27 u28 = some z → kX G E cs (wL G a st) 857 [(0, .ref b), (1, .ref (a 0)), (2, .ref (a 31)), (3, .ref (a 32)), (4, .int v4), (5, .int v5), (6, .int v6), (7, .int v7), (8, .int v8), (10, .int v10), (18, .int v18), (19, .int v19), (20, .long v20), (22, .int v22), (23, .int v23), (25, .int u25), (26, .int u26), (27, .int u27)] []) : ∀ (F : Nat) (v24 : Int32) (v25 : Int32) (v26 : Int32) (v27 : Int32) (v28 : Int32), fL_law_L787 K L xs st v4 v5 v6 v7 v8 v10 v18 v19 v20 v22 v23 F v24 v25 v26 v27 v28 = some z → kX G E cs (wL G a st) 787 [(0, .ref b), (1, .ref (a 0)), (2, .ref (a 31)), (3, .ref (a 32)), (4, .int v4), (5, .int v5), (6, .int v6), (7, .int v7), (8, .int v8), (10, .int v10), (18, .int v18), (19, .int v19), (20, .long v20), (22, .int v22), (23, .int v23), (24, .int v24), (25, .int v25), (26, .int v26), (27, .int v27), (28, .int v28)] [] := by
  intro F
  induction F with
  | zero =>
    intro v24 v25 v26 v27 v28 h
    exact absurd (show none = some z from h) (fun q => by cases q)
  | succ F ih =>
    intro v24 v25 v26 v27 v28 h
    exact wL_law_L787_B  C Zd X  st v4 v5 v6 v7 v8 v10 v18 v19 v20 v22 v23 v24 v25 v26 v27 v28 hK (fun v24 v25 v26 v27 v28 h => ih v24 v25 v26 v27 v28 h) h
def fL_law_J876 (K : Int64 → Int32 → Int32 → Option (Int32 × kS)) (Gc : Int64 → Int32 → Int32 → Option (Int32 × kS)) (L : Nat) (xs : Nat → Int32) (st : kS) (v4 : Int32) (v5 : Int32) (v6 : Int32) (v7 : Int32) (v8 : Int32) (v10 : Int32) (v18 : Int32) (v19 : Int32) (v22 : Int32) (v23 : Int32) (v25 : Int32) (v26 : Int32) (v27 : Int32) (s0 : Int64) (s1 : Int64) : Option (Int32 × kS) := if v27 = 0 then (Gc (s1 + s0) (v22 &&& (-1)) (v23 + 1)) else (if v25 = v6 then (Gc (s1 + s0) (v22 &&& v26) (v23 + 1)) else (Gc (s1 + s0) (v22 &&& (-1)) (v23 + 1)))
set_option maxRecDepth 100000 in
set_option maxHeartbeats 4000000 in
theorem wL_law_J876 {G : kG} {E : kE} {a : Nat → Nat} {cs : Nat × Nat} {b L : Nat} {xs : Nat → Int32} (C : kOk G E cL_law RL 36 room_1) {z : Int32 × kS} (Zd : kLawZ E b cs z.1) (X : kScr E b L xs) {K Gc : Int64 → Int32 → Int32 → Option (Int32 × kS)} (st : kS) (v4 : Int32) (v5 : Int32) (v6 : Int32) (v7 : Int32) (v8 : Int32) (v10 : Int32) (v18 : Int32) (v19 : Int32) (v22 : Int32) (v23 : Int32) (v25 : Int32) (v26 : Int32) (v27 : Int32) (s0 : Int64) (s1 : Int64) (hK : ∀ (u20 : Int64) (u22 : Int32) (u23 : Int32), K u20 u22 u23 = some z → kX G E cs (wL G a st) 908 [(0, .ref b), (1, .ref (a 0)), (2, .ref (a 31)), (3, .ref (a 32)), (4, .int v4), (5, .int v5), (6, .int v6), (7, .int v7), (8, .int v8), (10, .int v10), (18, .int v18), (20, .long u20), (22, .int u22)] []) (hG : ∀ (u20 : Int64) (u22 : Int32) (u23 : Int32), Gc u20 u22 u23 = some z → kX G E cs (wL G a st) 763 [(0, .ref b), (1, .ref (a 0)), (2, .ref (a 31)), (3, .ref (a 32)), (4, .int v4), (5, .int v5), (6, .int v6), (7, .int v7), (8, .int v8), (10, .int v10), (18, .int v18), (19, .int v19), (20, .long u20), (22, .int u22), (23, .int u23)] []) (h : fL_law_J876 K Gc L xs st v4 v5 v6 v7 v8 v10 v18 v19 v22 v23 v25 v26 v27 s0 s1 = some z) : kX G E cs (wL G a st) 876 [(0, .ref b), (1, .ref (a 0)), (2, .ref (a 31)), (3, .ref (a 32)), (4, .int v4), (5, .int v5), (6, .int v6), (7, .int v7), (8, .int v8), (10, .int v10), (18, .int v18), (19, .int v19), (22, .int v22), (23, .int v23), (25, .int v25), (26, .int v26), (27, .int v27)] [.long s0, .long s1] := by
  unfold fL_law_J876 at h
  refine x_ladd (pc := 876) C dL_law_876 ?_
  refine x_lstore (pc := 877) C (lv' := [(20, .long (s1 + s0)), (0, .ref b), (1, .ref (a 0)), (2, .ref (a 31)), (3, .ref (a 32)), (4, .int v4), (5, .int v5), (6, .int v6), (7, .int v7), (8, .int v8), (10, .int v10), (18, .int v18), (19, .int v19), (22, .int v22), (23, .int v23), (25, .int v25), (26, .int v26), (27, .int v27)]) dL_law_877 (by decide) rfl ?_
  refine x_iload (pc := 879) C 13 dL_law_879 rfl ?_
  refine x_iload (pc := 881) C 17 dL_law_881 rfl ?_
  refine x_if_eq (pc := 883) C 898 dL_law_883 (by decide) (fun c_97 => ?_) (fun c_97 => ?_)
  · have h := kIp c_97 h
    refine x_iconst (pc := 898) C (-1) dL_law_898 (by decide) ?_
    refine x_iand (pc := 899) C dL_law_899 ?_
    refine x_istore (pc := 900) C (lv' := [(22, .int (v22 &&& (-1))), (20, .long (s1 + s0)), (0, .ref b), (1, .ref (a 0)), (2, .ref (a 31)), (3, .ref (a 32)), (4, .int v4), (5, .int v5), (6, .int v6), (7, .int v7), (8, .int v8), (10, .int v10), (18, .int v18), (19, .int v19), (23, .int v23), (25, .int v25), (26, .int v26), (27, .int v27)]) dL_law_900 (by decide) rfl ?_
    refine x_iinc (pc := 902) C 14 (v := v23 + 1) (lv' := [(23, .int (v23 + 1)), (22, .int (v22 &&& (-1))), (20, .long (s1 + s0)), (0, .ref b), (1, .ref (a 0)), (2, .ref (a 31)), (3, .ref (a 32)), (4, .int v4), (5, .int v5), (6, .int v6), (7, .int v7), (8, .int v8), (10, .int v10), (18, .int v18), (19, .int v19), (25, .int v25), (26, .int v26), (27, .int v27)]) dL_law_902 rfl rfl (by decide) rfl ?_
    refine x_goto (pc := 905) C 763 dL_law_905 (by decide) ?_
    refine kX.pick [3, 4, 5, 6, 7, 8, 9, 10, 11, 12, 13, 14, 2, 1, 0] (lv' := [(0, .ref b), (1, .ref (a 0)), (2, .ref (a 31)), (3, .ref (a 32)), (4, .int v4), (5, .int v5), (6, .int v6), (7, .int v7), (8, .int v8), (10, .int v10), (18, .int v18), (19, .int v19), (20, .long (s1 + s0)), (22, .int (v22 &&& (-1))), (23, .int (v23 + 1))]) rfl ?_
    exact hG (s1 + s0) (v22 &&& (-1)) (v23 + 1) h
  · have h := kIn c_97 h
    refine x_iload (pc := 886) C 15 dL_law_886 rfl ?_
    refine x_iload (pc := 888) C 7 dL_law_888 rfl ?_
    refine x_icmp_ne (pc := 890) C 898 dL_law_890 (by decide) (fun c_98 => ?_) (fun c_98 => ?_)
    · have h := kIn c_98 h
      refine x_iconst (pc := 898) C (-1) dL_law_898 (by decide) ?_
      refine x_iand (pc := 899) C dL_law_899 ?_
      refine x_istore (pc := 900) C (lv' := [(22, .int (v22 &&& (-1))), (20, .long (s1 + s0)), (0, .ref b), (1, .ref (a 0)), (2, .ref (a 31)), (3, .ref (a 32)), (4, .int v4), (5, .int v5), (6, .int v6), (7, .int v7), (8, .int v8), (10, .int v10), (18, .int v18), (19, .int v19), (23, .int v23), (25, .int v25), (26, .int v26), (27, .int v27)]) dL_law_900 (by decide) rfl ?_
      refine x_iinc (pc := 902) C 14 (v := v23 + 1) (lv' := [(23, .int (v23 + 1)), (22, .int (v22 &&& (-1))), (20, .long (s1 + s0)), (0, .ref b), (1, .ref (a 0)), (2, .ref (a 31)), (3, .ref (a 32)), (4, .int v4), (5, .int v5), (6, .int v6), (7, .int v7), (8, .int v8), (10, .int v10), (18, .int v18), (19, .int v19), (25, .int v25), (26, .int v26), (27, .int v27)]) dL_law_902 rfl rfl (by decide) rfl ?_
      refine x_goto (pc := 905) C 763 dL_law_905 (by decide) ?_
      refine kX.pick [3, 4, 5, 6, 7, 8, 9, 10, 11, 12, 13, 14, 2, 1, 0] (lv' := [(0, .ref b), (1, .ref (a 0)), (2, .ref (a 31)), (3, .ref (a 32)), (4, .int v4), (5, .int v5), (6, .int v6), (7, .int v7), (8, .int v8), (10, .int v10), (18, .int v18), (19, .int v19), (20, .long (s1 + s0)), (22, .int (v22 &&& (-1))), (23, .int (v23 + 1))]) rfl ?_
      exact hG (s1 + s0) (v22 &&& (-1)) (v23 + 1) h
    · have h := kIp c_98 h
      refine x_iload (pc := 893) C 16 dL_law_893 rfl ?_
      refine x_goto (pc := 895) C 899 dL_law_895 (by decide) ?_
      refine x_iand (pc := 899) C dL_law_899 ?_
      refine x_istore (pc := 900) C (lv' := [(22, .int (v22 &&& v26)), (20, .long (s1 + s0)), (0, .ref b), (1, .ref (a 0)), (2, .ref (a 31)), (3, .ref (a 32)), (4, .int v4), (5, .int v5), (6, .int v6), (7, .int v7), (8, .int v8), (10, .int v10), (18, .int v18), (19, .int v19), (23, .int v23), (25, .int v25), (26, .int v26), (27, .int v27)]) dL_law_900 (by decide) rfl ?_
      refine x_iinc (pc := 902) C 14 (v := v23 + 1) (lv' := [(23, .int (v23 + 1)), (22, .int (v22 &&& v26)), (20, .long (s1 + s0)), (0, .ref b), (1, .ref (a 0)), (2, .ref (a 31)), (3, .ref (a 32)), (4, .int v4), (5, .int v5), (6, .int v6), (7, .int v7), (8, .int v8), (10, .int v10), (18, .int v18), (19, .int v19), (25, .int v25), (26, .int v26), (27, .int v27)]) dL_law_902 rfl rfl (by decide) rfl ?_
      refine x_goto (pc := 905) C 763 dL_law_905 (by decide) ?_
      refine kX.pick [3, 4, 5, 6, 7, 8, 9, 10, 11, 12, 13, 14, 2, 1, 0] (lv' := [(0, .ref b), (1, .ref (a 0)), (2, .ref (a 31)), (3, .ref (a 32)), (4, .int v4), (5, .int v5), (6, .int v6), (7, .int v7), (8, .int v8), (10, .int v10), (18, .int v18), (19, .int v19), (20, .long (s1 + s0)), (22, .int (v22 &&& v26)), (23, .int (v23 + 1))]) rfl ?_
      exact hG (s1 + s0) (v22 &&& v26) (v23 + 1) h
def fL_law_J875 (K : Int64 → Int32 → Int32 → Option (Int32 × kS)) (Gc : Int64 → Int32 → Int32 → Option (Int32 × kS)) (L : Nat) (xs : Nat → Int32) (st : kS) (v4 : Int32) (v5 : Int32) (v6 : Int32) (v7 : Int32) (v8 : Int32) (v10 : Int32) (v18 : Int32) (v19 : Int32) (v22 : Int32) (v23 : Int32) (v25 : Int32) (v26 : Int32) (v27 : Int32) (s0 : Int64) : Option (Int32 × kS) := fL_law_J876 K Gc L xs st v4 v5 v6 v7 v8 v10 v18 v19 v22 v23 v25 v26 v27 0 s0
set_option maxRecDepth 100000 in
set_option maxHeartbeats 4000000 in
theorem wL_law_J875 {G : kG} {E : kE} {a : Nat → Nat} {cs : Nat × Nat} {b L : Nat} {xs : Nat → Int32} (C : kOk G E cL_law RL 36 room_1) {z : Int32 × kS} (Zd : kLawZ E b cs z.1) (X : kScr E b L xs) {K Gc : Int64 → Int32 → Int32 → Option (Int32 × kS)} (st : kS) (v4 : Int32) (v5 : Int32) (v6 : Int32) (v7 : Int32) (v8 : Int32) (v10 : Int32) (v18 : Int32) (v19 : Int32) (v22 : Int32) (v23 : Int32) (v25 : Int32) (v26 : Int32) (v27 : Int32) (s0 : Int64) (hK : ∀ (u20 : Int64) (u22 : Int32) (u23 : Int32), K u20 u22 u23 = some z → kX G E cs (wL G a st) 908 [(0, .ref b), (1, .ref (a 0)), (2, .ref (a 31)), (3, .ref (a 32)), (4, .int v4), (5, .int v5), (6, .int v6), (7, .int v7), (8, .int v8), (10, .int v10), (18, .int v18), (20, .long u20), (22, .int u22)] []) (hG : ∀ (u20 : Int64) (u22 : Int32) (u23 : Int32), Gc u20 u22 u23 = some z → kX G E cs (wL G a st) 763 [(0, .ref b), (1, .ref (a 0)), (2, .ref (a 31)), (3, .ref (a 32)), (4, .int v4), (5, .int v5), (6, .int v6), (7, .int v7), (8, .int v8), (10, .int v10), (18, .int v18), (19, .int v19), (20, .long u20), (22, .int u22), (23, .int u23)] []) (h : fL_law_J875 K Gc L xs st v4 v5 v6 v7 v8 v10 v18 v19 v22 v23 v25 v26 v27 s0 = some z) : kX G E cs (wL G a st) 875 [(0, .ref b), (1, .ref (a 0)), (2, .ref (a 31)), (3, .ref (a 32)), (4, .int v4), (5, .int v5), (6, .int v6), (7, .int v7), (8, .int v8), (10, .int v10), (18, .int v18), (19, .int v19), (22, .int v22), (23, .int v23), (25, .int v25), (26, .int v26), (27, .int v27)] [.long s0] := by
  unfold fL_law_J875 at h
  refine x_lconst (pc := 875) C 0 dL_law_875 (by decide) ?_
  exact wL_law_J876  C Zd X  st v4 v5 v6 v7 v8 v10 v18 v19 v22 v23 v25 v26 v27 0 s0 hK hG h
def fL_law_J857 (K : Int64 → Int32 → Int32 → Option (Int32 × kS)) (Gc : Int64 → Int32 → Int32 → Option (Int32 × kS)) (L : Nat) (xs : Nat → Int32) (st : kS) (v4 : Int32) (v5 : Int32) (v6 : Int32) (v7 : Int32) (v8 : Int32) (v10 : Int32) (v18 : Int32) (v19 : Int32) (v20 : Int64) (v22 : Int32) (v23 : Int32) (v25 : Int32) (v26 : Int32) (v27 : Int32) : Option (Int32 × kS) := if v27 = 0 then (fL_law_J875 K Gc L xs st v4 v5 v6 v7 v8 v10 v18 v19 v22 v23 v25 v26 v27 v20) else (if v25 = v6 then (fL_law_J876 K Gc L xs st v4 v5 v6 v7 v8 v10 v18 v19 v22 v23 v25 v26 v27 1 v20) else (fL_law_J875 K Gc L xs st v4 v5 v6 v7 v8 v10 v18 v19 v22 v23 v25 v26 v27 v20))
set_option maxRecDepth 100000 in
set_option maxHeartbeats 4000000 in
theorem wL_law_J857 {G : kG} {E : kE} {a : Nat → Nat} {cs : Nat × Nat} {b L : Nat} {xs : Nat → Int32} (C : kOk G E cL_law RL 36 room_1) {z : Int32 × kS} (Zd : kLawZ E b cs z.1) (X : kScr E b L xs) {K Gc : Int64 → Int32 → Int32 → Option (Int32 × kS)} (st : kS) (v4 : Int32) (v5 : Int32) (v6 : Int32) (v7 : Int32) (v8 : Int32) (v10 : Int32) (v18 : Int32) (v19 : Int32) (v20 : Int64) (v22 : Int32) (v23 : Int32) (v25 : Int32) (v26 : Int32) (v27 : Int32) (hK : ∀ (u20 : Int64) (u22 : Int32) (u23 : Int32), K u20 u22 u23 = some z → kX G E cs (wL G a st) 908 [(0, .ref b), (1, .ref (a 0)), (2, .ref (a 31)), (3, .ref (a 32)), (4, .int v4), (5, .int v5), (6, .int v6), (7, .int v7), (8, .int v8), (10, .int v10), (18, .int v18), (20, .long u20), (22, .int u22)] []) (hG : ∀ (u20 : Int64) (u22 : Int32) (u23 : Int32), Gc u20 u22 u23 = some z → kX G E cs (wL G a st) 763 [(0, .ref b), (1, .ref (a 0)), (2, .ref (a 31)), (3, .ref (a 32)), (4, .int v4), (5, .int v5), (6, .int v6), (7, .int v7), (8, .int v8), (10, .int v10), (18, .int v18), (19, .int v19), (20, .long u20), (22, .int u22), (23, .int u23)] []) (h : fL_law_J857 K Gc L xs st v4 v5 v6 v7 v8 v10 v18 v19 v20 v22 v23 v25 v26 v27 = some z) : kX G E cs (wL G a st) 857 [(0, .ref b), (1, .ref (a 0)), (2, .ref (a 31)), (3, .ref (a 32)), (4, .int v4), (5, .int v5), (6, .int v6), (7, .int v7), (8, .int v8), (10, .int v10), (18, .int v18), (19, .int v19), (20, .long v20), (22, .int v22), (23, .int v23), (25, .int v25), (26, .int v26), (27, .int v27)] [] := by
  unfold fL_law_J857 at h
  refine x_lload (pc := 857) C 12 dL_law_857 rfl ?_
  refine x_iload (pc := 859) C 17 dL_law_859 rfl ?_
  refine x_if_eq (pc := 861) C 875 dL_law_861 (by decide) (fun c_96 => ?_) (fun c_96 => ?_)
  · have h := kIp c_96 h
    refine kX.pick [0, 1, 2, 3, 4, 5, 6, 7, 8, 9, 10, 11, 13, 14, 15, 16, 17] (lv' := [(0, .ref b), (1, .ref (a 0)), (2, .ref (a 31)), (3, .ref (a 32)), (4, .int v4), (5, .int v5), (6, .int v6), (7, .int v7), (8, .int v8), (10, .int v10), (18, .int v18), (19, .int v19), (22, .int v22), (23, .int v23), (25, .int v25), (26, .int v26), (27, .int v27)]) rfl ?_
    exact wL_law_J875  C Zd X  st v4 v5 v6 v7 v8 v10 v18 v19 v22 v23 v25 v26 v27 v20 hK hG h
  · have h := kIn c_96 h
    refine x_iload (pc := 864) C 15 dL_law_864 rfl ?_
    refine x_iload (pc := 866) C 6 dL_law_866 rfl ?_
    refine x_icmp_ne (pc := 868) C 875 dL_law_868 (by decide) (fun c_99 => ?_) (fun c_99 => ?_)
    · have h := kIn c_99 h
      refine kX.pick [0, 1, 2, 3, 4, 5, 6, 7, 8, 9, 10, 11, 13, 14, 15, 16, 17] (lv' := [(0, .ref b), (1, .ref (a 0)), (2, .ref (a 31)), (3, .ref (a 32)), (4, .int v4), (5, .int v5), (6, .int v6), (7, .int v7), (8, .int v8), (10, .int v10), (18, .int v18), (19, .int v19), (22, .int v22), (23, .int v23), (25, .int v25), (26, .int v26), (27, .int v27)]) rfl ?_
      exact wL_law_J875  C Zd X  st v4 v5 v6 v7 v8 v10 v18 v19 v22 v23 v25 v26 v27 v20 hK hG h
    · have h := kIp c_99 h
      refine x_lconst (pc := 871) C 1 dL_law_871 (by decide) ?_
      refine x_goto (pc := 872) C 876 dL_law_872 (by decide) ?_
      refine kX.pick [0, 1, 2, 3, 4, 5, 6, 7, 8, 9, 10, 11, 13, 14, 15, 16, 17] (lv' := [(0, .ref b), (1, .ref (a 0)), (2, .ref (a 31)), (3, .ref (a 32)), (4, .int v4), (5, .int v5), (6, .int v6), (7, .int v7), (8, .int v8), (10, .int v10), (18, .int v18), (19, .int v19), (22, .int v22), (23, .int v23), (25, .int v25), (26, .int v26), (27, .int v27)]) rfl ?_
      exact wL_law_J876  C Zd X  st v4 v5 v6 v7 v8 v10 v18 v19 v22 v23 v25 v26 v27 1 v20 hK hG h
def fL_law_L763_B (K : Int64 → Int32 → Int32 → Option (Int32 × kS)) (Gc : Int64 → Int32 → Int32 → Option (Int32 × kS)) (L : Nat) (xs : Nat → Int32) (st : kS) (v4 : Int32) (v5 : Int32) (v6 : Int32) (v7 : Int32) (v8 : Int32) (v10 : Int32) (v18 : Int32) (v19 : Int32) (v20 : Int64) (v22 : Int32) (v23 : Int32) : Option (Int32 × kS) := if v19 ≤ v23 then (K v20 v22 v23) else (fL_law_L787 (fun v24_91 v25_92 v26_93 v27_94 v28_95 => fL_law_J857 K Gc L xs st v4 v5 v6 v7 v8 v10 v18 v19 v20 v22 v23 v25_92 v26_93 v27_94) L xs st v4 v5 v6 v7 v8 v10 v18 v19 v20 v22 v23 kFU v23 v5 0 1 0)
set_option maxRecDepth 100000 in
set_option maxHeartbeats 4000000 in
theorem wL_law_L763_B {G : kG} {E : kE} {a : Nat → Nat} {cs : Nat × Nat} {b L : Nat} {xs : Nat → Int32} (C : kOk G E cL_law RL 36 room_1) {z : Int32 × kS} (Zd : kLawZ E b cs z.1) (X : kScr E b L xs) {K Gc : Int64 → Int32 → Int32 → Option (Int32 × kS)} (st : kS) (v4 : Int32) (v5 : Int32) (v6 : Int32) (v7 : Int32) (v8 : Int32) (v10 : Int32) (v18 : Int32) (v19 : Int32) (v20 : Int64) (v22 : Int32) (v23 : Int32) (hK : ∀ (u20 : Int64) (u22 : Int32) (u23 : Int32), K u20 u22 u23 = some z → kX G E cs (wL G a st) 908 [(0, .ref b), (1, .ref (a 0)), (2, .ref (a 31)), (3, .ref (a 32)), (4, .int v4), (5, .int v5), (6, .int v6), (7, .int v7), (8, .int v8), (10, .int v10), (18, .int v18), (20, .long u20), (22, .int u22)] []) (hG : ∀ (u20 : Int64) (u22 : Int32) (u23 : Int32), Gc u20 u22 u23 = some z → kX G E cs (wL G a st) 763 [(0, .ref b), (1, .ref (a 0)), (2, .ref (a 31)), (3, .ref (a 32)), (4, .int v4), (5, .int v5), (6, .int v6), (7, .int v7), (8, .int v8), (10, .int v10), (18, .int v18), (19, .int v19), (20, .long u20), (22, .int u22), (23, .int u23)] []) (h : fL_law_L763_B K Gc L xs st v4 v5 v6 v7 v8 v10 v18 v19 v20 v22 v23 = some z) : kX G E cs (wL G a st) 763 [(0, .ref b), (1, .ref (a 0)), (2, .ref (a 31)), (3, .ref (a 32)), (4, .int v4), (5, .int v5), (6, .int v6), (7, .int v7), (8, .int v8), (10, .int v10), (18, .int v18), (19, .int v19), (20, .long v20), (22, .int v22), (23, .int v23)] [] := by
  unfold fL_law_L763_B at h
  refine x_iload (pc := 763) C 14 dL_law_763 rfl ?_
  refine x_iload (pc := 765) C 11 dL_law_765 rfl ?_
  refine x_icmp_ge (pc := 767) C 908 dL_law_767 (by decide) (fun c_84 => ?_) (fun c_84 => ?_)
  · have h := kIp c_84 h
    refine kX.pick [0, 1, 2, 3, 4, 5, 6, 7, 8, 9, 10, 12, 13] (lv' := [(0, .ref b), (1, .ref (a 0)), (2, .ref (a 31)), (3, .ref (a 32)), (4, .int v4), (5, .int v5), (6, .int v6), (7, .int v7), (8, .int v8), (10, .int v10), (18, .int v18), (20, .long v20), (22, .int v22)]) rfl ?_
    exact hK v20 v22 v23 h
  · have h := kIn c_84 h
    refine x_iload (pc := 770) C 14 dL_law_770 rfl ?_
    refine x_istore (pc := 772) C (lv' := [(24, .int v23), (0, .ref b), (1, .ref (a 0)), (2, .ref (a 31)), (3, .ref (a 32)), (4, .int v4), (5, .int v5), (6, .int v6), (7, .int v7), (8, .int v8), (10, .int v10), (18, .int v18), (19, .int v19), (20, .long v20), (22, .int v22), (23, .int v23)]) dL_law_772 (by decide) rfl ?_
    refine x_iload (pc := 774) C 6 dL_law_774 rfl ?_
    refine x_istore (pc := 776) C (lv' := [(25, .int v5), (24, .int v23), (0, .ref b), (1, .ref (a 0)), (2, .ref (a 31)), (3, .ref (a 32)), (4, .int v4), (5, .int v5), (6, .int v6), (7, .int v7), (8, .int v8), (10, .int v10), (18, .int v18), (19, .int v19), (20, .long v20), (22, .int v22), (23, .int v23)]) dL_law_776 (by decide) rfl ?_
    refine x_iconst (pc := 778) C 0 dL_law_778 (by decide) ?_
    refine x_istore (pc := 779) C (lv' := [(26, .int 0), (25, .int v5), (24, .int v23), (0, .ref b), (1, .ref (a 0)), (2, .ref (a 31)), (3, .ref (a 32)), (4, .int v4), (5, .int v5), (6, .int v6), (7, .int v7), (8, .int v8), (10, .int v10), (18, .int v18), (19, .int v19), (20, .long v20), (22, .int v22), (23, .int v23)]) dL_law_779 (by decide) rfl ?_
    refine x_iconst (pc := 781) C 1 dL_law_781 (by decide) ?_
    refine x_istore (pc := 782) C (lv' := [(27, .int 1), (26, .int 0), (25, .int v5), (24, .int v23), (0, .ref b), (1, .ref (a 0)), (2, .ref (a 31)), (3, .ref (a 32)), (4, .int v4), (5, .int v5), (6, .int v6), (7, .int v7), (8, .int v8), (10, .int v10), (18, .int v18), (19, .int v19), (20, .long v20), (22, .int v22), (23, .int v23)]) dL_law_782 (by decide) rfl ?_
    refine x_iconst (pc := 784) C 0 dL_law_784 (by decide) ?_
    refine x_istore (pc := 785) C (lv' := [(28, .int 0), (27, .int 1), (26, .int 0), (25, .int v5), (24, .int v23), (0, .ref b), (1, .ref (a 0)), (2, .ref (a 31)), (3, .ref (a 32)), (4, .int v4), (5, .int v5), (6, .int v6), (7, .int v7), (8, .int v8), (10, .int v10), (18, .int v18), (19, .int v19), (20, .long v20), (22, .int v22), (23, .int v23)]) dL_law_785 (by decide) rfl ?_
    refine kX.pick [5, 6, 7, 8, 9, 10, 11, 12, 13, 14, 15, 16, 17, 18, 19, 4, 3, 2, 1, 0] (lv' := [(0, .ref b), (1, .ref (a 0)), (2, .ref (a 31)), (3, .ref (a 32)), (4, .int v4), (5, .int v5), (6, .int v6), (7, .int v7), (8, .int v8), (10, .int v10), (18, .int v18), (19, .int v19), (20, .long v20), (22, .int v22), (23, .int v23), (24, .int v23), (25, .int v5), (26, .int 0), (27, .int 1), (28, .int 0)]) rfl ?_
    refine wL_law_L787  C Zd X  st v4 v5 v6 v7 v8 v10 v18 v19 v20 v22 v23 (fun v24_91 v25_92 v26_93 v27_94 v28_95 h => ?_) kFU v23 v5 0 1 0 h
    exact wL_law_J857  C Zd X  st v4 v5 v6 v7 v8 v10 v18 v19 v20 v22 v23 v25_92 v26_93 v27_94 hK hG h
def fL_law_L763 (K : Int64 → Int32 → Int32 → Option (Int32 × kS)) (L : Nat) (xs : Nat → Int32) (st : kS) (v4 : Int32) (v5 : Int32) (v6 : Int32) (v7 : Int32) (v8 : Int32) (v10 : Int32) (v18 : Int32) (v19 : Int32) : Nat → Int64 → Int32 → Int32 → Option (Int32 × kS)
  | 0, _, _, _ => none
  | F + 1, v20, v22, v23 => fL_law_L763_B K (fL_law_L763 K L xs st v4 v5 v6 v7 v8 v10 v18 v19 F) L xs st v4 v5 v6 v7 v8 v10 v18 v19 v20 v22 v23
set_option maxRecDepth 100000 in
set_option maxHeartbeats 4000000 in
theorem wL_law_L763 {G : kG} {E : kE} {a : Nat → Nat} {cs : Nat × Nat} {b L : Nat} {xs : Nat → Int32} (C : kOk G E cL_law RL 36 room_1) {z : Int32 × kS} (Zd : kLawZ E b cs z.1) (X : kScr E b L xs) {K : Int64 → Int32 → Int32 → Option (Int32 × kS)} (st : kS) (v4 : Int32) (v5 : Int32) (v6 : Int32) (v7 : Int32) (v8 : Int32) (v10 : Int32) (v18 : Int32) (v19 : Int32) (hK : ∀ (u20 : Int64) (u22 : Int32) (u23 : Int32), K u20 u22 u23 = some z → kX G E cs (wL G a st) 908 [(0, .ref b), (1, .ref (a 0)), (2, .ref (a 31)), (3, .ref (a 32)), (4, .int v4), (5, .int v5), (6, .int v6), (7, .int v7), (8, .int v8), (10, .int v10), (18, .int v18), (20, .long u20), (22, .int u22)] []) : ∀ (F : Nat) (v20 : Int64) (v22 : Int32) (v23 : Int32), fL_law_L763 K L xs st v4 v5 v6 v7 v8 v10 v18 v19 F v20 v22 v23 = some z → kX G E cs (wL G a st) 763 [(0, .ref b), (1, .ref (a 0)), (2, .ref (a 31)), (3, .ref (a 32)), (4, .int v4), (5, .int v5), (6, .int v6), (7, .int v7), (8, .int v8), (10, .int v10), (18, .int v18), (19, .int v19), (20, .long v20), (22, .int v22), (23, .int v23)] [] := by
  intro F
  induction F with
  | zero =>
    intro v20 v22 v23 h
    exact absurd (show none = some z from h) (fun q => by cases q)
  | succ F ih =>
    intro v20 v22 v23 h
    exact wL_law_L763_B  C Zd X  st v4 v5 v6 v7 v8 v10 v18 v19 v20 v22 v23 hK (fun v20 v22 v23 h => ih v20 v22 v23 h) h
