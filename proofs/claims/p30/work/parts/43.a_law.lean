def fL_law_J105 (K : Int32 → Int32 → Option (Int32 × kS)) (Gc : Int32 → Int32 → Option (Int32 × kS)) (L : Nat) (xs : Nat → Int32) (st : kS) (v4 : Int32) (v5 : Int32) (v6 : Int32) (v7 : Int32) (v8 : Int32) (v10 : Int32) (v11 : Int32) (s0 : Int32) (s1 : Int32) : Option (Int32 × kS) := (ka 6 (gA st 32) v10).bind (fun x_9 => if (fX9_feud st v10 v11) = ((kshr x_9 v11) &&& 1) then (Gc (s1 + s0) (v11 + 1)) else (some (0, st)))
set_option maxRecDepth 100000 in
set_option maxHeartbeats 4000000 in
theorem wL_law_J105 {G : kG} {E : kE} {a : Nat → Nat} {cs : Nat × Nat} {b L : Nat} {xs : Nat → Int32} (C : kOk G E cL_law RL 36 room_1) {z : Int32 × kS} (Zd : kLawZ E b cs z.1) (X : kScr E b L xs) {K Gc : Int32 → Int32 → Option (Int32 × kS)} (st : kS) (v4 : Int32) (v5 : Int32) (v6 : Int32) (v7 : Int32) (v8 : Int32) (v10 : Int32) (v11 : Int32) (s0 : Int32) (s1 : Int32) (hK : ∀ (u9 : Int32) (u11 : Int32), K u9 u11 = some z → kX G E cs (wL G a st) 136 [(0, .ref b), (1, .ref (a 0)), (2, .ref (a 31)), (3, .ref (a 32)), (4, .int v4), (5, .int v5), (6, .int v6), (7, .int v7), (8, .int v8), (9, .int u9), (10, .int v10)] []) (hG : ∀ (u9 : Int32) (u11 : Int32), Gc u9 u11 = some z → kX G E cs (wL G a st) 71 [(0, .ref b), (1, .ref (a 0)), (2, .ref (a 31)), (3, .ref (a 32)), (4, .int v4), (5, .int v5), (6, .int v6), (7, .int v7), (8, .int v8), (9, .int u9), (10, .int v10), (11, .int u11)] []) (h : fL_law_J105 K Gc L xs st v4 v5 v6 v7 v8 v10 v11 s0 s1 = some z) : kX G E cs (wL G a st) 105 [(0, .ref b), (1, .ref (a 0)), (2, .ref (a 31)), (3, .ref (a 32)), (4, .int v4), (5, .int v5), (6, .int v6), (7, .int v7), (8, .int v8), (10, .int v10), (11, .int v11)] [.int s0, .int s1] := by
  unfold fL_law_J105 at h
  refine x_iadd (pc := 105) C dL_law_105 ?_
  refine x_istore (pc := 106) C (lv' := [(9, .int (s1 + s0)), (0, .ref b), (1, .ref (a 0)), (2, .ref (a 31)), (3, .ref (a 32)), (4, .int v4), (5, .int v5), (6, .int v6), (7, .int v7), (8, .int v8), (10, .int v10), (11, .int v11)]) dL_law_106 (by decide) rfl ?_
  refine x_aload_n (pc := 108) C 2 dL_law_108 rfl rfl ?_
  refine x_iload (pc := 109) C 10 dL_law_109 rfl ?_
  refine x_iload (pc := 111) C 11 dL_law_111 rfl ?_
  refine x_callVL0 (pc := 113) C st [.int v10, .int v11] (mX9_feud G a st v10 v11) yvX9_feud q12_3 ⟨Nat.le_of_ble_eq_true rfl, Nat.le_of_ble_eq_true rfl, rfl, rfl⟩ Zd.2.1 rfl rfl (Nat.le_of_ble_eq_true rfl) rfl dL_law_113 ?_
  refine x_aload_n (pc := 116) C 4 dL_law_116 rfl rfl ?_
  refine x_iload (pc := 117) C 10 dL_law_117 rfl ?_
  obtain ⟨x_9, hx_9, h⟩ := kB h
  obtain ⟨hi_10, hx_9⟩ := ka_some hx_9
  refine y_iald (pc := 119) C 32 (lwL_A32 G a rfl) hi_10 hx_9 dL_law_119 ?_
  refine x_iload (pc := 120) C 11 dL_law_120 rfl ?_
  refine y_ishr (pc := 122) C dL_law_122 ?_
  refine x_iconst (pc := 123) C 1 dL_law_123 (by decide) ?_
  refine x_iand (pc := 124) C dL_law_124 ?_
  refine x_icmp_eq (pc := 125) C 130 dL_law_125 (by decide) (fun c_11 => ?_) (fun c_11 => ?_)
  · have h := kIp c_11 h
    refine x_iinc (pc := 130) C 11 (v := v11 + 1) (lv' := [(11, .int (v11 + 1)), (9, .int (s1 + s0)), (0, .ref b), (1, .ref (a 0)), (2, .ref (a 31)), (3, .ref (a 32)), (4, .int v4), (5, .int v5), (6, .int v6), (7, .int v7), (8, .int v8), (10, .int v10)]) dL_law_130 rfl rfl (by decide) rfl ?_
    refine x_goto (pc := 133) C 71 dL_law_133 (by decide) ?_
    refine kX.pick [2, 3, 4, 5, 6, 7, 8, 9, 10, 1, 11, 0] (lv' := [(0, .ref b), (1, .ref (a 0)), (2, .ref (a 31)), (3, .ref (a 32)), (4, .int v4), (5, .int v5), (6, .int v6), (7, .int v7), (8, .int v8), (9, .int (s1 + s0)), (10, .int v10), (11, .int (v11 + 1))]) rfl ?_
    exact hG (s1 + s0) (v11 + 1) h
  · have h := kIn c_11 h
    refine x_iconst (pc := 128) C 0 dL_law_128 (by decide) ?_
    obtain rfl := Option.some.inj h
    exact x_lawretZ (pc := 129) C Zd dL_law_129
def fL_law_J104 (K : Int32 → Int32 → Option (Int32 × kS)) (Gc : Int32 → Int32 → Option (Int32 × kS)) (L : Nat) (xs : Nat → Int32) (st : kS) (v4 : Int32) (v5 : Int32) (v6 : Int32) (v7 : Int32) (v8 : Int32) (v10 : Int32) (v11 : Int32) (s0 : Int32) : Option (Int32 × kS) := fL_law_J105 K Gc L xs st v4 v5 v6 v7 v8 v10 v11 0 s0
set_option maxRecDepth 100000 in
set_option maxHeartbeats 4000000 in
theorem wL_law_J104 {G : kG} {E : kE} {a : Nat → Nat} {cs : Nat × Nat} {b L : Nat} {xs : Nat → Int32} (C : kOk G E cL_law RL 36 room_1) {z : Int32 × kS} (Zd : kLawZ E b cs z.1) (X : kScr E b L xs) {K Gc : Int32 → Int32 → Option (Int32 × kS)} (st : kS) (v4 : Int32) (v5 : Int32) (v6 : Int32) (v7 : Int32) (v8 : Int32) (v10 : Int32) (v11 : Int32) (s0 : Int32) (hK : ∀ (u9 : Int32) (u11 : Int32), K u9 u11 = some z → kX G E cs (wL G a st) 136 [(0, .ref b), (1, .ref (a 0)), (2, .ref (a 31)), (3, .ref (a 32)), (4, .int v4), (5, .int v5), (6, .int v6), (7, .int v7), (8, .int v8), (9, .int u9), (10, .int v10)] []) (hG : ∀ (u9 : Int32) (u11 : Int32), Gc u9 u11 = some z → kX G E cs (wL G a st) 71 [(0, .ref b), (1, .ref (a 0)), (2, .ref (a 31)), (3, .ref (a 32)), (4, .int v4), (5, .int v5), (6, .int v6), (7, .int v7), (8, .int v8), (9, .int u9), (10, .int v10), (11, .int u11)] []) (h : fL_law_J104 K Gc L xs st v4 v5 v6 v7 v8 v10 v11 s0 = some z) : kX G E cs (wL G a st) 104 [(0, .ref b), (1, .ref (a 0)), (2, .ref (a 31)), (3, .ref (a 32)), (4, .int v4), (5, .int v5), (6, .int v6), (7, .int v7), (8, .int v8), (10, .int v10), (11, .int v11)] [.int s0] := by
  unfold fL_law_J104 at h
  refine x_iconst (pc := 104) C 0 dL_law_104 (by decide) ?_
  exact wL_law_J105  C Zd X  st v4 v5 v6 v7 v8 v10 v11 0 s0 hK hG h
def fL_law_L71_B (K : Int32 → Int32 → Option (Int32 × kS)) (Gc : Int32 → Int32 → Option (Int32 × kS)) (L : Nat) (xs : Nat → Int32) (st : kS) (v4 : Int32) (v5 : Int32) (v6 : Int32) (v7 : Int32) (v8 : Int32) (v9 : Int32) (v10 : Int32) (v11 : Int32) : Option (Int32 × kS) := if v4 ≤ v11 then (K v9 v11) else ((ka 6 (gA st 32) v10).bind (fun x_6 => if ((kshr x_6 v11) &&& 1) = 1 then (if v11 ≤ v10 then (fL_law_J104 K Gc L xs st v4 v5 v6 v7 v8 v10 v11 v9) else (fL_law_J105 K Gc L xs st v4 v5 v6 v7 v8 v10 v11 1 v9)) else (fL_law_J104 K Gc L xs st v4 v5 v6 v7 v8 v10 v11 v9)))
set_option maxRecDepth 100000 in
set_option maxHeartbeats 4000000 in
theorem wL_law_L71_B {G : kG} {E : kE} {a : Nat → Nat} {cs : Nat × Nat} {b L : Nat} {xs : Nat → Int32} (C : kOk G E cL_law RL 36 room_1) {z : Int32 × kS} (Zd : kLawZ E b cs z.1) (X : kScr E b L xs) {K Gc : Int32 → Int32 → Option (Int32 × kS)} (st : kS) (v4 : Int32) (v5 : Int32) (v6 : Int32) (v7 : Int32) (v8 : Int32) (v9 : Int32) (v10 : Int32) (v11 : Int32) (hK : ∀ (u9 : Int32) (u11 : Int32), K u9 u11 = some z → kX G E cs (wL G a st) 136 [(0, .ref b), (1, .ref (a 0)), (2, .ref (a 31)), (3, .ref (a 32)), (4, .int v4), (5, .int v5), (6, .int v6), (7, .int v7), (8, .int v8), (9, .int u9), (10, .int v10)] []) (hG : ∀ (u9 : Int32) (u11 : Int32), Gc u9 u11 = some z → kX G E cs (wL G a st) 71 [(0, .ref b), (1, .ref (a 0)), (2, .ref (a 31)), (3, .ref (a 32)), (4, .int v4), (5, .int v5), (6, .int v6), (7, .int v7), (8, .int v8), (9, .int u9), (10, .int v10), (11, .int u11)] []) (h : fL_law_L71_B K Gc L xs st v4 v5 v6 v7 v8 v9 v10 v11 = some z) : kX G E cs (wL G a st) 71 [(0, .ref b), (1, .ref (a 0)), (2, .ref (a 31)), (3, .ref (a 32)), (4, .int v4), (5, .int v5), (6, .int v6), (7, .int v7), (8, .int v8), (9, .int v9), (10, .int v10), (11, .int v11)] [] := by
  unfold fL_law_L71_B at h
  refine x_iload (pc := 71) C 11 dL_law_71 rfl ?_
  refine x_iload (pc := 73) C 4 dL_law_73 rfl ?_
  refine x_icmp_ge (pc := 75) C 136 dL_law_75 (by decide) (fun c_5 => ?_) (fun c_5 => ?_)
  · have h := kIp c_5 h
    refine kX.pick [0, 1, 2, 3, 4, 5, 6, 7, 8, 9, 10] (lv' := [(0, .ref b), (1, .ref (a 0)), (2, .ref (a 31)), (3, .ref (a 32)), (4, .int v4), (5, .int v5), (6, .int v6), (7, .int v7), (8, .int v8), (9, .int v9), (10, .int v10)]) rfl ?_
    exact hK v9 v11 h
  · have h := kIn c_5 h
    refine x_iload (pc := 78) C 9 dL_law_78 rfl ?_
    refine x_aload_n (pc := 80) C 3 dL_law_80 rfl rfl ?_
    refine x_iload (pc := 81) C 10 dL_law_81 rfl ?_
    obtain ⟨x_6, hx_6, h⟩ := kB h
    obtain ⟨hi_7, hx_6⟩ := ka_some hx_6
    refine y_iald (pc := 83) C 32 (lwL_A32 G a rfl) hi_7 hx_6 dL_law_83 ?_
    refine x_iload (pc := 84) C 11 dL_law_84 rfl ?_
    refine y_ishr (pc := 86) C dL_law_86 ?_
    refine x_iconst (pc := 87) C 1 dL_law_87 (by decide) ?_
    refine x_iand (pc := 88) C dL_law_88 ?_
    refine x_iconst (pc := 89) C 1 dL_law_89 (by decide) ?_
    refine x_icmp_ne (pc := 90) C 104 dL_law_90 (by decide) (fun c_8 => ?_) (fun c_8 => ?_)
    · have h := kIn c_8 h
      refine kX.pick [0, 1, 2, 3, 4, 5, 6, 7, 8, 10, 11] (lv' := [(0, .ref b), (1, .ref (a 0)), (2, .ref (a 31)), (3, .ref (a 32)), (4, .int v4), (5, .int v5), (6, .int v6), (7, .int v7), (8, .int v8), (10, .int v10), (11, .int v11)]) rfl ?_
      exact wL_law_J104  C Zd X  st v4 v5 v6 v7 v8 v10 v11 v9 hK hG h
    · have h := kIp c_8 h
      refine x_iload (pc := 93) C 10 dL_law_93 rfl ?_
      refine x_iload (pc := 95) C 11 dL_law_95 rfl ?_
      refine x_icmp_ge (pc := 97) C 104 dL_law_97 (by decide) (fun c_12 => ?_) (fun c_12 => ?_)
      · have h := kIp c_12 h
        refine kX.pick [0, 1, 2, 3, 4, 5, 6, 7, 8, 10, 11] (lv' := [(0, .ref b), (1, .ref (a 0)), (2, .ref (a 31)), (3, .ref (a 32)), (4, .int v4), (5, .int v5), (6, .int v6), (7, .int v7), (8, .int v8), (10, .int v10), (11, .int v11)]) rfl ?_
        exact wL_law_J104  C Zd X  st v4 v5 v6 v7 v8 v10 v11 v9 hK hG h
      · have h := kIn c_12 h
        refine x_iconst (pc := 100) C 1 dL_law_100 (by decide) ?_
        refine x_goto (pc := 101) C 105 dL_law_101 (by decide) ?_
        refine kX.pick [0, 1, 2, 3, 4, 5, 6, 7, 8, 10, 11] (lv' := [(0, .ref b), (1, .ref (a 0)), (2, .ref (a 31)), (3, .ref (a 32)), (4, .int v4), (5, .int v5), (6, .int v6), (7, .int v7), (8, .int v8), (10, .int v10), (11, .int v11)]) rfl ?_
        exact wL_law_J105  C Zd X  st v4 v5 v6 v7 v8 v10 v11 1 v9 hK hG h
def fL_law_L71 (K : Int32 → Int32 → Option (Int32 × kS)) (L : Nat) (xs : Nat → Int32) (st : kS) (v4 : Int32) (v5 : Int32) (v6 : Int32) (v7 : Int32) (v8 : Int32) (v10 : Int32) : Nat → Int32 → Int32 → Option (Int32 × kS)
  | 0, _, _ => none
  | F + 1, v9, v11 => fL_law_L71_B K (fL_law_L71 K L xs st v4 v5 v6 v7 v8 v10 F) L xs st v4 v5 v6 v7 v8 v9 v10 v11
set_option maxRecDepth 100000 in
set_option maxHeartbeats 4000000 in
theorem wL_law_L71 {G : kG} {E : kE} {a : Nat → Nat} {cs : Nat × Nat} {b L : Nat} {xs : Nat → Int32} (C : kOk G E cL_law RL 36 room_1) {z : Int32 × kS} (Zd : kLawZ E b cs z.1) (X : kScr E b L xs) {K : Int32 → Int32 → Option (Int32 × kS)} (st : kS) (v4 : Int32) (v5 : Int32) (v6 : Int32) (v7 : Int32) (v8 : Int32) (v10 : Int32) (hK : ∀ (u9 : Int32) (u11 : Int32), K u9 u11 = some z → kX G E cs (wL G a st) 136 [(0, .ref b), (1, .ref (a 0)), (2, .ref (a 31)), (3, .ref (a 32)), (4, .int v4), (5, .int v5), (6, .int v6), (7, .int v7), (8, .int v8), (9, .int u9), (10, .int v10)] []) : ∀ (F : Nat) (v9 : Int32) (v11 : Int32), fL_law_L71 K L xs st v4 v5 v6 v7 v8 v10 F v9 v11 = some z → kX G E cs (wL G a st) 71 [(0, .ref b), (1, .ref (a 0)), (2, .ref (a 31)), (3, .ref (a 32)), (4, .int v4), (5, .int v5), (6, .int v6), (7, .int v7), (8, .int v8), (9, .int v9), (10, .int v10), (11, .int v11)] [] := by
  intro F
  induction F with
  | zero =>
    intro v9 v11 h
    exact absurd (show none = some z from h) (fun q => by cases q)
  | succ F ih =>
    intro v9 v11 h
    exact wL_law_L71_B  C Zd X  st v4 v5 v6 v7 v8 v9 v10 v11 hK (fun v9 v11 h => ih v9 v11 h) h
def fL_law_J187 (K : Int32 → Option (Int32 × kS)) (Gc : Int32 → Option (Int32 × kS)) (L : Nat) (xs : Nat → Int32) (st : kS) (v4 : Int32) (v5 : Int32) (v6 : Int32) (v7 : Int32) (v8 : Int32) (v9 : Int32) (v10 : Int32) (v11 : Int32) (s0 : Int32) (s1 : Int32) : Option (Int32 × kS) := if s1 = s0 then (Gc (v11 + 1)) else (some (0, st))
set_option maxRecDepth 100000 in
set_option maxHeartbeats 4000000 in
theorem wL_law_J187 {G : kG} {E : kE} {a : Nat → Nat} {cs : Nat × Nat} {b L : Nat} {xs : Nat → Int32} (C : kOk G E cL_law RL 36 room_1) {z : Int32 × kS} (Zd : kLawZ E b cs z.1) (X : kScr E b L xs) {K Gc : Int32 → Option (Int32 × kS)} (st : kS) (v4 : Int32) (v5 : Int32) (v6 : Int32) (v7 : Int32) (v8 : Int32) (v9 : Int32) (v10 : Int32) (v11 : Int32) (s0 : Int32) (s1 : Int32) (hK : ∀ (u11 : Int32), K u11 = some z → kX G E cs (wL G a st) 198 [(0, .ref b), (1, .ref (a 0)), (2, .ref (a 31)), (3, .ref (a 32)), (4, .int v4), (5, .int v5), (6, .int v6), (7, .int v7), (8, .int v8), (9, .int v9), (10, .int v10)] []) (hG : ∀ (u11 : Int32), Gc u11 = some z → kX G E cs (wL G a st) 139 [(0, .ref b), (1, .ref (a 0)), (2, .ref (a 31)), (3, .ref (a 32)), (4, .int v4), (5, .int v5), (6, .int v6), (7, .int v7), (8, .int v8), (9, .int v9), (10, .int v10), (11, .int u11)] []) (h : fL_law_J187 K Gc L xs st v4 v5 v6 v7 v8 v9 v10 v11 s0 s1 = some z) : kX G E cs (wL G a st) 187 [(0, .ref b), (1, .ref (a 0)), (2, .ref (a 31)), (3, .ref (a 32)), (4, .int v4), (5, .int v5), (6, .int v6), (7, .int v7), (8, .int v8), (9, .int v9), (10, .int v10), (11, .int v11)] [.int s0, .int s1] := by
  unfold fL_law_J187 at h
  refine x_icmp_eq (pc := 187) C 192 dL_law_187 (by decide) (fun c_17 => ?_) (fun c_17 => ?_)
  · have h := kIp c_17 h
    refine x_iinc (pc := 192) C 11 (v := v11 + 1) (lv' := [(11, .int (v11 + 1)), (0, .ref b), (1, .ref (a 0)), (2, .ref (a 31)), (3, .ref (a 32)), (4, .int v4), (5, .int v5), (6, .int v6), (7, .int v7), (8, .int v8), (9, .int v9), (10, .int v10)]) dL_law_192 rfl rfl (by decide) rfl ?_
    refine x_goto (pc := 195) C 139 dL_law_195 (by decide) ?_
    refine kX.pick [1, 2, 3, 4, 5, 6, 7, 8, 9, 10, 11, 0] (lv' := [(0, .ref b), (1, .ref (a 0)), (2, .ref (a 31)), (3, .ref (a 32)), (4, .int v4), (5, .int v5), (6, .int v6), (7, .int v7), (8, .int v8), (9, .int v9), (10, .int v10), (11, .int (v11 + 1))]) rfl ?_
    exact hG (v11 + 1) h
  · have h := kIn c_17 h
    refine x_iconst (pc := 190) C 0 dL_law_190 (by decide) ?_
    obtain rfl := Option.some.inj h
    exact x_lawretZ (pc := 191) C Zd dL_law_191
def fL_law_J181 (K : Int32 → Option (Int32 × kS)) (Gc : Int32 → Option (Int32 × kS)) (L : Nat) (xs : Nat → Int32) (st : kS) (v4 : Int32) (v5 : Int32) (v6 : Int32) (v7 : Int32) (v8 : Int32) (v9 : Int32) (v10 : Int32) (v11 : Int32) (s0 : Int32) : Option (Int32 × kS) := fL_law_J187 K Gc L xs st v4 v5 v6 v7 v8 v9 v10 v11 v10 s0
set_option maxRecDepth 100000 in
set_option maxHeartbeats 4000000 in
theorem wL_law_J181 {G : kG} {E : kE} {a : Nat → Nat} {cs : Nat × Nat} {b L : Nat} {xs : Nat → Int32} (C : kOk G E cL_law RL 36 room_1) {z : Int32 × kS} (Zd : kLawZ E b cs z.1) (X : kScr E b L xs) {K Gc : Int32 → Option (Int32 × kS)} (st : kS) (v4 : Int32) (v5 : Int32) (v6 : Int32) (v7 : Int32) (v8 : Int32) (v9 : Int32) (v10 : Int32) (v11 : Int32) (s0 : Int32) (hK : ∀ (u11 : Int32), K u11 = some z → kX G E cs (wL G a st) 198 [(0, .ref b), (1, .ref (a 0)), (2, .ref (a 31)), (3, .ref (a 32)), (4, .int v4), (5, .int v5), (6, .int v6), (7, .int v7), (8, .int v8), (9, .int v9), (10, .int v10)] []) (hG : ∀ (u11 : Int32), Gc u11 = some z → kX G E cs (wL G a st) 139 [(0, .ref b), (1, .ref (a 0)), (2, .ref (a 31)), (3, .ref (a 32)), (4, .int v4), (5, .int v5), (6, .int v6), (7, .int v7), (8, .int v8), (9, .int v9), (10, .int v10), (11, .int u11)] []) (h : fL_law_J181 K Gc L xs st v4 v5 v6 v7 v8 v9 v10 v11 s0 = some z) : kX G E cs (wL G a st) 181 [(0, .ref b), (1, .ref (a 0)), (2, .ref (a 31)), (3, .ref (a 32)), (4, .int v4), (5, .int v5), (6, .int v6), (7, .int v7), (8, .int v8), (9, .int v9), (10, .int v10), (11, .int v11)] [.int s0] := by
  unfold fL_law_J181 at h
  refine x_iload (pc := 181) C 10 dL_law_181 rfl ?_
  refine x_goto (pc := 183) C 187 dL_law_183 (by decide) ?_
  exact wL_law_J187  C Zd X  st v4 v5 v6 v7 v8 v9 v10 v11 v10 s0 hK hG h
def fL_law_J186 (K : Int32 → Option (Int32 × kS)) (Gc : Int32 → Option (Int32 × kS)) (L : Nat) (xs : Nat → Int32) (st : kS) (v4 : Int32) (v5 : Int32) (v6 : Int32) (v7 : Int32) (v8 : Int32) (v9 : Int32) (v10 : Int32) (v11 : Int32) (s0 : Int32) : Option (Int32 × kS) := fL_law_J187 K Gc L xs st v4 v5 v6 v7 v8 v9 v10 v11 (-1) s0
set_option maxRecDepth 100000 in
set_option maxHeartbeats 4000000 in
theorem wL_law_J186 {G : kG} {E : kE} {a : Nat → Nat} {cs : Nat × Nat} {b L : Nat} {xs : Nat → Int32} (C : kOk G E cL_law RL 36 room_1) {z : Int32 × kS} (Zd : kLawZ E b cs z.1) (X : kScr E b L xs) {K Gc : Int32 → Option (Int32 × kS)} (st : kS) (v4 : Int32) (v5 : Int32) (v6 : Int32) (v7 : Int32) (v8 : Int32) (v9 : Int32) (v10 : Int32) (v11 : Int32) (s0 : Int32) (hK : ∀ (u11 : Int32), K u11 = some z → kX G E cs (wL G a st) 198 [(0, .ref b), (1, .ref (a 0)), (2, .ref (a 31)), (3, .ref (a 32)), (4, .int v4), (5, .int v5), (6, .int v6), (7, .int v7), (8, .int v8), (9, .int v9), (10, .int v10)] []) (hG : ∀ (u11 : Int32), Gc u11 = some z → kX G E cs (wL G a st) 139 [(0, .ref b), (1, .ref (a 0)), (2, .ref (a 31)), (3, .ref (a 32)), (4, .int v4), (5, .int v5), (6, .int v6), (7, .int v7), (8, .int v8), (9, .int v9), (10, .int v10), (11, .int u11)] []) (h : fL_law_J186 K Gc L xs st v4 v5 v6 v7 v8 v9 v10 v11 s0 = some z) : kX G E cs (wL G a st) 186 [(0, .ref b), (1, .ref (a 0)), (2, .ref (a 31)), (3, .ref (a 32)), (4, .int v4), (5, .int v5), (6, .int v6), (7, .int v7), (8, .int v8), (9, .int v9), (10, .int v10), (11, .int v11)] [.int s0] := by
  unfold fL_law_J186 at h
  refine x_iconst (pc := 186) C (-1) dL_law_186 (by decide) ?_
  exact wL_law_J187  C Zd X  st v4 v5 v6 v7 v8 v9 v10 v11 (-1) s0 hK hG h
def fL_law_L139_B (K : Int32 → Option (Int32 × kS)) (Gc : Int32 → Option (Int32 × kS)) (L : Nat) (xs : Nat → Int32) (st : kS) (v4 : Int32) (v5 : Int32) (v6 : Int32) (v7 : Int32) (v8 : Int32) (v9 : Int32) (v10 : Int32) (v11 : Int32) : Option (Int32 × kS) := if 4 ≤ v11 then (K v11) else (if v11 = 0 then (fL_law_J181 K Gc L xs st v4 v5 v6 v7 v8 v9 v10 v11 (fX9_as st v10 v11)) else ((ka 6 (gA st 31) v10).bind (fun x_18 => if v11 = x_18 then (fL_law_J181 K Gc L xs st v4 v5 v6 v7 v8 v9 v10 v11 (fX9_as st v10 v11)) else (if v11 = 1 then ((ka 6 (gA st 31) v10).bind (fun x_22 => if x_22 = 3 then (fL_law_J181 K Gc L xs st v4 v5 v6 v7 v8 v9 v10 v11 (fX9_as st v10 v11)) else (fL_law_J186 K Gc L xs st v4 v5 v6 v7 v8 v9 v10 v11 (fX9_as st v10 v11)))) else (fL_law_J186 K Gc L xs st v4 v5 v6 v7 v8 v9 v10 v11 (fX9_as st v10 v11))))))
set_option maxRecDepth 100000 in
set_option maxHeartbeats 4000000 in
theorem wL_law_L139_B {G : kG} {E : kE} {a : Nat → Nat} {cs : Nat × Nat} {b L : Nat} {xs : Nat → Int32} (C : kOk G E cL_law RL 36 room_1) {z : Int32 × kS} (Zd : kLawZ E b cs z.1) (X : kScr E b L xs) {K Gc : Int32 → Option (Int32 × kS)} (st : kS) (v4 : Int32) (v5 : Int32) (v6 : Int32) (v7 : Int32) (v8 : Int32) (v9 : Int32) (v10 : Int32) (v11 : Int32) (hK : ∀ (u11 : Int32), K u11 = some z → kX G E cs (wL G a st) 198 [(0, .ref b), (1, .ref (a 0)), (2, .ref (a 31)), (3, .ref (a 32)), (4, .int v4), (5, .int v5), (6, .int v6), (7, .int v7), (8, .int v8), (9, .int v9), (10, .int v10)] []) (hG : ∀ (u11 : Int32), Gc u11 = some z → kX G E cs (wL G a st) 139 [(0, .ref b), (1, .ref (a 0)), (2, .ref (a 31)), (3, .ref (a 32)), (4, .int v4), (5, .int v5), (6, .int v6), (7, .int v7), (8, .int v8), (9, .int v9), (10, .int v10), (11, .int u11)] []) (h : fL_law_L139_B K Gc L xs st v4 v5 v6 v7 v8 v9 v10 v11 = some z) : kX G E cs (wL G a st) 139 [(0, .ref b), (1, .ref (a 0)), (2, .ref (a 31)), (3, .ref (a 32)), (4, .int v4), (5, .int v5), (6, .int v6), (7, .int v7), (8, .int v8), (9, .int v9), (10, .int v10), (11, .int v11)] [] := by
  unfold fL_law_L139_B at h
  refine x_iload (pc := 139) C 11 dL_law_139 rfl ?_
  refine x_iconst (pc := 141) C 4 dL_law_141 (by decide) ?_
  refine x_icmp_ge (pc := 142) C 198 dL_law_142 (by decide) (fun c_15 => ?_) (fun c_15 => ?_)
  · have h := kIp c_15 h
    refine kX.pick [0, 1, 2, 3, 4, 5, 6, 7, 8, 9, 10] (lv' := [(0, .ref b), (1, .ref (a 0)), (2, .ref (a 31)), (3, .ref (a 32)), (4, .int v4), (5, .int v5), (6, .int v6), (7, .int v7), (8, .int v8), (9, .int v9), (10, .int v10)]) rfl ?_
    exact hK v11 h
  · have h := kIn c_15 h
    refine x_aload_n (pc := 145) C 1 dL_law_145 rfl rfl ?_
    refine x_iload (pc := 146) C 10 dL_law_146 rfl ?_
    refine x_iload (pc := 148) C 11 dL_law_148 rfl ?_
    refine x_callVL0 (pc := 150) C st [.int v10, .int v11] (mX9_as G a st v10 v11) yvX9_as q12_12 ⟨Nat.le_of_ble_eq_true rfl, Nat.le_of_ble_eq_true rfl, rfl, rfl⟩ Zd.2.1 rfl rfl (Nat.le_of_ble_eq_true rfl) rfl dL_law_150 ?_
    refine x_iload (pc := 153) C 11 dL_law_153 rfl ?_
    refine x_if_eq (pc := 155) C 181 dL_law_155 (by decide) (fun c_16 => ?_) (fun c_16 => ?_)
    · have h := kIp c_16 h
      exact wL_law_J181  C Zd X  st v4 v5 v6 v7 v8 v9 v10 v11 (fX9_as st v10 v11) hK hG h
    · have h := kIn c_16 h
      refine x_iload (pc := 158) C 11 dL_law_158 rfl ?_
      refine x_aload_n (pc := 160) C 2 dL_law_160 rfl rfl ?_
      refine x_iload (pc := 161) C 10 dL_law_161 rfl ?_
      obtain ⟨x_18, hx_18, h⟩ := kB h
      obtain ⟨hi_19, hx_18⟩ := ka_some hx_18
      refine y_iald (pc := 163) C 31 (lwL_A31 G a rfl) hi_19 hx_18 dL_law_163 ?_
      refine x_icmp_eq (pc := 164) C 181 dL_law_164 (by decide) (fun c_20 => ?_) (fun c_20 => ?_)
      · have h := kIp c_20 h
        exact wL_law_J181  C Zd X  st v4 v5 v6 v7 v8 v9 v10 v11 (fX9_as st v10 v11) hK hG h
      · have h := kIn c_20 h
        refine x_iload (pc := 167) C 11 dL_law_167 rfl ?_
        refine x_iconst (pc := 169) C 1 dL_law_169 (by decide) ?_
        refine x_icmp_ne (pc := 170) C 186 dL_law_170 (by decide) (fun c_21 => ?_) (fun c_21 => ?_)
        · have h := kIn c_21 h
          exact wL_law_J186  C Zd X  st v4 v5 v6 v7 v8 v9 v10 v11 (fX9_as st v10 v11) hK hG h
        · have h := kIp c_21 h
          refine x_aload_n (pc := 173) C 2 dL_law_173 rfl rfl ?_
          refine x_iload (pc := 174) C 10 dL_law_174 rfl ?_
          obtain ⟨x_22, hx_22, h⟩ := kB h
          obtain ⟨hi_23, hx_22⟩ := ka_some hx_22
          refine y_iald (pc := 176) C 31 (lwL_A31 G a rfl) hi_23 hx_22 dL_law_176 ?_
          refine x_iconst (pc := 177) C 3 dL_law_177 (by decide) ?_
          refine x_icmp_ne (pc := 178) C 186 dL_law_178 (by decide) (fun c_24 => ?_) (fun c_24 => ?_)
          · have h := kIn c_24 h
            exact wL_law_J186  C Zd X  st v4 v5 v6 v7 v8 v9 v10 v11 (fX9_as st v10 v11) hK hG h
          · have h := kIp c_24 h
            exact wL_law_J181  C Zd X  st v4 v5 v6 v7 v8 v9 v10 v11 (fX9_as st v10 v11) hK hG h
def fL_law_L139 (K : Int32 → Option (Int32 × kS)) (L : Nat) (xs : Nat → Int32) (st : kS) (v4 : Int32) (v5 : Int32) (v6 : Int32) (v7 : Int32) (v8 : Int32) (v9 : Int32) (v10 : Int32) : Nat → Int32 → Option (Int32 × kS)
  | 0, _ => none
  | F + 1, v11 => fL_law_L139_B K (fL_law_L139 K L xs st v4 v5 v6 v7 v8 v9 v10 F) L xs st v4 v5 v6 v7 v8 v9 v10 v11
set_option maxRecDepth 100000 in
set_option maxHeartbeats 4000000 in
theorem wL_law_L139 {G : kG} {E : kE} {a : Nat → Nat} {cs : Nat × Nat} {b L : Nat} {xs : Nat → Int32} (C : kOk G E cL_law RL 36 room_1) {z : Int32 × kS} (Zd : kLawZ E b cs z.1) (X : kScr E b L xs) {K : Int32 → Option (Int32 × kS)} (st : kS) (v4 : Int32) (v5 : Int32) (v6 : Int32) (v7 : Int32) (v8 : Int32) (v9 : Int32) (v10 : Int32) (hK : ∀ (u11 : Int32), K u11 = some z → kX G E cs (wL G a st) 198 [(0, .ref b), (1, .ref (a 0)), (2, .ref (a 31)), (3, .ref (a 32)), (4, .int v4), (5, .int v5), (6, .int v6), (7, .int v7), (8, .int v8), (9, .int v9), (10, .int v10)] []) : ∀ (F : Nat) (v11 : Int32), fL_law_L139 K L xs st v4 v5 v6 v7 v8 v9 v10 F v11 = some z → kX G E cs (wL G a st) 139 [(0, .ref b), (1, .ref (a 0)), (2, .ref (a 31)), (3, .ref (a 32)), (4, .int v4), (5, .int v5), (6, .int v6), (7, .int v7), (8, .int v8), (9, .int v9), (10, .int v10), (11, .int v11)] [] := by
  intro F
  induction F with
  | zero =>
    intro v11 h
    exact absurd (show none = some z from h) (fun q => by cases q)
  | succ F ih =>
    intro v11 h
    exact wL_law_L139_B  C Zd X  st v4 v5 v6 v7 v8 v9 v10 v11 hK (fun v11 h => ih v11 h) h
def fL_law_L61_B (K : Int32 → Int32 → Option (Int32 × kS)) (Gc : Int32 → Int32 → Option (Int32 × kS)) (L : Nat) (xs : Nat → Int32) (st : kS) (v4 : Int32) (v5 : Int32) (v6 : Int32) (v7 : Int32) (v8 : Int32) (v9 : Int32) (v10 : Int32) : Option (Int32 × kS) := if v4 ≤ v10 then (K v9 v10) else (fL_law_L71 (fun v9_13 v11_14 => fL_law_L139 (fun v11_25 => Gc v9_13 (v10 + 1)) L xs st v4 v5 v6 v7 v8 v9_13 v10 kFU 0) L xs st v4 v5 v6 v7 v8 v10 kFU v9 0)
set_option maxRecDepth 100000 in
set_option maxHeartbeats 4000000 in
theorem wL_law_L61_B {G : kG} {E : kE} {a : Nat → Nat} {cs : Nat × Nat} {b L : Nat} {xs : Nat → Int32} (C : kOk G E cL_law RL 36 room_1) {z : Int32 × kS} (Zd : kLawZ E b cs z.1) (X : kScr E b L xs) {K Gc : Int32 → Int32 → Option (Int32 × kS)} (st : kS) (v4 : Int32) (v5 : Int32) (v6 : Int32) (v7 : Int32) (v8 : Int32) (v9 : Int32) (v10 : Int32) (hK : ∀ (u9 : Int32) (u10 : Int32), K u9 u10 = some z → kX G E cs (wL G a st) 204 [(0, .ref b), (1, .ref (a 0)), (2, .ref (a 31)), (3, .ref (a 32)), (4, .int v4), (5, .int v5), (6, .int v6), (7, .int v7), (8, .int v8), (9, .int u9)] []) (hG : ∀ (u9 : Int32) (u10 : Int32), Gc u9 u10 = some z → kX G E cs (wL G a st) 61 [(0, .ref b), (1, .ref (a 0)), (2, .ref (a 31)), (3, .ref (a 32)), (4, .int v4), (5, .int v5), (6, .int v6), (7, .int v7), (8, .int v8), (9, .int u9), (10, .int u10)] []) (h : fL_law_L61_B K Gc L xs st v4 v5 v6 v7 v8 v9 v10 = some z) : kX G E cs (wL G a st) 61 [(0, .ref b), (1, .ref (a 0)), (2, .ref (a 31)), (3, .ref (a 32)), (4, .int v4), (5, .int v5), (6, .int v6), (7, .int v7), (8, .int v8), (9, .int v9), (10, .int v10)] [] := by
  unfold fL_law_L61_B at h
  refine x_iload (pc := 61) C 10 dL_law_61 rfl ?_
  refine x_iload (pc := 63) C 4 dL_law_63 rfl ?_
  refine x_icmp_ge (pc := 65) C 204 dL_law_65 (by decide) (fun c_4 => ?_) (fun c_4 => ?_)
  · have h := kIp c_4 h
    refine kX.pick [0, 1, 2, 3, 4, 5, 6, 7, 8, 9] (lv' := [(0, .ref b), (1, .ref (a 0)), (2, .ref (a 31)), (3, .ref (a 32)), (4, .int v4), (5, .int v5), (6, .int v6), (7, .int v7), (8, .int v8), (9, .int v9)]) rfl ?_
    exact hK v9 v10 h
  · have h := kIn c_4 h
    refine x_iconst (pc := 68) C 0 dL_law_68 (by decide) ?_
    refine x_istore (pc := 69) C (lv' := [(11, .int 0), (0, .ref b), (1, .ref (a 0)), (2, .ref (a 31)), (3, .ref (a 32)), (4, .int v4), (5, .int v5), (6, .int v6), (7, .int v7), (8, .int v8), (9, .int v9), (10, .int v10)]) dL_law_69 (by decide) rfl ?_
    refine kX.pick [1, 2, 3, 4, 5, 6, 7, 8, 9, 10, 11, 0] (lv' := [(0, .ref b), (1, .ref (a 0)), (2, .ref (a 31)), (3, .ref (a 32)), (4, .int v4), (5, .int v5), (6, .int v6), (7, .int v7), (8, .int v8), (9, .int v9), (10, .int v10), (11, .int 0)]) rfl ?_
    refine wL_law_L71  C Zd X  st v4 v5 v6 v7 v8 v10 (fun v9_13 v11_14 h => ?_) kFU v9 0 h
    refine x_iconst (pc := 136) C 0 dL_law_136 (by decide) ?_
    refine x_istore (pc := 137) C (lv' := [(11, .int 0), (0, .ref b), (1, .ref (a 0)), (2, .ref (a 31)), (3, .ref (a 32)), (4, .int v4), (5, .int v5), (6, .int v6), (7, .int v7), (8, .int v8), (9, .int v9_13), (10, .int v10)]) dL_law_137 (by decide) rfl ?_
    refine kX.pick [1, 2, 3, 4, 5, 6, 7, 8, 9, 10, 11, 0] (lv' := [(0, .ref b), (1, .ref (a 0)), (2, .ref (a 31)), (3, .ref (a 32)), (4, .int v4), (5, .int v5), (6, .int v6), (7, .int v7), (8, .int v8), (9, .int v9_13), (10, .int v10), (11, .int 0)]) rfl ?_
    refine wL_law_L139  C Zd X  st v4 v5 v6 v7 v8 v9_13 v10 (fun v11_25 h => ?_) kFU 0 h
    refine x_iinc (pc := 198) C 10 (v := v10 + 1) (lv' := [(10, .int (v10 + 1)), (0, .ref b), (1, .ref (a 0)), (2, .ref (a 31)), (3, .ref (a 32)), (4, .int v4), (5, .int v5), (6, .int v6), (7, .int v7), (8, .int v8), (9, .int v9_13)]) dL_law_198 rfl rfl (by decide) rfl ?_
    refine x_goto (pc := 201) C 61 dL_law_201 (by decide) ?_
    refine kX.pick [1, 2, 3, 4, 5, 6, 7, 8, 9, 10, 0] (lv' := [(0, .ref b), (1, .ref (a 0)), (2, .ref (a 31)), (3, .ref (a 32)), (4, .int v4), (5, .int v5), (6, .int v6), (7, .int v7), (8, .int v8), (9, .int v9_13), (10, .int (v10 + 1))]) rfl ?_
    exact hG v9_13 (v10 + 1) h
def fL_law_L61 (K : Int32 → Int32 → Option (Int32 × kS)) (L : Nat) (xs : Nat → Int32) (st : kS) (v4 : Int32) (v5 : Int32) (v6 : Int32) (v7 : Int32) (v8 : Int32) : Nat → Int32 → Int32 → Option (Int32 × kS)
  | 0, _, _ => none
  | F + 1, v9, v10 => fL_law_L61_B K (fL_law_L61 K L xs st v4 v5 v6 v7 v8 F) L xs st v4 v5 v6 v7 v8 v9 v10
set_option maxRecDepth 100000 in
set_option maxHeartbeats 4000000 in
theorem wL_law_L61 {G : kG} {E : kE} {a : Nat → Nat} {cs : Nat × Nat} {b L : Nat} {xs : Nat → Int32} (C : kOk G E cL_law RL 36 room_1) {z : Int32 × kS} (Zd : kLawZ E b cs z.1) (X : kScr E b L xs) {K : Int32 → Int32 → Option (Int32 × kS)} (st : kS) (v4 : Int32) (v5 : Int32) (v6 : Int32) (v7 : Int32) (v8 : Int32) (hK : ∀ (u9 : Int32) (u10 : Int32), K u9 u10 = some z → kX G E cs (wL G a st) 204 [(0, .ref b), (1, .ref (a 0)), (2, .ref (a 31)), (3, .ref (a 32)), (4, .int v4), (5, .int v5), (6, .int v6), (7, .int v7), (8, .int v8), (9, .int u9)] []) : ∀ (F : Nat) (v9 : Int32) (v10 : Int32), fL_law_L61 K L xs st v4 v5 v6 v7 v8 F v9 v10 = some z → kX G E cs (wL G a st) 61 [(0, .ref b), (1, .ref (a 0)), (2, .ref (a 31)), (3, .ref (a 32)), (4, .int v4), (5, .int v5), (6, .int v6), (7, .int v7), (8, .int v8), (9, .int v9), (10, .int v10)] [] := by
  intro F
  induction F with
  | zero =>
    intro v9 v10 h
    exact absurd (show none = some z from h) (fun q => by cases q)
  | succ F ih =>
    intro v9 v10 h
    exact wL_law_L61_B  C Zd X  st v4 v5 v6 v7 v8 v9 v10 hK (fun v9 v10 h => ih v9 v10 h) h
def fL_law_L437_B (K : Int32 → Int32 → Option (Int32 × kS)) (Gc : Int32 → Int32 → Option (Int32 × kS)) (L : Nat) (xs : Nat → Int32) (st : kS) (v4 : Int32) (v5 : Int32) (v6 : Int32) (v7 : Int32) (v8 : Int32) (v10 : Int32) (v11 : Int32) (v12 : Int32) (v13 : Int32) (v16 : Int32) : Option (Int32 × kS) := if v13 ≤ v16 then (K v12 v16) else ((fL_beside v4 v6 v13 v16).bind (fun z_49 => if z_49 = 0 then (Gc (v12 + 0) (v16 + 1)) else ((fL_beside v4 v7 v13 v16).bind (fun z_51 => if z_51 = 0 then (Gc (v12 + 1) (v16 + 1)) else (Gc (v12 + 0) (v16 + 1))))))
set_option maxRecDepth 100000 in
set_option maxHeartbeats 4000000 in
theorem wL_law_L437_B {G : kG} {E : kE} {a : Nat → Nat} {cs : Nat × Nat} {b L : Nat} {xs : Nat → Int32} (C : kOk G E cL_law RL 36 room_1) {z : Int32 × kS} (Zd : kLawZ E b cs z.1) (X : kScr E b L xs) {K Gc : Int32 → Int32 → Option (Int32 × kS)} (st : kS) (v4 : Int32) (v5 : Int32) (v6 : Int32) (v7 : Int32) (v8 : Int32) (v10 : Int32) (v11 : Int32) (v12 : Int32) (v13 : Int32) (v16 : Int32) (hK : ∀ (u12 : Int32) (u16 : Int32), K u12 u16 = some z → kX G E cs (wL G a st) 488 [(0, .ref b), (1, .ref (a 0)), (2, .ref (a 31)), (3, .ref (a 32)), (4, .int v4), (5, .int v5), (6, .int v6), (7, .int v7), (8, .int v8), (10, .int v10), (11, .int v11), (12, .int u12), (13, .int v13)] []) (hG : ∀ (u12 : Int32) (u16 : Int32), Gc u12 u16 = some z → kX G E cs (wL G a st) 437 [(0, .ref b), (1, .ref (a 0)), (2, .ref (a 31)), (3, .ref (a 32)), (4, .int v4), (5, .int v5), (6, .int v6), (7, .int v7), (8, .int v8), (10, .int v10), (11, .int v11), (12, .int u12), (13, .int v13), (16, .int u16)] []) (h : fL_law_L437_B K Gc L xs st v4 v5 v6 v7 v8 v10 v11 v12 v13 v16 = some z) : kX G E cs (wL G a st) 437 [(0, .ref b), (1, .ref (a 0)), (2, .ref (a 31)), (3, .ref (a 32)), (4, .int v4), (5, .int v5), (6, .int v6), (7, .int v7), (8, .int v8), (10, .int v10), (11, .int v11), (12, .int v12), (13, .int v13), (16, .int v16)] [] := by
  unfold fL_law_L437_B at h
  refine x_iload (pc := 437) C 13 dL_law_437 rfl ?_
  refine x_iload (pc := 439) C 12 dL_law_439 rfl ?_
  refine x_icmp_ge (pc := 441) C 488 dL_law_441 (by decide) (fun c_48 => ?_) (fun c_48 => ?_)
  · have h := kIp c_48 h
    refine kX.pick [0, 1, 2, 3, 4, 5, 6, 7, 8, 9, 10, 11, 12] (lv' := [(0, .ref b), (1, .ref (a 0)), (2, .ref (a 31)), (3, .ref (a 32)), (4, .int v4), (5, .int v5), (6, .int v6), (7, .int v7), (8, .int v8), (10, .int v10), (11, .int v11), (12, .int v12), (13, .int v13)]) rfl ?_
    exact hK v12 v16 h
  · have h := kIn c_48 h
    refine x_iload (pc := 444) C 11 dL_law_444 rfl ?_
    refine x_iload (pc := 446) C 4 dL_law_446 rfl ?_
    refine x_iload (pc := 448) C 6 dL_law_448 rfl ?_
    refine x_iload (pc := 450) C 12 dL_law_450 rfl ?_
    refine x_iload (pc := 452) C 13 dL_law_452 rfl ?_
    obtain ⟨z_49, hz_49, h⟩ := kB h
    refine x_callS (pc := 454) C [.int v4, .int v6, .int v13, .int v16] (mL_beside G v4 v6 v13 v16 hz_49) ysL_beside q16_11 ⟨Nat.le_of_ble_eq_true rfl, Nat.le_of_ble_eq_true rfl, rfl, rfl⟩ Zd.2.1 rfl rfl (Nat.le_of_ble_eq_true rfl) rfl dL_law_454 ?_
    refine x_if_eq (pc := 457) C 478 dL_law_457 (by decide) (fun c_50 => ?_) (fun c_50 => ?_)
    · have h := kIp c_50 h
      refine x_iconst (pc := 478) C 0 dL_law_478 (by decide) ?_
      refine x_iadd (pc := 479) C dL_law_479 ?_
      refine x_istore (pc := 480) C (lv' := [(12, .int (v12 + 0)), (0, .ref b), (1, .ref (a 0)), (2, .ref (a 31)), (3, .ref (a 32)), (4, .int v4), (5, .int v5), (6, .int v6), (7, .int v7), (8, .int v8), (10, .int v10), (11, .int v11), (13, .int v13), (16, .int v16)]) dL_law_480 (by decide) rfl ?_
      refine x_iinc (pc := 482) C 13 (v := v16 + 1) (lv' := [(16, .int (v16 + 1)), (12, .int (v12 + 0)), (0, .ref b), (1, .ref (a 0)), (2, .ref (a 31)), (3, .ref (a 32)), (4, .int v4), (5, .int v5), (6, .int v6), (7, .int v7), (8, .int v8), (10, .int v10), (11, .int v11), (13, .int v13)]) dL_law_482 rfl rfl (by decide) rfl ?_
      refine x_goto (pc := 485) C 437 dL_law_485 (by decide) ?_
      refine kX.pick [2, 3, 4, 5, 6, 7, 8, 9, 10, 11, 12, 1, 13, 0] (lv' := [(0, .ref b), (1, .ref (a 0)), (2, .ref (a 31)), (3, .ref (a 32)), (4, .int v4), (5, .int v5), (6, .int v6), (7, .int v7), (8, .int v8), (10, .int v10), (11, .int v11), (12, .int (v12 + 0)), (13, .int v13), (16, .int (v16 + 1))]) rfl ?_
      exact hG (v12 + 0) (v16 + 1) h
    · have h := kIn c_50 h
      refine x_iload (pc := 460) C 4 dL_law_460 rfl ?_
      refine x_iload (pc := 462) C 7 dL_law_462 rfl ?_
      refine x_iload (pc := 464) C 12 dL_law_464 rfl ?_
      refine x_iload (pc := 466) C 13 dL_law_466 rfl ?_
      obtain ⟨z_51, hz_51, h⟩ := kB h
      refine x_callS (pc := 468) C [.int v4, .int v7, .int v13, .int v16] (mL_beside G v4 v7 v13 v16 hz_51) ysL_beside q16_11 ⟨Nat.le_of_ble_eq_true rfl, Nat.le_of_ble_eq_true rfl, rfl, rfl⟩ Zd.2.1 rfl rfl (Nat.le_of_ble_eq_true rfl) rfl dL_law_468 ?_
      refine x_if_ne (pc := 471) C 478 dL_law_471 (by decide) (fun c_52 => ?_) (fun c_52 => ?_)
      · have h := kIn c_52 h
        refine x_iconst (pc := 478) C 0 dL_law_478 (by decide) ?_
        refine x_iadd (pc := 479) C dL_law_479 ?_
        refine x_istore (pc := 480) C (lv' := [(12, .int (v12 + 0)), (0, .ref b), (1, .ref (a 0)), (2, .ref (a 31)), (3, .ref (a 32)), (4, .int v4), (5, .int v5), (6, .int v6), (7, .int v7), (8, .int v8), (10, .int v10), (11, .int v11), (13, .int v13), (16, .int v16)]) dL_law_480 (by decide) rfl ?_
        refine x_iinc (pc := 482) C 13 (v := v16 + 1) (lv' := [(16, .int (v16 + 1)), (12, .int (v12 + 0)), (0, .ref b), (1, .ref (a 0)), (2, .ref (a 31)), (3, .ref (a 32)), (4, .int v4), (5, .int v5), (6, .int v6), (7, .int v7), (8, .int v8), (10, .int v10), (11, .int v11), (13, .int v13)]) dL_law_482 rfl rfl (by decide) rfl ?_
        refine x_goto (pc := 485) C 437 dL_law_485 (by decide) ?_
        refine kX.pick [2, 3, 4, 5, 6, 7, 8, 9, 10, 11, 12, 1, 13, 0] (lv' := [(0, .ref b), (1, .ref (a 0)), (2, .ref (a 31)), (3, .ref (a 32)), (4, .int v4), (5, .int v5), (6, .int v6), (7, .int v7), (8, .int v8), (10, .int v10), (11, .int v11), (12, .int (v12 + 0)), (13, .int v13), (16, .int (v16 + 1))]) rfl ?_
        exact hG (v12 + 0) (v16 + 1) h
      · have h := kIp c_52 h
        refine x_iconst (pc := 474) C 1 dL_law_474 (by decide) ?_
        refine x_goto (pc := 475) C 479 dL_law_475 (by decide) ?_
        refine x_iadd (pc := 479) C dL_law_479 ?_
        refine x_istore (pc := 480) C (lv' := [(12, .int (v12 + 1)), (0, .ref b), (1, .ref (a 0)), (2, .ref (a 31)), (3, .ref (a 32)), (4, .int v4), (5, .int v5), (6, .int v6), (7, .int v7), (8, .int v8), (10, .int v10), (11, .int v11), (13, .int v13), (16, .int v16)]) dL_law_480 (by decide) rfl ?_
        refine x_iinc (pc := 482) C 13 (v := v16 + 1) (lv' := [(16, .int (v16 + 1)), (12, .int (v12 + 1)), (0, .ref b), (1, .ref (a 0)), (2, .ref (a 31)), (3, .ref (a 32)), (4, .int v4), (5, .int v5), (6, .int v6), (7, .int v7), (8, .int v8), (10, .int v10), (11, .int v11), (13, .int v13)]) dL_law_482 rfl rfl (by decide) rfl ?_
        refine x_goto (pc := 485) C 437 dL_law_485 (by decide) ?_
        refine kX.pick [2, 3, 4, 5, 6, 7, 8, 9, 10, 11, 12, 1, 13, 0] (lv' := [(0, .ref b), (1, .ref (a 0)), (2, .ref (a 31)), (3, .ref (a 32)), (4, .int v4), (5, .int v5), (6, .int v6), (7, .int v7), (8, .int v8), (10, .int v10), (11, .int v11), (12, .int (v12 + 1)), (13, .int v13), (16, .int (v16 + 1))]) rfl ?_
        exact hG (v12 + 1) (v16 + 1) h
def fL_law_L437 (K : Int32 → Int32 → Option (Int32 × kS)) (L : Nat) (xs : Nat → Int32) (st : kS) (v4 : Int32) (v5 : Int32) (v6 : Int32) (v7 : Int32) (v8 : Int32) (v10 : Int32) (v11 : Int32) (v13 : Int32) : Nat → Int32 → Int32 → Option (Int32 × kS)
  | 0, _, _ => none
  | F + 1, v12, v16 => fL_law_L437_B K (fL_law_L437 K L xs st v4 v5 v6 v7 v8 v10 v11 v13 F) L xs st v4 v5 v6 v7 v8 v10 v11 v12 v13 v16
set_option maxRecDepth 100000 in
set_option maxHeartbeats 4000000 in
theorem wL_law_L437 {G : kG} {E : kE} {a : Nat → Nat} {cs : Nat × Nat} {b L : Nat} {xs : Nat → Int32} (C : kOk G E cL_law RL 36 room_1) {z : Int32 × kS} (Zd : kLawZ E b cs z.1) (X : kScr E b L xs) {K : Int32 → Int32 → Option (Int32 × kS)} (st : kS) (v4 : Int32) (v5 : Int32) (v6 : Int32) (v7 : Int32) (v8 : Int32) (v10 : Int32) (v11 : Int32) (v13 : Int32) (hK : ∀ (u12 : Int32) (u16 : Int32), K u12 u16 = some z → kX G E cs (wL G a st) 488 [(0, .ref b), (1, .ref (a 0)), (2, .ref (a 31)), (3, .ref (a 32)), (4, .int v4), (5, .int v5), (6, .int v6), (7, .int v7), (8, .int v8), (10, .int v10), (11, .int v11), (12, .int u12), (13, .int v13)] []) : ∀ (F : Nat) (v12 : Int32) (v16 : Int32), fL_law_L437 K L xs st v4 v5 v6 v7 v8 v10 v11 v13 F v12 v16 = some z → kX G E cs (wL G a st) 437 [(0, .ref b), (1, .ref (a 0)), (2, .ref (a 31)), (3, .ref (a 32)), (4, .int v4), (5, .int v5), (6, .int v6), (7, .int v7), (8, .int v8), (10, .int v10), (11, .int v11), (12, .int v12), (13, .int v13), (16, .int v16)] [] := by
  intro F
  induction F with
  | zero =>
    intro v12 v16 h
    exact absurd (show none = some z from h) (fun q => by cases q)
  | succ F ih =>
    intro v12 v16 h
    exact wL_law_L437_B  C Zd X  st v4 v5 v6 v7 v8 v10 v11 v12 v13 v16 hK (fun v12 v16 h => ih v12 v16 h) h
def fL_law_L316_B (K : Int32 → Int32 → Option (Int32 × kS)) (Gc : Int32 → Int32 → Option (Int32 × kS)) (L : Nat) (xs : Nat → Int32) (st : kS) (v4 : Int32) (v5 : Int32) (v6 : Int32) (v7 : Int32) (v8 : Int32) (v10 : Int32) (v11 : Int32) (v12 : Int32) (v13 : Int32) : Option (Int32 × kS) := if v4 ≤ v13 then (K v12 v13) else ((fL_place v4 v6 v13).bind (fun z_33 => (fL_place v4 v7 v13).bind (fun z_34 => (fX9_house st v13 0).bind (fun z_35 => (ka 6 (gA st 31) v13).bind (fun x_36 => if z_35 = x_36 then ((fX9_house st v13 1).bind (fun z_39 => if z_39 = z_33 then ((fX9_house st v13 2).bind (fun z_41 => if z_41 = z_34 then ((fX9_house st v13 3).bind (fun z_43 => if z_43 = (-1) then (if (fX9_at st z_33) = v13 then ((fX9_walk st v13).bind (fun z_46 => if z_46 = ((fL_round v4 0 z_34) + (fL_round v4 z_34 z_33)) then (fL_law_L437 (fun v12_53 v16_54 => Gc v12_53 (v13 + 1)) L xs st v4 v5 v6 v7 v8 v10 v11 v13 kFU v12 0) else (some (0, st)))) else (some (0, st))) else (some (0, st)))) else (some (0, st)))) else (some (0, st)))) else (some (0, st)))))))
set_option maxRecDepth 100000 in
set_option maxHeartbeats 4000000 in
theorem wL_law_L316_B {G : kG} {E : kE} {a : Nat → Nat} {cs : Nat × Nat} {b L : Nat} {xs : Nat → Int32} (C : kOk G E cL_law RL 36 room_1) {z : Int32 × kS} (Zd : kLawZ E b cs z.1) (X : kScr E b L xs) {K Gc : Int32 → Int32 → Option (Int32 × kS)} (st : kS) (v4 : Int32) (v5 : Int32) (v6 : Int32) (v7 : Int32) (v8 : Int32) (v10 : Int32) (v11 : Int32) (v12 : Int32) (v13 : Int32) (hK : ∀ (u12 : Int32) (u13 : Int32), K u12 u13 = some z → kX G E cs (wL G a st) 494 [(0, .ref b), (1, .ref (a 0)), (2, .ref (a 31)), (3, .ref (a 32)), (4, .int v4), (5, .int v5), (6, .int v6), (7, .int v7), (8, .int v8), (10, .int v10), (11, .int v11), (12, .int u12)] []) (hG : ∀ (u12 : Int32) (u13 : Int32), Gc u12 u13 = some z → kX G E cs (wL G a st) 316 [(0, .ref b), (1, .ref (a 0)), (2, .ref (a 31)), (3, .ref (a 32)), (4, .int v4), (5, .int v5), (6, .int v6), (7, .int v7), (8, .int v8), (10, .int v10), (11, .int v11), (12, .int u12), (13, .int u13)] []) (h : fL_law_L316_B K Gc L xs st v4 v5 v6 v7 v8 v10 v11 v12 v13 = some z) : kX G E cs (wL G a st) 316 [(0, .ref b), (1, .ref (a 0)), (2, .ref (a 31)), (3, .ref (a 32)), (4, .int v4), (5, .int v5), (6, .int v6), (7, .int v7), (8, .int v8), (10, .int v10), (11, .int v11), (12, .int v12), (13, .int v13)] [] := by
  unfold fL_law_L316_B at h
  refine x_iload (pc := 316) C 12 dL_law_316 rfl ?_
  refine x_iload (pc := 318) C 4 dL_law_318 rfl ?_
  refine x_icmp_ge (pc := 320) C 494 dL_law_320 (by decide) (fun c_32 => ?_) (fun c_32 => ?_)
  · have h := kIp c_32 h
    refine kX.pick [0, 1, 2, 3, 4, 5, 6, 7, 8, 9, 10, 11] (lv' := [(0, .ref b), (1, .ref (a 0)), (2, .ref (a 31)), (3, .ref (a 32)), (4, .int v4), (5, .int v5), (6, .int v6), (7, .int v7), (8, .int v8), (10, .int v10), (11, .int v11), (12, .int v12)]) rfl ?_
    exact hK v12 v13 h
  · have h := kIn c_32 h
    refine x_iload (pc := 323) C 4 dL_law_323 rfl ?_
    refine x_iload (pc := 325) C 6 dL_law_325 rfl ?_
    refine x_iload (pc := 327) C 12 dL_law_327 rfl ?_
    obtain ⟨z_33, hz_33, h⟩ := kB h
    refine x_callS (pc := 329) C [.int v4, .int v6, .int v13] (mL_place G v4 v6 v13 hz_33) ysL_place q14_9 ⟨Nat.le_of_ble_eq_true rfl, Nat.le_of_ble_eq_true rfl, rfl, rfl⟩ Zd.2.1 rfl rfl (Nat.le_of_ble_eq_true rfl) rfl dL_law_329 ?_
    refine x_istore (pc := 332) C (lv' := [(14, .int z_33), (0, .ref b), (1, .ref (a 0)), (2, .ref (a 31)), (3, .ref (a 32)), (4, .int v4), (5, .int v5), (6, .int v6), (7, .int v7), (8, .int v8), (10, .int v10), (11, .int v11), (12, .int v12), (13, .int v13)]) dL_law_332 (by decide) rfl ?_
    refine x_iload (pc := 334) C 5 dL_law_334 rfl ?_
    refine x_iload (pc := 336) C 8 dL_law_336 rfl ?_
    refine x_iload (pc := 338) C 13 dL_law_338 rfl ?_
    obtain ⟨z_34, hz_34, h⟩ := kB h
    refine x_callS (pc := 340) C [.int v4, .int v7, .int v13] (mL_place G v4 v7 v13 hz_34) ysL_place q14_9 ⟨Nat.le_of_ble_eq_true rfl, Nat.le_of_ble_eq_true rfl, rfl, rfl⟩ Zd.2.1 rfl rfl (Nat.le_of_ble_eq_true rfl) rfl dL_law_340 ?_
    refine x_istore (pc := 343) C (lv' := [(15, .int z_34), (14, .int z_33), (0, .ref b), (1, .ref (a 0)), (2, .ref (a 31)), (3, .ref (a 32)), (4, .int v4), (5, .int v5), (6, .int v6), (7, .int v7), (8, .int v8), (10, .int v10), (11, .int v11), (12, .int v12), (13, .int v13)]) dL_law_343 (by decide) rfl ?_
    refine x_aload_n (pc := 345) C 3 dL_law_345 rfl rfl ?_
    refine x_iload (pc := 346) C 14 dL_law_346 rfl ?_
    refine x_iconst (pc := 348) C 0 dL_law_348 (by decide) ?_
    obtain ⟨z_35, hz_35, h⟩ := kB h
    refine x_callVL0 (pc := 349) C st [.int v13, .int 0] (mX9_house G a st v13 0 hz_35) yvX9_house q14_12 ⟨Nat.le_of_ble_eq_true rfl, Nat.le_of_ble_eq_true rfl, rfl, rfl⟩ Zd.2.1 rfl rfl (Nat.le_of_ble_eq_true rfl) rfl dL_law_349 ?_
    refine x_aload_n (pc := 352) C 4 dL_law_352 rfl rfl ?_
    refine x_iload (pc := 353) C 14 dL_law_353 rfl ?_
    obtain ⟨x_36, hx_36, h⟩ := kB h
    obtain ⟨hi_37, hx_36⟩ := ka_some hx_36
    refine y_iald (pc := 355) C 31 (lwL_A31 G a rfl) hi_37 hx_36 dL_law_355 ?_
    refine x_icmp_ne (pc := 356) C 432 dL_law_356 (by decide) (fun c_38 => ?_) (fun c_38 => ?_)
    · have h := kIn c_38 h
      refine x_iconst (pc := 432) C 0 dL_law_432 (by decide) ?_
      obtain rfl := Option.some.inj h
      exact x_lawretZ (pc := 433) C Zd dL_law_433
    · have h := kIp c_38 h
      refine x_aload_n (pc := 359) C 3 dL_law_359 rfl rfl ?_
      refine x_iload (pc := 360) C 14 dL_law_360 rfl ?_
      refine x_iconst (pc := 362) C 1 dL_law_362 (by decide) ?_
      obtain ⟨z_39, hz_39, h⟩ := kB h
      refine x_callVL0 (pc := 363) C st [.int v13, .int 1] (mX9_house G a st v13 1 hz_39) yvX9_house q14_12 ⟨Nat.le_of_ble_eq_true rfl, Nat.le_of_ble_eq_true rfl, rfl, rfl⟩ Zd.2.1 rfl rfl (Nat.le_of_ble_eq_true rfl) rfl dL_law_363 ?_
      refine x_iload (pc := 366) C 1 dL_law_366 rfl ?_
      refine x_icmp_ne (pc := 368) C 432 dL_law_368 (by decide) (fun c_40 => ?_) (fun c_40 => ?_)
      · have h := kIn c_40 h
        refine x_iconst (pc := 432) C 0 dL_law_432 (by decide) ?_
        obtain rfl := Option.some.inj h
        exact x_lawretZ (pc := 433) C Zd dL_law_433
      · have h := kIp c_40 h
        refine x_aload_n (pc := 371) C 3 dL_law_371 rfl rfl ?_
        refine x_iload (pc := 372) C 14 dL_law_372 rfl ?_
        refine x_iconst (pc := 374) C 2 dL_law_374 (by decide) ?_
        obtain ⟨z_41, hz_41, h⟩ := kB h
        refine x_callVL0 (pc := 375) C st [.int v13, .int 2] (mX9_house G a st v13 2 hz_41) yvX9_house q14_12 ⟨Nat.le_of_ble_eq_true rfl, Nat.le_of_ble_eq_true rfl, rfl, rfl⟩ Zd.2.1 rfl rfl (Nat.le_of_ble_eq_true rfl) rfl dL_law_375 ?_
        refine x_iload (pc := 378) C 0 dL_law_378 rfl ?_
        refine x_icmp_ne (pc := 380) C 432 dL_law_380 (by decide) (fun c_42 => ?_) (fun c_42 => ?_)
        · have h := kIn c_42 h
          refine x_iconst (pc := 432) C 0 dL_law_432 (by decide) ?_
          obtain rfl := Option.some.inj h
          exact x_lawretZ (pc := 433) C Zd dL_law_433
        · have h := kIp c_42 h
          refine x_aload_n (pc := 383) C 3 dL_law_383 rfl rfl ?_
          refine x_iload (pc := 384) C 14 dL_law_384 rfl ?_
          refine x_iconst (pc := 386) C 3 dL_law_386 (by decide) ?_
          obtain ⟨z_43, hz_43, h⟩ := kB h
          refine x_callVL0 (pc := 387) C st [.int v13, .int 3] (mX9_house G a st v13 3 hz_43) yvX9_house q14_12 ⟨Nat.le_of_ble_eq_true rfl, Nat.le_of_ble_eq_true rfl, rfl, rfl⟩ Zd.2.1 rfl rfl (Nat.le_of_ble_eq_true rfl) rfl dL_law_387 ?_
          refine x_iconst (pc := 390) C (-1) dL_law_390 (by decide) ?_
          refine x_icmp_ne (pc := 391) C 432 dL_law_391 (by decide) (fun c_44 => ?_) (fun c_44 => ?_)
          · have h := kIn c_44 h
            refine x_iconst (pc := 432) C 0 dL_law_432 (by decide) ?_
            obtain rfl := Option.some.inj h
            exact x_lawretZ (pc := 433) C Zd dL_law_433
          · have h := kIp c_44 h
            refine x_aload_n (pc := 394) C 3 dL_law_394 rfl rfl ?_
            refine x_iload (pc := 395) C 1 dL_law_395 rfl ?_
            refine x_callVL0 (pc := 397) C st [.int z_33] (mX9_at G a st z_33) yvX9_at q15_12 ⟨Nat.le_of_ble_eq_true rfl, Nat.le_of_ble_eq_true rfl, rfl, rfl⟩ Zd.2.1 rfl rfl (Nat.le_of_ble_eq_true rfl) rfl dL_law_397 ?_
            refine x_iload (pc := 400) C 14 dL_law_400 rfl ?_
            refine x_icmp_ne (pc := 402) C 432 dL_law_402 (by decide) (fun c_45 => ?_) (fun c_45 => ?_)
            · have h := kIn c_45 h
              refine x_iconst (pc := 432) C 0 dL_law_432 (by decide) ?_
              obtain rfl := Option.some.inj h
              exact x_lawretZ (pc := 433) C Zd dL_law_433
            · have h := kIp c_45 h
              refine x_aload_n (pc := 405) C 3 dL_law_405 rfl rfl ?_
              refine x_iload (pc := 406) C 14 dL_law_406 rfl ?_
              obtain ⟨z_46, hz_46, h⟩ := kB h
              refine x_callVL0 (pc := 408) C st [.int v13] (mX9_walk G a st v13 hz_46) yvX9_walk q15_17 ⟨Nat.le_of_ble_eq_true rfl, Nat.le_of_ble_eq_true rfl, rfl, rfl⟩ Zd.2.1 rfl rfl (Nat.le_of_ble_eq_true rfl) rfl dL_law_408 ?_
              refine x_iload (pc := 411) C 6 dL_law_411 rfl ?_
              refine x_iconst (pc := 413) C 0 dL_law_413 (by decide) ?_
              refine x_iload (pc := 414) C 0 dL_law_414 rfl ?_
              refine x_callS (pc := 416) C [.int v4, .int 0, .int z_34] (mL_round G v4 0 z_34) ysL_round q16_8 ⟨Nat.le_of_ble_eq_true rfl, Nat.le_of_ble_eq_true rfl, rfl, rfl⟩ Zd.2.1 rfl rfl (Nat.le_of_ble_eq_true rfl) rfl dL_law_416 ?_
              refine x_iload (pc := 419) C 6 dL_law_419 rfl ?_
              refine x_iload (pc := 421) C 0 dL_law_421 rfl ?_
              refine x_iload (pc := 423) C 1 dL_law_423 rfl ?_
              refine x_callS (pc := 425) C [.int v4, .int z_34, .int z_33] (mL_round G v4 z_34 z_33) ysL_round q16_8 ⟨Nat.le_of_ble_eq_true rfl, Nat.le_of_ble_eq_true rfl, rfl, rfl⟩ Zd.2.1 rfl rfl (Nat.le_of_ble_eq_true rfl) rfl dL_law_425 ?_
              refine x_iadd (pc := 428) C dL_law_428 ?_
              refine x_icmp_eq (pc := 429) C 434 dL_law_429 (by decide) (fun c_47 => ?_) (fun c_47 => ?_)
              · have h := kIp c_47 h
                refine x_iconst (pc := 434) C 0 dL_law_434 (by decide) ?_
                refine x_istore (pc := 435) C (lv' := [(16, .int 0), (15, .int z_34), (14, .int z_33), (0, .ref b), (1, .ref (a 0)), (2, .ref (a 31)), (3, .ref (a 32)), (4, .int v4), (5, .int v5), (6, .int v6), (7, .int v7), (8, .int v8), (10, .int v10), (11, .int v11), (12, .int v12), (13, .int v13)]) dL_law_435 (by decide) rfl ?_
                refine kX.pick [3, 4, 5, 6, 7, 8, 9, 10, 11, 12, 13, 14, 15, 0] (lv' := [(0, .ref b), (1, .ref (a 0)), (2, .ref (a 31)), (3, .ref (a 32)), (4, .int v4), (5, .int v5), (6, .int v6), (7, .int v7), (8, .int v8), (10, .int v10), (11, .int v11), (12, .int v12), (13, .int v13), (16, .int 0)]) rfl ?_
                refine wL_law_L437  C Zd X  st v4 v5 v6 v7 v8 v10 v11 v13 (fun v12_53 v16_54 h => ?_) kFU v12 0 h
                refine x_iinc (pc := 488) C 12 (v := v13 + 1) (lv' := [(13, .int (v13 + 1)), (0, .ref b), (1, .ref (a 0)), (2, .ref (a 31)), (3, .ref (a 32)), (4, .int v4), (5, .int v5), (6, .int v6), (7, .int v7), (8, .int v8), (10, .int v10), (11, .int v11), (12, .int v12_53)]) dL_law_488 rfl rfl (by decide) rfl ?_
                refine x_goto (pc := 491) C 316 dL_law_491 (by decide) ?_
                refine kX.pick [1, 2, 3, 4, 5, 6, 7, 8, 9, 10, 11, 12, 0] (lv' := [(0, .ref b), (1, .ref (a 0)), (2, .ref (a 31)), (3, .ref (a 32)), (4, .int v4), (5, .int v5), (6, .int v6), (7, .int v7), (8, .int v8), (10, .int v10), (11, .int v11), (12, .int v12_53), (13, .int (v13 + 1))]) rfl ?_
                exact hG v12_53 (v13 + 1) h
              · have h := kIn c_47 h
                refine x_iconst (pc := 432) C 0 dL_law_432 (by decide) ?_
                obtain rfl := Option.some.inj h
                exact x_lawretZ (pc := 433) C Zd dL_law_433
def fL_law_L316 (K : Int32 → Int32 → Option (Int32 × kS)) (L : Nat) (xs : Nat → Int32) (st : kS) (v4 : Int32) (v5 : Int32) (v6 : Int32) (v7 : Int32) (v8 : Int32) (v10 : Int32) (v11 : Int32) : Nat → Int32 → Int32 → Option (Int32 × kS)
  | 0, _, _ => none
  | F + 1, v12, v13 => fL_law_L316_B K (fL_law_L316 K L xs st v4 v5 v6 v7 v8 v10 v11 F) L xs st v4 v5 v6 v7 v8 v10 v11 v12 v13
set_option maxRecDepth 100000 in
set_option maxHeartbeats 4000000 in
theorem wL_law_L316 {G : kG} {E : kE} {a : Nat → Nat} {cs : Nat × Nat} {b L : Nat} {xs : Nat → Int32} (C : kOk G E cL_law RL 36 room_1) {z : Int32 × kS} (Zd : kLawZ E b cs z.1) (X : kScr E b L xs) {K : Int32 → Int32 → Option (Int32 × kS)} (st : kS) (v4 : Int32) (v5 : Int32) (v6 : Int32) (v7 : Int32) (v8 : Int32) (v10 : Int32) (v11 : Int32) (hK : ∀ (u12 : Int32) (u13 : Int32), K u12 u13 = some z → kX G E cs (wL G a st) 494 [(0, .ref b), (1, .ref (a 0)), (2, .ref (a 31)), (3, .ref (a 32)), (4, .int v4), (5, .int v5), (6, .int v6), (7, .int v7), (8, .int v8), (10, .int v10), (11, .int v11), (12, .int u12)] []) : ∀ (F : Nat) (v12 : Int32) (v13 : Int32), fL_law_L316 K L xs st v4 v5 v6 v7 v8 v10 v11 F v12 v13 = some z → kX G E cs (wL G a st) 316 [(0, .ref b), (1, .ref (a 0)), (2, .ref (a 31)), (3, .ref (a 32)), (4, .int v4), (5, .int v5), (6, .int v6), (7, .int v7), (8, .int v8), (10, .int v10), (11, .int v11), (12, .int v12), (13, .int v13)] [] := by
  intro F
  induction F with
  | zero =>
    intro v12 v13 h
    exact absurd (show none = some z from h) (fun q => by cases q)
  | succ F ih =>
    intro v12 v13 h
    exact wL_law_L316_B  C Zd X  st v4 v5 v6 v7 v8 v10 v11 v12 v13 hK (fun v12 v13 h => ih v12 v13 h) h
def fL_law_L568_B (K : Int32 → Int32 → Option (Int32 × kS)) (Gc : Int32 → Int32 → Option (Int32 × kS)) (L : Nat) (xs : Nat → Int32) (st : kS) (v4 : Int32) (v5 : Int32) (v6 : Int32) (v7 : Int32) (v8 : Int32) (v10 : Int32) (v11 : Int32) (v13 : Int32) (v14 : Int32) (v15 : Int32) (v16 : Int32) (v17 : Int32) : Option (Int32 × kS) := if v15 ≤ v17 then (K v16 v17) else (Gc (v16 * v4) (v17 + 1))
set_option maxRecDepth 100000 in
set_option maxHeartbeats 4000000 in
theorem wL_law_L568_B {G : kG} {E : kE} {a : Nat → Nat} {cs : Nat × Nat} {b L : Nat} {xs : Nat → Int32} (C : kOk G E cL_law RL 36 room_1) {z : Int32 × kS} (Zd : kLawZ E b cs z.1) (X : kScr E b L xs) {K Gc : Int32 → Int32 → Option (Int32 × kS)} (st : kS) (v4 : Int32) (v5 : Int32) (v6 : Int32) (v7 : Int32) (v8 : Int32) (v10 : Int32) (v11 : Int32) (v13 : Int32) (v14 : Int32) (v15 : Int32) (v16 : Int32) (v17 : Int32) (hK : ∀ (u16 : Int32) (u17 : Int32), K u16 u17 = some z → kX G E cs (wL G a st) 588 [(0, .ref b), (1, .ref (a 0)), (2, .ref (a 31)), (3, .ref (a 32)), (4, .int v4), (5, .int v5), (6, .int v6), (7, .int v7), (8, .int v8), (10, .int v10), (11, .int v11), (13, .int v13), (14, .int v14), (15, .int v15), (16, .int u16)] []) (hG : ∀ (u16 : Int32) (u17 : Int32), Gc u16 u17 = some z → kX G E cs (wL G a st) 568 [(0, .ref b), (1, .ref (a 0)), (2, .ref (a 31)), (3, .ref (a 32)), (4, .int v4), (5, .int v5), (6, .int v6), (7, .int v7), (8, .int v8), (10, .int v10), (11, .int v11), (13, .int v13), (14, .int v14), (15, .int v15), (16, .int u16), (17, .int u17)] []) (h : fL_law_L568_B K Gc L xs st v4 v5 v6 v7 v8 v10 v11 v13 v14 v15 v16 v17 = some z) : kX G E cs (wL G a st) 568 [(0, .ref b), (1, .ref (a 0)), (2, .ref (a 31)), (3, .ref (a 32)), (4, .int v4), (5, .int v5), (6, .int v6), (7, .int v7), (8, .int v8), (10, .int v10), (11, .int v11), (13, .int v13), (14, .int v14), (15, .int v15), (16, .int v16), (17, .int v17)] [] := by
  unfold fL_law_L568_B at h
  refine x_iload (pc := 568) C 15 dL_law_568 rfl ?_
  refine x_iload (pc := 570) C 13 dL_law_570 rfl ?_
  refine x_icmp_ge (pc := 572) C 588 dL_law_572 (by decide) (fun c_64 => ?_) (fun c_64 => ?_)
  · have h := kIp c_64 h
    refine kX.pick [0, 1, 2, 3, 4, 5, 6, 7, 8, 9, 10, 11, 12, 13, 14] (lv' := [(0, .ref b), (1, .ref (a 0)), (2, .ref (a 31)), (3, .ref (a 32)), (4, .int v4), (5, .int v5), (6, .int v6), (7, .int v7), (8, .int v8), (10, .int v10), (11, .int v11), (13, .int v13), (14, .int v14), (15, .int v15), (16, .int v16)]) rfl ?_
    exact hK v16 v17 h
  · have h := kIn c_64 h
    refine x_iload (pc := 575) C 14 dL_law_575 rfl ?_
    refine x_iload (pc := 577) C 4 dL_law_577 rfl ?_
    refine x_imul (pc := 579) C dL_law_579 ?_
    refine x_istore (pc := 580) C (lv' := [(16, .int (v16 * v4)), (0, .ref b), (1, .ref (a 0)), (2, .ref (a 31)), (3, .ref (a 32)), (4, .int v4), (5, .int v5), (6, .int v6), (7, .int v7), (8, .int v8), (10, .int v10), (11, .int v11), (13, .int v13), (14, .int v14), (15, .int v15), (17, .int v17)]) dL_law_580 (by decide) rfl ?_
    refine x_iinc (pc := 582) C 15 (v := v17 + 1) (lv' := [(17, .int (v17 + 1)), (16, .int (v16 * v4)), (0, .ref b), (1, .ref (a 0)), (2, .ref (a 31)), (3, .ref (a 32)), (4, .int v4), (5, .int v5), (6, .int v6), (7, .int v7), (8, .int v8), (10, .int v10), (11, .int v11), (13, .int v13), (14, .int v14), (15, .int v15)]) dL_law_582 rfl rfl (by decide) rfl ?_
    refine x_goto (pc := 585) C 568 dL_law_585 (by decide) ?_
    refine kX.pick [2, 3, 4, 5, 6, 7, 8, 9, 10, 11, 12, 13, 14, 15, 1, 0] (lv' := [(0, .ref b), (1, .ref (a 0)), (2, .ref (a 31)), (3, .ref (a 32)), (4, .int v4), (5, .int v5), (6, .int v6), (7, .int v7), (8, .int v8), (10, .int v10), (11, .int v11), (13, .int v13), (14, .int v14), (15, .int v15), (16, .int (v16 * v4)), (17, .int (v17 + 1))]) rfl ?_
    exact hG (v16 * v4) (v17 + 1) h
def fL_law_L568 (K : Int32 → Int32 → Option (Int32 × kS)) (L : Nat) (xs : Nat → Int32) (st : kS) (v4 : Int32) (v5 : Int32) (v6 : Int32) (v7 : Int32) (v8 : Int32) (v10 : Int32) (v11 : Int32) (v13 : Int32) (v14 : Int32) (v15 : Int32) : Nat → Int32 → Int32 → Option (Int32 × kS)
  | 0, _, _ => none
  | F + 1, v16, v17 => fL_law_L568_B K (fL_law_L568 K L xs st v4 v5 v6 v7 v8 v10 v11 v13 v14 v15 F) L xs st v4 v5 v6 v7 v8 v10 v11 v13 v14 v15 v16 v17
set_option maxRecDepth 100000 in
set_option maxHeartbeats 4000000 in
theorem wL_law_L568 {G : kG} {E : kE} {a : Nat → Nat} {cs : Nat × Nat} {b L : Nat} {xs : Nat → Int32} (C : kOk G E cL_law RL 36 room_1) {z : Int32 × kS} (Zd : kLawZ E b cs z.1) (X : kScr E b L xs) {K : Int32 → Int32 → Option (Int32 × kS)} (st : kS) (v4 : Int32) (v5 : Int32) (v6 : Int32) (v7 : Int32) (v8 : Int32) (v10 : Int32) (v11 : Int32) (v13 : Int32) (v14 : Int32) (v15 : Int32) (hK : ∀ (u16 : Int32) (u17 : Int32), K u16 u17 = some z → kX G E cs (wL G a st) 588 [(0, .ref b), (1, .ref (a 0)), (2, .ref (a 31)), (3, .ref (a 32)), (4, .int v4), (5, .int v5), (6, .int v6), (7, .int v7), (8, .int v8), (10, .int v10), (11, .int v11), (13, .int v13), (14, .int v14), (15, .int v15), (16, .int u16)] []) : ∀ (F : Nat) (v16 : Int32) (v17 : Int32), fL_law_L568 K L xs st v4 v5 v6 v7 v8 v10 v11 v13 v14 v15 F v16 v17 = some z → kX G E cs (wL G a st) 568 [(0, .ref b), (1, .ref (a 0)), (2, .ref (a 31)), (3, .ref (a 32)), (4, .int v4), (5, .int v5), (6, .int v6), (7, .int v7), (8, .int v8), (10, .int v10), (11, .int v11), (13, .int v13), (14, .int v14), (15, .int v15), (16, .int v16), (17, .int v17)] [] := by
  intro F
  induction F with
  | zero =>
    intro v16 v17 h
    exact absurd (show none = some z from h) (fun q => by cases q)
  | succ F ih =>
    intro v16 v17 h
    exact wL_law_L568_B  C Zd X  st v4 v5 v6 v7 v8 v10 v11 v13 v14 v15 v16 v17 hK (fun v16 v17 h => ih v16 v17 h) h
