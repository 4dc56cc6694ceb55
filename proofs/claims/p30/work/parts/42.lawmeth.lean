theorem ysL_cell : kYS yL_cell cL_cell 2 (some .int) 2 := ⟨q5_9, q5_6, q5_10, by decide +kernel⟩
abbrev rmfL_cell : Room := { frames := 0, cells := 0, slots := 0, locals := 0 }
def fL_cell (L : Nat) (xs : Nat → Int32) (x1 : Int32) : Option (Int32) := if (nI L) ≤ x1 then (some (((7919 * x1) + 13) &&& 2147483647)) else ((ka L xs x1).bind (fun x_2 => some (x_2 &&& 2147483647)))
set_option maxRecDepth 100000 in
set_option maxHeartbeats 4000000 in
theorem wL_cell {G : kG} {E : kE} {ws : va_W} {b L : Nat} {xs : Nat → Int32} (C : kOk G E cL_cell RL 2 rmfL_cell) {z : Int32} (Zd : kEnd G E (0, 0) (some .int) (some (.int z)) ws) (X : kScr E b L xs) (x1 : Int32) (h : fL_cell L xs x1 = some z) : kX G E (0, 0) ws 0 [(0, .ref b), (1, .int x1)] [] := by
  unfold fL_cell at h
  refine x_iload_n (pc := 0) C 1 dL_cell_0 rfl rfl ?_
  refine x_aload_n (pc := 1) C 0 dL_cell_1 rfl rfl ?_
  refine x_slen (pc := 2) C X dL_cell_2 ?_
  refine x_icmp_ge (pc := 3) C 12 dL_cell_3 (by decide) (fun c_1 => ?_) (fun c_1 => ?_)
  · have h := kIp c_1 h
    refine x_sipush (pc := 12) C 7919 dL_cell_12 (by decide) ?_
    refine x_iload_n (pc := 15) C 1 dL_cell_15 rfl rfl ?_
    refine x_imul (pc := 16) C dL_cell_16 ?_
    refine x_bipush (pc := 17) C 13 dL_cell_17 (by decide) ?_
    refine x_iadd (pc := 19) C dL_cell_19 ?_
    refine x_ldc (pc := 20) C q5_11 dL_cell_20 ?_
    refine x_iand (pc := 22) C dL_cell_22 ?_
    obtain rfl := Option.some.inj h
    exact x_iret (pc := 23) C Zd dL_cell_23
  · have h := kIn c_1 h
    refine x_aload_n (pc := 6) C 0 dL_cell_6 rfl rfl ?_
    refine x_iload_n (pc := 7) C 1 dL_cell_7 rfl rfl ?_
    obtain ⟨x_2, hx_2, h⟩ := kB h
    obtain ⟨hi_3, hx_2⟩ := ka_some hx_2
    refine y_sld (pc := 8) C X hi_3 hx_2 dL_cell_8 ?_
    refine x_goto (pc := 9) C 20 dL_cell_9 (by decide) ?_
    refine x_ldc (pc := 20) C q5_11 dL_cell_20 ?_
    refine x_iand (pc := 22) C dL_cell_22 ?_
    obtain rfl := Option.some.inj h
    exact x_iret (pc := 23) C Zd dL_cell_23
set_option maxRecDepth 100000 in
theorem mL_cell (G : kG) {ws : va_W} {L : Nat} {xs : Nat → Int32} (b : Nat) (x1 : Int32) {z : Int32} (h : fL_cell L xs x1 = some z) : kMetS G yL_cell cL_cell 2 (some .int) rmfL_cell (0, 0) [.ref b, .int x1] b L xs ws (some (.int z)) ws := kMetS.mk (by decide +kernel) (Nat.le_of_ble_eq_true rfl) (fun E C Zd X => wL_cell  C Zd X  x1 h)
theorem ysL_put : kYS yL_put cL_put 2 (some .boolean) 2 := ⟨q5_13, q5_6, q5_14, by decide +kernel⟩
abbrev rmfL_put : Room := { frames := 3, cells := 0, slots := 0, locals := 70 }
def fL_put (st : kS) (x1 : Int32) : Option (Int32 × kS) := (fX9_letters st x1.toInt64).bind (fun z_1 => if z_1.1 ≤ 0 then (some (0, (kJ st z_1.2))) else (some (1, (kJ st z_1.2))))
set_option maxRecDepth 100000 in
set_option maxHeartbeats 4000000 in
theorem wL_put {G : kG} {E : kE} {a : Nat → Nat} (C : kOk G E cL_put RL 2 rmfL_put) {z : Int32 × kS} (Zd : kEnd G E (0, 0) (some .boolean) (some (.int z.1)) (wL G a z.2)) (st : kS) (x1 : Int32) (h : fL_put st x1 = some z) : kX G E (0, 0) (wL G a st) 0 [(0, .ref (a 0)), (1, .int x1)] [] := by
  unfold fL_put at h
  refine x_aload_n (pc := 0) C 0 dL_put_0 rfl rfl ?_
  refine x_iload_n (pc := 1) C 1 dL_put_1 rfl rfl ?_
  refine x_i2l (pc := 2) C dL_put_2 ?_
  obtain ⟨z_1, hz_1, h⟩ := kB h
  refine x_callVL (pc := 3) C st [.long x1.toInt64] (mX9_letters G a st x1.toInt64 hz_1) yvX9_letters q5_15 ⟨Nat.le_of_ble_eq_true rfl, Nat.le_of_ble_eq_true rfl, rfl, rfl⟩ ⟨Nat.zero_le _, Nat.zero_le _⟩ rfl rfl (Nat.le_of_ble_eq_true rfl) rfl dL_put_3 ?_
  refine x_if_le (pc := 6) C 13 dL_put_6 (by decide) (fun c_2 => ?_) (fun c_2 => ?_)
  · have h := kIp c_2 h
    refine x_iconst (pc := 13) C 0 dL_put_13 (by decide) ?_
    obtain rfl := Option.some.inj h
    exact x_zret (pc := 14) C rfl Zd dL_put_14
  · have h := kIn c_2 h
    refine x_iconst (pc := 9) C 1 dL_put_9 (by decide) ?_
    refine x_goto (pc := 10) C 14 dL_put_10 (by decide) ?_
    obtain rfl := Option.some.inj h
    exact x_zret (pc := 14) C rfl Zd dL_put_14
set_option maxRecDepth 100000 in
theorem mL_put (G : kG) (a : Nat → Nat) (st : kS) (x1 : Int32) {z : Int32 × kS} (h : fL_put st x1 = some z) : kMet G yL_put cL_put 2 (some .boolean) rmfL_put (0, 0) [.ref (a 0), .int x1] (wL G a st) (some (.int z.1)) (wL G a z.2) := kMet.mk (by decide +kernel) (Nat.le_of_ble_eq_true rfl) (fun E C Zd => wL_put  C Zd  st x1 h)
theorem ysL_at : kYS yL_at cL_at 2 (some .int) 2 := ⟨q12_21, q5_6, q12_22, by decide +kernel⟩
abbrev rmfL_at : Room := { frames := 0, cells := 0, slots := 0, locals := 0 }
def fL_at (x0 : Int32) (x1 : Int32) : Int32 := ((kshr x0 (4 * x1)) &&& 15)
set_option maxRecDepth 100000 in
set_option maxHeartbeats 4000000 in
theorem wL_at {G : kG} {E : kE} {ws : va_W} (C : kOk G E cL_at RL 2 rmfL_at) {z : Int32} (Zd : kEnd G E (0, 0) (some .int) (some (.int z)) ws) (x0 : Int32) (x1 : Int32) (h : fL_at x0 x1 = z) : kX G E (0, 0) ws 0 [(0, .int x0), (1, .int x1)] [] := by
  unfold fL_at at h
  refine x_iload_n (pc := 0) C 0 dL_at_0 rfl rfl ?_
  refine x_iconst (pc := 1) C 4 dL_at_1 (by decide) ?_
  refine x_iload_n (pc := 2) C 1 dL_at_2 rfl rfl ?_
  refine x_imul (pc := 3) C dL_at_3 ?_
  refine y_ishr (pc := 4) C dL_at_4 ?_
  refine x_bipush (pc := 5) C 15 dL_at_5 (by decide) ?_
  refine x_iand (pc := 7) C dL_at_7 ?_
  subst h
  exact x_iret (pc := 8) C Zd dL_at_8
set_option maxRecDepth 100000 in
theorem mL_at (G : kG) {ws : va_W} (x0 : Int32) (x1 : Int32) : kMet G yL_at cL_at 2 (some .int) rmfL_at (0, 0) [.int x0, .int x1] ws (some (.int (fL_at x0 x1))) ws := kMet.mk (by decide +kernel) (Nat.le_of_ble_eq_true rfl) (fun E C Zd => wL_at  C Zd  x0 x1 rfl)
theorem ysL_place : kYS yL_place cL_place 5 (some .int) 3 := ⟨q14_10, q5_6, q14_11, by decide +kernel⟩
abbrev rmfL_place : Room := { frames := 1, cells := 0, slots := 0, locals := 21 }
def fL_place_L5_B (K : Int32 → Int32 → Option (Int32)) (Gc : Int32 → Int32 → Option (Int32)) (v0 : Int32) (v1 : Int32) (v2 : Int32) (v3 : Int32) (v4 : Int32) : Option (Int32) := if v0 ≤ v4 then (K v3 v4) else (if (fL_at v1 v4) = v2 then (Gc v4 (v4 + 1)) else (Gc v3 (v4 + 1)))
set_option maxRecDepth 100000 in
set_option maxHeartbeats 4000000 in
theorem wL_place_L5_B {G : kG} {E : kE} {ws : va_W} (C : kOk G E cL_place RL 5 rmfL_place) {z : Int32} (Zd : kEnd G E (0, 0) (some .int) (some (.int z)) ws) {K Gc : Int32 → Int32 → Option (Int32)} (v0 : Int32) (v1 : Int32) (v2 : Int32) (v3 : Int32) (v4 : Int32) (hK : ∀ (u3 : Int32) (u4 : Int32), K u3 u4 = some z → kX G E (0, 0) ws 34 [(3, .int u3)] []) (hG : ∀ (u3 : Int32) (u4 : Int32), Gc u3 u4 = some z → kX G E (0, 0) ws 5 [(0, .int v0), (1, .int v1), (2, .int v2), (3, .int u3), (4, .int u4)] []) (h : fL_place_L5_B K Gc v0 v1 v2 v3 v4 = some z) : kX G E (0, 0) ws 5 [(0, .int v0), (1, .int v1), (2, .int v2), (3, .int v3), (4, .int v4)] [] := by
  unfold fL_place_L5_B at h
  refine x_iload (pc := 5) C 4 dL_place_5 rfl ?_
  refine x_iload_n (pc := 7) C 0 dL_place_7 rfl rfl ?_
  refine x_icmp_ge (pc := 8) C 34 dL_place_8 (by decide) (fun c_1 => ?_) (fun c_1 => ?_)
  · have h := kIp c_1 h
    refine kX.pick [3] (lv' := [(3, .int v3)]) rfl ?_
    exact hK v3 v4 h
  · have h := kIn c_1 h
    refine x_iload_n (pc := 11) C 1 dL_place_11 rfl rfl ?_
    refine x_iload (pc := 12) C 4 dL_place_12 rfl ?_
    refine x_callS (pc := 14) C [.int v1, .int v4] (mL_at G v1 v4) ysL_at q12_20 ⟨Nat.le_of_ble_eq_true rfl, Nat.le_of_ble_eq_true rfl, rfl, rfl⟩ ⟨Nat.zero_le _, Nat.zero_le _⟩ rfl rfl (Nat.le_of_ble_eq_true rfl) rfl dL_place_14 ?_
    refine x_iload_n (pc := 17) C 2 dL_place_17 rfl rfl ?_
    refine x_icmp_ne (pc := 18) C 26 dL_place_18 (by decide) (fun c_2 => ?_) (fun c_2 => ?_)
    · have h := kIn c_2 h
      refine x_iload_n (pc := 26) C 3 dL_place_26 rfl rfl ?_
      refine x_istore_n (pc := 27) C (lv' := [(3, .int v3), (0, .int v0), (1, .int v1), (2, .int v2), (4, .int v4)]) dL_place_27 rfl (by decide) rfl ?_
      refine x_iinc (pc := 28) C 4 (v := v4 + 1) (lv' := [(4, .int (v4 + 1)), (3, .int v3), (0, .int v0), (1, .int v1), (2, .int v2)]) dL_place_28 rfl rfl (by decide) rfl ?_
      refine x_goto (pc := 31) C 5 dL_place_31 (by decide) ?_
      refine kX.pick [2, 3, 4, 1, 0] (lv' := [(0, .int v0), (1, .int v1), (2, .int v2), (3, .int v3), (4, .int (v4 + 1))]) rfl ?_
      exact hG v3 (v4 + 1) h
    · have h := kIp c_2 h
      refine x_iload (pc := 21) C 4 dL_place_21 rfl ?_
      refine x_goto (pc := 23) C 27 dL_place_23 (by decide) ?_
      refine x_istore_n (pc := 27) C (lv' := [(3, .int v4), (0, .int v0), (1, .int v1), (2, .int v2), (4, .int v4)]) dL_place_27 rfl (by decide) rfl ?_
      refine x_iinc (pc := 28) C 4 (v := v4 + 1) (lv' := [(4, .int (v4 + 1)), (3, .int v4), (0, .int v0), (1, .int v1), (2, .int v2)]) dL_place_28 rfl rfl (by decide) rfl ?_
      refine x_goto (pc := 31) C 5 dL_place_31 (by decide) ?_
      refine kX.pick [2, 3, 4, 1, 0] (lv' := [(0, .int v0), (1, .int v1), (2, .int v2), (3, .int v4), (4, .int (v4 + 1))]) rfl ?_
      exact hG v4 (v4 + 1) h
def fL_place_L5 (K : Int32 → Int32 → Option (Int32)) (v0 : Int32) (v1 : Int32) (v2 : Int32) : Nat → Int32 → Int32 → Option (Int32)
  | 0, _, _ => none
  | F + 1, v3, v4 => fL_place_L5_B K (fL_place_L5 K v0 v1 v2 F) v0 v1 v2 v3 v4
set_option maxRecDepth 100000 in
set_option maxHeartbeats 4000000 in
theorem wL_place_L5 {G : kG} {E : kE} {ws : va_W} (C : kOk G E cL_place RL 5 rmfL_place) {z : Int32} (Zd : kEnd G E (0, 0) (some .int) (some (.int z)) ws) {K : Int32 → Int32 → Option (Int32)} (v0 : Int32) (v1 : Int32) (v2 : Int32) (hK : ∀ (u3 : Int32) (u4 : Int32), K u3 u4 = some z → kX G E (0, 0) ws 34 [(3, .int u3)] []) : ∀ (F : Nat) (v3 : Int32) (v4 : Int32), fL_place_L5 K v0 v1 v2 F v3 v4 = some z → kX G E (0, 0) ws 5 [(0, .int v0), (1, .int v1), (2, .int v2), (3, .int v3), (4, .int v4)] [] := by
  intro F
  induction F with
  | zero =>
    intro v3 v4 h
    exact absurd (show none = some z from h) (fun q => by cases q)
  | succ F ih =>
    intro v3 v4 h
    exact wL_place_L5_B  C Zd  v0 v1 v2 v3 v4 hK (fun v3 v4 h => ih v3 v4 h) h
def fL_place (x0 : Int32) (x1 : Int32) (x2 : Int32) : Option (Int32) := fL_place_L5 (fun v3_3 v4_4 => some v3_3) x0 x1 x2 kFU 0 0
set_option maxRecDepth 100000 in
set_option maxHeartbeats 4000000 in
theorem wL_place {G : kG} {E : kE} {ws : va_W} (C : kOk G E cL_place RL 5 rmfL_place) {z : Int32} (Zd : kEnd G E (0, 0) (some .int) (some (.int z)) ws) (x0 : Int32) (x1 : Int32) (x2 : Int32) (h : fL_place x0 x1 x2 = some z) : kX G E (0, 0) ws 0 [(0, .int x0), (1, .int x1), (2, .int x2)] [] := by
  unfold fL_place at h
  refine x_iconst (pc := 0) C 0 dL_place_0 (by decide) ?_
  refine x_istore_n (pc := 1) C (lv' := [(3, .int 0), (0, .int x0), (1, .int x1), (2, .int x2)]) dL_place_1 rfl (by decide) rfl ?_
  refine x_iconst (pc := 2) C 0 dL_place_2 (by decide) ?_
  refine x_istore (pc := 3) C (lv' := [(4, .int 0), (3, .int 0), (0, .int x0), (1, .int x1), (2, .int x2)]) dL_place_3 (by decide) rfl ?_
  refine kX.pick [2, 3, 4, 1, 0] (lv' := [(0, .int x0), (1, .int x1), (2, .int x2), (3, .int 0), (4, .int 0)]) rfl ?_
  refine wL_place_L5  C Zd  x0 x1 x2 (fun v3_3 v4_4 h => ?_) kFU 0 0 h
  refine x_iload_n (pc := 34) C 0 dL_place_34 rfl rfl ?_
  obtain rfl := Option.some.inj h
  exact x_iret (pc := 35) C Zd dL_place_35
set_option maxRecDepth 100000 in
theorem mL_place (G : kG) {ws : va_W} (x0 : Int32) (x1 : Int32) (x2 : Int32) {z : Int32} (h : fL_place x0 x1 x2 = some z) : kMet G yL_place cL_place 5 (some .int) rmfL_place (0, 0) [.int x0, .int x1, .int x2] ws (some (.int z)) ws := kMet.mk (by decide +kernel) (Nat.le_of_ble_eq_true rfl) (fun E C Zd => wL_place  C Zd  x0 x1 x2 h)
theorem ysL_beside : kYS yL_beside cL_beside 6 (some .boolean) 4 := ⟨q16_12, q5_6, q16_13, by decide +kernel⟩
abbrev rmfL_beside : Room := { frames := 2, cells := 0, slots := 0, locals := 45 }
def fL_beside (x0 : Int32) (x1 : Int32) (x2 : Int32) (x3 : Int32) : Option (Int32) := (fL_place x0 x1 x2).bind (fun z_1 => (fL_place x0 x1 x3).bind (fun z_2 => if x0 = 0 then none else if (kr (z_1 + 1) x0) = z_2 then (some 1) else (if (kr (z_2 + 1) x0) = z_1 then (some 1) else (some 0))))
set_option maxRecDepth 100000 in
set_option maxHeartbeats 4000000 in
theorem wL_beside {G : kG} {E : kE} {ws : va_W} (C : kOk G E cL_beside RL 6 rmfL_beside) {z : Int32} (Zd : kEnd G E (0, 0) (some .boolean) (some (.int z)) ws) (x0 : Int32) (x1 : Int32) (x2 : Int32) (x3 : Int32) (h : fL_beside x0 x1 x2 x3 = some z) : kX G E (0, 0) ws 0 [(0, .int x0), (1, .int x1), (2, .int x2), (3, .int x3)] [] := by
  unfold fL_beside at h
  refine x_iload_n (pc := 0) C 0 dL_beside_0 rfl rfl ?_
  refine x_iload_n (pc := 1) C 1 dL_beside_1 rfl rfl ?_
  refine x_iload_n (pc := 2) C 2 dL_beside_2 rfl rfl ?_
  obtain ⟨z_1, hz_1, h⟩ := kB h
  refine x_callS (pc := 3) C [.int x0, .int x1, .int x2] (mL_place G x0 x1 x2 hz_1) ysL_place q14_9 ⟨Nat.le_of_ble_eq_true rfl, Nat.le_of_ble_eq_true rfl, rfl, rfl⟩ ⟨Nat.zero_le _, Nat.zero_le _⟩ rfl rfl (Nat.le_of_ble_eq_true rfl) rfl dL_beside_3 ?_
  refine x_istore (pc := 6) C (lv' := [(4, .int z_1), (0, .int x0), (1, .int x1), (2, .int x2), (3, .int x3)]) dL_beside_6 (by decide) rfl ?_
  refine x_iload_n (pc := 8) C 1 dL_beside_8 rfl rfl ?_
  refine x_iload_n (pc := 9) C 2 dL_beside_9 rfl rfl ?_
  refine x_iload_n (pc := 10) C 4 dL_beside_10 rfl rfl ?_
  obtain ⟨z_2, hz_2, h⟩ := kB h
  refine x_callS (pc := 11) C [.int x0, .int x1, .int x3] (mL_place G x0 x1 x3 hz_2) ysL_place q14_9 ⟨Nat.le_of_ble_eq_true rfl, Nat.le_of_ble_eq_true rfl, rfl, rfl⟩ ⟨Nat.zero_le _, Nat.zero_le _⟩ rfl rfl (Nat.le_of_ble_eq_true rfl) rfl dL_beside_11 ?_
  refine x_istore (pc := 14) C (lv' := [(5, .int z_2), (4, .int z_1), (0, .int x0), (1, .int x1), (2, .int x2), (3, .int x3)]) dL_beside_14 (by decide) rfl ?_
  refine x_iload (pc := 16) C 1 dL_beside_16 rfl ?_
  refine x_iconst (pc := 18) C 1 dL_beside_18 (by decide) ?_
  refine x_iadd (pc := 19) C dL_beside_19 ?_
  refine x_iload_n (pc := 20) C 2 dL_beside_20 rfl rfl ?_
  obtain ⟨c_3, h⟩ := kGd h
  refine y_irem (pc := 21) C dL_beside_21 c_3 ?_
  refine x_iload (pc := 22) C 0 dL_beside_22 rfl ?_
  refine x_icmp_eq (pc := 24) C 38 dL_beside_24 (by decide) (fun c_4 => ?_) (fun c_4 => ?_)
  · have h := kIp c_4 h
    refine x_iconst (pc := 38) C 1 dL_beside_38 (by decide) ?_
    refine x_goto (pc := 39) C 43 dL_beside_39 (by decide) ?_
    obtain rfl := Option.some.inj h
    exact x_zret (pc := 43) C rfl Zd dL_beside_43
  · have h := kIn c_4 h
    refine x_iload (pc := 27) C 0 dL_beside_27 rfl ?_
    refine x_iconst (pc := 29) C 1 dL_beside_29 (by decide) ?_
    refine x_iadd (pc := 30) C dL_beside_30 ?_
    refine x_iload_n (pc := 31) C 2 dL_beside_31 rfl rfl ?_
    refine y_irem (pc := 32) C dL_beside_32 c_3 ?_
    refine x_iload (pc := 33) C 1 dL_beside_33 rfl ?_
    refine x_icmp_ne (pc := 35) C 42 dL_beside_35 (by decide) (fun c_5 => ?_) (fun c_5 => ?_)
    · have h := kIn c_5 h
      refine x_iconst (pc := 42) C 0 dL_beside_42 (by decide) ?_
      obtain rfl := Option.some.inj h
      exact x_zret (pc := 43) C rfl Zd dL_beside_43
    · have h := kIp c_5 h
      refine x_iconst (pc := 38) C 1 dL_beside_38 (by decide) ?_
      refine x_goto (pc := 39) C 43 dL_beside_39 (by decide) ?_
      obtain rfl := Option.some.inj h
      exact x_zret (pc := 43) C rfl Zd dL_beside_43
set_option maxRecDepth 100000 in
theorem mL_beside (G : kG) {ws : va_W} (x0 : Int32) (x1 : Int32) (x2 : Int32) (x3 : Int32) {z : Int32} (h : fL_beside x0 x1 x2 x3 = some z) : kMet G yL_beside cL_beside 6 (some .boolean) rmfL_beside (0, 0) [.int x0, .int x1, .int x2, .int x3] ws (some (.int z)) ws := kMet.mk (by decide +kernel) (Nat.le_of_ble_eq_true rfl) (fun E C Zd => wL_beside  C Zd  x0 x1 x2 x3 h)
theorem ysL_round : kYS yL_round cL_round 4 (some .int) 3 := ⟨q16_9, q5_6, q16_10, by decide +kernel⟩
abbrev rmfL_round : Room := { frames := 0, cells := 0, slots := 0, locals := 0 }
def fL_round_J14 (v0 : Int32) (s0 : Int32) : Int32 := if (v0 - s0) ≤ s0 then ((v0 - s0)) else (s0)
set_option maxRecDepth 100000 in
set_option maxHeartbeats 4000000 in
theorem wL_round_J14 {G : kG} {E : kE} {ws : va_W} (C : kOk G E cL_round RL 4 rmfL_round) {z : Int32} (Zd : kEnd G E (0, 0) (some .int) (some (.int z)) ws) (v0 : Int32) (s0 : Int32) (h : fL_round_J14 v0 s0 = z) : kX G E (0, 0) ws 14 [(0, .int v0)] [.int s0] := by
  unfold fL_round_J14 at h
  refine x_istore_n (pc := 14) C (lv' := [(3, .int s0), (0, .int v0)]) dL_round_14 rfl (by decide) rfl ?_
  refine x_iload_n (pc := 15) C 0 dL_round_15 rfl rfl ?_
  refine x_iload_n (pc := 16) C 1 dL_round_16 rfl rfl ?_
  refine x_iload_n (pc := 17) C 0 dL_round_17 rfl rfl ?_
  refine x_isub (pc := 18) C dL_round_18 ?_
  refine x_icmp_ge (pc := 19) C 26 dL_round_19 (by decide) (fun c_2 => ?_) (fun c_2 => ?_)
  · have h := kIp c_2 h
    refine x_iload_n (pc := 26) C 1 dL_round_26 rfl rfl ?_
    refine x_iload_n (pc := 27) C 0 dL_round_27 rfl rfl ?_
    refine x_isub (pc := 28) C dL_round_28 ?_
    subst h
    exact x_iret (pc := 29) C Zd dL_round_29
  · have h := kIn c_2 h
    refine x_iload_n (pc := 22) C 0 dL_round_22 rfl rfl ?_
    refine x_goto (pc := 23) C 29 dL_round_23 (by decide) ?_
    subst h
    exact x_iret (pc := 29) C Zd dL_round_29
def fL_round (x0 : Int32) (x1 : Int32) (x2 : Int32) : Int32 := if x1 ≤ x2 then (fL_round_J14 x0 (x2 - x1)) else (fL_round_J14 x0 (x1 - x2))
set_option maxRecDepth 100000 in
set_option maxHeartbeats 4000000 in
theorem wL_round {G : kG} {E : kE} {ws : va_W} (C : kOk G E cL_round RL 4 rmfL_round) {z : Int32} (Zd : kEnd G E (0, 0) (some .int) (some (.int z)) ws) (x0 : Int32) (x1 : Int32) (x2 : Int32) (h : fL_round x0 x1 x2 = z) : kX G E (0, 0) ws 0 [(0, .int x0), (1, .int x1), (2, .int x2)] [] := by
  unfold fL_round at h
  refine x_iload_n (pc := 0) C 1 dL_round_0 rfl rfl ?_
  refine x_iload_n (pc := 1) C 2 dL_round_1 rfl rfl ?_
  refine x_icmp_le (pc := 2) C 11 dL_round_2 (by decide) (fun c_1 => ?_) (fun c_1 => ?_)
  · have h := kIp c_1 h
    refine x_iload_n (pc := 11) C 2 dL_round_11 rfl rfl ?_
    refine x_iload_n (pc := 12) C 1 dL_round_12 rfl rfl ?_
    refine x_isub (pc := 13) C dL_round_13 ?_
    refine kX.pick [0] (lv' := [(0, .int x0)]) rfl ?_
    exact wL_round_J14  C Zd  x0 (x2 - x1) h
  · have h := kIn c_1 h
    refine x_iload_n (pc := 5) C 1 dL_round_5 rfl rfl ?_
    refine x_iload_n (pc := 6) C 2 dL_round_6 rfl rfl ?_
    refine x_isub (pc := 7) C dL_round_7 ?_
    refine x_goto (pc := 8) C 14 dL_round_8 (by decide) ?_
    refine kX.pick [0] (lv' := [(0, .int x0)]) rfl ?_
    exact wL_round_J14  C Zd  x0 (x1 - x2) h
set_option maxRecDepth 100000 in
theorem mL_round (G : kG) {ws : va_W} (x0 : Int32) (x1 : Int32) (x2 : Int32) : kMet G yL_round cL_round 4 (some .int) rmfL_round (0, 0) [.int x0, .int x1, .int x2] ws (some (.int (fL_round x0 x1 x2))) ws := kMet.mk (by decide +kernel) (Nat.le_of_ble_eq_true rfl) (fun E C Zd => wL_round  C Zd  x0 x1 x2 rfl)
theorem ysL_first : kYS yL_first cL_first 3 (some .int) 1 := ⟨q12_1, q5_6, q12_2, by decide +kernel⟩
abbrev rmfL_first : Room := { frames := 0, cells := 0, slots := 0, locals := 0 }
def fL_first_L4_B (K : Int32 → Int32 → Option (Int32)) (Gc : Int32 → Int32 → Option (Int32)) (v0 : Int32) (v1 : Int32) (v2 : Int32) : Option (Int32) := if v0 ≤ v2 then (K v1 v2) else (Gc (v1 + (kshl v2 (4 * v2))) (v2 + 1))
set_option maxRecDepth 100000 in
set_option maxHeartbeats 4000000 in
theorem wL_first_L4_B {G : kG} {E : kE} {ws : va_W} (C : kOk G E cL_first RL 3 rmfL_first) {z : Int32} (Zd : kEnd G E (0, 0) (some .int) (some (.int z)) ws) {K Gc : Int32 → Int32 → Option (Int32)} (v0 : Int32) (v1 : Int32) (v2 : Int32) (hK : ∀ (u1 : Int32) (u2 : Int32), K u1 u2 = some z → kX G E (0, 0) ws 23 [(1, .int u1)] []) (hG : ∀ (u1 : Int32) (u2 : Int32), Gc u1 u2 = some z → kX G E (0, 0) ws 4 [(0, .int v0), (1, .int u1), (2, .int u2)] []) (h : fL_first_L4_B K Gc v0 v1 v2 = some z) : kX G E (0, 0) ws 4 [(0, .int v0), (1, .int v1), (2, .int v2)] [] := by
  unfold fL_first_L4_B at h
  refine x_iload_n (pc := 4) C 2 dL_first_4 rfl rfl ?_
  refine x_iload_n (pc := 5) C 0 dL_first_5 rfl rfl ?_
  refine x_icmp_ge (pc := 6) C 23 dL_first_6 (by decide) (fun c_1 => ?_) (fun c_1 => ?_)
  · have h := kIp c_1 h
    refine kX.pick [1] (lv' := [(1, .int v1)]) rfl ?_
    exact hK v1 v2 h
  · have h := kIn c_1 h
    refine x_iload_n (pc := 9) C 1 dL_first_9 rfl rfl ?_
    refine x_iload_n (pc := 10) C 2 dL_first_10 rfl rfl ?_
    refine x_iconst (pc := 11) C 4 dL_first_11 (by decide) ?_
    refine x_iload_n (pc := 12) C 2 dL_first_12 rfl rfl ?_
    refine x_imul (pc := 13) C dL_first_13 ?_
    refine y_ishl (pc := 14) C dL_first_14 ?_
    refine x_iadd (pc := 15) C dL_first_15 ?_
    refine x_istore_n (pc := 16) C (lv' := [(1, .int (v1 + (kshl v2 (4 * v2)))), (0, .int v0), (2, .int v2)]) dL_first_16 rfl (by decide) rfl ?_
    refine x_iinc (pc := 17) C 2 (v := v2 + 1) (lv' := [(2, .int (v2 + 1)), (1, .int (v1 + (kshl v2 (4 * v2)))), (0, .int v0)]) dL_first_17 rfl rfl (by decide) rfl ?_
    refine x_goto (pc := 20) C 4 dL_first_20 (by decide) ?_
    refine kX.pick [2, 1, 0] (lv' := [(0, .int v0), (1, .int (v1 + (kshl v2 (4 * v2)))), (2, .int (v2 + 1))]) rfl ?_
    exact hG (v1 + (kshl v2 (4 * v2))) (v2 + 1) h
def fL_first_L4 (K : Int32 → Int32 → Option (Int32)) (v0 : Int32) : Nat → Int32 → Int32 → Option (Int32)
  | 0, _, _ => none
  | F + 1, v1, v2 => fL_first_L4_B K (fL_first_L4 K v0 F) v0 v1 v2
set_option maxRecDepth 100000 in
set_option maxHeartbeats 4000000 in
theorem wL_first_L4 {G : kG} {E : kE} {ws : va_W} (C : kOk G E cL_first RL 3 rmfL_first) {z : Int32} (Zd : kEnd G E (0, 0) (some .int) (some (.int z)) ws) {K : Int32 → Int32 → Option (Int32)} (v0 : Int32) (hK : ∀ (u1 : Int32) (u2 : Int32), K u1 u2 = some z → kX G E (0, 0) ws 23 [(1, .int u1)] []) : ∀ (F : Nat) (v1 : Int32) (v2 : Int32), fL_first_L4 K v0 F v1 v2 = some z → kX G E (0, 0) ws 4 [(0, .int v0), (1, .int v1), (2, .int v2)] [] := by
  intro F
  induction F with
  | zero =>
    intro v1 v2 h
    exact absurd (show none = some z from h) (fun q => by cases q)
  | succ F ih =>
    intro v1 v2 h
    exact wL_first_L4_B  C Zd  v0 v1 v2 hK (fun v1 v2 h => ih v1 v2 h) h
def fL_first (x0 : Int32) : Option (Int32) := fL_first_L4 (fun v1_2 v2_3 => some v1_2) x0 kFU 0 0
set_option maxRecDepth 100000 in
set_option maxHeartbeats 4000000 in
theorem wL_first {G : kG} {E : kE} {ws : va_W} (C : kOk G E cL_first RL 3 rmfL_first) {z : Int32} (Zd : kEnd G E (0, 0) (some .int) (some (.int z)) ws) (x0 : Int32) (h : fL_first x0 = some z) : kX G E (0, 0) ws 0 [(0, .int x0)] [] := by
  unfold fL_first at h
  refine x_iconst (pc := 0) C 0 dL_first_0 (by decide) ?_
  refine x_istore_n (pc := 1) C (lv' := [(1, .int 0), (0, .int x0)]) dL_first_1 rfl (by decide) rfl ?_
  refine x_iconst (pc := 2) C 0 dL_first_2 (by decide) ?_
  refine x_istore_n (pc := 3) C (lv' := [(2, .int 0), (1, .int 0), (0, .int x0)]) dL_first_3 rfl (by decide) rfl ?_
  refine kX.pick [2, 1, 0] (lv' := [(0, .int x0), (1, .int 0), (2, .int 0)]) rfl ?_
  refine wL_first_L4  C Zd  x0 (fun v1_2 v2_3 h => ?_) kFU 0 0 h
  refine x_iload_n (pc := 23) C 0 dL_first_23 rfl rfl ?_
  obtain rfl := Option.some.inj h
  exact x_iret (pc := 24) C Zd dL_first_24
set_option maxRecDepth 100000 in
theorem mL_first (G : kG) {ws : va_W} (x0 : Int32) {z : Int32} (h : fL_first x0 = some z) : kMet G yL_first cL_first 3 (some .int) rmfL_first (0, 0) [.int x0] ws (some (.int z)) ws := kMet.mk (by decide +kernel) (Nat.le_of_ble_eq_true rfl) (fun E C Zd => wL_first  C Zd  x0 h)
theorem ysL_terms : kYS yL_terms cL_terms 14 (some .boolean) 4 := ⟨q18_18, q5_6, q18_19, by decide +kernel⟩
abbrev rmfL_terms : Room := { frames := 0, cells := 0, slots := 0, locals := 0 }
def fL_terms_L8_B (K : Int64 → Int64 → Option (Int32)) (Gc : Int64 → Int64 → Option (Int32)) (v0 : Int64) (v2 : Int64) (v4 : Int64) (v6 : Int64) (v8 : Int64) (v10 : Int64) : Option (Int32) := if (lg_cmp v8 0) ≤ 0 then (K v8 v10) else (if v8 = 0 then none else Gc (klr v10 v8) v8)
set_option maxRecDepth 100000 in
set_option maxHeartbeats 4000000 in
theorem wL_terms_L8_B {G : kG} {E : kE} {ws : va_W} (C : kOk G E cL_terms RL 14 rmfL_terms) {z : Int32} (Zd : kEnd G E (0, 0) (some .boolean) (some (.int z)) ws) {K Gc : Int64 → Int64 → Option (Int32)} (v0 : Int64) (v2 : Int64) (v4 : Int64) (v6 : Int64) (v8 : Int64) (v10 : Int64) (hK : ∀ (u8 : Int64) (u10 : Int64), K u8 u10 = some z → kX G E (0, 0) ws 33 [(0, .long v0), (2, .long v2), (4, .long v4), (6, .long v6), (10, .long u10)] []) (hG : ∀ (u8 : Int64) (u10 : Int64), Gc u8 u10 = some z → kX G E (0, 0) ws 8 [(0, .long v0), (2, .long v2), (4, .long v4), (6, .long v6), (8, .long u8), (10, .long u10)] []) (h : fL_terms_L8_B K Gc v0 v2 v4 v6 v8 v10 = some z) : kX G E (0, 0) ws 8 [(0, .long v0), (2, .long v2), (4, .long v4), (6, .long v6), (8, .long v8), (10, .long v10)] [] := by
  unfold fL_terms_L8_B at h
  refine x_lload (pc := 8) C 4 dL_terms_8 rfl ?_
  refine x_lconst (pc := 10) C 0 dL_terms_10 (by decide) ?_
  refine x_lcmp (pc := 11) C dL_terms_11 ?_
  refine x_if_le (pc := 12) C 33 dL_terms_12 (by decide) (fun c_1 => ?_) (fun c_1 => ?_)
  · have h := kIp c_1 h
    refine kX.pick [0, 1, 2, 3, 5] (lv' := [(0, .long v0), (2, .long v2), (4, .long v4), (6, .long v6), (10, .long v10)]) rfl ?_
    exact hK v8 v10 h
  · have h := kIn c_1 h
    refine x_lload (pc := 15) C 5 dL_terms_15 rfl ?_
    refine x_lload (pc := 17) C 4 dL_terms_17 rfl ?_
    obtain ⟨c_2, h⟩ := kGd h
    refine y_lrem (pc := 19) C dL_terms_19 c_2 ?_
    refine x_lstore (pc := 20) C (lv' := [(12, .long (klr v10 v8)), (0, .long v0), (2, .long v2), (4, .long v4), (6, .long v6), (8, .long v8), (10, .long v10)]) dL_terms_20 (by decide) rfl ?_
    refine x_lload (pc := 22) C 5 dL_terms_22 rfl ?_
    refine x_lstore (pc := 24) C (lv' := [(10, .long v8), (12, .long (klr v10 v8)), (0, .long v0), (2, .long v2), (4, .long v4), (6, .long v6), (8, .long v8)]) dL_terms_24 (by decide) rfl ?_
    refine x_lload (pc := 26) C 1 dL_terms_26 rfl ?_
    refine x_lstore (pc := 28) C (lv' := [(8, .long (klr v10 v8)), (10, .long v8), (12, .long (klr v10 v8)), (0, .long v0), (2, .long v2), (4, .long v4), (6, .long v6)]) dL_terms_28 (by decide) rfl ?_
    refine x_goto (pc := 30) C 8 dL_terms_30 (by decide) ?_
    refine kX.pick [3, 4, 5, 6, 0, 1] (lv' := [(0, .long v0), (2, .long v2), (4, .long v4), (6, .long v6), (8, .long (klr v10 v8)), (10, .long v8)]) rfl ?_
    exact hG (klr v10 v8) v8 h
def fL_terms_L8 (K : Int64 → Int64 → Option (Int32)) (v0 : Int64) (v2 : Int64) (v4 : Int64) (v6 : Int64) : Nat → Int64 → Int64 → Option (Int32)
  | 0, _, _ => none
  | F + 1, v8, v10 => fL_terms_L8_B K (fL_terms_L8 K v0 v2 v4 v6 F) v0 v2 v4 v6 v8 v10
set_option maxRecDepth 100000 in
set_option maxHeartbeats 4000000 in
theorem wL_terms_L8 {G : kG} {E : kE} {ws : va_W} (C : kOk G E cL_terms RL 14 rmfL_terms) {z : Int32} (Zd : kEnd G E (0, 0) (some .boolean) (some (.int z)) ws) {K : Int64 → Int64 → Option (Int32)} (v0 : Int64) (v2 : Int64) (v4 : Int64) (v6 : Int64) (hK : ∀ (u8 : Int64) (u10 : Int64), K u8 u10 = some z → kX G E (0, 0) ws 33 [(0, .long v0), (2, .long v2), (4, .long v4), (6, .long v6), (10, .long u10)] []) : ∀ (F : Nat) (v8 : Int64) (v10 : Int64), fL_terms_L8 K v0 v2 v4 v6 F v8 v10 = some z → kX G E (0, 0) ws 8 [(0, .long v0), (2, .long v2), (4, .long v4), (6, .long v6), (8, .long v8), (10, .long v10)] [] := by
  intro F
  induction F with
  | zero =>
    intro v8 v10 h
    exact absurd (show none = some z from h) (fun q => by cases q)
  | succ F ih =>
    intro v8 v10 h
    exact wL_terms_L8_B  C Zd  v0 v2 v4 v6 v8 v10 hK (fun v8 v10 h => ih v8 v10 h) h
def fL_terms (x0 : Int64) (x2 : Int64) (x4 : Int64) (x6 : Int64) : Option (Int32) := fL_terms_L8 (fun v8_3 v10_4 => if (lg_cmp x2 0) ≤ 0 then (some 0) else (if v10_4 = 0 then none else if (lg_cmp x0 (x4 / v10_4)) = 0 then (if (lg_cmp x2 (x6 / v10_4)) = 0 then (some 1) else (some 0)) else (some 0))) x0 x2 x4 x6 kFU x4 x6
set_option maxRecDepth 100000 in
set_option maxHeartbeats 4000000 in
theorem wL_terms {G : kG} {E : kE} {ws : va_W} (C : kOk G E cL_terms RL 14 rmfL_terms) {z : Int32} (Zd : kEnd G E (0, 0) (some .boolean) (some (.int z)) ws) (x0 : Int64) (x2 : Int64) (x4 : Int64) (x6 : Int64) (h : fL_terms x0 x2 x4 x6 = some z) : kX G E (0, 0) ws 0 [(0, .long x0), (2, .long x2), (4, .long x4), (6, .long x6)] [] := by
  unfold fL_terms at h
  refine x_lload (pc := 0) C 2 dL_terms_0 rfl ?_
  refine x_lstore (pc := 2) C (lv' := [(8, .long x4), (0, .long x0), (2, .long x2), (4, .long x4), (6, .long x6)]) dL_terms_2 (by decide) rfl ?_
  refine x_lload (pc := 4) C 4 dL_terms_4 rfl ?_
  refine x_lstore (pc := 6) C (lv' := [(10, .long x6), (8, .long x4), (0, .long x0), (2, .long x2), (4, .long x4), (6, .long x6)]) dL_terms_6 (by decide) rfl ?_
  refine kX.pick [2, 3, 4, 5, 1, 0] (lv' := [(0, .long x0), (2, .long x2), (4, .long x4), (6, .long x6), (8, .long x4), (10, .long x6)]) rfl ?_
  refine wL_terms_L8  C Zd  x0 x2 x4 x6 (fun v8_3 v10_4 h => ?_) kFU x4 x6 h
  refine x_lload_n (pc := 33) C 1 dL_terms_33 rfl rfl ?_
  refine x_lconst (pc := 34) C 0 dL_terms_34 (by decide) ?_
  refine x_lcmp (pc := 35) C dL_terms_35 ?_
  refine x_if_le (pc := 36) C 63 dL_terms_36 (by decide) (fun c_5 => ?_) (fun c_5 => ?_)
  · have h := kIp c_5 h
    refine x_iconst (pc := 63) C 0 dL_terms_63 (by decide) ?_
    obtain rfl := Option.some.inj h
    exact x_zret (pc := 64) C rfl Zd dL_terms_64
  · have h := kIn c_5 h
    refine x_lload_n (pc := 39) C 0 dL_terms_39 rfl rfl ?_
    refine x_lload (pc := 40) C 2 dL_terms_40 rfl ?_
    refine x_lload (pc := 42) C 4 dL_terms_42 rfl ?_
    obtain ⟨c_6, h⟩ := kGd h
    refine y_ldiv (pc := 44) C dL_terms_44 c_6 ?_
    refine x_lcmp (pc := 45) C dL_terms_45 ?_
    refine x_if_ne (pc := 46) C 63 dL_terms_46 (by decide) (fun c_7 => ?_) (fun c_7 => ?_)
    · have h := kIn c_7 h
      refine x_iconst (pc := 63) C 0 dL_terms_63 (by decide) ?_
      obtain rfl := Option.some.inj h
      exact x_zret (pc := 64) C rfl Zd dL_terms_64
    · have h := kIp c_7 h
      refine x_lload_n (pc := 49) C 1 dL_terms_49 rfl rfl ?_
      refine x_lload (pc := 50) C 3 dL_terms_50 rfl ?_
      refine x_lload (pc := 52) C 4 dL_terms_52 rfl ?_
      refine y_ldiv (pc := 54) C dL_terms_54 c_6 ?_
      refine x_lcmp (pc := 55) C dL_terms_55 ?_
      refine x_if_ne (pc := 56) C 63 dL_terms_56 (by decide) (fun c_8 => ?_) (fun c_8 => ?_)
      · have h := kIn c_8 h
        refine x_iconst (pc := 63) C 0 dL_terms_63 (by decide) ?_
        obtain rfl := Option.some.inj h
        exact x_zret (pc := 64) C rfl Zd dL_terms_64
      · have h := kIp c_8 h
        refine x_iconst (pc := 59) C 1 dL_terms_59 (by decide) ?_
        refine x_goto (pc := 60) C 64 dL_terms_60 (by decide) ?_
        obtain rfl := Option.some.inj h
        exact x_zret (pc := 64) C rfl Zd dL_terms_64
set_option maxRecDepth 100000 in
theorem mL_terms (G : kG) {ws : va_W} (x0 : Int64) (x2 : Int64) (x4 : Int64) (x6 : Int64) {z : Int32} (h : fL_terms x0 x2 x4 x6 = some z) : kMet G yL_terms cL_terms 14 (some .boolean) rmfL_terms (0, 0) [.long x0, .long x2, .long x4, .long x6] ws (some (.int z)) ws := kMet.mk (by decide +kernel) (Nat.le_of_ble_eq_true rfl) (fun E C Zd => wL_terms  C Zd  x0 x2 x4 x6 h)
theorem ysL_change : kYS yL_change cL_change 9 (some .int) 4 := ⟨q12_18, q5_6, q12_19, by decide +kernel⟩
abbrev rmfL_change : Room := { frames := 1, cells := 0, slots := 0, locals := 21 }
def fL_change_J68 (st : kS) (v2 : Int32) (v4 : Int32) (v5 : Int32) (v6 : Int32) (v7 : Int32) (s0 : Int32) : Option (Int32) := if s0 = 0 then (some ((((v2 - (kshl v6 (4 * v4))) - (kshl v7 (4 * v5))) + (kshl v7 (4 * v4))) + (kshl v6 (4 * v5)))) else (some v2)
set_option maxRecDepth 100000 in
set_option maxHeartbeats 4000000 in
theorem wL_change_J68 {G : kG} {E : kE} {a : Nat → Nat} {st0 : kS} (C : kOk G E cL_change RL 9 rmfL_change) {z : Int32} (Zd : kEnd G E (0, 0) (some .int) (some (.int z)) (wL G a st0)) (v2 : Int32) (v4 : Int32) (v5 : Int32) (v6 : Int32) (v7 : Int32) (s0 : Int32) (h : fL_change_J68 st0 v2 v4 v5 v6 v7 s0 = some z) : kX G E (0, 0) (wL G a st0) 68 [(2, .int v2), (4, .int v4), (5, .int v5), (6, .int v6), (7, .int v7)] [.int s0] := by
  unfold fL_change_J68 at h
  refine x_istore (pc := 68) C (lv' := [(8, .int s0), (2, .int v2), (4, .int v4), (5, .int v5), (6, .int v6), (7, .int v7)]) dL_change_68 (by decide) rfl ?_
  refine x_iload (pc := 70) C 0 dL_change_70 rfl ?_
  refine x_if_eq (pc := 72) C 79 dL_change_72 (by decide) (fun c_5 => ?_) (fun c_5 => ?_)
  · have h := kIp c_5 h
    refine x_iload_n (pc := 79) C 1 dL_change_79 rfl rfl ?_
    refine x_iload (pc := 80) C 4 dL_change_80 rfl ?_
    refine x_iconst (pc := 82) C 4 dL_change_82 (by decide) ?_
    refine x_iload (pc := 83) C 2 dL_change_83 rfl ?_
    refine x_imul (pc := 85) C dL_change_85 ?_
    refine y_ishl (pc := 86) C dL_change_86 ?_
    refine x_isub (pc := 87) C dL_change_87 ?_
    refine x_iload (pc := 88) C 5 dL_change_88 rfl ?_
    refine x_iconst (pc := 90) C 4 dL_change_90 (by decide) ?_
    refine x_iload (pc := 91) C 3 dL_change_91 rfl ?_
    refine x_imul (pc := 93) C dL_change_93 ?_
    refine y_ishl (pc := 94) C dL_change_94 ?_
    refine x_isub (pc := 95) C dL_change_95 ?_
    refine x_iload (pc := 96) C 5 dL_change_96 rfl ?_
    refine x_iconst (pc := 98) C 4 dL_change_98 (by decide) ?_
    refine x_iload (pc := 99) C 2 dL_change_99 rfl ?_
    refine x_imul (pc := 101) C dL_change_101 ?_
    refine y_ishl (pc := 102) C dL_change_102 ?_
    refine x_iadd (pc := 103) C dL_change_103 ?_
    refine x_iload (pc := 104) C 4 dL_change_104 rfl ?_
    refine x_iconst (pc := 106) C 4 dL_change_106 (by decide) ?_
    refine x_iload (pc := 107) C 3 dL_change_107 rfl ?_
    refine x_imul (pc := 109) C dL_change_109 ?_
    refine y_ishl (pc := 110) C dL_change_110 ?_
    refine x_iadd (pc := 111) C dL_change_111 ?_
    obtain rfl := Option.some.inj h
    exact x_iret (pc := 112) C Zd dL_change_112
  · have h := kIn c_5 h
    refine x_iload_n (pc := 75) C 1 dL_change_75 rfl rfl ?_
    refine x_goto (pc := 76) C 112 dL_change_76 (by decide) ?_
    obtain rfl := Option.some.inj h
    exact x_iret (pc := 112) C Zd dL_change_112
def fL_change_J63 (st : kS) (v2 : Int32) (v4 : Int32) (v5 : Int32) (v6 : Int32) (v7 : Int32) : Option (Int32) := fL_change_J68 st v2 v4 v5 v6 v7 1
set_option maxRecDepth 100000 in
set_option maxHeartbeats 4000000 in
theorem wL_change_J63 {G : kG} {E : kE} {a : Nat → Nat} {st0 : kS} (C : kOk G E cL_change RL 9 rmfL_change) {z : Int32} (Zd : kEnd G E (0, 0) (some .int) (some (.int z)) (wL G a st0)) (v2 : Int32) (v4 : Int32) (v5 : Int32) (v6 : Int32) (v7 : Int32) (h : fL_change_J63 st0 v2 v4 v5 v6 v7 = some z) : kX G E (0, 0) (wL G a st0) 63 [(2, .int v2), (4, .int v4), (5, .int v5), (6, .int v6), (7, .int v7)] [] := by
  unfold fL_change_J63 at h
  refine x_iconst (pc := 63) C 1 dL_change_63 (by decide) ?_
  refine x_goto (pc := 64) C 68 dL_change_64 (by decide) ?_
  exact wL_change_J68  C Zd  v2 v4 v5 v6 v7 1 h
def fL_change (st : kS) (x0 : Int32) (x2 : Int32) (x3 : Int32) : Option (Int32) := if x0 = 0 then none else (ka 6 (gA st 31) (fL_at x2 (kr (x3 + x0) x0))).bind (fun x_2 => if x_2 = 1 then (fL_change_J63 st x2 (kr (x3 + x0) x0) (kr ((kr (x3 + x0) x0) + 1) x0) (fL_at x2 (kr (x3 + x0) x0)) (fL_at x2 (kr ((kr (x3 + x0) x0) + 1) x0))) else ((ka 6 (gA st 31) (fL_at x2 (kr (x3 + x0) x0))).bind (fun x_6 => if x_6 = 3 then (fL_change_J63 st x2 (kr (x3 + x0) x0) (kr ((kr (x3 + x0) x0) + 1) x0) (fL_at x2 (kr (x3 + x0) x0)) (fL_at x2 (kr ((kr (x3 + x0) x0) + 1) x0))) else ((ka 6 (gA st 31) (fL_at x2 (kr ((kr (x3 + x0) x0) + 1) x0))).bind (fun x_9 => if x_9 = 1 then (fL_change_J63 st x2 (kr (x3 + x0) x0) (kr ((kr (x3 + x0) x0) + 1) x0) (fL_at x2 (kr (x3 + x0) x0)) (fL_at x2 (kr ((kr (x3 + x0) x0) + 1) x0))) else ((ka 6 (gA st 31) (fL_at x2 (kr ((kr (x3 + x0) x0) + 1) x0))).bind (fun x_12 => if x_12 = 3 then (fL_change_J63 st x2 (kr (x3 + x0) x0) (kr ((kr (x3 + x0) x0) + 1) x0) (fL_at x2 (kr (x3 + x0) x0)) (fL_at x2 (kr ((kr (x3 + x0) x0) + 1) x0))) else (fL_change_J68 st x2 (kr (x3 + x0) x0) (kr ((kr (x3 + x0) x0) + 1) x0) (fL_at x2 (kr (x3 + x0) x0)) (fL_at x2 (kr ((kr (x3 + x0) x0) + 1) x0)) 0))))))))
set_option maxRecDepth 100000 in
set_option maxHeartbeats 4000000 in
theorem wL_change {G : kG} {E : kE} {a : Nat → Nat} {st0 : kS} (C : kOk G E cL_change RL 9 rmfL_change) {z : Int32} (Zd : kEnd G E (0, 0) (some .int) (some (.int z)) (wL G a st0)) (x0 : Int32) (x2 : Int32) (x3 : Int32) (h : fL_change st0 x0 x2 x3 = some z) : kX G E (0, 0) (wL G a st0) 0 [(0, .int x0), (1, .ref (a 31)), (2, .int x2), (3, .int x3)] [] := by
  unfold fL_change at h
  refine x_iload_n (pc := 0) C 3 dL_change_0 rfl rfl ?_
  refine x_iload_n (pc := 1) C 0 dL_change_1 rfl rfl ?_
  refine x_iadd (pc := 2) C dL_change_2 ?_
  refine x_iload_n (pc := 3) C 0 dL_change_3 rfl rfl ?_
  obtain ⟨c_1, h⟩ := kGd h
  refine y_irem (pc := 4) C dL_change_4 c_1 ?_
  refine x_istore (pc := 5) C (lv' := [(4, .int (kr (x3 + x0) x0)), (0, .int x0), (1, .ref (a 31)), (2, .int x2), (3, .int x3)]) dL_change_5 (by decide) rfl ?_
  refine x_iload (pc := 7) C 0 dL_change_7 rfl ?_
  refine x_iconst (pc := 9) C 1 dL_change_9 (by decide) ?_
  refine x_iadd (pc := 10) C dL_change_10 ?_
  refine x_iload_n (pc := 11) C 1 dL_change_11 rfl rfl ?_
  refine y_irem (pc := 12) C dL_change_12 c_1 ?_
  refine x_istore (pc := 13) C (lv' := [(5, .int (kr ((kr (x3 + x0) x0) + 1) x0)), (4, .int (kr (x3 + x0) x0)), (0, .int x0), (1, .ref (a 31)), (2, .int x2), (3, .int x3)]) dL_change_13 (by decide) rfl ?_
  refine x_iload_n (pc := 15) C 4 dL_change_15 rfl rfl ?_
  refine x_iload (pc := 16) C 1 dL_change_16 rfl ?_
  refine x_callS (pc := 18) C [.int x2, .int (kr (x3 + x0) x0)] (mL_at G x2 (kr (x3 + x0) x0)) ysL_at q12_20 ⟨Nat.le_of_ble_eq_true rfl, Nat.le_of_ble_eq_true rfl, rfl, rfl⟩ ⟨Nat.zero_le _, Nat.zero_le _⟩ rfl rfl (Nat.le_of_ble_eq_true rfl) rfl dL_change_18 ?_
  refine x_istore (pc := 21) C (lv' := [(6, .int (fL_at x2 (kr (x3 + x0) x0))), (5, .int (kr ((kr (x3 + x0) x0) + 1) x0)), (4, .int (kr (x3 + x0) x0)), (0, .int x0), (1, .ref (a 31)), (2, .int x2), (3, .int x3)]) dL_change_21 (by decide) rfl ?_
  refine x_iload_n (pc := 23) C 5 dL_change_23 rfl rfl ?_
  refine x_iload (pc := 24) C 1 dL_change_24 rfl ?_
  refine x_callS (pc := 26) C [.int x2, .int (kr ((kr (x3 + x0) x0) + 1) x0)] (mL_at G x2 (kr ((kr (x3 + x0) x0) + 1) x0)) ysL_at q12_20 ⟨Nat.le_of_ble_eq_true rfl, Nat.le_of_ble_eq_true rfl, rfl, rfl⟩ ⟨Nat.zero_le _, Nat.zero_le _⟩ rfl rfl (Nat.le_of_ble_eq_true rfl) rfl dL_change_26 ?_
  refine x_istore (pc := 29) C (lv' := [(7, .int (fL_at x2 (kr ((kr (x3 + x0) x0) + 1) x0))), (6, .int (fL_at x2 (kr (x3 + x0) x0))), (5, .int (kr ((kr (x3 + x0) x0) + 1) x0)), (4, .int (kr (x3 + x0) x0)), (0, .int x0), (1, .ref (a 31)), (2, .int x2), (3, .int x3)]) dL_change_29 (by decide) rfl ?_
  refine x_aload_n (pc := 31) C 5 dL_change_31 rfl rfl ?_
  refine x_iload (pc := 32) C 1 dL_change_32 rfl ?_
  obtain ⟨x_2, hx_2, h⟩ := kB h
  obtain ⟨hi_3, hx_2⟩ := ka_some hx_2
  refine y_iald (pc := 34) C 31 (lwL_A31 G a rfl) hi_3 hx_2 dL_change_34 ?_
  refine x_iconst (pc := 35) C 1 dL_change_35 (by decide) ?_
  refine x_icmp_eq (pc := 36) C 63 dL_change_36 (by decide) (fun c_4 => ?_) (fun c_4 => ?_)
  · have h := kIp c_4 h
    refine kX.pick [6, 3, 2, 1, 0] (lv' := [(2, .int x2), (4, .int (kr (x3 + x0) x0)), (5, .int (kr ((kr (x3 + x0) x0) + 1) x0)), (6, .int (fL_at x2 (kr (x3 + x0) x0))), (7, .int (fL_at x2 (kr ((kr (x3 + x0) x0) + 1) x0)))]) rfl ?_
    exact wL_change_J63  C Zd  x2 (kr (x3 + x0) x0) (kr ((kr (x3 + x0) x0) + 1) x0) (fL_at x2 (kr (x3 + x0) x0)) (fL_at x2 (kr ((kr (x3 + x0) x0) + 1) x0)) h
  · have h := kIn c_4 h
    refine x_aload_n (pc := 39) C 5 dL_change_39 rfl rfl ?_
    refine x_iload (pc := 40) C 1 dL_change_40 rfl ?_
    obtain ⟨x_6, hx_6, h⟩ := kB h
    obtain ⟨hi_7, hx_6⟩ := ka_some hx_6
    refine y_iald (pc := 42) C 31 (lwL_A31 G a rfl) hi_7 hx_6 dL_change_42 ?_
    refine x_iconst (pc := 43) C 3 dL_change_43 (by decide) ?_
    refine x_icmp_eq (pc := 44) C 63 dL_change_44 (by decide) (fun c_8 => ?_) (fun c_8 => ?_)
    · have h := kIp c_8 h
      refine kX.pick [6, 3, 2, 1, 0] (lv' := [(2, .int x2), (4, .int (kr (x3 + x0) x0)), (5, .int (kr ((kr (x3 + x0) x0) + 1) x0)), (6, .int (fL_at x2 (kr (x3 + x0) x0))), (7, .int (fL_at x2 (kr ((kr (x3 + x0) x0) + 1) x0)))]) rfl ?_
      exact wL_change_J63  C Zd  x2 (kr (x3 + x0) x0) (kr ((kr (x3 + x0) x0) + 1) x0) (fL_at x2 (kr (x3 + x0) x0)) (fL_at x2 (kr ((kr (x3 + x0) x0) + 1) x0)) h
    · have h := kIn c_8 h
      refine x_aload_n (pc := 47) C 5 dL_change_47 rfl rfl ?_
      refine x_iload (pc := 48) C 0 dL_change_48 rfl ?_
      obtain ⟨x_9, hx_9, h⟩ := kB h
      obtain ⟨hi_10, hx_9⟩ := ka_some hx_9
      refine y_iald (pc := 50) C 31 (lwL_A31 G a rfl) hi_10 hx_9 dL_change_50 ?_
      refine x_iconst (pc := 51) C 1 dL_change_51 (by decide) ?_
      refine x_icmp_eq (pc := 52) C 63 dL_change_52 (by decide) (fun c_11 => ?_) (fun c_11 => ?_)
      · have h := kIp c_11 h
        refine kX.pick [6, 3, 2, 1, 0] (lv' := [(2, .int x2), (4, .int (kr (x3 + x0) x0)), (5, .int (kr ((kr (x3 + x0) x0) + 1) x0)), (6, .int (fL_at x2 (kr (x3 + x0) x0))), (7, .int (fL_at x2 (kr ((kr (x3 + x0) x0) + 1) x0)))]) rfl ?_
        exact wL_change_J63  C Zd  x2 (kr (x3 + x0) x0) (kr ((kr (x3 + x0) x0) + 1) x0) (fL_at x2 (kr (x3 + x0) x0)) (fL_at x2 (kr ((kr (x3 + x0) x0) + 1) x0)) h
      · have h := kIn c_11 h
        refine x_aload_n (pc := 55) C 5 dL_change_55 rfl rfl ?_
        refine x_iload (pc := 56) C 0 dL_change_56 rfl ?_
        obtain ⟨x_12, hx_12, h⟩ := kB h
        obtain ⟨hi_13, hx_12⟩ := ka_some hx_12
        refine y_iald (pc := 58) C 31 (lwL_A31 G a rfl) hi_13 hx_12 dL_change_58 ?_
        refine x_iconst (pc := 59) C 3 dL_change_59 (by decide) ?_
        refine x_icmp_ne (pc := 60) C 67 dL_change_60 (by decide) (fun c_14 => ?_) (fun c_14 => ?_)
        · have h := kIn c_14 h
          refine x_iconst (pc := 67) C 0 dL_change_67 (by decide) ?_
          refine kX.pick [6, 3, 2, 1, 0] (lv' := [(2, .int x2), (4, .int (kr (x3 + x0) x0)), (5, .int (kr ((kr (x3 + x0) x0) + 1) x0)), (6, .int (fL_at x2 (kr (x3 + x0) x0))), (7, .int (fL_at x2 (kr ((kr (x3 + x0) x0) + 1) x0)))]) rfl ?_
          exact wL_change_J68  C Zd  x2 (kr (x3 + x0) x0) (kr ((kr (x3 + x0) x0) + 1) x0) (fL_at x2 (kr (x3 + x0) x0)) (fL_at x2 (kr ((kr (x3 + x0) x0) + 1) x0)) 0 h
        · have h := kIp c_14 h
          refine kX.pick [6, 3, 2, 1, 0] (lv' := [(2, .int x2), (4, .int (kr (x3 + x0) x0)), (5, .int (kr ((kr (x3 + x0) x0) + 1) x0)), (6, .int (fL_at x2 (kr (x3 + x0) x0))), (7, .int (fL_at x2 (kr ((kr (x3 + x0) x0) + 1) x0)))]) rfl ?_
          exact wL_change_J63  C Zd  x2 (kr (x3 + x0) x0) (kr ((kr (x3 + x0) x0) + 1) x0) (fL_at x2 (kr (x3 + x0) x0)) (fL_at x2 (kr ((kr (x3 + x0) x0) + 1) x0)) h
set_option maxRecDepth 100000 in
theorem mL_change (G : kG) (a : Nat → Nat) (st : kS) (x0 : Int32) (x2 : Int32) (x3 : Int32) {z : Int32} (h : fL_change st x0 x2 x3 = some z) : kMet G yL_change cL_change 9 (some .int) rmfL_change (0, 0) [.int x0, .ref (a 31), .int x2, .int x3] (wL G a st) (some (.int z)) (wL G a st) := kMet.mk (by decide +kernel) (Nat.le_of_ble_eq_true rfl) (fun E C Zd => wL_change  C Zd  x0 x2 x3 h)
theorem ysL_touch : kYS yL_touch cL_touch 7 (some .int) 4 := ⟨q17_3, q5_6, q17_4, by decide +kernel⟩
abbrev rmfL_touch : Room := { frames := 3, cells := 0, slots := 0, locals := 70 }
def fL_touch_L15_B (K : Int32 → Int32 → Option (Int32)) (Gc : Int32 → Int32 → Option (Int32)) (st : kS) (v0 : Int32) (v3 : Int32) (v4 : Int32) (v5 : Int32) (v6 : Int32) : Option (Int32) := if v5 ≤ v6 then (K v4 v6) else ((ka 6 (gA st 32) v5).bind (fun x_3 => if ((kshr x_3 v6) &&& 1) = 1 then ((ka 6 (gA st 31) v5).bind (fun x_6 => if x_6 = 2 then (Gc (v4 + 0) (v6 + 1)) else ((ka 6 (gA st 31) v6).bind (fun x_9 => if x_9 = 2 then (Gc (v4 + 0) (v6 + 1)) else ((fL_beside v0 v3 v5 v6).bind (fun z_12 => if z_12 = 0 then (Gc (v4 + 0) (v6 + 1)) else (Gc (v4 + 1) (v6 + 1)))))))) else (Gc (v4 + 0) (v6 + 1))))
set_option maxRecDepth 100000 in
set_option maxHeartbeats 4000000 in
theorem wL_touch_L15_B {G : kG} {E : kE} {a : Nat → Nat} {st0 : kS} (C : kOk G E cL_touch RL 7 rmfL_touch) {z : Int32} (Zd : kEnd G E (0, 0) (some .int) (some (.int z)) (wL G a st0)) {K Gc : Int32 → Int32 → Option (Int32)} (v0 : Int32) (v3 : Int32) (v4 : Int32) (v5 : Int32) (v6 : Int32) (hK : ∀ (u4 : Int32) (u6 : Int32), K u4 u6 = some z → kX G E (0, 0) (wL G a st0) 79 [(0, .int v0), (1, .ref (a 31)), (2, .ref (a 32)), (3, .int v3), (4, .int u4), (5, .int v5)] []) (hG : ∀ (u4 : Int32) (u6 : Int32), Gc u4 u6 = some z → kX G E (0, 0) (wL G a st0) 15 [(0, .int v0), (1, .ref (a 31)), (2, .ref (a 32)), (3, .int v3), (4, .int u4), (5, .int v5), (6, .int u6)] []) (h : fL_touch_L15_B K Gc st0 v0 v3 v4 v5 v6 = some z) : kX G E (0, 0) (wL G a st0) 15 [(0, .int v0), (1, .ref (a 31)), (2, .ref (a 32)), (3, .int v3), (4, .int v4), (5, .int v5), (6, .int v6)] [] := by
  unfold fL_touch_L15_B at h
  refine x_iload (pc := 15) C 6 dL_touch_15 rfl ?_
  refine x_iload (pc := 17) C 5 dL_touch_17 rfl ?_
  refine x_icmp_ge (pc := 19) C 79 dL_touch_19 (by decide) (fun c_2 => ?_) (fun c_2 => ?_)
  · have h := kIp c_2 h
    refine kX.pick [0, 1, 2, 3, 4, 5] (lv' := [(0, .int v0), (1, .ref (a 31)), (2, .ref (a 32)), (3, .int v3), (4, .int v4), (5, .int v5)]) rfl ?_
    exact hK v4 v6 h
  · have h := kIn c_2 h
    refine x_iload (pc := 22) C 4 dL_touch_22 rfl ?_
    refine x_aload_n (pc := 24) C 2 dL_touch_24 rfl rfl ?_
    refine x_iload (pc := 25) C 5 dL_touch_25 rfl ?_
    obtain ⟨x_3, hx_3, h⟩ := kB h
    obtain ⟨hi_4, hx_3⟩ := ka_some hx_3
    refine y_iald (pc := 27) C 32 (lwL_A32 G a rfl) hi_4 hx_3 dL_touch_27 ?_
    refine x_iload (pc := 28) C 6 dL_touch_28 rfl ?_
    refine y_ishr (pc := 30) C dL_touch_30 ?_
    refine x_iconst (pc := 31) C 1 dL_touch_31 (by decide) ?_
    refine x_iand (pc := 32) C dL_touch_32 ?_
    refine x_iconst (pc := 33) C 1 dL_touch_33 (by decide) ?_
    refine x_icmp_ne (pc := 34) C 69 dL_touch_34 (by decide) (fun c_5 => ?_) (fun c_5 => ?_)
    · have h := kIn c_5 h
      refine x_iconst (pc := 69) C 0 dL_touch_69 (by decide) ?_
      refine x_iadd (pc := 70) C dL_touch_70 ?_
      refine x_istore (pc := 71) C (lv' := [(4, .int (v4 + 0)), (0, .int v0), (1, .ref (a 31)), (2, .ref (a 32)), (3, .int v3), (5, .int v5), (6, .int v6)]) dL_touch_71 (by decide) rfl ?_
      refine x_iinc (pc := 73) C 6 (v := v6 + 1) (lv' := [(6, .int (v6 + 1)), (4, .int (v4 + 0)), (0, .int v0), (1, .ref (a 31)), (2, .ref (a 32)), (3, .int v3), (5, .int v5)]) dL_touch_73 rfl rfl (by decide) rfl ?_
      refine x_goto (pc := 76) C 15 dL_touch_76 (by decide) ?_
      refine kX.pick [2, 3, 4, 5, 1, 6, 0] (lv' := [(0, .int v0), (1, .ref (a 31)), (2, .ref (a 32)), (3, .int v3), (4, .int (v4 + 0)), (5, .int v5), (6, .int (v6 + 1))]) rfl ?_
      exact hG (v4 + 0) (v6 + 1) h
    · have h := kIp c_5 h
      refine x_aload_n (pc := 37) C 1 dL_touch_37 rfl rfl ?_
      refine x_iload (pc := 38) C 5 dL_touch_38 rfl ?_
      obtain ⟨x_6, hx_6, h⟩ := kB h
      obtain ⟨hi_7, hx_6⟩ := ka_some hx_6
      refine y_iald (pc := 40) C 31 (lwL_A31 G a rfl) hi_7 hx_6 dL_touch_40 ?_
      refine x_iconst (pc := 41) C 2 dL_touch_41 (by decide) ?_
      refine x_icmp_eq (pc := 42) C 69 dL_touch_42 (by decide) (fun c_8 => ?_) (fun c_8 => ?_)
      · have h := kIp c_8 h
        refine x_iconst (pc := 69) C 0 dL_touch_69 (by decide) ?_
        refine x_iadd (pc := 70) C dL_touch_70 ?_
        refine x_istore (pc := 71) C (lv' := [(4, .int (v4 + 0)), (0, .int v0), (1, .ref (a 31)), (2, .ref (a 32)), (3, .int v3), (5, .int v5), (6, .int v6)]) dL_touch_71 (by decide) rfl ?_
        refine x_iinc (pc := 73) C 6 (v := v6 + 1) (lv' := [(6, .int (v6 + 1)), (4, .int (v4 + 0)), (0, .int v0), (1, .ref (a 31)), (2, .ref (a 32)), (3, .int v3), (5, .int v5)]) dL_touch_73 rfl rfl (by decide) rfl ?_
        refine x_goto (pc := 76) C 15 dL_touch_76 (by decide) ?_
        refine kX.pick [2, 3, 4, 5, 1, 6, 0] (lv' := [(0, .int v0), (1, .ref (a 31)), (2, .ref (a 32)), (3, .int v3), (4, .int (v4 + 0)), (5, .int v5), (6, .int (v6 + 1))]) rfl ?_
        exact hG (v4 + 0) (v6 + 1) h
      · have h := kIn c_8 h
        refine x_aload_n (pc := 45) C 1 dL_touch_45 rfl rfl ?_
        refine x_iload (pc := 46) C 6 dL_touch_46 rfl ?_
        obtain ⟨x_9, hx_9, h⟩ := kB h
        obtain ⟨hi_10, hx_9⟩ := ka_some hx_9
        refine y_iald (pc := 48) C 31 (lwL_A31 G a rfl) hi_10 hx_9 dL_touch_48 ?_
        refine x_iconst (pc := 49) C 2 dL_touch_49 (by decide) ?_
        refine x_icmp_eq (pc := 50) C 69 dL_touch_50 (by decide) (fun c_11 => ?_) (fun c_11 => ?_)
        · have h := kIp c_11 h
          refine x_iconst (pc := 69) C 0 dL_touch_69 (by decide) ?_
          refine x_iadd (pc := 70) C dL_touch_70 ?_
          refine x_istore (pc := 71) C (lv' := [(4, .int (v4 + 0)), (0, .int v0), (1, .ref (a 31)), (2, .ref (a 32)), (3, .int v3), (5, .int v5), (6, .int v6)]) dL_touch_71 (by decide) rfl ?_
          refine x_iinc (pc := 73) C 6 (v := v6 + 1) (lv' := [(6, .int (v6 + 1)), (4, .int (v4 + 0)), (0, .int v0), (1, .ref (a 31)), (2, .ref (a 32)), (3, .int v3), (5, .int v5)]) dL_touch_73 rfl rfl (by decide) rfl ?_
          refine x_goto (pc := 76) C 15 dL_touch_76 (by decide) ?_
          refine kX.pick [2, 3, 4, 5, 1, 6, 0] (lv' := [(0, .int v0), (1, .ref (a 31)), (2, .ref (a 32)), (3, .int v3), (4, .int (v4 + 0)), (5, .int v5), (6, .int (v6 + 1))]) rfl ?_
          exact hG (v4 + 0) (v6 + 1) h
        · have h := kIn c_11 h
          refine x_iload_n (pc := 53) C 0 dL_touch_53 rfl rfl ?_
          refine x_iload_n (pc := 54) C 3 dL_touch_54 rfl rfl ?_
          refine x_iload (pc := 55) C 5 dL_touch_55 rfl ?_
          refine x_iload (pc := 57) C 6 dL_touch_57 rfl ?_
          obtain ⟨z_12, hz_12, h⟩ := kB h
          refine x_callS (pc := 59) C [.int v0, .int v3, .int v5, .int v6] (mL_beside G v0 v3 v5 v6 hz_12) ysL_beside q16_11 ⟨Nat.le_of_ble_eq_true rfl, Nat.le_of_ble_eq_true rfl, rfl, rfl⟩ ⟨Nat.zero_le _, Nat.zero_le _⟩ rfl rfl (Nat.le_of_ble_eq_true rfl) rfl dL_touch_59 ?_
          refine x_if_eq (pc := 62) C 69 dL_touch_62 (by decide) (fun c_13 => ?_) (fun c_13 => ?_)
          · have h := kIp c_13 h
            refine x_iconst (pc := 69) C 0 dL_touch_69 (by decide) ?_
            refine x_iadd (pc := 70) C dL_touch_70 ?_
            refine x_istore (pc := 71) C (lv' := [(4, .int (v4 + 0)), (0, .int v0), (1, .ref (a 31)), (2, .ref (a 32)), (3, .int v3), (5, .int v5), (6, .int v6)]) dL_touch_71 (by decide) rfl ?_
            refine x_iinc (pc := 73) C 6 (v := v6 + 1) (lv' := [(6, .int (v6 + 1)), (4, .int (v4 + 0)), (0, .int v0), (1, .ref (a 31)), (2, .ref (a 32)), (3, .int v3), (5, .int v5)]) dL_touch_73 rfl rfl (by decide) rfl ?_
            refine x_goto (pc := 76) C 15 dL_touch_76 (by decide) ?_
            refine kX.pick [2, 3, 4, 5, 1, 6, 0] (lv' := [(0, .int v0), (1, .ref (a 31)), (2, .ref (a 32)), (3, .int v3), (4, .int (v4 + 0)), (5, .int v5), (6, .int (v6 + 1))]) rfl ?_
            exact hG (v4 + 0) (v6 + 1) h
          · have h := kIn c_13 h
            refine x_iconst (pc := 65) C 1 dL_touch_65 (by decide) ?_
            refine x_goto (pc := 66) C 70 dL_touch_66 (by decide) ?_
            refine x_iadd (pc := 70) C dL_touch_70 ?_
            refine x_istore (pc := 71) C (lv' := [(4, .int (v4 + 1)), (0, .int v0), (1, .ref (a 31)), (2, .ref (a 32)), (3, .int v3), (5, .int v5), (6, .int v6)]) dL_touch_71 (by decide) rfl ?_
            refine x_iinc (pc := 73) C 6 (v := v6 + 1) (lv' := [(6, .int (v6 + 1)), (4, .int (v4 + 1)), (0, .int v0), (1, .ref (a 31)), (2, .ref (a 32)), (3, .int v3), (5, .int v5)]) dL_touch_73 rfl rfl (by decide) rfl ?_
            refine x_goto (pc := 76) C 15 dL_touch_76 (by decide) ?_
            refine kX.pick [2, 3, 4, 5, 1, 6, 0] (lv' := [(0, .int v0), (1, .ref (a 31)), (2, .ref (a 32)), (3, .int v3), (4, .int (v4 + 1)), (5, .int v5), (6, .int (v6 + 1))]) rfl ?_
            exact hG (v4 + 1) (v6 + 1) h
def fL_touch_L15 (K : Int32 → Int32 → Option (Int32)) (st : kS) (v0 : Int32) (v3 : Int32) (v5 : Int32) : Nat → Int32 → Int32 → Option (Int32)
  | 0, _, _ => none
  | F + 1, v4, v6 => fL_touch_L15_B K (fL_touch_L15 K st v0 v3 v5 F) st v0 v3 v4 v5 v6
set_option maxRecDepth 100000 in
set_option maxHeartbeats 4000000 in
theorem wL_touch_L15 {G : kG} {E : kE} {a : Nat → Nat} {st0 : kS} (C : kOk G E cL_touch RL 7 rmfL_touch) {z : Int32} (Zd : kEnd G E (0, 0) (some .int) (some (.int z)) (wL G a st0)) {K : Int32 → Int32 → Option (Int32)} (v0 : Int32) (v3 : Int32) (v5 : Int32) (hK : ∀ (u4 : Int32) (u6 : Int32), K u4 u6 = some z → kX G E (0, 0) (wL G a st0) 79 [(0, .int v0), (1, .ref (a 31)), (2, .ref (a 32)), (3, .int v3), (4, .int u4), (5, .int v5)] []) : ∀ (F : Nat) (v4 : Int32) (v6 : Int32), fL_touch_L15 K st0 v0 v3 v5 F v4 v6 = some z → kX G E (0, 0) (wL G a st0) 15 [(0, .int v0), (1, .ref (a 31)), (2, .ref (a 32)), (3, .int v3), (4, .int v4), (5, .int v5), (6, .int v6)] [] := by
  intro F
  induction F with
  | zero =>
    intro v4 v6 h
    exact absurd (show none = some z from h) (fun q => by cases q)
  | succ F ih =>
    intro v4 v6 h
    exact wL_touch_L15_B  C Zd  v0 v3 v4 v5 v6 hK (fun v4 v6 h => ih v4 v6 h) h
def fL_touch_L6_B (K : Int32 → Int32 → Option (Int32)) (Gc : Int32 → Int32 → Option (Int32)) (st : kS) (v0 : Int32) (v3 : Int32) (v4 : Int32) (v5 : Int32) : Option (Int32) := if v0 ≤ v5 then (K v4 v5) else (fL_touch_L15 (fun v4_14 v6_15 => Gc v4_14 (v5 + 1)) st v0 v3 v5 kFU v4 0)
set_option maxRecDepth 100000 in
set_option maxHeartbeats 4000000 in
theorem wL_touch_L6_B {G : kG} {E : kE} {a : Nat → Nat} {st0 : kS} (C : kOk G E cL_touch RL 7 rmfL_touch) {z : Int32} (Zd : kEnd G E (0, 0) (some .int) (some (.int z)) (wL G a st0)) {K Gc : Int32 → Int32 → Option (Int32)} (v0 : Int32) (v3 : Int32) (v4 : Int32) (v5 : Int32) (hK : ∀ (u4 : Int32) (u5 : Int32), K u4 u5 = some z → kX G E (0, 0) (wL G a st0) 85 [(4, .int u4)] []) (hG : ∀ (u4 : Int32) (u5 : Int32), Gc u4 u5 = some z → kX G E (0, 0) (wL G a st0) 6 [(0, .int v0), (1, .ref (a 31)), (2, .ref (a 32)), (3, .int v3), (4, .int u4), (5, .int u5)] []) (h : fL_touch_L6_B K Gc st0 v0 v3 v4 v5 = some z) : kX G E (0, 0) (wL G a st0) 6 [(0, .int v0), (1, .ref (a 31)), (2, .ref (a 32)), (3, .int v3), (4, .int v4), (5, .int v5)] [] := by
  unfold fL_touch_L6_B at h
  refine x_iload (pc := 6) C 5 dL_touch_6 rfl ?_
  refine x_iload_n (pc := 8) C 0 dL_touch_8 rfl rfl ?_
  refine x_icmp_ge (pc := 9) C 85 dL_touch_9 (by decide) (fun c_1 => ?_) (fun c_1 => ?_)
  · have h := kIp c_1 h
    refine kX.pick [4] (lv' := [(4, .int v4)]) rfl ?_
    exact hK v4 v5 h
  · have h := kIn c_1 h
    refine x_iconst (pc := 12) C 0 dL_touch_12 (by decide) ?_
    refine x_istore (pc := 13) C (lv' := [(6, .int 0), (0, .int v0), (1, .ref (a 31)), (2, .ref (a 32)), (3, .int v3), (4, .int v4), (5, .int v5)]) dL_touch_13 (by decide) rfl ?_
    refine kX.pick [1, 2, 3, 4, 5, 6, 0] (lv' := [(0, .int v0), (1, .ref (a 31)), (2, .ref (a 32)), (3, .int v3), (4, .int v4), (5, .int v5), (6, .int 0)]) rfl ?_
    refine wL_touch_L15  C Zd  v0 v3 v5 (fun v4_14 v6_15 h => ?_) kFU v4 0 h
    refine x_iinc (pc := 79) C 5 (v := v5 + 1) (lv' := [(5, .int (v5 + 1)), (0, .int v0), (1, .ref (a 31)), (2, .ref (a 32)), (3, .int v3), (4, .int v4_14)]) dL_touch_79 rfl rfl (by decide) rfl ?_
    refine x_goto (pc := 82) C 6 dL_touch_82 (by decide) ?_
    refine kX.pick [1, 2, 3, 4, 5, 0] (lv' := [(0, .int v0), (1, .ref (a 31)), (2, .ref (a 32)), (3, .int v3), (4, .int v4_14), (5, .int (v5 + 1))]) rfl ?_
    exact hG v4_14 (v5 + 1) h
def fL_touch_L6 (K : Int32 → Int32 → Option (Int32)) (st : kS) (v0 : Int32) (v3 : Int32) : Nat → Int32 → Int32 → Option (Int32)
  | 0, _, _ => none
  | F + 1, v4, v5 => fL_touch_L6_B K (fL_touch_L6 K st v0 v3 F) st v0 v3 v4 v5
set_option maxRecDepth 100000 in
set_option maxHeartbeats 4000000 in
theorem wL_touch_L6 {G : kG} {E : kE} {a : Nat → Nat} {st0 : kS} (C : kOk G E cL_touch RL 7 rmfL_touch) {z : Int32} (Zd : kEnd G E (0, 0) (some .int) (some (.int z)) (wL G a st0)) {K : Int32 → Int32 → Option (Int32)} (v0 : Int32) (v3 : Int32) (hK : ∀ (u4 : Int32) (u5 : Int32), K u4 u5 = some z → kX G E (0, 0) (wL G a st0) 85 [(4, .int u4)] []) : ∀ (F : Nat) (v4 : Int32) (v5 : Int32), fL_touch_L6 K st0 v0 v3 F v4 v5 = some z → kX G E (0, 0) (wL G a st0) 6 [(0, .int v0), (1, .ref (a 31)), (2, .ref (a 32)), (3, .int v3), (4, .int v4), (5, .int v5)] [] := by
  intro F
  induction F with
  | zero =>
    intro v4 v5 h
    exact absurd (show none = some z from h) (fun q => by cases q)
  | succ F ih =>
    intro v4 v5 h
    exact wL_touch_L6_B  C Zd  v0 v3 v4 v5 hK (fun v4 v5 h => ih v4 v5 h) h
def fL_touch (st : kS) (x0 : Int32) (x3 : Int32) : Option (Int32) := fL_touch_L6 (fun v4_16 v5_17 => some v4_16) st x0 x3 kFU 0 0
set_option maxRecDepth 100000 in
set_option maxHeartbeats 4000000 in
theorem wL_touch {G : kG} {E : kE} {a : Nat → Nat} {st0 : kS} (C : kOk G E cL_touch RL 7 rmfL_touch) {z : Int32} (Zd : kEnd G E (0, 0) (some .int) (some (.int z)) (wL G a st0)) (x0 : Int32) (x3 : Int32) (h : fL_touch st0 x0 x3 = some z) : kX G E (0, 0) (wL G a st0) 0 [(0, .int x0), (1, .ref (a 31)), (2, .ref (a 32)), (3, .int x3)] [] := by
  unfold fL_touch at h
  refine x_iconst (pc := 0) C 0 dL_touch_0 (by decide) ?_
  refine x_istore (pc := 1) C (lv' := [(4, .int 0), (0, .int x0), (1, .ref (a 31)), (2, .ref (a 32)), (3, .int x3)]) dL_touch_1 (by decide) rfl ?_
  refine x_iconst (pc := 3) C 0 dL_touch_3 (by decide) ?_
  refine x_istore (pc := 4) C (lv' := [(5, .int 0), (4, .int 0), (0, .int x0), (1, .ref (a 31)), (2, .ref (a 32)), (3, .int x3)]) dL_touch_4 (by decide) rfl ?_
  refine kX.pick [2, 3, 4, 5, 1, 0] (lv' := [(0, .int x0), (1, .ref (a 31)), (2, .ref (a 32)), (3, .int x3), (4, .int 0), (5, .int 0)]) rfl ?_
  refine wL_touch_L6  C Zd  x0 x3 (fun v4_16 v5_17 h => ?_) kFU 0 0 h
  refine x_iload (pc := 85) C 0 dL_touch_85 rfl ?_
  obtain rfl := Option.some.inj h
  exact x_iret (pc := 87) C Zd dL_touch_87
set_option maxRecDepth 100000 in
theorem mL_touch (G : kG) (a : Nat → Nat) (st : kS) (x0 : Int32) (x3 : Int32) {z : Int32} (h : fL_touch st x0 x3 = some z) : kMet G yL_touch cL_touch 7 (some .int) rmfL_touch (0, 0) [.int x0, .ref (a 31), .ref (a 32), .int x3] (wL G a st) (some (.int z)) (wL G a st) := kMet.mk (by decide +kernel) (Nat.le_of_ble_eq_true rfl) (fun E C Zd => wL_touch  C Zd  x0 x3 h)
theorem ysL_ring : kYS yL_ring cL_ring 14 (some .int) 6 := ⟨q5_5, q5_6, q5_7, by decide +kernel⟩
abbrev rmfL_ring : Room := { frames := 7, cells := 0, slots := 0, locals := 151 }
def fL_ring_J165 (K : Int32 → Int32 → kS → Option (Int32 × kS)) (Gc : Int32 → Int32 → kS → Option (Int32 × kS)) (L : Nat) (xs : Nat → Int32) (st : kS) (v2 : Int32) (v6 : Int32) (v8 : Int32) (v9 : Int32) (s0 : Int32) : Option (Int32 × kS) := (fL_put st s0).bind (fun z_23 => if z_23.1 = 0 then (Gc 0 (v9 + 1) z_23.2) else (Gc 1 (v9 + 1) z_23.2))
set_option maxRecDepth 100000 in
set_option maxHeartbeats 4000000 in
theorem wL_ring_J165 {G : kG} {E : kE} {a : Nat → Nat} {b L : Nat} {xs : Nat → Int32} (C : kOk G E cL_ring RL 14 rmfL_ring) {z : Int32 × kS} (Zd : kEnd G E (0, 0) (some .int) (some (.int z.1)) (wL G a z.2)) (X : kScr E b L xs) {K Gc : Int32 → Int32 → kS → Option (Int32 × kS)} (st : kS) (v2 : Int32) (v6 : Int32) (v8 : Int32) (v9 : Int32) (s0 : Int32) (hK : ∀ (u7 : Int32) (u9 : Int32) (su : kS), K u7 u9 su = some z → kX G E (0, 0) (wL G a su) 184 [(0, .ref (a 0)), (1, .ref b), (2, .int v2), (5, .ref (a 32)), (6, .int v6), (7, .int u7)] []) (hG : ∀ (u7 : Int32) (u9 : Int32) (su : kS), Gc u7 u9 su = some z → kX G E (0, 0) (wL G a su) 39 [(0, .ref (a 0)), (1, .ref b), (2, .int v2), (4, .ref (a 31)), (5, .ref (a 32)), (6, .int v6), (7, .int u7), (8, .int v8), (9, .int u9)] []) (h : fL_ring_J165 K Gc L xs st v2 v6 v8 v9 s0 = some z) : kX G E (0, 0) (wL G a st) 165 [(0, .ref (a 0)), (1, .ref b), (2, .int v2), (4, .ref (a 31)), (5, .ref (a 32)), (6, .int v6), (8, .int v8), (9, .int v9)] [.int s0, .ref (a 0)] := by
  unfold fL_ring_J165 at h
  obtain ⟨z_23, hz_23, h⟩ := kB h
  refine x_callS (pc := 165) C [.ref (a 0), .int s0] (mL_put G a st s0 hz_23) ysL_put q5_12 ⟨Nat.le_of_ble_eq_true rfl, Nat.le_of_ble_eq_true rfl, rfl, rfl⟩ ⟨Nat.zero_le _, Nat.zero_le _⟩ rfl rfl (Nat.le_of_ble_eq_true rfl) rfl dL_ring_165 ?_
  refine x_if_eq (pc := 168) C 175 dL_ring_168 (by decide) (fun c_24 => ?_) (fun c_24 => ?_)
  · have h := kIp c_24 h
    refine x_iconst (pc := 175) C 0 dL_ring_175 (by decide) ?_
    refine x_istore (pc := 176) C (lv' := [(7, .int 0), (0, .ref (a 0)), (1, .ref b), (2, .int v2), (4, .ref (a 31)), (5, .ref (a 32)), (6, .int v6), (8, .int v8), (9, .int v9)]) dL_ring_176 (by decide) rfl ?_
    refine x_iinc (pc := 178) C 8 (v := v9 + 1) (lv' := [(9, .int (v9 + 1)), (7, .int 0), (0, .ref (a 0)), (1, .ref b), (2, .int v2), (4, .ref (a 31)), (5, .ref (a 32)), (6, .int v6), (8, .int v8)]) dL_ring_178 rfl rfl (by decide) rfl ?_
    refine x_goto (pc := 181) C 39 dL_ring_181 (by decide) ?_
    refine kX.pick [2, 3, 4, 5, 6, 7, 1, 8, 0] (lv' := [(0, .ref (a 0)), (1, .ref b), (2, .int v2), (4, .ref (a 31)), (5, .ref (a 32)), (6, .int v6), (7, .int 0), (8, .int v8), (9, .int (v9 + 1))]) rfl ?_
    exact hG 0 (v9 + 1) z_23.2 h
  · have h := kIn c_24 h
    refine x_iconst (pc := 171) C 1 dL_ring_171 (by decide) ?_
    refine x_goto (pc := 172) C 176 dL_ring_172 (by decide) ?_
    refine x_istore (pc := 176) C (lv' := [(7, .int 1), (0, .ref (a 0)), (1, .ref b), (2, .int v2), (4, .ref (a 31)), (5, .ref (a 32)), (6, .int v6), (8, .int v8), (9, .int v9)]) dL_ring_176 (by decide) rfl ?_
    refine x_iinc (pc := 178) C 8 (v := v9 + 1) (lv' := [(9, .int (v9 + 1)), (7, .int 1), (0, .ref (a 0)), (1, .ref b), (2, .int v2), (4, .ref (a 31)), (5, .ref (a 32)), (6, .int v6), (8, .int v8)]) dL_ring_178 rfl rfl (by decide) rfl ?_
    refine x_goto (pc := 181) C 39 dL_ring_181 (by decide) ?_
    refine kX.pick [2, 3, 4, 5, 6, 7, 1, 8, 0] (lv' := [(0, .ref (a 0)), (1, .ref b), (2, .int v2), (4, .ref (a 31)), (5, .ref (a 32)), (6, .int v6), (7, .int 1), (8, .int v8), (9, .int (v9 + 1))]) rfl ?_
    exact hG 1 (v9 + 1) z_23.2 h
def fL_ring_J109 (K : Int32 → Int32 → kS → Option (Int32 × kS)) (Gc : Int32 → Int32 → kS → Option (Int32 × kS)) (L : Nat) (xs : Nat → Int32) (st : kS) (v2 : Int32) (v6 : Int32) (v7 : Int32) (v8 : Int32) (v9 : Int32) (s0 : Int32) (s1 : Int32) : Option (Int32 × kS) := if s1 < 0 ∨ 6 ≤ s1.toNatClampNeg then none else if v9 < 0 ∨ 6 ≤ v9.toNatClampNeg then none else if v7 = 0 then (Gc 0 (v9 + 1) (sA (sA st 31 (upd (gA st 31) s1.toNatClampNeg s0)) 32 (upd (gA st 32) v9.toNatClampNeg 0))) else ((ka 6 (upd (gA st 31) s1.toNatClampNeg s0) v9).bind (fun x_14 => if x_14 = 0 then (fL_ring_J165 K Gc L xs (sA (sA st 31 (upd (gA st 31) s1.toNatClampNeg s0)) 32 (upd (gA st 32) v9.toNatClampNeg 0)) v2 v6 v8 v9 104) else ((ka 6 (upd (gA st 31) s1.toNatClampNeg s0) v9).bind (fun x_17 => if x_17 = 1 then (fL_ring_J165 K Gc L xs (sA (sA st 31 (upd (gA st 31) s1.toNatClampNeg s0)) 32 (upd (gA st 32) v9.toNatClampNeg 0)) v2 v6 v8 v9 102) else ((ka 6 (upd (gA st 31) s1.toNatClampNeg s0) v9).bind (fun x_20 => if x_20 = 2 then (fL_ring_J165 K Gc L xs (sA (sA st 31 (upd (gA st 31) s1.toNatClampNeg s0)) 32 (upd (gA st 32) v9.toNatClampNeg 0)) v2 v6 v8 v9 101) else (fL_ring_J165 K Gc L xs (sA (sA st 31 (upd (gA st 31) s1.toNatClampNeg s0)) 32 (upd (gA st 32) v9.toNatClampNeg 0)) v2 v6 v8 v9 119)))))))
set_option maxRecDepth 100000 in
set_option maxHeartbeats 4000000 in
theorem wL_ring_J109 {G : kG} {E : kE} {a : Nat → Nat} {b L : Nat} {xs : Nat → Int32} (C : kOk G E cL_ring RL 14 rmfL_ring) {z : Int32 × kS} (Zd : kEnd G E (0, 0) (some .int) (some (.int z.1)) (wL G a z.2)) (X : kScr E b L xs) {K Gc : Int32 → Int32 → kS → Option (Int32 × kS)} (st : kS) (v2 : Int32) (v6 : Int32) (v7 : Int32) (v8 : Int32) (v9 : Int32) (s0 : Int32) (s1 : Int32) (hK : ∀ (u7 : Int32) (u9 : Int32) (su : kS), K u7 u9 su = some z → kX G E (0, 0) (wL G a su) 184 [(0, .ref (a 0)), (1, .ref b), (2, .int v2), (5, .ref (a 32)), (6, .int v6), (7, .int u7)] []) (hG : ∀ (u7 : Int32) (u9 : Int32) (su : kS), Gc u7 u9 su = some z → kX G E (0, 0) (wL G a su) 39 [(0, .ref (a 0)), (1, .ref b), (2, .int v2), (4, .ref (a 31)), (5, .ref (a 32)), (6, .int v6), (7, .int u7), (8, .int v8), (9, .int u9)] []) (h : fL_ring_J109 K Gc L xs st v2 v6 v7 v8 v9 s0 s1 = some z) : kX G E (0, 0) (wL G a st) 109 [(0, .ref (a 0)), (1, .ref b), (2, .int v2), (4, .ref (a 31)), (5, .ref (a 32)), (6, .int v6), (7, .int v7), (8, .int v8), (9, .int v9)] [.int s0, .int s1, .ref (a 31)] := by
  unfold fL_ring_J109 at h
  obtain ⟨hi_11, h⟩ := kGn h
  refine x_iast (pc := 109) C 31 (lwL_A31 G a rfl) hi_11 (swL_A31 G a _ _) dL_ring_109 ?_
  refine x_aload (pc := 110) C 4 dL_ring_110 rfl ?_
  refine x_iload (pc := 112) C 8 dL_ring_112 rfl ?_
  refine x_iconst (pc := 114) C 0 dL_ring_114 (by decide) ?_
  obtain ⟨hi_12, h⟩ := kGn h
  refine x_iast (pc := 115) C 32 (lwL_A32 G a (gA_n (by decide))) hi_12 (swL_A32 G a _ _) dL_ring_115 ?_
  refine x_iload (pc := 116) C 6 dL_ring_116 rfl ?_
  refine x_if_eq (pc := 118) C 175 dL_ring_118 (by decide) (fun c_13 => ?_) (fun c_13 => ?_)
  · have h := kIp c_13 h
    refine x_iconst (pc := 175) C 0 dL_ring_175 (by decide) ?_
    refine x_istore (pc := 176) C (lv' := [(7, .int 0), (0, .ref (a 0)), (1, .ref b), (2, .int v2), (4, .ref (a 31)), (5, .ref (a 32)), (6, .int v6), (8, .int v8), (9, .int v9)]) dL_ring_176 (by decide) rfl ?_
    refine x_iinc (pc := 178) C 8 (v := v9 + 1) (lv' := [(9, .int (v9 + 1)), (7, .int 0), (0, .ref (a 0)), (1, .ref b), (2, .int v2), (4, .ref (a 31)), (5, .ref (a 32)), (6, .int v6), (8, .int v8)]) dL_ring_178 rfl rfl (by decide) rfl ?_
    refine x_goto (pc := 181) C 39 dL_ring_181 (by decide) ?_
    refine kX.pick [2, 3, 4, 5, 6, 7, 1, 8, 0] (lv' := [(0, .ref (a 0)), (1, .ref b), (2, .int v2), (4, .ref (a 31)), (5, .ref (a 32)), (6, .int v6), (7, .int 0), (8, .int v8), (9, .int (v9 + 1))]) rfl ?_
    exact hG 0 (v9 + 1) (sA (sA st 31 (upd (gA st 31) s1.toNatClampNeg s0)) 32 (upd (gA st 32) v9.toNatClampNeg 0)) h
  · have h := kIn c_13 h
    refine x_aload_n (pc := 121) C 0 dL_ring_121 rfl rfl ?_
    refine x_aload (pc := 122) C 3 dL_ring_122 rfl ?_
    refine x_iload (pc := 124) C 8 dL_ring_124 rfl ?_
    obtain ⟨x_14, hx_14, h⟩ := kB h
    obtain ⟨hi_15, hx_14⟩ := ka_some hx_14
    refine y_iald (pc := 126) C 31 (lwL_A31 G a (Eq.trans (gA_n (by decide)) (gA_e _ _ _))) hi_15 hx_14 dL_ring_126 ?_
    refine x_if_ne (pc := 127) C 135 dL_ring_127 (by decide) (fun c_16 => ?_) (fun c_16 => ?_)
    · have h := kIn c_16 h
      refine x_aload (pc := 135) C 3 dL_ring_135 rfl ?_
      refine x_iload (pc := 137) C 8 dL_ring_137 rfl ?_
      obtain ⟨x_17, hx_17, h⟩ := kB h
      obtain ⟨hi_18, hx_17⟩ := ka_some hx_17
      refine y_iald (pc := 139) C 31 (lwL_A31 G a (Eq.trans (gA_n (by decide)) (gA_e _ _ _))) hi_18 hx_17 dL_ring_139 ?_
      refine x_iconst (pc := 140) C 1 dL_ring_140 (by decide) ?_
      refine x_icmp_ne (pc := 141) C 149 dL_ring_141 (by decide) (fun c_19 => ?_) (fun c_19 => ?_)
      · have h := kIn c_19 h
        refine x_aload (pc := 149) C 3 dL_ring_149 rfl ?_
        refine x_iload (pc := 151) C 8 dL_ring_151 rfl ?_
        obtain ⟨x_20, hx_20, h⟩ := kB h
        obtain ⟨hi_21, hx_20⟩ := ka_some hx_20
        refine y_iald (pc := 153) C 31 (lwL_A31 G a (Eq.trans (gA_n (by decide)) (gA_e _ _ _))) hi_21 hx_20 dL_ring_153 ?_
        refine x_iconst (pc := 154) C 2 dL_ring_154 (by decide) ?_
        refine x_icmp_ne (pc := 155) C 163 dL_ring_155 (by decide) (fun c_22 => ?_) (fun c_22 => ?_)
        · have h := kIn c_22 h
          refine x_bipush (pc := 163) C 119 dL_ring_163 (by decide) ?_
          refine kX.pick [0, 1, 2, 3, 4, 5, 7, 8] (lv' := [(0, .ref (a 0)), (1, .ref b), (2, .int v2), (4, .ref (a 31)), (5, .ref (a 32)), (6, .int v6), (8, .int v8), (9, .int v9)]) rfl ?_
          exact wL_ring_J165  C Zd X  (sA (sA st 31 (upd (gA st 31) s1.toNatClampNeg s0)) 32 (upd (gA st 32) v9.toNatClampNeg 0)) v2 v6 v8 v9 119 hK hG h
        · have h := kIp c_22 h
          refine x_bipush (pc := 158) C 101 dL_ring_158 (by decide) ?_
          refine x_goto (pc := 160) C 165 dL_ring_160 (by decide) ?_
          refine kX.pick [0, 1, 2, 3, 4, 5, 7, 8] (lv' := [(0, .ref (a 0)), (1, .ref b), (2, .int v2), (4, .ref (a 31)), (5, .ref (a 32)), (6, .int v6), (8, .int v8), (9, .int v9)]) rfl ?_
          exact wL_ring_J165  C Zd X  (sA (sA st 31 (upd (gA st 31) s1.toNatClampNeg s0)) 32 (upd (gA st 32) v9.toNatClampNeg 0)) v2 v6 v8 v9 101 hK hG h
      · have h := kIp c_19 h
        refine x_bipush (pc := 144) C 102 dL_ring_144 (by decide) ?_
        refine x_goto (pc := 146) C 165 dL_ring_146 (by decide) ?_
        refine kX.pick [0, 1, 2, 3, 4, 5, 7, 8] (lv' := [(0, .ref (a 0)), (1, .ref b), (2, .int v2), (4, .ref (a 31)), (5, .ref (a 32)), (6, .int v6), (8, .int v8), (9, .int v9)]) rfl ?_
        exact wL_ring_J165  C Zd X  (sA (sA st 31 (upd (gA st 31) s1.toNatClampNeg s0)) 32 (upd (gA st 32) v9.toNatClampNeg 0)) v2 v6 v8 v9 102 hK hG h
    · have h := kIp c_16 h
      refine x_bipush (pc := 130) C 104 dL_ring_130 (by decide) ?_
      refine x_goto (pc := 132) C 165 dL_ring_132 (by decide) ?_
      refine kX.pick [0, 1, 2, 3, 4, 5, 7, 8] (lv' := [(0, .ref (a 0)), (1, .ref b), (2, .int v2), (4, .ref (a 31)), (5, .ref (a 32)), (6, .int v6), (8, .int v8), (9, .int v9)]) rfl ?_
      exact wL_ring_J165  C Zd X  (sA (sA st 31 (upd (gA st 31) s1.toNatClampNeg s0)) 32 (upd (gA st 32) v9.toNatClampNeg 0)) v2 v6 v8 v9 104 hK hG h
def fL_ring_J64 (K : Int32 → Int32 → kS → Option (Int32 × kS)) (Gc : Int32 → Int32 → kS → Option (Int32 × kS)) (L : Nat) (xs : Nat → Int32) (st : kS) (v2 : Int32) (v6 : Int32) (v7 : Int32) (v8 : Int32) (v9 : Int32) (v10 : Int32) : Option (Int32 × kS) := if 5 ≤ v10 then (if v10 = 5 then (fL_ring_J109 K Gc L xs st v2 v6 v7 v8 v9 2 v9) else (if v8 = 0 then (if v10 = 6 then (fL_ring_J109 K Gc L xs st v2 v6 v7 v8 v9 1 v9) else (fL_ring_J109 K Gc L xs st v2 v6 v7 v8 v9 3 v9)) else (fL_ring_J109 K Gc L xs st v2 v6 v7 v8 v9 0 v9))) else (fL_ring_J109 K Gc L xs st v2 v6 v7 v8 v9 0 v9)
set_option maxRecDepth 100000 in
set_option maxHeartbeats 4000000 in
theorem wL_ring_J64 {G : kG} {E : kE} {a : Nat → Nat} {b L : Nat} {xs : Nat → Int32} (C : kOk G E cL_ring RL 14 rmfL_ring) {z : Int32 × kS} (Zd : kEnd G E (0, 0) (some .int) (some (.int z.1)) (wL G a z.2)) (X : kScr E b L xs) {K Gc : Int32 → Int32 → kS → Option (Int32 × kS)} (st : kS) (v2 : Int32) (v6 : Int32) (v7 : Int32) (v8 : Int32) (v9 : Int32) (v10 : Int32) (hK : ∀ (u7 : Int32) (u9 : Int32) (su : kS), K u7 u9 su = some z → kX G E (0, 0) (wL G a su) 184 [(0, .ref (a 0)), (1, .ref b), (2, .int v2), (5, .ref (a 32)), (6, .int v6), (7, .int u7)] []) (hG : ∀ (u7 : Int32) (u9 : Int32) (su : kS), Gc u7 u9 su = some z → kX G E (0, 0) (wL G a su) 39 [(0, .ref (a 0)), (1, .ref b), (2, .int v2), (4, .ref (a 31)), (5, .ref (a 32)), (6, .int v6), (7, .int u7), (8, .int v8), (9, .int u9)] []) (h : fL_ring_J64 K Gc L xs st v2 v6 v7 v8 v9 v10 = some z) : kX G E (0, 0) (wL G a st) 64 [(0, .ref (a 0)), (1, .ref b), (2, .int v2), (4, .ref (a 31)), (5, .ref (a 32)), (6, .int v6), (7, .int v7), (8, .int v8), (9, .int v9), (10, .int v10)] [] := by
  unfold fL_ring_J64 at h
  refine x_aload (pc := 64) C 3 dL_ring_64 rfl ?_
  refine x_iload (pc := 66) C 8 dL_ring_66 rfl ?_
  refine x_iload (pc := 68) C 9 dL_ring_68 rfl ?_
  refine x_iconst (pc := 70) C 5 dL_ring_70 (by decide) ?_
  refine x_icmp_ge (pc := 71) C 78 dL_ring_71 (by decide) (fun c_7 => ?_) (fun c_7 => ?_)
  · have h := kIp c_7 h
    refine x_iload (pc := 78) C 9 dL_ring_78 rfl ?_
    refine x_iconst (pc := 80) C 5 dL_ring_80 (by decide) ?_
    refine x_icmp_ne (pc := 81) C 88 dL_ring_81 (by decide) (fun c_8 => ?_) (fun c_8 => ?_)
    · have h := kIn c_8 h
      refine x_iload (pc := 88) C 7 dL_ring_88 rfl ?_
      refine x_if_eq (pc := 90) C 97 dL_ring_90 (by decide) (fun c_9 => ?_) (fun c_9 => ?_)
      · have h := kIp c_9 h
        refine x_iload (pc := 97) C 9 dL_ring_97 rfl ?_
        refine x_bipush (pc := 99) C 6 dL_ring_99 (by decide) ?_
        refine x_icmp_ne (pc := 101) C 108 dL_ring_101 (by decide) (fun c_10 => ?_) (fun c_10 => ?_)
        · have h := kIn c_10 h
          refine x_iconst (pc := 108) C 3 dL_ring_108 (by decide) ?_
          refine kX.pick [0, 1, 2, 3, 4, 5, 6, 7, 8] (lv' := [(0, .ref (a 0)), (1, .ref b), (2, .int v2), (4, .ref (a 31)), (5, .ref (a 32)), (6, .int v6), (7, .int v7), (8, .int v8), (9, .int v9)]) rfl ?_
          exact wL_ring_J109  C Zd X  st v2 v6 v7 v8 v9 3 v9 hK hG h
        · have h := kIp c_10 h
          refine x_iconst (pc := 104) C 1 dL_ring_104 (by decide) ?_
          refine x_goto (pc := 105) C 109 dL_ring_105 (by decide) ?_
          refine kX.pick [0, 1, 2, 3, 4, 5, 6, 7, 8] (lv' := [(0, .ref (a 0)), (1, .ref b), (2, .int v2), (4, .ref (a 31)), (5, .ref (a 32)), (6, .int v6), (7, .int v7), (8, .int v8), (9, .int v9)]) rfl ?_
          exact wL_ring_J109  C Zd X  st v2 v6 v7 v8 v9 1 v9 hK hG h
      · have h := kIn c_9 h
        refine x_iconst (pc := 93) C 0 dL_ring_93 (by decide) ?_
        refine x_goto (pc := 94) C 109 dL_ring_94 (by decide) ?_
        refine kX.pick [0, 1, 2, 3, 4, 5, 6, 7, 8] (lv' := [(0, .ref (a 0)), (1, .ref b), (2, .int v2), (4, .ref (a 31)), (5, .ref (a 32)), (6, .int v6), (7, .int v7), (8, .int v8), (9, .int v9)]) rfl ?_
        exact wL_ring_J109  C Zd X  st v2 v6 v7 v8 v9 0 v9 hK hG h
    · have h := kIp c_8 h
      refine x_iconst (pc := 84) C 2 dL_ring_84 (by decide) ?_
      refine x_goto (pc := 85) C 109 dL_ring_85 (by decide) ?_
      refine kX.pick [0, 1, 2, 3, 4, 5, 6, 7, 8] (lv' := [(0, .ref (a 0)), (1, .ref b), (2, .int v2), (4, .ref (a 31)), (5, .ref (a 32)), (6, .int v6), (7, .int v7), (8, .int v8), (9, .int v9)]) rfl ?_
      exact wL_ring_J109  C Zd X  st v2 v6 v7 v8 v9 2 v9 hK hG h
  · have h := kIn c_7 h
    refine x_iconst (pc := 74) C 0 dL_ring_74 (by decide) ?_
    refine x_goto (pc := 75) C 109 dL_ring_75 (by decide) ?_
    refine kX.pick [0, 1, 2, 3, 4, 5, 6, 7, 8] (lv' := [(0, .ref (a 0)), (1, .ref b), (2, .int v2), (4, .ref (a 31)), (5, .ref (a 32)), (6, .int v6), (7, .int v7), (8, .int v8), (9, .int v9)]) rfl ?_
    exact wL_ring_J109  C Zd X  st v2 v6 v7 v8 v9 0 v9 hK hG h
def fL_ring_L39_B (K : Int32 → Int32 → kS → Option (Int32 × kS)) (Gc : Int32 → Int32 → kS → Option (Int32 × kS)) (L : Nat) (xs : Nat → Int32) (st : kS) (v2 : Int32) (v6 : Int32) (v7 : Int32) (v8 : Int32) (v9 : Int32) : Option (Int32 × kS) := if v6 ≤ v9 then (K v7 v9 st) else ((fL_cell L xs v2).bind (fun z_6 => fL_ring_J64 K Gc L xs st v2 v6 v7 v8 v9 ((kshr z_6 (8 + (3 * v9))) &&& 7)))
set_option maxRecDepth 100000 in
set_option maxHeartbeats 4000000 in
theorem wL_ring_L39_B {G : kG} {E : kE} {a : Nat → Nat} {b L : Nat} {xs : Nat → Int32} (C : kOk G E cL_ring RL 14 rmfL_ring) {z : Int32 × kS} (Zd : kEnd G E (0, 0) (some .int) (some (.int z.1)) (wL G a z.2)) (X : kScr E b L xs) {K Gc : Int32 → Int32 → kS → Option (Int32 × kS)} (st : kS) (v2 : Int32) (v6 : Int32) (v7 : Int32) (v8 : Int32) (v9 : Int32) (hK : ∀ (u7 : Int32) (u9 : Int32) (su : kS), K u7 u9 su = some z → kX G E (0, 0) (wL G a su) 184 [(0, .ref (a 0)), (1, .ref b), (2, .int v2), (5, .ref (a 32)), (6, .int v6), (7, .int u7)] []) (hG : ∀ (u7 : Int32) (u9 : Int32) (su : kS), Gc u7 u9 su = some z → kX G E (0, 0) (wL G a su) 39 [(0, .ref (a 0)), (1, .ref b), (2, .int v2), (4, .ref (a 31)), (5, .ref (a 32)), (6, .int v6), (7, .int u7), (8, .int v8), (9, .int u9)] []) (h : fL_ring_L39_B K Gc L xs st v2 v6 v7 v8 v9 = some z) : kX G E (0, 0) (wL G a st) 39 [(0, .ref (a 0)), (1, .ref b), (2, .int v2), (4, .ref (a 31)), (5, .ref (a 32)), (6, .int v6), (7, .int v7), (8, .int v8), (9, .int v9)] [] := by
  unfold fL_ring_L39_B at h
  refine x_iload (pc := 39) C 8 dL_ring_39 rfl ?_
  refine x_iload (pc := 41) C 5 dL_ring_41 rfl ?_
  refine x_icmp_ge (pc := 43) C 184 dL_ring_43 (by decide) (fun c_5 => ?_) (fun c_5 => ?_)
  · have h := kIp c_5 h
    refine kX.pick [0, 1, 2, 4, 5, 6] (lv' := [(0, .ref (a 0)), (1, .ref b), (2, .int v2), (5, .ref (a 32)), (6, .int v6), (7, .int v7)]) rfl ?_
    exact hK v7 v9 st h
  · have h := kIn c_5 h
    refine x_aload_n (pc := 46) C 1 dL_ring_46 rfl rfl ?_
    refine x_iload_n (pc := 47) C 2 dL_ring_47 rfl rfl ?_
    obtain ⟨z_6, hz_6, h⟩ := kB h
    refine x_callSS (pc := 48) C X [.ref b, .int v2] (mL_cell G b v2 hz_6) ysL_cell q5_8 ⟨Nat.le_of_ble_eq_true rfl, Nat.le_of_ble_eq_true rfl, rfl, rfl⟩ ⟨Nat.zero_le _, Nat.zero_le _⟩ rfl rfl (Nat.le_of_ble_eq_true rfl) rfl dL_ring_48 ?_
    refine x_bipush (pc := 51) C 8 dL_ring_51 (by decide) ?_
    refine x_iconst (pc := 53) C 3 dL_ring_53 (by decide) ?_
    refine x_iload (pc := 54) C 8 dL_ring_54 rfl ?_
    refine x_imul (pc := 56) C dL_ring_56 ?_
    refine x_iadd (pc := 57) C dL_ring_57 ?_
    refine y_ishr (pc := 58) C dL_ring_58 ?_
    refine x_bipush (pc := 59) C 7 dL_ring_59 (by decide) ?_
    refine x_iand (pc := 61) C dL_ring_61 ?_
    refine x_istore (pc := 62) C (lv' := [(10, .int ((kshr z_6 (8 + (3 * v9))) &&& 7)), (0, .ref (a 0)), (1, .ref b), (2, .int v2), (4, .ref (a 31)), (5, .ref (a 32)), (6, .int v6), (7, .int v7), (8, .int v8), (9, .int v9)]) dL_ring_62 (by decide) rfl ?_
    refine kX.pick [1, 2, 3, 4, 5, 6, 7, 8, 9, 0] (lv' := [(0, .ref (a 0)), (1, .ref b), (2, .int v2), (4, .ref (a 31)), (5, .ref (a 32)), (6, .int v6), (7, .int v7), (8, .int v8), (9, .int v9), (10, .int ((kshr z_6 (8 + (3 * v9))) &&& 7))]) rfl ?_
    exact wL_ring_J64  C Zd X  st v2 v6 v7 v8 v9 ((kshr z_6 (8 + (3 * v9))) &&& 7) hK hG h
def fL_ring_L39 (K : Int32 → Int32 → kS → Option (Int32 × kS)) (L : Nat) (xs : Nat → Int32) (v2 : Int32) (v6 : Int32) (v8 : Int32) : Nat → Int32 → Int32 → kS → Option (Int32 × kS)
  | 0, _, _, _ => none
  | F + 1, v7, v9, st => fL_ring_L39_B K (fL_ring_L39 K L xs v2 v6 v8 F) L xs st v2 v6 v7 v8 v9
set_option maxRecDepth 100000 in
set_option maxHeartbeats 4000000 in
theorem wL_ring_L39 {G : kG} {E : kE} {a : Nat → Nat} {b L : Nat} {xs : Nat → Int32} (C : kOk G E cL_ring RL 14 rmfL_ring) {z : Int32 × kS} (Zd : kEnd G E (0, 0) (some .int) (some (.int z.1)) (wL G a z.2)) (X : kScr E b L xs) {K : Int32 → Int32 → kS → Option (Int32 × kS)} (v2 : Int32) (v6 : Int32) (v8 : Int32) (hK : ∀ (u7 : Int32) (u9 : Int32) (su : kS), K u7 u9 su = some z → kX G E (0, 0) (wL G a su) 184 [(0, .ref (a 0)), (1, .ref b), (2, .int v2), (5, .ref (a 32)), (6, .int v6), (7, .int u7)] []) : ∀ (F : Nat) (v7 : Int32) (v9 : Int32) (st : kS), fL_ring_L39 K L xs v2 v6 v8 F v7 v9 st = some z → kX G E (0, 0) (wL G a st) 39 [(0, .ref (a 0)), (1, .ref b), (2, .int v2), (4, .ref (a 31)), (5, .ref (a 32)), (6, .int v6), (7, .int v7), (8, .int v8), (9, .int v9)] [] := by
  intro F
  induction F with
  | zero =>
    intro v7 v9 st h
    exact absurd (show none = some z from h) (fun q => by cases q)
  | succ F ih =>
    intro v7 v9 st h
    exact wL_ring_L39_B  C Zd X  st v2 v6 v7 v8 v9 hK (fun v7 v9 st h => ih v7 v9 st h) h
def fL_ring_J307 (K : Int32 → Int32 → kS → Option (Int32 × kS)) (Gc : Int32 → Int32 → kS → Option (Int32 × kS)) (L : Nat) (xs : Nat → Int32) (st : kS) (v2 : Int32) (v6 : Int32) (v9 : Int32) (v10 : Int32) (v12 : Int32) (v13 : Int32) (s0 : Int32) : Option (Int32 × kS) := (fL_put st s0).bind (fun z_42 => if z_42.1 = 0 then (Gc 0 (v10 + 1) z_42.2) else ((fL_put z_42.2 (48 + v12)).bind (fun z_44 => if z_44.1 = 0 then (Gc 0 (v10 + 1) z_44.2) else ((fL_put z_44.2 (48 + v13)).bind (fun z_46 => if z_46.1 = 0 then (Gc 0 (v10 + 1) z_46.2) else (Gc 1 (v10 + 1) z_46.2))))))
set_option maxRecDepth 100000 in
set_option maxHeartbeats 4000000 in
theorem wL_ring_J307 {G : kG} {E : kE} {a : Nat → Nat} {b L : Nat} {xs : Nat → Int32} (C : kOk G E cL_ring RL 14 rmfL_ring) {z : Int32 × kS} (Zd : kEnd G E (0, 0) (some .int) (some (.int z.1)) (wL G a z.2)) (X : kScr E b L xs) {K Gc : Int32 → Int32 → kS → Option (Int32 × kS)} (st : kS) (v2 : Int32) (v6 : Int32) (v9 : Int32) (v10 : Int32) (v12 : Int32) (v13 : Int32) (s0 : Int32) (hK : ∀ (u7 : Int32) (u10 : Int32) (su : kS), K u7 u10 su = some z → kX G E (0, 0) (wL G a su) 350 [(0, .ref (a 0)), (6, .int v6), (7, .int u7)] []) (hG : ∀ (u7 : Int32) (u10 : Int32) (su : kS), Gc u7 u10 su = some z → kX G E (0, 0) (wL G a su) 199 [(0, .ref (a 0)), (1, .ref b), (2, .int v2), (5, .ref (a 32)), (6, .int v6), (7, .int u7), (9, .int v9), (10, .int u10)] []) (h : fL_ring_J307 K Gc L xs st v2 v6 v9 v10 v12 v13 s0 = some z) : kX G E (0, 0) (wL G a st) 307 [(0, .ref (a 0)), (1, .ref b), (2, .int v2), (5, .ref (a 32)), (6, .int v6), (9, .int v9), (10, .int v10), (12, .int v12), (13, .int v13)] [.int s0, .ref (a 0)] := by
  unfold fL_ring_J307 at h
  obtain ⟨z_42, hz_42, h⟩ := kB h
  refine x_callS (pc := 307) C [.ref (a 0), .int s0] (mL_put G a st s0 hz_42) ysL_put q5_12 ⟨Nat.le_of_ble_eq_true rfl, Nat.le_of_ble_eq_true rfl, rfl, rfl⟩ ⟨Nat.zero_le _, Nat.zero_le _⟩ rfl rfl (Nat.le_of_ble_eq_true rfl) rfl dL_ring_307 ?_
  refine x_if_eq (pc := 310) C 341 dL_ring_310 (by decide) (fun c_43 => ?_) (fun c_43 => ?_)
  · have h := kIp c_43 h
    refine x_iconst (pc := 341) C 0 dL_ring_341 (by decide) ?_
    refine x_istore (pc := 342) C (lv' := [(7, .int 0), (0, .ref (a 0)), (1, .ref b), (2, .int v2), (5, .ref (a 32)), (6, .int v6), (9, .int v9), (10, .int v10), (12, .int v12), (13, .int v13)]) dL_ring_342 (by decide) rfl ?_
    refine x_iinc (pc := 344) C 7 (v := v10 + 1) (lv' := [(10, .int (v10 + 1)), (7, .int 0), (0, .ref (a 0)), (1, .ref b), (2, .int v2), (5, .ref (a 32)), (6, .int v6), (9, .int v9), (12, .int v12), (13, .int v13)]) dL_ring_344 rfl rfl (by decide) rfl ?_
    refine x_goto (pc := 347) C 199 dL_ring_347 (by decide) ?_
    refine kX.pick [2, 3, 4, 5, 6, 1, 7, 0] (lv' := [(0, .ref (a 0)), (1, .ref b), (2, .int v2), (5, .ref (a 32)), (6, .int v6), (7, .int 0), (9, .int v9), (10, .int (v10 + 1))]) rfl ?_
    exact hG 0 (v10 + 1) z_42.2 h
  · have h := kIn c_43 h
    refine x_aload_n (pc := 313) C 0 dL_ring_313 rfl rfl ?_
    refine x_bipush (pc := 314) C 48 dL_ring_314 (by decide) ?_
    refine x_iload (pc := 316) C 7 dL_ring_316 rfl ?_
    refine x_iadd (pc := 318) C dL_ring_318 ?_
    obtain ⟨z_44, hz_44, h⟩ := kB h
    refine x_callS (pc := 319) C [.ref (a 0), .int (48 + v12)] (mL_put G a z_42.2 (48 + v12) hz_44) ysL_put q5_12 ⟨Nat.le_of_ble_eq_true rfl, Nat.le_of_ble_eq_true rfl, rfl, rfl⟩ ⟨Nat.zero_le _, Nat.zero_le _⟩ rfl rfl (Nat.le_of_ble_eq_true rfl) rfl dL_ring_319 ?_
    refine x_if_eq (pc := 322) C 341 dL_ring_322 (by decide) (fun c_45 => ?_) (fun c_45 => ?_)
    · have h := kIp c_45 h
      refine x_iconst (pc := 341) C 0 dL_ring_341 (by decide) ?_
      refine x_istore (pc := 342) C (lv' := [(7, .int 0), (0, .ref (a 0)), (1, .ref b), (2, .int v2), (5, .ref (a 32)), (6, .int v6), (9, .int v9), (10, .int v10), (12, .int v12), (13, .int v13)]) dL_ring_342 (by decide) rfl ?_
      refine x_iinc (pc := 344) C 7 (v := v10 + 1) (lv' := [(10, .int (v10 + 1)), (7, .int 0), (0, .ref (a 0)), (1, .ref b), (2, .int v2), (5, .ref (a 32)), (6, .int v6), (9, .int v9), (12, .int v12), (13, .int v13)]) dL_ring_344 rfl rfl (by decide) rfl ?_
      refine x_goto (pc := 347) C 199 dL_ring_347 (by decide) ?_
      refine kX.pick [2, 3, 4, 5, 6, 1, 7, 0] (lv' := [(0, .ref (a 0)), (1, .ref b), (2, .int v2), (5, .ref (a 32)), (6, .int v6), (7, .int 0), (9, .int v9), (10, .int (v10 + 1))]) rfl ?_
      exact hG 0 (v10 + 1) z_44.2 h
    · have h := kIn c_45 h
      refine x_aload_n (pc := 325) C 0 dL_ring_325 rfl rfl ?_
      refine x_bipush (pc := 326) C 48 dL_ring_326 (by decide) ?_
      refine x_iload (pc := 328) C 8 dL_ring_328 rfl ?_
      refine x_iadd (pc := 330) C dL_ring_330 ?_
      obtain ⟨z_46, hz_46, h⟩ := kB h
      refine x_callS (pc := 331) C [.ref (a 0), .int (48 + v13)] (mL_put G a z_44.2 (48 + v13) hz_46) ysL_put q5_12 ⟨Nat.le_of_ble_eq_true rfl, Nat.le_of_ble_eq_true rfl, rfl, rfl⟩ ⟨Nat.zero_le _, Nat.zero_le _⟩ rfl rfl (Nat.le_of_ble_eq_true rfl) rfl dL_ring_331 ?_
      refine x_if_eq (pc := 334) C 341 dL_ring_334 (by decide) (fun c_47 => ?_) (fun c_47 => ?_)
      · have h := kIp c_47 h
        refine x_iconst (pc := 341) C 0 dL_ring_341 (by decide) ?_
        refine x_istore (pc := 342) C (lv' := [(7, .int 0), (0, .ref (a 0)), (1, .ref b), (2, .int v2), (5, .ref (a 32)), (6, .int v6), (9, .int v9), (10, .int v10), (12, .int v12), (13, .int v13)]) dL_ring_342 (by decide) rfl ?_
        refine x_iinc (pc := 344) C 7 (v := v10 + 1) (lv' := [(10, .int (v10 + 1)), (7, .int 0), (0, .ref (a 0)), (1, .ref b), (2, .int v2), (5, .ref (a 32)), (6, .int v6), (9, .int v9), (12, .int v12), (13, .int v13)]) dL_ring_344 rfl rfl (by decide) rfl ?_
        refine x_goto (pc := 347) C 199 dL_ring_347 (by decide) ?_
        refine kX.pick [2, 3, 4, 5, 6, 1, 7, 0] (lv' := [(0, .ref (a 0)), (1, .ref b), (2, .int v2), (5, .ref (a 32)), (6, .int v6), (7, .int 0), (9, .int v9), (10, .int (v10 + 1))]) rfl ?_
        exact hG 0 (v10 + 1) z_46.2 h
      · have h := kIn c_47 h
        refine x_iconst (pc := 337) C 1 dL_ring_337 (by decide) ?_
        refine x_goto (pc := 338) C 342 dL_ring_338 (by decide) ?_
        refine x_istore (pc := 342) C (lv' := [(7, .int 1), (0, .ref (a 0)), (1, .ref b), (2, .int v2), (5, .ref (a 32)), (6, .int v6), (9, .int v9), (10, .int v10), (12, .int v12), (13, .int v13)]) dL_ring_342 (by decide) rfl ?_
        refine x_iinc (pc := 344) C 7 (v := v10 + 1) (lv' := [(10, .int (v10 + 1)), (7, .int 1), (0, .ref (a 0)), (1, .ref b), (2, .int v2), (5, .ref (a 32)), (6, .int v6), (9, .int v9), (12, .int v12), (13, .int v13)]) dL_ring_344 rfl rfl (by decide) rfl ?_
        refine x_goto (pc := 347) C 199 dL_ring_347 (by decide) ?_
        refine kX.pick [2, 3, 4, 5, 6, 1, 7, 0] (lv' := [(0, .ref (a 0)), (1, .ref b), (2, .int v2), (5, .ref (a 32)), (6, .int v6), (7, .int 1), (9, .int v9), (10, .int (v10 + 1))]) rfl ?_
        exact hG 1 (v10 + 1) z_46.2 h
def fL_ring_J289 (K : Int32 → Int32 → kS → Option (Int32 × kS)) (Gc : Int32 → Int32 → kS → Option (Int32 × kS)) (L : Nat) (xs : Nat → Int32) (st : kS) (v2 : Int32) (v6 : Int32) (v7 : Int32) (v9 : Int32) (v10 : Int32) (v12 : Int32) (v13 : Int32) : Option (Int32 × kS) := if v7 = 0 then (Gc 0 (v10 + 1) st) else (if v10 = 0 then (fL_ring_J307 K Gc L xs st v2 v6 v9 v10 v12 v13 59) else (fL_ring_J307 K Gc L xs st v2 v6 v9 v10 v12 v13 44))
set_option maxRecDepth 100000 in
set_option maxHeartbeats 4000000 in
theorem wL_ring_J289 {G : kG} {E : kE} {a : Nat → Nat} {b L : Nat} {xs : Nat → Int32} (C : kOk G E cL_ring RL 14 rmfL_ring) {z : Int32 × kS} (Zd : kEnd G E (0, 0) (some .int) (some (.int z.1)) (wL G a z.2)) (X : kScr E b L xs) {K Gc : Int32 → Int32 → kS → Option (Int32 × kS)} (st : kS) (v2 : Int32) (v6 : Int32) (v7 : Int32) (v9 : Int32) (v10 : Int32) (v12 : Int32) (v13 : Int32) (hK : ∀ (u7 : Int32) (u10 : Int32) (su : kS), K u7 u10 su = some z → kX G E (0, 0) (wL G a su) 350 [(0, .ref (a 0)), (6, .int v6), (7, .int u7)] []) (hG : ∀ (u7 : Int32) (u10 : Int32) (su : kS), Gc u7 u10 su = some z → kX G E (0, 0) (wL G a su) 199 [(0, .ref (a 0)), (1, .ref b), (2, .int v2), (5, .ref (a 32)), (6, .int v6), (7, .int u7), (9, .int v9), (10, .int u10)] []) (h : fL_ring_J289 K Gc L xs st v2 v6 v7 v9 v10 v12 v13 = some z) : kX G E (0, 0) (wL G a st) 289 [(0, .ref (a 0)), (1, .ref b), (2, .int v2), (5, .ref (a 32)), (6, .int v6), (7, .int v7), (9, .int v9), (10, .int v10), (12, .int v12), (13, .int v13)] [] := by
  unfold fL_ring_J289 at h
  refine x_iload (pc := 289) C 5 dL_ring_289 rfl ?_
  refine x_if_eq (pc := 291) C 341 dL_ring_291 (by decide) (fun c_40 => ?_) (fun c_40 => ?_)
  · have h := kIp c_40 h
    refine x_iconst (pc := 341) C 0 dL_ring_341 (by decide) ?_
    refine x_istore (pc := 342) C (lv' := [(7, .int 0), (0, .ref (a 0)), (1, .ref b), (2, .int v2), (5, .ref (a 32)), (6, .int v6), (9, .int v9), (10, .int v10), (12, .int v12), (13, .int v13)]) dL_ring_342 (by decide) rfl ?_
    refine x_iinc (pc := 344) C 7 (v := v10 + 1) (lv' := [(10, .int (v10 + 1)), (7, .int 0), (0, .ref (a 0)), (1, .ref b), (2, .int v2), (5, .ref (a 32)), (6, .int v6), (9, .int v9), (12, .int v12), (13, .int v13)]) dL_ring_344 rfl rfl (by decide) rfl ?_
    refine x_goto (pc := 347) C 199 dL_ring_347 (by decide) ?_
    refine kX.pick [2, 3, 4, 5, 6, 1, 7, 0] (lv' := [(0, .ref (a 0)), (1, .ref b), (2, .int v2), (5, .ref (a 32)), (6, .int v6), (7, .int 0), (9, .int v9), (10, .int (v10 + 1))]) rfl ?_
    exact hG 0 (v10 + 1) st h
  · have h := kIn c_40 h
    refine x_aload_n (pc := 294) C 0 dL_ring_294 rfl rfl ?_
    refine x_iload (pc := 295) C 7 dL_ring_295 rfl ?_
    refine x_if_ne (pc := 297) C 305 dL_ring_297 (by decide) (fun c_41 => ?_) (fun c_41 => ?_)
    · have h := kIn c_41 h
      refine x_bipush (pc := 305) C 44 dL_ring_305 (by decide) ?_
      refine kX.pick [0, 1, 2, 3, 4, 6, 7, 8, 9] (lv' := [(0, .ref (a 0)), (1, .ref b), (2, .int v2), (5, .ref (a 32)), (6, .int v6), (9, .int v9), (10, .int v10), (12, .int v12), (13, .int v13)]) rfl ?_
      exact wL_ring_J307  C Zd X  st v2 v6 v9 v10 v12 v13 44 hK hG h
    · have h := kIp c_41 h
      refine x_bipush (pc := 300) C 59 dL_ring_300 (by decide) ?_
      refine x_goto (pc := 302) C 307 dL_ring_302 (by decide) ?_
      refine kX.pick [0, 1, 2, 3, 4, 6, 7, 8, 9] (lv' := [(0, .ref (a 0)), (1, .ref b), (2, .int v2), (5, .ref (a 32)), (6, .int v6), (9, .int v9), (10, .int v10), (12, .int v12), (13, .int v13)]) rfl ?_
      exact wL_ring_J307  C Zd X  st v2 v6 v9 v10 v12 v13 59 hK hG h
def fL_ring_J265 (K : Int32 → Int32 → kS → Option (Int32 × kS)) (Gc : Int32 → Int32 → kS → Option (Int32 × kS)) (L : Nat) (xs : Nat → Int32) (st : kS) (v2 : Int32) (v6 : Int32) (v7 : Int32) (v9 : Int32) (v10 : Int32) (v12 : Int32) (v13 : Int32) : Option (Int32 × kS) := (ka 6 (gA st 32) v12).bind (fun x_34 => if v12 < 0 ∨ 6 ≤ v12.toNatClampNeg then none else (ka 6 (upd (gA st 32) v12.toNatClampNeg (x_34 ||| (kshl 1 v13))) v13).bind (fun x_37 => if v13 < 0 ∨ 6 ≤ v13.toNatClampNeg then none else fL_ring_J289 K Gc L xs (sA (sA st 32 (upd (gA st 32) v12.toNatClampNeg (x_34 ||| (kshl 1 v13)))) 32 (upd (upd (gA st 32) v12.toNatClampNeg (x_34 ||| (kshl 1 v13))) v13.toNatClampNeg (x_37 ||| (kshl 1 v12)))) v2 v6 v7 v9 v10 v12 v13))
set_option maxRecDepth 100000 in
set_option maxHeartbeats 4000000 in
theorem wL_ring_J265 {G : kG} {E : kE} {a : Nat → Nat} {b L : Nat} {xs : Nat → Int32} (C : kOk G E cL_ring RL 14 rmfL_ring) {z : Int32 × kS} (Zd : kEnd G E (0, 0) (some .int) (some (.int z.1)) (wL G a z.2)) (X : kScr E b L xs) {K Gc : Int32 → Int32 → kS → Option (Int32 × kS)} (st : kS) (v2 : Int32) (v6 : Int32) (v7 : Int32) (v9 : Int32) (v10 : Int32) (v12 : Int32) (v13 : Int32) (hK : ∀ (u7 : Int32) (u10 : Int32) (su : kS), K u7 u10 su = some z → kX G E (0, 0) (wL G a su) 350 [(0, .ref (a 0)), (6, .int v6), (7, .int u7)] []) (hG : ∀ (u7 : Int32) (u10 : Int32) (su : kS), Gc u7 u10 su = some z → kX G E (0, 0) (wL G a su) 199 [(0, .ref (a 0)), (1, .ref b), (2, .int v2), (5, .ref (a 32)), (6, .int v6), (7, .int u7), (9, .int v9), (10, .int u10)] []) (h : fL_ring_J265 K Gc L xs st v2 v6 v7 v9 v10 v12 v13 = some z) : kX G E (0, 0) (wL G a st) 265 [(0, .ref (a 0)), (1, .ref b), (2, .int v2), (5, .ref (a 32)), (6, .int v6), (7, .int v7), (9, .int v9), (10, .int v10), (12, .int v12), (13, .int v13)] [] := by
  unfold fL_ring_J265 at h
  refine x_aload (pc := 265) C 3 dL_ring_265 rfl ?_
  refine x_iload (pc := 267) C 8 dL_ring_267 rfl ?_
  refine x_dup2 (pc := 269) C dL_ring_269 rfl rfl ?_
  obtain ⟨x_34, hx_34, h⟩ := kB h
  obtain ⟨hi_35, hx_34⟩ := ka_some hx_34
  refine y_iald (pc := 270) C 32 (lwL_A32 G a rfl) hi_35 hx_34 dL_ring_270 ?_
  refine x_iconst (pc := 271) C 1 dL_ring_271 (by decide) ?_
  refine x_iload (pc := 272) C 9 dL_ring_272 rfl ?_
  refine y_ishl (pc := 274) C dL_ring_274 ?_
  refine x_ior (pc := 275) C dL_ring_275 ?_
  obtain ⟨hi_36, h⟩ := kGn h
  refine x_iast (pc := 276) C 32 (lwL_A32 G a rfl) hi_36 (swL_A32 G a _ _) dL_ring_276 ?_
  refine x_aload (pc := 277) C 3 dL_ring_277 rfl ?_
  refine x_iload (pc := 279) C 9 dL_ring_279 rfl ?_
  refine x_dup2 (pc := 281) C dL_ring_281 rfl rfl ?_
  obtain ⟨x_37, hx_37, h⟩ := kB h
  obtain ⟨hi_38, hx_37⟩ := ka_some hx_37
  refine y_iald (pc := 282) C 32 (lwL_A32 G a (gA_e _ _ _)) hi_38 hx_37 dL_ring_282 ?_
  refine x_iconst (pc := 283) C 1 dL_ring_283 (by decide) ?_
  refine x_iload (pc := 284) C 8 dL_ring_284 rfl ?_
  refine y_ishl (pc := 286) C dL_ring_286 ?_
  refine x_ior (pc := 287) C dL_ring_287 ?_
  obtain ⟨hi_39, h⟩ := kGn h
  refine x_iast (pc := 288) C 32 (lwL_A32 G a (gA_e _ _ _)) hi_39 (swL_A32 G a _ _) dL_ring_288 ?_
  exact wL_ring_J289  C Zd X  (sA (sA st 32 (upd (gA st 32) v12.toNatClampNeg (x_34 ||| (kshl 1 v13)))) 32 (upd (upd (gA st 32) v12.toNatClampNeg (x_34 ||| (kshl 1 v13))) v13.toNatClampNeg (x_37 ||| (kshl 1 v12)))) v2 v6 v7 v9 v10 v12 v13 hK hG h
def fL_ring_J238 (K : Int32 → Int32 → kS → Option (Int32 × kS)) (Gc : Int32 → Int32 → kS → Option (Int32 × kS)) (L : Nat) (xs : Nat → Int32) (st : kS) (v2 : Int32) (v6 : Int32) (v7 : Int32) (v9 : Int32) (v10 : Int32) (v11 : Int32) : Option (Int32 × kS) := if v6 = 0 then none else if (v6 - 1) = 0 then none else fL_ring_J265 K Gc L xs st v2 v6 v7 v9 v10 (kr v11 v6) (kr (((kr v11 v6) + 1) + (kr (v11 / 8) (v6 - 1))) v6)
set_option maxRecDepth 100000 in
set_option maxHeartbeats 4000000 in
theorem wL_ring_J238 {G : kG} {E : kE} {a : Nat → Nat} {b L : Nat} {xs : Nat → Int32} (C : kOk G E cL_ring RL 14 rmfL_ring) {z : Int32 × kS} (Zd : kEnd G E (0, 0) (some .int) (some (.int z.1)) (wL G a z.2)) (X : kScr E b L xs) {K Gc : Int32 → Int32 → kS → Option (Int32 × kS)} (st : kS) (v2 : Int32) (v6 : Int32) (v7 : Int32) (v9 : Int32) (v10 : Int32) (v11 : Int32) (hK : ∀ (u7 : Int32) (u10 : Int32) (su : kS), K u7 u10 su = some z → kX G E (0, 0) (wL G a su) 350 [(0, .ref (a 0)), (6, .int v6), (7, .int u7)] []) (hG : ∀ (u7 : Int32) (u10 : Int32) (su : kS), Gc u7 u10 su = some z → kX G E (0, 0) (wL G a su) 199 [(0, .ref (a 0)), (1, .ref b), (2, .int v2), (5, .ref (a 32)), (6, .int v6), (7, .int u7), (9, .int v9), (10, .int u10)] []) (h : fL_ring_J238 K Gc L xs st v2 v6 v7 v9 v10 v11 = some z) : kX G E (0, 0) (wL G a st) 238 [(0, .ref (a 0)), (1, .ref b), (2, .int v2), (5, .ref (a 32)), (6, .int v6), (7, .int v7), (9, .int v9), (10, .int v10), (11, .int v11)] [] := by
  unfold fL_ring_J238 at h
  refine x_iload (pc := 238) C 8 dL_ring_238 rfl ?_
  refine x_iload (pc := 240) C 4 dL_ring_240 rfl ?_
  obtain ⟨c_32, h⟩ := kGd h
  refine y_irem (pc := 242) C dL_ring_242 c_32 ?_
  refine x_istore (pc := 243) C (lv' := [(12, .int (kr v11 v6)), (0, .ref (a 0)), (1, .ref b), (2, .int v2), (5, .ref (a 32)), (6, .int v6), (7, .int v7), (9, .int v9), (10, .int v10), (11, .int v11)]) dL_ring_243 (by decide) rfl ?_
  refine x_iload (pc := 245) C 0 dL_ring_245 rfl ?_
  refine x_iconst (pc := 247) C 1 dL_ring_247 (by decide) ?_
  refine x_iadd (pc := 248) C dL_ring_248 ?_
  refine x_iload (pc := 249) C 9 dL_ring_249 rfl ?_
  refine x_bipush (pc := 251) C 8 dL_ring_251 (by decide) ?_
  refine y_idiv (pc := 253) C dL_ring_253 (by decide) ?_
  refine x_iload (pc := 254) C 5 dL_ring_254 rfl ?_
  refine x_iconst (pc := 256) C 1 dL_ring_256 (by decide) ?_
  refine x_isub (pc := 257) C dL_ring_257 ?_
  obtain ⟨c_33, h⟩ := kGd h
  refine y_irem (pc := 258) C dL_ring_258 c_33 ?_
  refine x_iadd (pc := 259) C dL_ring_259 ?_
  refine x_iload (pc := 260) C 5 dL_ring_260 rfl ?_
  refine y_irem (pc := 262) C dL_ring_262 c_32 ?_
  refine x_istore (pc := 263) C (lv' := [(13, .int (kr (((kr v11 v6) + 1) + (kr (v11 / 8) (v6 - 1))) v6)), (12, .int (kr v11 v6)), (0, .ref (a 0)), (1, .ref b), (2, .int v2), (5, .ref (a 32)), (6, .int v6), (7, .int v7), (9, .int v9), (10, .int v10), (11, .int v11)]) dL_ring_263 (by decide) rfl ?_
  refine kX.pick [2, 3, 4, 5, 6, 7, 8, 9, 1, 0] (lv' := [(0, .ref (a 0)), (1, .ref b), (2, .int v2), (5, .ref (a 32)), (6, .int v6), (7, .int v7), (9, .int v9), (10, .int v10), (12, .int (kr v11 v6)), (13, .int (kr (((kr v11 v6) + 1) + (kr (v11 / 8) (v6 - 1))) v6))]) rfl ?_
  exact wL_ring_J265  C Zd X  st v2 v6 v7 v9 v10 (kr v11 v6) (kr (((kr v11 v6) + 1) + (kr (v11 / 8) (v6 - 1))) v6) hK hG h
def fL_ring_L199_B (K : Int32 → Int32 → kS → Option (Int32 × kS)) (Gc : Int32 → Int32 → kS → Option (Int32 × kS)) (L : Nat) (xs : Nat → Int32) (st : kS) (v2 : Int32) (v6 : Int32) (v7 : Int32) (v9 : Int32) (v10 : Int32) : Option (Int32 × kS) := if v9 ≤ v10 then (K v7 v10 st) else ((fL_cell L xs (v2 + 1)).bind (fun z_30 => (fL_cell L xs (v2 + 1)).bind (fun z_31 => fL_ring_J238 K Gc L xs st v2 v6 v7 v9 v10 ((z_30 / 8) + ((7919 * v10) * (1 + (kr z_31 61)))))))
set_option maxRecDepth 100000 in
set_option maxHeartbeats 4000000 in
theorem wL_ring_L199_B {G : kG} {E : kE} {a : Nat → Nat} {b L : Nat} {xs : Nat → Int32} (C : kOk G E cL_ring RL 14 rmfL_ring) {z : Int32 × kS} (Zd : kEnd G E (0, 0) (some .int) (some (.int z.1)) (wL G a z.2)) (X : kScr E b L xs) {K Gc : Int32 → Int32 → kS → Option (Int32 × kS)} (st : kS) (v2 : Int32) (v6 : Int32) (v7 : Int32) (v9 : Int32) (v10 : Int32) (hK : ∀ (u7 : Int32) (u10 : Int32) (su : kS), K u7 u10 su = some z → kX G E (0, 0) (wL G a su) 350 [(0, .ref (a 0)), (6, .int v6), (7, .int u7)] []) (hG : ∀ (u7 : Int32) (u10 : Int32) (su : kS), Gc u7 u10 su = some z → kX G E (0, 0) (wL G a su) 199 [(0, .ref (a 0)), (1, .ref b), (2, .int v2), (5, .ref (a 32)), (6, .int v6), (7, .int u7), (9, .int v9), (10, .int u10)] []) (h : fL_ring_L199_B K Gc L xs st v2 v6 v7 v9 v10 = some z) : kX G E (0, 0) (wL G a st) 199 [(0, .ref (a 0)), (1, .ref b), (2, .int v2), (5, .ref (a 32)), (6, .int v6), (7, .int v7), (9, .int v9), (10, .int v10)] [] := by
  unfold fL_ring_L199_B at h
  refine x_iload (pc := 199) C 7 dL_ring_199 rfl ?_
  refine x_iload (pc := 201) C 6 dL_ring_201 rfl ?_
  refine x_icmp_ge (pc := 203) C 350 dL_ring_203 (by decide) (fun c_29 => ?_) (fun c_29 => ?_)
  · have h := kIp c_29 h
    refine kX.pick [0, 4, 5] (lv' := [(0, .ref (a 0)), (6, .int v6), (7, .int v7)]) rfl ?_
    exact hK v7 v10 st h
  · have h := kIn c_29 h
    refine x_aload_n (pc := 206) C 1 dL_ring_206 rfl rfl ?_
    refine x_iload_n (pc := 207) C 2 dL_ring_207 rfl rfl ?_
    refine x_iconst (pc := 208) C 1 dL_ring_208 (by decide) ?_
    refine x_iadd (pc := 209) C dL_ring_209 ?_
    obtain ⟨z_30, hz_30, h⟩ := kB h
    refine x_callSS (pc := 210) C X [.ref b, .int (v2 + 1)] (mL_cell G b (v2 + 1) hz_30) ysL_cell q5_8 ⟨Nat.le_of_ble_eq_true rfl, Nat.le_of_ble_eq_true rfl, rfl, rfl⟩ ⟨Nat.zero_le _, Nat.zero_le _⟩ rfl rfl (Nat.le_of_ble_eq_true rfl) rfl dL_ring_210 ?_
    refine x_bipush (pc := 213) C 8 dL_ring_213 (by decide) ?_
    refine y_idiv (pc := 215) C dL_ring_215 (by decide) ?_
    refine x_sipush (pc := 216) C 7919 dL_ring_216 (by decide) ?_
    refine x_iload (pc := 219) C 7 dL_ring_219 rfl ?_
    refine x_imul (pc := 221) C dL_ring_221 ?_
    refine x_iconst (pc := 222) C 1 dL_ring_222 (by decide) ?_
    refine x_aload_n (pc := 223) C 1 dL_ring_223 rfl rfl ?_
    refine x_iload_n (pc := 224) C 2 dL_ring_224 rfl rfl ?_
    refine x_iconst (pc := 225) C 1 dL_ring_225 (by decide) ?_
    refine x_iadd (pc := 226) C dL_ring_226 ?_
    obtain ⟨z_31, hz_31, h⟩ := kB h
    refine x_callSS (pc := 227) C X [.ref b, .int (v2 + 1)] (mL_cell G b (v2 + 1) hz_31) ysL_cell q5_8 ⟨Nat.le_of_ble_eq_true rfl, Nat.le_of_ble_eq_true rfl, rfl, rfl⟩ ⟨Nat.zero_le _, Nat.zero_le _⟩ rfl rfl (Nat.le_of_ble_eq_true rfl) rfl dL_ring_227 ?_
    refine x_bipush (pc := 230) C 61 dL_ring_230 (by decide) ?_
    refine y_irem (pc := 232) C dL_ring_232 (by decide) ?_
    refine x_iadd (pc := 233) C dL_ring_233 ?_
    refine x_imul (pc := 234) C dL_ring_234 ?_
    refine x_iadd (pc := 235) C dL_ring_235 ?_
    refine x_istore (pc := 236) C (lv' := [(11, .int ((z_30 / 8) + ((7919 * v10) * (1 + (kr z_31 61))))), (0, .ref (a 0)), (1, .ref b), (2, .int v2), (5, .ref (a 32)), (6, .int v6), (7, .int v7), (9, .int v9), (10, .int v10)]) dL_ring_236 (by decide) rfl ?_
    refine kX.pick [1, 2, 3, 4, 5, 6, 7, 8, 0] (lv' := [(0, .ref (a 0)), (1, .ref b), (2, .int v2), (5, .ref (a 32)), (6, .int v6), (7, .int v7), (9, .int v9), (10, .int v10), (11, .int ((z_30 / 8) + ((7919 * v10) * (1 + (kr z_31 61)))))]) rfl ?_
    exact wL_ring_J238  C Zd X  st v2 v6 v7 v9 v10 ((z_30 / 8) + ((7919 * v10) * (1 + (kr z_31 61)))) hK hG h
def fL_ring_L199 (K : Int32 → Int32 → kS → Option (Int32 × kS)) (L : Nat) (xs : Nat → Int32) (v2 : Int32) (v6 : Int32) (v9 : Int32) : Nat → Int32 → Int32 → kS → Option (Int32 × kS)
  | 0, _, _, _ => none
  | F + 1, v7, v10, st => fL_ring_L199_B K (fL_ring_L199 K L xs v2 v6 v9 F) L xs st v2 v6 v7 v9 v10
set_option maxRecDepth 100000 in
set_option maxHeartbeats 4000000 in
theorem wL_ring_L199 {G : kG} {E : kE} {a : Nat → Nat} {b L : Nat} {xs : Nat → Int32} (C : kOk G E cL_ring RL 14 rmfL_ring) {z : Int32 × kS} (Zd : kEnd G E (0, 0) (some .int) (some (.int z.1)) (wL G a z.2)) (X : kScr E b L xs) {K : Int32 → Int32 → kS → Option (Int32 × kS)} (v2 : Int32) (v6 : Int32) (v9 : Int32) (hK : ∀ (u7 : Int32) (u10 : Int32) (su : kS), K u7 u10 su = some z → kX G E (0, 0) (wL G a su) 350 [(0, .ref (a 0)), (6, .int v6), (7, .int u7)] []) : ∀ (F : Nat) (v7 : Int32) (v10 : Int32) (st : kS), fL_ring_L199 K L xs v2 v6 v9 F v7 v10 st = some z → kX G E (0, 0) (wL G a st) 199 [(0, .ref (a 0)), (1, .ref b), (2, .int v2), (5, .ref (a 32)), (6, .int v6), (7, .int v7), (9, .int v9), (10, .int v10)] [] := by
  intro F
  induction F with
  | zero =>
    intro v7 v10 st h
    exact absurd (show none = some z from h) (fun q => by cases q)
  | succ F ih =>
    intro v7 v10 st h
    exact wL_ring_L199_B  C Zd X  st v2 v6 v7 v9 v10 hK (fun v7 v10 st h => ih v7 v10 st h) h
def fL_ring_J350 (L : Nat) (xs : Nat → Int32) (st : kS) (v6 : Int32) (v7 : Int32) : Option (Int32 × kS) := if v7 = 0 then (some ((-1), st)) else ((fX9_fault st 0).bind (fun z_52 => if z_52 = (fX9_count st 4) then ((fX9_ring st).bind (fun z_54 => if z_54.1 = v6 then (some (v6, (kJ st z_54.2))) else (some ((-1), (kJ st z_54.2))))) else (some ((-1), st))))
set_option maxRecDepth 100000 in
set_option maxHeartbeats 4000000 in
theorem wL_ring_J350 {G : kG} {E : kE} {a : Nat → Nat} {b L : Nat} {xs : Nat → Int32} (C : kOk G E cL_ring RL 14 rmfL_ring) {z : Int32 × kS} (Zd : kEnd G E (0, 0) (some .int) (some (.int z.1)) (wL G a z.2)) (X : kScr E b L xs) (st : kS) (v6 : Int32) (v7 : Int32) (h : fL_ring_J350 L xs st v6 v7 = some z) : kX G E (0, 0) (wL G a st) 350 [(0, .ref (a 0)), (6, .int v6), (7, .int v7)] [] := by
  unfold fL_ring_J350 at h
  refine x_iload (pc := 350) C 2 dL_ring_350 rfl ?_
  refine x_if_eq (pc := 352) C 382 dL_ring_352 (by decide) (fun c_51 => ?_) (fun c_51 => ?_)
  · have h := kIp c_51 h
    refine x_iconst (pc := 382) C (-1) dL_ring_382 (by decide) ?_
    obtain rfl := Option.some.inj h
    exact x_iret (pc := 383) C Zd dL_ring_383
  · have h := kIn c_51 h
    refine x_aload_n (pc := 355) C 0 dL_ring_355 rfl rfl ?_
    refine x_iconst (pc := 356) C 0 dL_ring_356 (by decide) ?_
    obtain ⟨z_52, hz_52, h⟩ := kB h
    refine x_callVL0 (pc := 357) C st [.int 0] (mX9_fault G a st 0 hz_52) yvX9_fault q6_10 ⟨Nat.le_of_ble_eq_true rfl, Nat.le_of_ble_eq_true rfl, rfl, rfl⟩ ⟨Nat.zero_le _, Nat.zero_le _⟩ rfl rfl (Nat.le_of_ble_eq_true rfl) rfl dL_ring_357 ?_
    refine x_aload_n (pc := 360) C 0 dL_ring_360 rfl rfl ?_
    refine x_iconst (pc := 361) C 4 dL_ring_361 (by decide) ?_
    refine x_callVL0 (pc := 362) C st [.int 4] (mX9_count G a st 4) yvX9_count q8_4 ⟨Nat.le_of_ble_eq_true rfl, Nat.le_of_ble_eq_true rfl, rfl, rfl⟩ ⟨Nat.zero_le _, Nat.zero_le _⟩ rfl rfl (Nat.le_of_ble_eq_true rfl) rfl dL_ring_362 ?_
    refine x_icmp_ne (pc := 365) C 382 dL_ring_365 (by decide) (fun c_53 => ?_) (fun c_53 => ?_)
    · have h := kIn c_53 h
      refine x_iconst (pc := 382) C (-1) dL_ring_382 (by decide) ?_
      obtain rfl := Option.some.inj h
      exact x_iret (pc := 383) C Zd dL_ring_383
    · have h := kIp c_53 h
      refine x_aload_n (pc := 368) C 0 dL_ring_368 rfl rfl ?_
      obtain ⟨z_54, hz_54, h⟩ := kB h
      refine x_callVL (pc := 369) C st [] (mX9_ring G a st hz_54) yvX9_ring q8_9 ⟨Nat.le_of_ble_eq_true rfl, Nat.le_of_ble_eq_true rfl, rfl, rfl⟩ ⟨Nat.zero_le _, Nat.zero_le _⟩ rfl rfl (Nat.le_of_ble_eq_true rfl) rfl dL_ring_369 ?_
      refine x_iload (pc := 372) C 1 dL_ring_372 rfl ?_
      refine x_icmp_ne (pc := 374) C 382 dL_ring_374 (by decide) (fun c_55 => ?_) (fun c_55 => ?_)
      · have h := kIn c_55 h
        refine x_iconst (pc := 382) C (-1) dL_ring_382 (by decide) ?_
        obtain rfl := Option.some.inj h
        exact x_iret (pc := 383) C Zd dL_ring_383
      · have h := kIp c_55 h
        refine x_iload (pc := 377) C 1 dL_ring_377 rfl ?_
        refine x_goto (pc := 379) C 383 dL_ring_379 (by decide) ?_
        obtain rfl := Option.some.inj h
        exact x_iret (pc := 383) C Zd dL_ring_383
def fL_ring_J184 (L : Nat) (xs : Nat → Int32) (st : kS) (v2 : Int32) (v6 : Int32) (v7 : Int32) : Option (Int32 × kS) := (fL_cell L xs (v2 + 1)).bind (fun z_28 => fL_ring_L199 (fun v7_48 v10_49 st_50 => fL_ring_J350 L xs st_50 v6 v7_48) L xs v2 v6 (kr z_28 7) kFU v7 0 st)
set_option maxRecDepth 100000 in
set_option maxHeartbeats 4000000 in
theorem wL_ring_J184 {G : kG} {E : kE} {a : Nat → Nat} {b L : Nat} {xs : Nat → Int32} (C : kOk G E cL_ring RL 14 rmfL_ring) {z : Int32 × kS} (Zd : kEnd G E (0, 0) (some .int) (some (.int z.1)) (wL G a z.2)) (X : kScr E b L xs) (st : kS) (v2 : Int32) (v6 : Int32) (v7 : Int32) (h : fL_ring_J184 L xs st v2 v6 v7 = some z) : kX G E (0, 0) (wL G a st) 184 [(0, .ref (a 0)), (1, .ref b), (2, .int v2), (5, .ref (a 32)), (6, .int v6), (7, .int v7)] [] := by
  unfold fL_ring_J184 at h
  refine x_aload_n (pc := 184) C 1 dL_ring_184 rfl rfl ?_
  refine x_iload_n (pc := 185) C 2 dL_ring_185 rfl rfl ?_
  refine x_iconst (pc := 186) C 1 dL_ring_186 (by decide) ?_
  refine x_iadd (pc := 187) C dL_ring_187 ?_
  obtain ⟨z_28, hz_28, h⟩ := kB h
  refine x_callSS (pc := 188) C X [.ref b, .int (v2 + 1)] (mL_cell G b (v2 + 1) hz_28) ysL_cell q5_8 ⟨Nat.le_of_ble_eq_true rfl, Nat.le_of_ble_eq_true rfl, rfl, rfl⟩ ⟨Nat.zero_le _, Nat.zero_le _⟩ rfl rfl (Nat.le_of_ble_eq_true rfl) rfl dL_ring_188 ?_
  refine x_bipush (pc := 191) C 7 dL_ring_191 (by decide) ?_
  refine y_irem (pc := 193) C dL_ring_193 (by decide) ?_
  refine x_istore (pc := 194) C (lv' := [(9, .int (kr z_28 7)), (0, .ref (a 0)), (1, .ref b), (2, .int v2), (5, .ref (a 32)), (6, .int v6), (7, .int v7)]) dL_ring_194 (by decide) rfl ?_
  refine x_iconst (pc := 196) C 0 dL_ring_196 (by decide) ?_
  refine x_istore (pc := 197) C (lv' := [(10, .int 0), (9, .int (kr z_28 7)), (0, .ref (a 0)), (1, .ref b), (2, .int v2), (5, .ref (a 32)), (6, .int v6), (7, .int v7)]) dL_ring_197 (by decide) rfl ?_
  refine kX.pick [2, 3, 4, 5, 6, 7, 1, 0] (lv' := [(0, .ref (a 0)), (1, .ref b), (2, .int v2), (5, .ref (a 32)), (6, .int v6), (7, .int v7), (9, .int (kr z_28 7)), (10, .int 0)]) rfl ?_
  refine wL_ring_L199  C Zd X  v2 v6 (kr z_28 7) (fun v7_48 v10_49 st_50 h => ?_) kFU v7 0 st h
  exact wL_ring_J350  C Zd X  st_50 v6 v7_48 h
def fL_ring_J34 (L : Nat) (xs : Nat → Int32) (st : kS) (v2 : Int32) (v6 : Int32) (v7 : Int32) (s0 : Int32) : Option (Int32 × kS) := fL_ring_L39 (fun v7_25 v9_26 st_27 => fL_ring_J184 L xs st_27 v2 v6 v7_25) L xs v2 v6 s0 kFU v7 0 st
set_option maxRecDepth 100000 in
set_option maxHeartbeats 4000000 in
theorem wL_ring_J34 {G : kG} {E : kE} {a : Nat → Nat} {b L : Nat} {xs : Nat → Int32} (C : kOk G E cL_ring RL 14 rmfL_ring) {z : Int32 × kS} (Zd : kEnd G E (0, 0) (some .int) (some (.int z.1)) (wL G a z.2)) (X : kScr E b L xs) (st : kS) (v2 : Int32) (v6 : Int32) (v7 : Int32) (s0 : Int32) (h : fL_ring_J34 L xs st v2 v6 v7 s0 = some z) : kX G E (0, 0) (wL G a st) 34 [(0, .ref (a 0)), (1, .ref b), (2, .int v2), (4, .ref (a 31)), (5, .ref (a 32)), (6, .int v6), (7, .int v7)] [.int s0] := by
  unfold fL_ring_J34 at h
  refine x_istore (pc := 34) C (lv' := [(8, .int s0), (0, .ref (a 0)), (1, .ref b), (2, .int v2), (4, .ref (a 31)), (5, .ref (a 32)), (6, .int v6), (7, .int v7)]) dL_ring_34 (by decide) rfl ?_
  refine x_iconst (pc := 36) C 0 dL_ring_36 (by decide) ?_
  refine x_istore (pc := 37) C (lv' := [(9, .int 0), (8, .int s0), (0, .ref (a 0)), (1, .ref b), (2, .int v2), (4, .ref (a 31)), (5, .ref (a 32)), (6, .int v6), (7, .int v7)]) dL_ring_37 (by decide) rfl ?_
  refine kX.pick [2, 3, 4, 5, 6, 7, 8, 1, 0] (lv' := [(0, .ref (a 0)), (1, .ref b), (2, .int v2), (4, .ref (a 31)), (5, .ref (a 32)), (6, .int v6), (7, .int v7), (8, .int s0), (9, .int 0)]) rfl ?_
  refine wL_ring_L39  C Zd X  v2 v6 s0 (fun v7_25 v9_26 st_27 h => ?_) kFU v7 0 st h
  exact wL_ring_J184  C Zd X  st_27 v2 v6 v7_25 h
def fL_ring (L : Nat) (xs : Nat → Int32) (st : kS) (x2 : Int32) (x3 : Int32) : Option (Int32 × kS) := (fL_cell L xs x2).bind (fun z_1 => if (x3 - 2) = 0 then none else (fL_cell L xs x2).bind (fun z_3 => if (kr (z_3 / 16) 2) = 0 then (fL_ring_J34 L xs st x2 (3 + (kr z_1 (x3 - 2))) 1 1) else (fL_ring_J34 L xs st x2 (3 + (kr z_1 (x3 - 2))) 1 0)))
set_option maxRecDepth 100000 in
set_option maxHeartbeats 4000000 in
theorem wL_ring {G : kG} {E : kE} {a : Nat → Nat} {b L : Nat} {xs : Nat → Int32} (C : kOk G E cL_ring RL 14 rmfL_ring) {z : Int32 × kS} (Zd : kEnd G E (0, 0) (some .int) (some (.int z.1)) (wL G a z.2)) (X : kScr E b L xs) (st : kS) (x2 : Int32) (x3 : Int32) (h : fL_ring L xs st x2 x3 = some z) : kX G E (0, 0) (wL G a st) 0 [(0, .ref (a 0)), (1, .ref b), (2, .int x2), (3, .int x3), (4, .ref (a 31)), (5, .ref (a 32))] [] := by
  unfold fL_ring at h
  refine x_iconst (pc := 0) C 3 dL_ring_0 (by decide) ?_
  refine x_aload_n (pc := 1) C 1 dL_ring_1 rfl rfl ?_
  refine x_iload_n (pc := 2) C 2 dL_ring_2 rfl rfl ?_
  obtain ⟨z_1, hz_1, h⟩ := kB h
  refine x_callSS (pc := 3) C X [.ref b, .int x2] (mL_cell G b x2 hz_1) ysL_cell q5_8 ⟨Nat.le_of_ble_eq_true rfl, Nat.le_of_ble_eq_true rfl, rfl, rfl⟩ ⟨Nat.zero_le _, Nat.zero_le _⟩ rfl rfl (Nat.le_of_ble_eq_true rfl) rfl dL_ring_3 ?_
  refine x_iload_n (pc := 6) C 3 dL_ring_6 rfl rfl ?_
  refine x_iconst (pc := 7) C 2 dL_ring_7 (by decide) ?_
  refine x_isub (pc := 8) C dL_ring_8 ?_
  obtain ⟨c_2, h⟩ := kGd h
  refine y_irem (pc := 9) C dL_ring_9 c_2 ?_
  refine x_iadd (pc := 10) C dL_ring_10 ?_
  refine x_istore (pc := 11) C (lv' := [(6, .int (3 + (kr z_1 (x3 - 2)))), (0, .ref (a 0)), (1, .ref b), (2, .int x2), (3, .int x3), (4, .ref (a 31)), (5, .ref (a 32))]) dL_ring_11 (by decide) rfl ?_
  refine x_iconst (pc := 13) C 1 dL_ring_13 (by decide) ?_
  refine x_istore (pc := 14) C (lv' := [(7, .int 1), (6, .int (3 + (kr z_1 (x3 - 2)))), (0, .ref (a 0)), (1, .ref b), (2, .int x2), (3, .int x3), (4, .ref (a 31)), (5, .ref (a 32))]) dL_ring_14 (by decide) rfl ?_
  refine x_aload_n (pc := 16) C 3 dL_ring_16 rfl rfl ?_
  refine x_iload_n (pc := 17) C 4 dL_ring_17 rfl rfl ?_
  obtain ⟨z_3, hz_3, h⟩ := kB h
  refine x_callSS (pc := 18) C X [.ref b, .int x2] (mL_cell G b x2 hz_3) ysL_cell q5_8 ⟨Nat.le_of_ble_eq_true rfl, Nat.le_of_ble_eq_true rfl, rfl, rfl⟩ ⟨Nat.zero_le _, Nat.zero_le _⟩ rfl rfl (Nat.le_of_ble_eq_true rfl) rfl dL_ring_18 ?_
  refine x_bipush (pc := 21) C 16 dL_ring_21 (by decide) ?_
  refine y_idiv (pc := 23) C dL_ring_23 (by decide) ?_
  refine x_iconst (pc := 24) C 2 dL_ring_24 (by decide) ?_
  refine y_irem (pc := 25) C dL_ring_25 (by decide) ?_
  refine x_if_ne (pc := 26) C 33 dL_ring_26 (by decide) (fun c_4 => ?_) (fun c_4 => ?_)
  · have h := kIn c_4 h
    refine x_iconst (pc := 33) C 0 dL_ring_33 (by decide) ?_
    refine kX.pick [2, 3, 4, 6, 7, 1, 0] (lv' := [(0, .ref (a 0)), (1, .ref b), (2, .int x2), (4, .ref (a 31)), (5, .ref (a 32)), (6, .int (3 + (kr z_1 (x3 - 2)))), (7, .int 1)]) rfl ?_
    exact wL_ring_J34  C Zd X  st x2 (3 + (kr z_1 (x3 - 2))) 1 0 h
  · have h := kIp c_4 h
    refine x_iconst (pc := 29) C 1 dL_ring_29 (by decide) ?_
    refine x_goto (pc := 30) C 34 dL_ring_30 (by decide) ?_
    refine kX.pick [2, 3, 4, 6, 7, 1, 0] (lv' := [(0, .ref (a 0)), (1, .ref b), (2, .int x2), (4, .ref (a 31)), (5, .ref (a 32)), (6, .int (3 + (kr z_1 (x3 - 2)))), (7, .int 1)]) rfl ?_
    exact wL_ring_J34  C Zd X  st x2 (3 + (kr z_1 (x3 - 2))) 1 1 h
set_option maxRecDepth 100000 in
theorem mL_ring (G : kG) (a : Nat → Nat) {L : Nat} {xs : Nat → Int32} (b : Nat) (st : kS) (x2 : Int32) (x3 : Int32) {z : Int32 × kS} (h : fL_ring L xs st x2 x3 = some z) : kMetS G yL_ring cL_ring 14 (some .int) rmfL_ring (0, 0) [.ref (a 0), .ref b, .int x2, .int x3, .ref (a 31), .ref (a 32)] b L xs (wL G a st) (some (.int z.1)) (wL G a z.2) := kMetS.mk (by decide +kernel) (Nat.le_of_ble_eq_true rfl) (fun E C Zd X => wL_ring  C Zd X  st x2 x3 h)
