def fL_law_L219 (K : Int32 → Int32 → Int32 → Int32 → kS → Option (Int32 × kS)) (L : Nat) (xs : Nat → Int32) (v4 : Int32) (v5 : Int32) : Nat → Int32 → Int32 → Int32 → Int32 → kS → Option (Int32 × kS)
  | 0, _, _, _, _, _ => none
  | F + 1, v6, v7, v8, v10, st => fL_law_L219_B K (fL_law_L219 K L xs v4 v5 F) L xs st v4 v5 v6 v7 v8 v10
set_option maxRecDepth 100000 in
set_option maxHeartbeats 4000000 in
theorem wL_law_L219 {G : kG} {E : kE} {a : Nat → Nat} {cs : Nat × Nat} {b L : Nat} {xs : Nat → Int32} (C : kOk G E cL_law RL 36 room_1) {z : Int32 × kS} (Zd : kLawZ E b cs z.1) (X : kScr E b L xs) {K : Int32 → Int32 → Int32 → Int32 → kS → Option (Int32 × kS)} (v4 : Int32) (v5 : Int32) (hK : ∀ (u6 : Int32) (u7 : Int32) (u8 : Int32) (u10 : Int32) (su : kS), K u6 u7 u8 u10 su = some z → kX G E cs (wL G a su) 1275 [(1, .ref (a 0)), (4, .int v4)] []) : ∀ (F : Nat) (v6 : Int32) (v7 : Int32) (v8 : Int32) (v10 : Int32) (st : kS), fL_law_L219 K L xs v4 v5 F v6 v7 v8 v10 st = some z → kX G E cs (wL G a st) 219 [(0, .ref b), (1, .ref (a 0)), (2, .ref (a 31)), (3, .ref (a 32)), (4, .int v4), (5, .int v5), (6, .int v6), (7, .int v7), (8, .int v8), (10, .int v10)] [] := by
  intro F
  induction F with
  | zero =>
    intro v6 v7 v8 v10 st h
    exact absurd (show none = some z from h) (fun q => by cases q)
  | succ F ih =>
    intro v6 v7 v8 v10 st h
    exact wL_law_L219_B  C Zd X  st v4 v5 v6 v7 v8 v10 hK (fun v6 v7 v8 v10 st h => ih v6 v7 v8 v10 st h) h
def fL_law_J1545 (L : Nat) (xs : Nat → Int32) (st : kS) : Option (Int32 × kS) := (fX9_surely st).bind (fun z_200 => if z_200.1 = (-103) then (some (1, (kJ st z_200.2))) else (some (0, (kJ st z_200.2))))
set_option maxRecDepth 100000 in
set_option maxHeartbeats 4000000 in
theorem wL_law_J1545 {G : kG} {E : kE} {a : Nat → Nat} {cs : Nat × Nat} {b L : Nat} {xs : Nat → Int32} (C : kOk G E cL_law RL 36 room_1) {z : Int32 × kS} (Zd : kLawZ E b cs z.1) (X : kScr E b L xs) (st : kS) (h : fL_law_J1545 L xs st = some z) : kX G E cs (wL G a st) 1545 [(1, .ref (a 0))] [] := by
  unfold fL_law_J1545 at h
  refine x_aload_n (pc := 1545) C 0 dL_law_1545 rfl rfl ?_
  obtain ⟨z_200, hz_200, h⟩ := kB h
  refine x_callVL (pc := 1546) C st [] (mX9_surely G a st hz_200) yvX9_surely q23_7 ⟨Nat.le_of_ble_eq_true rfl, Nat.le_of_ble_eq_true rfl, rfl, rfl⟩ Zd.2.1 rfl rfl (Nat.le_of_ble_eq_true rfl) rfl dL_law_1546 ?_
  refine x_bipush (pc := 1549) C (-103) dL_law_1549 (by decide) ?_
  refine x_icmp_ne (pc := 1551) C 1558 dL_law_1551 (by decide) (fun c_201 => ?_) (fun c_201 => ?_)
  · have h := kIn c_201 h
    refine x_iconst (pc := 1558) C 0 dL_law_1558 (by decide) ?_
    obtain rfl := Option.some.inj h
    exact x_lawretZ (pc := 1559) C Zd dL_law_1559
  · have h := kIp c_201 h
    refine x_iconst (pc := 1554) C 1 dL_law_1554 (by decide) ?_
    refine x_goto (pc := 1555) C 1559 dL_law_1555 (by decide) ?_
    obtain rfl := Option.some.inj h
    exact x_lawretZ (pc := 1559) C Zd dL_law_1559
def fL_law_J1536 (L : Nat) (xs : Nat → Int32) (st : kS) : Option (Int32 × kS) := (fX9_fewest st).bind (fun z_198 => if z_198.1 = (-103) then (fL_law_J1545 L xs (kJ st z_198.2)) else (some (0, (kJ st z_198.2))))
set_option maxRecDepth 100000 in
set_option maxHeartbeats 4000000 in
theorem wL_law_J1536 {G : kG} {E : kE} {a : Nat → Nat} {cs : Nat × Nat} {b L : Nat} {xs : Nat → Int32} (C : kOk G E cL_law RL 36 room_1) {z : Int32 × kS} (Zd : kLawZ E b cs z.1) (X : kScr E b L xs) (st : kS) (h : fL_law_J1536 L xs st = some z) : kX G E cs (wL G a st) 1536 [(1, .ref (a 0))] [] := by
  unfold fL_law_J1536 at h
  refine x_aload_n (pc := 1536) C 0 dL_law_1536 rfl rfl ?_
  obtain ⟨z_198, hz_198, h⟩ := kB h
  refine x_callVL (pc := 1537) C st [] (mX9_fewest G a st hz_198) yvX9_fewest q22_12 ⟨Nat.le_of_ble_eq_true rfl, Nat.le_of_ble_eq_true rfl, rfl, rfl⟩ Zd.2.1 rfl rfl (Nat.le_of_ble_eq_true rfl) rfl dL_law_1537 ?_
  refine x_bipush (pc := 1540) C (-103) dL_law_1540 (by decide) ?_
  refine x_icmp_ne (pc := 1542) C 1558 dL_law_1542 (by decide) (fun c_199 => ?_) (fun c_199 => ?_)
  · have h := kIn c_199 h
    refine x_iconst (pc := 1558) C 0 dL_law_1558 (by decide) ?_
    obtain rfl := Option.some.inj h
    exact x_lawretZ (pc := 1559) C Zd dL_law_1559
  · have h := kIp c_199 h
    exact wL_law_J1545  C Zd X  (kJ st z_198.2)  h
def fL_law_J1526 (L : Nat) (xs : Nat → Int32) (st : kS) : Option (Int32 × kS) := (fX9_must st (-1)).bind (fun z_196 => if z_196.1 = (-102) then (fL_law_J1536 L xs (kJ st z_196.2)) else (some (0, (kJ st z_196.2))))
set_option maxRecDepth 100000 in
set_option maxHeartbeats 4000000 in
theorem wL_law_J1526 {G : kG} {E : kE} {a : Nat → Nat} {cs : Nat × Nat} {b L : Nat} {xs : Nat → Int32} (C : kOk G E cL_law RL 36 room_1) {z : Int32 × kS} (Zd : kLawZ E b cs z.1) (X : kScr E b L xs) (st : kS) (h : fL_law_J1526 L xs st = some z) : kX G E cs (wL G a st) 1526 [(1, .ref (a 0))] [] := by
  unfold fL_law_J1526 at h
  refine x_aload_n (pc := 1526) C 0 dL_law_1526 rfl rfl ?_
  refine x_iconst (pc := 1527) C (-1) dL_law_1527 (by decide) ?_
  obtain ⟨z_196, hz_196, h⟩ := kB h
  refine x_callVL (pc := 1528) C st [.int (-1)] (mX9_must G a st (-1) hz_196) yvX9_must q20_11 ⟨Nat.le_of_ble_eq_true rfl, Nat.le_of_ble_eq_true rfl, rfl, rfl⟩ Zd.2.1 rfl rfl (Nat.le_of_ble_eq_true rfl) rfl dL_law_1528 ?_
  refine x_bipush (pc := 1531) C (-102) dL_law_1531 (by decide) ?_
  refine x_icmp_ne (pc := 1533) C 1558 dL_law_1533 (by decide) (fun c_197 => ?_) (fun c_197 => ?_)
  · have h := kIn c_197 h
    refine x_iconst (pc := 1558) C 0 dL_law_1558 (by decide) ?_
    obtain rfl := Option.some.inj h
    exact x_lawretZ (pc := 1559) C Zd dL_law_1559
  · have h := kIp c_197 h
    exact wL_law_J1536  C Zd X  (kJ st z_196.2)  h
def fL_law_J1513 (L : Nat) (xs : Nat → Int32) (st : kS) : Option (Int32 × kS) := (fX9_ways st 13).bind (fun z_194 => if (lg_cmp z_194.1 (-102)) = 0 then (fL_law_J1526 L xs (kJ st z_194.2)) else (some (0, (kJ st z_194.2))))
set_option maxRecDepth 100000 in
set_option maxHeartbeats 4000000 in
theorem wL_law_J1513 {G : kG} {E : kE} {a : Nat → Nat} {cs : Nat × Nat} {b L : Nat} {xs : Nat → Int32} (C : kOk G E cL_law RL 36 room_1) {z : Int32 × kS} (Zd : kLawZ E b cs z.1) (X : kScr E b L xs) (st : kS) (h : fL_law_J1513 L xs st = some z) : kX G E cs (wL G a st) 1513 [(1, .ref (a 0))] [] := by
  unfold fL_law_J1513 at h
  refine x_aload_n (pc := 1513) C 0 dL_law_1513 rfl rfl ?_
  refine x_bipush (pc := 1514) C 13 dL_law_1514 (by decide) ?_
  obtain ⟨z_194, hz_194, h⟩ := kB h
  refine x_callVL (pc := 1516) C st [.int 13] (mX9_ways G a st 13 hz_194) yvX9_ways q18_20 ⟨Nat.le_of_ble_eq_true rfl, Nat.le_of_ble_eq_true rfl, rfl, rfl⟩ Zd.2.1 rfl rfl (Nat.le_of_ble_eq_true rfl) rfl dL_law_1516 ?_
  refine x_ldc2 (pc := 1519) C q1_4 dL_law_1519 ?_
  refine x_lcmp (pc := 1522) C dL_law_1522 ?_
  refine x_if_ne (pc := 1523) C 1558 dL_law_1523 (by decide) (fun c_195 => ?_) (fun c_195 => ?_)
  · have h := kIn c_195 h
    refine x_iconst (pc := 1558) C 0 dL_law_1558 (by decide) ?_
    obtain rfl := Option.some.inj h
    exact x_lawretZ (pc := 1559) C Zd dL_law_1559
  · have h := kIp c_195 h
    exact wL_law_J1526  C Zd X  (kJ st z_194.2)  h
def fL_law_J1500 (L : Nat) (xs : Nat → Int32) (st : kS) : Option (Int32 × kS) := (fX9_odds st 0 0 0 2).bind (fun z_192 => if z_192.1 = (-102) then (fL_law_J1513 L xs (kJ st z_192.2)) else (some (0, (kJ st z_192.2))))
set_option maxRecDepth 100000 in
set_option maxHeartbeats 4000000 in
theorem wL_law_J1500 {G : kG} {E : kE} {a : Nat → Nat} {cs : Nat × Nat} {b L : Nat} {xs : Nat → Int32} (C : kOk G E cL_law RL 36 room_1) {z : Int32 × kS} (Zd : kLawZ E b cs z.1) (X : kScr E b L xs) (st : kS) (h : fL_law_J1500 L xs st = some z) : kX G E cs (wL G a st) 1500 [(1, .ref (a 0))] [] := by
  unfold fL_law_J1500 at h
  refine x_aload_n (pc := 1500) C 0 dL_law_1500 rfl rfl ?_
  refine x_iconst (pc := 1501) C 0 dL_law_1501 (by decide) ?_
  refine x_iconst (pc := 1502) C 0 dL_law_1502 (by decide) ?_
  refine x_iconst (pc := 1503) C 0 dL_law_1503 (by decide) ?_
  refine x_iconst (pc := 1504) C 2 dL_law_1504 (by decide) ?_
  obtain ⟨z_192, hz_192, h⟩ := kB h
  refine x_callVL (pc := 1505) C st [.int 0, .int 0, .int 0, .int 2] (mX9_odds G a st 0 0 0 2 hz_192) yvX9_odds q17_13 ⟨Nat.le_of_ble_eq_true rfl, Nat.le_of_ble_eq_true rfl, rfl, rfl⟩ Zd.2.1 rfl rfl (Nat.le_of_ble_eq_true rfl) rfl dL_law_1505 ?_
  refine x_bipush (pc := 1508) C (-102) dL_law_1508 (by decide) ?_
  refine x_icmp_ne (pc := 1510) C 1558 dL_law_1510 (by decide) (fun c_193 => ?_) (fun c_193 => ?_)
  · have h := kIn c_193 h
    refine x_iconst (pc := 1558) C 0 dL_law_1558 (by decide) ?_
    obtain rfl := Option.some.inj h
    exact x_lawretZ (pc := 1559) C Zd dL_law_1559
  · have h := kIp c_193 h
    exact wL_law_J1513  C Zd X  (kJ st z_192.2)  h
def fL_law_J1486 (L : Nat) (xs : Nat → Int32) (st : kS) : Option (Int32 × kS) := (fX9_odds st 0 0 9 0).bind (fun z_190 => if z_190.1 = (-102) then (fL_law_J1500 L xs (kJ st z_190.2)) else (some (0, (kJ st z_190.2))))
set_option maxRecDepth 100000 in
set_option maxHeartbeats 4000000 in
theorem wL_law_J1486 {G : kG} {E : kE} {a : Nat → Nat} {cs : Nat × Nat} {b L : Nat} {xs : Nat → Int32} (C : kOk G E cL_law RL 36 room_1) {z : Int32 × kS} (Zd : kLawZ E b cs z.1) (X : kScr E b L xs) (st : kS) (h : fL_law_J1486 L xs st = some z) : kX G E cs (wL G a st) 1486 [(1, .ref (a 0))] [] := by
  unfold fL_law_J1486 at h
  refine x_aload_n (pc := 1486) C 0 dL_law_1486 rfl rfl ?_
  refine x_iconst (pc := 1487) C 0 dL_law_1487 (by decide) ?_
  refine x_iconst (pc := 1488) C 0 dL_law_1488 (by decide) ?_
  refine x_bipush (pc := 1489) C 9 dL_law_1489 (by decide) ?_
  refine x_iconst (pc := 1491) C 0 dL_law_1491 (by decide) ?_
  obtain ⟨z_190, hz_190, h⟩ := kB h
  refine x_callVL (pc := 1492) C st [.int 0, .int 0, .int 9, .int 0] (mX9_odds G a st 0 0 9 0 hz_190) yvX9_odds q17_13 ⟨Nat.le_of_ble_eq_true rfl, Nat.le_of_ble_eq_true rfl, rfl, rfl⟩ Zd.2.1 rfl rfl (Nat.le_of_ble_eq_true rfl) rfl dL_law_1492 ?_
  refine x_bipush (pc := 1495) C (-102) dL_law_1495 (by decide) ?_
  refine x_icmp_ne (pc := 1497) C 1558 dL_law_1497 (by decide) (fun c_191 => ?_) (fun c_191 => ?_)
  · have h := kIn c_191 h
    refine x_iconst (pc := 1558) C 0 dL_law_1558 (by decide) ?_
    obtain rfl := Option.some.inj h
    exact x_lawretZ (pc := 1559) C Zd dL_law_1559
  · have h := kIp c_191 h
    exact wL_law_J1500  C Zd X  (kJ st z_190.2)  h
def fL_law_J1472 (L : Nat) (xs : Nat → Int32) (st : kS) (v4 : Int32) : Option (Int32 × kS) := (fX9_odds st 0 v4 0 0).bind (fun z_188 => if z_188.1 = (-101) then (fL_law_J1486 L xs (kJ st z_188.2)) else (some (0, (kJ st z_188.2))))
set_option maxRecDepth 100000 in
set_option maxHeartbeats 4000000 in
theorem wL_law_J1472 {G : kG} {E : kE} {a : Nat → Nat} {cs : Nat × Nat} {b L : Nat} {xs : Nat → Int32} (C : kOk G E cL_law RL 36 room_1) {z : Int32 × kS} (Zd : kLawZ E b cs z.1) (X : kScr E b L xs) (st : kS) (v4 : Int32) (h : fL_law_J1472 L xs st v4 = some z) : kX G E cs (wL G a st) 1472 [(1, .ref (a 0)), (4, .int v4)] [] := by
  unfold fL_law_J1472 at h
  refine x_aload_n (pc := 1472) C 0 dL_law_1472 rfl rfl ?_
  refine x_iconst (pc := 1473) C 0 dL_law_1473 (by decide) ?_
  refine x_iload (pc := 1474) C 1 dL_law_1474 rfl ?_
  refine x_iconst (pc := 1476) C 0 dL_law_1476 (by decide) ?_
  refine x_iconst (pc := 1477) C 0 dL_law_1477 (by decide) ?_
  obtain ⟨z_188, hz_188, h⟩ := kB h
  refine x_callVL (pc := 1478) C st [.int 0, .int v4, .int 0, .int 0] (mX9_odds G a st 0 v4 0 0 hz_188) yvX9_odds q17_13 ⟨Nat.le_of_ble_eq_true rfl, Nat.le_of_ble_eq_true rfl, rfl, rfl⟩ Zd.2.1 rfl rfl (Nat.le_of_ble_eq_true rfl) rfl dL_law_1478 ?_
  refine x_bipush (pc := 1481) C (-101) dL_law_1481 (by decide) ?_
  refine x_icmp_ne (pc := 1483) C 1558 dL_law_1483 (by decide) (fun c_189 => ?_) (fun c_189 => ?_)
  · have h := kIn c_189 h
    refine x_iconst (pc := 1558) C 0 dL_law_1558 (by decide) ?_
    obtain rfl := Option.some.inj h
    exact x_lawretZ (pc := 1559) C Zd dL_law_1559
  · have h := kIp c_189 h
    refine kX.pick [0] (lv' := [(1, .ref (a 0))]) rfl ?_
    exact wL_law_J1486  C Zd X  (kJ st z_188.2)  h
def fL_law_J1458 (L : Nat) (xs : Nat → Int32) (st : kS) (v4 : Int32) : Option (Int32 × kS) := (fX9_odds st v4 0 0 0).bind (fun z_186 => if z_186.1 = (-101) then (fL_law_J1472 L xs (kJ st z_186.2) v4) else (some (0, (kJ st z_186.2))))
set_option maxRecDepth 100000 in
set_option maxHeartbeats 4000000 in
theorem wL_law_J1458 {G : kG} {E : kE} {a : Nat → Nat} {cs : Nat × Nat} {b L : Nat} {xs : Nat → Int32} (C : kOk G E cL_law RL 36 room_1) {z : Int32 × kS} (Zd : kLawZ E b cs z.1) (X : kScr E b L xs) (st : kS) (v4 : Int32) (h : fL_law_J1458 L xs st v4 = some z) : kX G E cs (wL G a st) 1458 [(1, .ref (a 0)), (4, .int v4)] [] := by
  unfold fL_law_J1458 at h
  refine x_aload_n (pc := 1458) C 0 dL_law_1458 rfl rfl ?_
  refine x_iload (pc := 1459) C 1 dL_law_1459 rfl ?_
  refine x_iconst (pc := 1461) C 0 dL_law_1461 (by decide) ?_
  refine x_iconst (pc := 1462) C 0 dL_law_1462 (by decide) ?_
  refine x_iconst (pc := 1463) C 0 dL_law_1463 (by decide) ?_
  obtain ⟨z_186, hz_186, h⟩ := kB h
  refine x_callVL (pc := 1464) C st [.int v4, .int 0, .int 0, .int 0] (mX9_odds G a st v4 0 0 0 hz_186) yvX9_odds q17_13 ⟨Nat.le_of_ble_eq_true rfl, Nat.le_of_ble_eq_true rfl, rfl, rfl⟩ Zd.2.1 rfl rfl (Nat.le_of_ble_eq_true rfl) rfl dL_law_1464 ?_
  refine x_bipush (pc := 1467) C (-101) dL_law_1467 (by decide) ?_
  refine x_icmp_ne (pc := 1469) C 1558 dL_law_1469 (by decide) (fun c_187 => ?_) (fun c_187 => ?_)
  · have h := kIn c_187 h
    refine x_iconst (pc := 1558) C 0 dL_law_1558 (by decide) ?_
    obtain rfl := Option.some.inj h
    exact x_lawretZ (pc := 1559) C Zd dL_law_1559
  · have h := kIp c_187 h
    exact wL_law_J1472  C Zd X  (kJ st z_186.2) v4 h
def fL_law_J1446 (L : Nat) (xs : Nat → Int32) (st : kS) (v4 : Int32) : Option (Int32 × kS) := (fX9_choose st 0 6).bind (fun z_184 => if z_184.1 = (-102) then (fL_law_J1458 L xs (kJ st z_184.2) v4) else (some (0, (kJ st z_184.2))))
set_option maxRecDepth 100000 in
set_option maxHeartbeats 4000000 in
theorem wL_law_J1446 {G : kG} {E : kE} {a : Nat → Nat} {cs : Nat × Nat} {b L : Nat} {xs : Nat → Int32} (C : kOk G E cL_law RL 36 room_1) {z : Int32 × kS} (Zd : kLawZ E b cs z.1) (X : kScr E b L xs) (st : kS) (v4 : Int32) (h : fL_law_J1446 L xs st v4 = some z) : kX G E cs (wL G a st) 1446 [(1, .ref (a 0)), (4, .int v4)] [] := by
  unfold fL_law_J1446 at h
  refine x_aload_n (pc := 1446) C 0 dL_law_1446 rfl rfl ?_
  refine x_iconst (pc := 1447) C 0 dL_law_1447 (by decide) ?_
  refine x_bipush (pc := 1448) C 6 dL_law_1448 (by decide) ?_
  obtain ⟨z_184, hz_184, h⟩ := kB h
  refine x_callVL (pc := 1450) C st [.int 0, .int 6] (mX9_choose G a st 0 6 hz_184) yvX9_choose q22_3 ⟨Nat.le_of_ble_eq_true rfl, Nat.le_of_ble_eq_true rfl, rfl, rfl⟩ Zd.2.1 rfl rfl (Nat.le_of_ble_eq_true rfl) rfl dL_law_1450 ?_
  refine x_bipush (pc := 1453) C (-102) dL_law_1453 (by decide) ?_
  refine x_icmp_ne (pc := 1455) C 1558 dL_law_1455 (by decide) (fun c_185 => ?_) (fun c_185 => ?_)
  · have h := kIn c_185 h
    refine x_iconst (pc := 1558) C 0 dL_law_1558 (by decide) ?_
    obtain rfl := Option.some.inj h
    exact x_lawretZ (pc := 1559) C Zd dL_law_1559
  · have h := kIp c_185 h
    exact wL_law_J1458  C Zd X  (kJ st z_184.2) v4 h
def fL_law_J1435 (L : Nat) (xs : Nat → Int32) (st : kS) (v4 : Int32) : Option (Int32 × kS) := (fX9_choose st 0 0).bind (fun z_182 => if z_182.1 = (-102) then (fL_law_J1446 L xs (kJ st z_182.2) v4) else (some (0, (kJ st z_182.2))))
set_option maxRecDepth 100000 in
set_option maxHeartbeats 4000000 in
theorem wL_law_J1435 {G : kG} {E : kE} {a : Nat → Nat} {cs : Nat × Nat} {b L : Nat} {xs : Nat → Int32} (C : kOk G E cL_law RL 36 room_1) {z : Int32 × kS} (Zd : kLawZ E b cs z.1) (X : kScr E b L xs) (st : kS) (v4 : Int32) (h : fL_law_J1435 L xs st v4 = some z) : kX G E cs (wL G a st) 1435 [(1, .ref (a 0)), (4, .int v4)] [] := by
  unfold fL_law_J1435 at h
  refine x_aload_n (pc := 1435) C 0 dL_law_1435 rfl rfl ?_
  refine x_iconst (pc := 1436) C 0 dL_law_1436 (by decide) ?_
  refine x_iconst (pc := 1437) C 0 dL_law_1437 (by decide) ?_
  obtain ⟨z_182, hz_182, h⟩ := kB h
  refine x_callVL (pc := 1438) C st [.int 0, .int 0] (mX9_choose G a st 0 0 hz_182) yvX9_choose q22_3 ⟨Nat.le_of_ble_eq_true rfl, Nat.le_of_ble_eq_true rfl, rfl, rfl⟩ Zd.2.1 rfl rfl (Nat.le_of_ble_eq_true rfl) rfl dL_law_1438 ?_
  refine x_bipush (pc := 1441) C (-102) dL_law_1441 (by decide) ?_
  refine x_icmp_ne (pc := 1443) C 1558 dL_law_1443 (by decide) (fun c_183 => ?_) (fun c_183 => ?_)
  · have h := kIn c_183 h
    refine x_iconst (pc := 1558) C 0 dL_law_1558 (by decide) ?_
    obtain rfl := Option.some.inj h
    exact x_lawretZ (pc := 1559) C Zd dL_law_1559
  · have h := kIp c_183 h
    exact wL_law_J1446  C Zd X  (kJ st z_182.2) v4 h
def fL_law_J1423 (L : Nat) (xs : Nat → Int32) (st : kS) (v4 : Int32) : Option (Int32 × kS) := (fX9_choose st v4 1).bind (fun z_180 => if z_180.1 = (-101) then (fL_law_J1435 L xs (kJ st z_180.2) v4) else (some (0, (kJ st z_180.2))))
set_option maxRecDepth 100000 in
set_option maxHeartbeats 4000000 in
theorem wL_law_J1423 {G : kG} {E : kE} {a : Nat → Nat} {cs : Nat × Nat} {b L : Nat} {xs : Nat → Int32} (C : kOk G E cL_law RL 36 room_1) {z : Int32 × kS} (Zd : kLawZ E b cs z.1) (X : kScr E b L xs) (st : kS) (v4 : Int32) (h : fL_law_J1423 L xs st v4 = some z) : kX G E cs (wL G a st) 1423 [(1, .ref (a 0)), (4, .int v4)] [] := by
  unfold fL_law_J1423 at h
  refine x_aload_n (pc := 1423) C 0 dL_law_1423 rfl rfl ?_
  refine x_iload (pc := 1424) C 1 dL_law_1424 rfl ?_
  refine x_iconst (pc := 1426) C 1 dL_law_1426 (by decide) ?_
  obtain ⟨z_180, hz_180, h⟩ := kB h
  refine x_callVL (pc := 1427) C st [.int v4, .int 1] (mX9_choose G a st v4 1 hz_180) yvX9_choose q22_3 ⟨Nat.le_of_ble_eq_true rfl, Nat.le_of_ble_eq_true rfl, rfl, rfl⟩ Zd.2.1 rfl rfl (Nat.le_of_ble_eq_true rfl) rfl dL_law_1427 ?_
  refine x_bipush (pc := 1430) C (-101) dL_law_1430 (by decide) ?_
  refine x_icmp_ne (pc := 1432) C 1558 dL_law_1432 (by decide) (fun c_181 => ?_) (fun c_181 => ?_)
  · have h := kIn c_181 h
    refine x_iconst (pc := 1558) C 0 dL_law_1558 (by decide) ?_
    obtain rfl := Option.some.inj h
    exact x_lawretZ (pc := 1559) C Zd dL_law_1559
  · have h := kIp c_181 h
    exact wL_law_J1435  C Zd X  (kJ st z_180.2) v4 h
def fL_law_J1412 (L : Nat) (xs : Nat → Int32) (st : kS) (v4 : Int32) : Option (Int32 × kS) := (fX9_apart st 0 2).bind (fun z_178 => if z_178.1 = (-102) then (fL_law_J1423 L xs (kJ st z_178.2) v4) else (some (0, (kJ st z_178.2))))
set_option maxRecDepth 100000 in
set_option maxHeartbeats 4000000 in
theorem wL_law_J1412 {G : kG} {E : kE} {a : Nat → Nat} {cs : Nat × Nat} {b L : Nat} {xs : Nat → Int32} (C : kOk G E cL_law RL 36 room_1) {z : Int32 × kS} (Zd : kLawZ E b cs z.1) (X : kScr E b L xs) (st : kS) (v4 : Int32) (h : fL_law_J1412 L xs st v4 = some z) : kX G E cs (wL G a st) 1412 [(1, .ref (a 0)), (4, .int v4)] [] := by
  unfold fL_law_J1412 at h
  refine x_aload_n (pc := 1412) C 0 dL_law_1412 rfl rfl ?_
  refine x_iconst (pc := 1413) C 0 dL_law_1413 (by decide) ?_
  refine x_iconst (pc := 1414) C 2 dL_law_1414 (by decide) ?_
  obtain ⟨z_178, hz_178, h⟩ := kB h
  refine x_callVL (pc := 1415) C st [.int 0, .int 2] (mX9_apart G a st 0 2 hz_178) yvX9_apart q20_20 ⟨Nat.le_of_ble_eq_true rfl, Nat.le_of_ble_eq_true rfl, rfl, rfl⟩ Zd.2.1 rfl rfl (Nat.le_of_ble_eq_true rfl) rfl dL_law_1415 ?_
  refine x_bipush (pc := 1418) C (-102) dL_law_1418 (by decide) ?_
  refine x_icmp_ne (pc := 1420) C 1558 dL_law_1420 (by decide) (fun c_179 => ?_) (fun c_179 => ?_)
  · have h := kIn c_179 h
    refine x_iconst (pc := 1558) C 0 dL_law_1558 (by decide) ?_
    obtain rfl := Option.some.inj h
    exact x_lawretZ (pc := 1559) C Zd dL_law_1559
  · have h := kIp c_179 h
    exact wL_law_J1423  C Zd X  (kJ st z_178.2) v4 h
def fL_law_J1400 (L : Nat) (xs : Nat → Int32) (st : kS) (v4 : Int32) : Option (Int32 × kS) := (fX9_apart st 6 0).bind (fun z_176 => if z_176.1 = (-102) then (fL_law_J1412 L xs (kJ st z_176.2) v4) else (some (0, (kJ st z_176.2))))
set_option maxRecDepth 100000 in
set_option maxHeartbeats 4000000 in
theorem wL_law_J1400 {G : kG} {E : kE} {a : Nat → Nat} {cs : Nat × Nat} {b L : Nat} {xs : Nat → Int32} (C : kOk G E cL_law RL 36 room_1) {z : Int32 × kS} (Zd : kLawZ E b cs z.1) (X : kScr E b L xs) (st : kS) (v4 : Int32) (h : fL_law_J1400 L xs st v4 = some z) : kX G E cs (wL G a st) 1400 [(1, .ref (a 0)), (4, .int v4)] [] := by
  unfold fL_law_J1400 at h
  refine x_aload_n (pc := 1400) C 0 dL_law_1400 rfl rfl ?_
  refine x_bipush (pc := 1401) C 6 dL_law_1401 (by decide) ?_
  refine x_iconst (pc := 1403) C 0 dL_law_1403 (by decide) ?_
  obtain ⟨z_176, hz_176, h⟩ := kB h
  refine x_callVL (pc := 1404) C st [.int 6, .int 0] (mX9_apart G a st 6 0 hz_176) yvX9_apart q20_20 ⟨Nat.le_of_ble_eq_true rfl, Nat.le_of_ble_eq_true rfl, rfl, rfl⟩ Zd.2.1 rfl rfl (Nat.le_of_ble_eq_true rfl) rfl dL_law_1404 ?_
  refine x_bipush (pc := 1407) C (-102) dL_law_1407 (by decide) ?_
  refine x_icmp_ne (pc := 1409) C 1558 dL_law_1409 (by decide) (fun c_177 => ?_) (fun c_177 => ?_)
  · have h := kIn c_177 h
    refine x_iconst (pc := 1558) C 0 dL_law_1558 (by decide) ?_
    obtain rfl := Option.some.inj h
    exact x_lawretZ (pc := 1559) C Zd dL_law_1559
  · have h := kIp c_177 h
    exact wL_law_J1412  C Zd X  (kJ st z_176.2) v4 h
def fL_law_J1388 (L : Nat) (xs : Nat → Int32) (st : kS) (v4 : Int32) : Option (Int32 × kS) := (fX9_night st 0 (-2)).bind (fun z_174 => if z_174.1 = (-102) then (fL_law_J1400 L xs (kJ st z_174.2) v4) else (some (0, (kJ st z_174.2))))
set_option maxRecDepth 100000 in
set_option maxHeartbeats 4000000 in
theorem wL_law_J1388 {G : kG} {E : kE} {a : Nat → Nat} {cs : Nat × Nat} {b L : Nat} {xs : Nat → Int32} (C : kOk G E cL_law RL 36 room_1) {z : Int32 × kS} (Zd : kLawZ E b cs z.1) (X : kScr E b L xs) (st : kS) (v4 : Int32) (h : fL_law_J1388 L xs st v4 = some z) : kX G E cs (wL G a st) 1388 [(1, .ref (a 0)), (4, .int v4)] [] := by
  unfold fL_law_J1388 at h
  refine x_aload_n (pc := 1388) C 0 dL_law_1388 rfl rfl ?_
  refine x_iconst (pc := 1389) C 0 dL_law_1389 (by decide) ?_
  refine x_bipush (pc := 1390) C (-2) dL_law_1390 (by decide) ?_
  obtain ⟨z_174, hz_174, h⟩ := kB h
  refine x_callVL (pc := 1392) C st [.int 0, .int (-2)] (mX9_night G a st 0 (-2) hz_174) yvX9_night q12_23 ⟨Nat.le_of_ble_eq_true rfl, Nat.le_of_ble_eq_true rfl, rfl, rfl⟩ Zd.2.1 rfl rfl (Nat.le_of_ble_eq_true rfl) rfl dL_law_1392 ?_
  refine x_bipush (pc := 1395) C (-102) dL_law_1395 (by decide) ?_
  refine x_icmp_ne (pc := 1397) C 1558 dL_law_1397 (by decide) (fun c_175 => ?_) (fun c_175 => ?_)
  · have h := kIn c_175 h
    refine x_iconst (pc := 1558) C 0 dL_law_1558 (by decide) ?_
    obtain rfl := Option.some.inj h
    exact x_lawretZ (pc := 1559) C Zd dL_law_1559
  · have h := kIp c_175 h
    exact wL_law_J1400  C Zd X  (kJ st z_174.2) v4 h
def fL_law_J1377 (L : Nat) (xs : Nat → Int32) (st : kS) (v4 : Int32) : Option (Int32 × kS) := (fX9_night st 0 2).bind (fun z_172 => if z_172.1 = (-102) then (fL_law_J1388 L xs (kJ st z_172.2) v4) else (some (0, (kJ st z_172.2))))
set_option maxRecDepth 100000 in
set_option maxHeartbeats 4000000 in
theorem wL_law_J1377 {G : kG} {E : kE} {a : Nat → Nat} {cs : Nat × Nat} {b L : Nat} {xs : Nat → Int32} (C : kOk G E cL_law RL 36 room_1) {z : Int32 × kS} (Zd : kLawZ E b cs z.1) (X : kScr E b L xs) (st : kS) (v4 : Int32) (h : fL_law_J1377 L xs st v4 = some z) : kX G E cs (wL G a st) 1377 [(1, .ref (a 0)), (4, .int v4)] [] := by
  unfold fL_law_J1377 at h
  refine x_aload_n (pc := 1377) C 0 dL_law_1377 rfl rfl ?_
  refine x_iconst (pc := 1378) C 0 dL_law_1378 (by decide) ?_
  refine x_iconst (pc := 1379) C 2 dL_law_1379 (by decide) ?_
  obtain ⟨z_172, hz_172, h⟩ := kB h
  refine x_callVL (pc := 1380) C st [.int 0, .int 2] (mX9_night G a st 0 2 hz_172) yvX9_night q12_23 ⟨Nat.le_of_ble_eq_true rfl, Nat.le_of_ble_eq_true rfl, rfl, rfl⟩ Zd.2.1 rfl rfl (Nat.le_of_ble_eq_true rfl) rfl dL_law_1380 ?_
  refine x_bipush (pc := 1383) C (-102) dL_law_1383 (by decide) ?_
  refine x_icmp_ne (pc := 1385) C 1558 dL_law_1385 (by decide) (fun c_173 => ?_) (fun c_173 => ?_)
  · have h := kIn c_173 h
    refine x_iconst (pc := 1558) C 0 dL_law_1558 (by decide) ?_
    obtain rfl := Option.some.inj h
    exact x_lawretZ (pc := 1559) C Zd dL_law_1559
  · have h := kIp c_173 h
    exact wL_law_J1388  C Zd X  (kJ st z_172.2) v4 h
def fL_law_J1365 (L : Nat) (xs : Nat → Int32) (st : kS) (v4 : Int32) : Option (Int32 × kS) := (fX9_night st v4 0).bind (fun z_170 => if z_170.1 = (-101) then (fL_law_J1377 L xs (kJ st z_170.2) v4) else (some (0, (kJ st z_170.2))))
set_option maxRecDepth 100000 in
set_option maxHeartbeats 4000000 in
theorem wL_law_J1365 {G : kG} {E : kE} {a : Nat → Nat} {cs : Nat × Nat} {b L : Nat} {xs : Nat → Int32} (C : kOk G E cL_law RL 36 room_1) {z : Int32 × kS} (Zd : kLawZ E b cs z.1) (X : kScr E b L xs) (st : kS) (v4 : Int32) (h : fL_law_J1365 L xs st v4 = some z) : kX G E cs (wL G a st) 1365 [(1, .ref (a 0)), (4, .int v4)] [] := by
  unfold fL_law_J1365 at h
  refine x_aload_n (pc := 1365) C 0 dL_law_1365 rfl rfl ?_
  refine x_iload (pc := 1366) C 1 dL_law_1366 rfl ?_
  refine x_iconst (pc := 1368) C 0 dL_law_1368 (by decide) ?_
  obtain ⟨z_170, hz_170, h⟩ := kB h
  refine x_callVL (pc := 1369) C st [.int v4, .int 0] (mX9_night G a st v4 0 hz_170) yvX9_night q12_23 ⟨Nat.le_of_ble_eq_true rfl, Nat.le_of_ble_eq_true rfl, rfl, rfl⟩ Zd.2.1 rfl rfl (Nat.le_of_ble_eq_true rfl) rfl dL_law_1369 ?_
  refine x_bipush (pc := 1372) C (-101) dL_law_1372 (by decide) ?_
  refine x_icmp_ne (pc := 1374) C 1558 dL_law_1374 (by decide) (fun c_171 => ?_) (fun c_171 => ?_)
  · have h := kIn c_171 h
    refine x_iconst (pc := 1558) C 0 dL_law_1558 (by decide) ?_
    obtain rfl := Option.some.inj h
    exact x_lawretZ (pc := 1559) C Zd dL_law_1559
  · have h := kIp c_171 h
    exact wL_law_J1377  C Zd X  (kJ st z_170.2) v4 h
def fL_law_J1354 (L : Nat) (xs : Nat → Int32) (st : kS) (v4 : Int32) : Option (Int32 × kS) := (fX9_walk st v4).bind (fun z_168 => if z_168 = (-101) then (fL_law_J1365 L xs st v4) else (some (0, st)))
set_option maxRecDepth 100000 in
set_option maxHeartbeats 4000000 in
theorem wL_law_J1354 {G : kG} {E : kE} {a : Nat → Nat} {cs : Nat × Nat} {b L : Nat} {xs : Nat → Int32} (C : kOk G E cL_law RL 36 room_1) {z : Int32 × kS} (Zd : kLawZ E b cs z.1) (X : kScr E b L xs) (st : kS) (v4 : Int32) (h : fL_law_J1354 L xs st v4 = some z) : kX G E cs (wL G a st) 1354 [(1, .ref (a 0)), (4, .int v4)] [] := by
  unfold fL_law_J1354 at h
  refine x_aload_n (pc := 1354) C 0 dL_law_1354 rfl rfl ?_
  refine x_iload (pc := 1355) C 1 dL_law_1355 rfl ?_
  obtain ⟨z_168, hz_168, h⟩ := kB h
  refine x_callVL0 (pc := 1357) C st [.int v4] (mX9_walk G a st v4 hz_168) yvX9_walk q15_17 ⟨Nat.le_of_ble_eq_true rfl, Nat.le_of_ble_eq_true rfl, rfl, rfl⟩ Zd.2.1 rfl rfl (Nat.le_of_ble_eq_true rfl) rfl dL_law_1357 ?_
  refine x_bipush (pc := 1360) C (-101) dL_law_1360 (by decide) ?_
  refine x_icmp_ne (pc := 1362) C 1558 dL_law_1362 (by decide) (fun c_169 => ?_) (fun c_169 => ?_)
  · have h := kIn c_169 h
    refine x_iconst (pc := 1558) C 0 dL_law_1558 (by decide) ?_
    obtain rfl := Option.some.inj h
    exact x_lawretZ (pc := 1559) C Zd dL_law_1559
  · have h := kIp c_169 h
    exact wL_law_J1365  C Zd X  st v4 h
def fL_law_J1342 (L : Nat) (xs : Nat → Int32) (st : kS) (v4 : Int32) : Option (Int32 × kS) := if (fX9_feud st 0 v4) = (-101) then (fL_law_J1354 L xs st v4) else (some (0, st))
set_option maxRecDepth 100000 in
set_option maxHeartbeats 4000000 in
theorem wL_law_J1342 {G : kG} {E : kE} {a : Nat → Nat} {cs : Nat × Nat} {b L : Nat} {xs : Nat → Int32} (C : kOk G E cL_law RL 36 room_1) {z : Int32 × kS} (Zd : kLawZ E b cs z.1) (X : kScr E b L xs) (st : kS) (v4 : Int32) (h : fL_law_J1342 L xs st v4 = some z) : kX G E cs (wL G a st) 1342 [(1, .ref (a 0)), (4, .int v4)] [] := by
  unfold fL_law_J1342 at h
  refine x_aload_n (pc := 1342) C 0 dL_law_1342 rfl rfl ?_
  refine x_iconst (pc := 1343) C 0 dL_law_1343 (by decide) ?_
  refine x_iload (pc := 1344) C 1 dL_law_1344 rfl ?_
  refine x_callVL0 (pc := 1346) C st [.int 0, .int v4] (mX9_feud G a st 0 v4) yvX9_feud q12_3 ⟨Nat.le_of_ble_eq_true rfl, Nat.le_of_ble_eq_true rfl, rfl, rfl⟩ Zd.2.1 rfl rfl (Nat.le_of_ble_eq_true rfl) rfl dL_law_1346 ?_
  refine x_bipush (pc := 1349) C (-101) dL_law_1349 (by decide) ?_
  refine x_icmp_ne (pc := 1351) C 1558 dL_law_1351 (by decide) (fun c_167 => ?_) (fun c_167 => ?_)
  · have h := kIn c_167 h
    refine x_iconst (pc := 1558) C 0 dL_law_1558 (by decide) ?_
    obtain rfl := Option.some.inj h
    exact x_lawretZ (pc := 1559) C Zd dL_law_1559
  · have h := kIp c_167 h
    exact wL_law_J1354  C Zd X  st v4 h
def fL_law_J1332 (L : Nat) (xs : Nat → Int32) (st : kS) (v4 : Int32) : Option (Int32 × kS) := if (fX9_at st (-1)) = (-101) then (fL_law_J1342 L xs st v4) else (some (0, st))
set_option maxRecDepth 100000 in
set_option maxHeartbeats 4000000 in
theorem wL_law_J1332 {G : kG} {E : kE} {a : Nat → Nat} {cs : Nat × Nat} {b L : Nat} {xs : Nat → Int32} (C : kOk G E cL_law RL 36 room_1) {z : Int32 × kS} (Zd : kLawZ E b cs z.1) (X : kScr E b L xs) (st : kS) (v4 : Int32) (h : fL_law_J1332 L xs st v4 = some z) : kX G E cs (wL G a st) 1332 [(1, .ref (a 0)), (4, .int v4)] [] := by
  unfold fL_law_J1332 at h
  refine x_aload_n (pc := 1332) C 0 dL_law_1332 rfl rfl ?_
  refine x_iconst (pc := 1333) C (-1) dL_law_1333 (by decide) ?_
  refine x_callVL0 (pc := 1334) C st [.int (-1)] (mX9_at G a st (-1)) yvX9_at q15_12 ⟨Nat.le_of_ble_eq_true rfl, Nat.le_of_ble_eq_true rfl, rfl, rfl⟩ Zd.2.1 rfl rfl (Nat.le_of_ble_eq_true rfl) rfl dL_law_1334 ?_
  refine x_bipush (pc := 1337) C (-101) dL_law_1337 (by decide) ?_
  refine x_icmp_ne (pc := 1339) C 1558 dL_law_1339 (by decide) (fun c_166 => ?_) (fun c_166 => ?_)
  · have h := kIn c_166 h
    refine x_iconst (pc := 1558) C 0 dL_law_1558 (by decide) ?_
    obtain rfl := Option.some.inj h
    exact x_lawretZ (pc := 1559) C Zd dL_law_1559
  · have h := kIp c_166 h
    exact wL_law_J1342  C Zd X  st v4 h
def fL_law_J1321 (L : Nat) (xs : Nat → Int32) (st : kS) (v4 : Int32) : Option (Int32 × kS) := if (fX9_at st v4) = (-101) then (fL_law_J1332 L xs st v4) else (some (0, st))
set_option maxRecDepth 100000 in
set_option maxHeartbeats 4000000 in
theorem wL_law_J1321 {G : kG} {E : kE} {a : Nat → Nat} {cs : Nat × Nat} {b L : Nat} {xs : Nat → Int32} (C : kOk G E cL_law RL 36 room_1) {z : Int32 × kS} (Zd : kLawZ E b cs z.1) (X : kScr E b L xs) (st : kS) (v4 : Int32) (h : fL_law_J1321 L xs st v4 = some z) : kX G E cs (wL G a st) 1321 [(1, .ref (a 0)), (4, .int v4)] [] := by
  unfold fL_law_J1321 at h
  refine x_aload_n (pc := 1321) C 0 dL_law_1321 rfl rfl ?_
  refine x_iload (pc := 1322) C 1 dL_law_1322 rfl ?_
  refine x_callVL0 (pc := 1324) C st [.int v4] (mX9_at G a st v4) yvX9_at q15_12 ⟨Nat.le_of_ble_eq_true rfl, Nat.le_of_ble_eq_true rfl, rfl, rfl⟩ Zd.2.1 rfl rfl (Nat.le_of_ble_eq_true rfl) rfl dL_law_1324 ?_
  refine x_bipush (pc := 1327) C (-101) dL_law_1327 (by decide) ?_
  refine x_icmp_ne (pc := 1329) C 1558 dL_law_1329 (by decide) (fun c_165 => ?_) (fun c_165 => ?_)
  · have h := kIn c_165 h
    refine x_iconst (pc := 1558) C 0 dL_law_1558 (by decide) ?_
    obtain rfl := Option.some.inj h
    exact x_lawretZ (pc := 1559) C Zd dL_law_1559
  · have h := kIp c_165 h
    exact wL_law_J1332  C Zd X  st v4 h
def fL_law_J1310 (L : Nat) (xs : Nat → Int32) (st : kS) (v4 : Int32) : Option (Int32 × kS) := if (fX9_as st 0 4) = (-102) then (fL_law_J1321 L xs st v4) else (some (0, st))
set_option maxRecDepth 100000 in
set_option maxHeartbeats 4000000 in
theorem wL_law_J1310 {G : kG} {E : kE} {a : Nat → Nat} {cs : Nat × Nat} {b L : Nat} {xs : Nat → Int32} (C : kOk G E cL_law RL 36 room_1) {z : Int32 × kS} (Zd : kLawZ E b cs z.1) (X : kScr E b L xs) (st : kS) (v4 : Int32) (h : fL_law_J1310 L xs st v4 = some z) : kX G E cs (wL G a st) 1310 [(1, .ref (a 0)), (4, .int v4)] [] := by
  unfold fL_law_J1310 at h
  refine x_aload_n (pc := 1310) C 0 dL_law_1310 rfl rfl ?_
  refine x_iconst (pc := 1311) C 0 dL_law_1311 (by decide) ?_
  refine x_iconst (pc := 1312) C 4 dL_law_1312 (by decide) ?_
  refine x_callVL0 (pc := 1313) C st [.int 0, .int 4] (mX9_as G a st 0 4) yvX9_as q12_12 ⟨Nat.le_of_ble_eq_true rfl, Nat.le_of_ble_eq_true rfl, rfl, rfl⟩ Zd.2.1 rfl rfl (Nat.le_of_ble_eq_true rfl) rfl dL_law_1313 ?_
  refine x_bipush (pc := 1316) C (-102) dL_law_1316 (by decide) ?_
  refine x_icmp_ne (pc := 1318) C 1558 dL_law_1318 (by decide) (fun c_164 => ?_) (fun c_164 => ?_)
  · have h := kIn c_164 h
    refine x_iconst (pc := 1558) C 0 dL_law_1558 (by decide) ?_
    obtain rfl := Option.some.inj h
    exact x_lawretZ (pc := 1559) C Zd dL_law_1559
  · have h := kIp c_164 h
    exact wL_law_J1321  C Zd X  st v4 h
def fL_law_J1298 (L : Nat) (xs : Nat → Int32) (st : kS) (v4 : Int32) : Option (Int32 × kS) := if (fX9_as st v4 0) = (-101) then (fL_law_J1310 L xs st v4) else (some (0, st))
set_option maxRecDepth 100000 in
set_option maxHeartbeats 4000000 in
theorem wL_law_J1298 {G : kG} {E : kE} {a : Nat → Nat} {cs : Nat × Nat} {b L : Nat} {xs : Nat → Int32} (C : kOk G E cL_law RL 36 room_1) {z : Int32 × kS} (Zd : kLawZ E b cs z.1) (X : kScr E b L xs) (st : kS) (v4 : Int32) (h : fL_law_J1298 L xs st v4 = some z) : kX G E cs (wL G a st) 1298 [(1, .ref (a 0)), (4, .int v4)] [] := by
  unfold fL_law_J1298 at h
  refine x_aload_n (pc := 1298) C 0 dL_law_1298 rfl rfl ?_
  refine x_iload (pc := 1299) C 1 dL_law_1299 rfl ?_
  refine x_iconst (pc := 1301) C 0 dL_law_1301 (by decide) ?_
  refine x_callVL0 (pc := 1302) C st [.int v4, .int 0] (mX9_as G a st v4 0) yvX9_as q12_12 ⟨Nat.le_of_ble_eq_true rfl, Nat.le_of_ble_eq_true rfl, rfl, rfl⟩ Zd.2.1 rfl rfl (Nat.le_of_ble_eq_true rfl) rfl dL_law_1302 ?_
  refine x_bipush (pc := 1305) C (-101) dL_law_1305 (by decide) ?_
  refine x_icmp_ne (pc := 1307) C 1558 dL_law_1307 (by decide) (fun c_163 => ?_) (fun c_163 => ?_)
  · have h := kIn c_163 h
    refine x_iconst (pc := 1558) C 0 dL_law_1558 (by decide) ?_
    obtain rfl := Option.some.inj h
    exact x_lawretZ (pc := 1559) C Zd dL_law_1559
  · have h := kIp c_163 h
    exact wL_law_J1310  C Zd X  st v4 h
def fL_law_J1287 (L : Nat) (xs : Nat → Int32) (st : kS) (v4 : Int32) : Option (Int32 × kS) := (fX9_house st 0 4).bind (fun z_161 => if z_161 = (-102) then (fL_law_J1298 L xs st v4) else (some (0, st)))
set_option maxRecDepth 100000 in
set_option maxHeartbeats 4000000 in
theorem wL_law_J1287 {G : kG} {E : kE} {a : Nat → Nat} {cs : Nat × Nat} {b L : Nat} {xs : Nat → Int32} (C : kOk G E cL_law RL 36 room_1) {z : Int32 × kS} (Zd : kLawZ E b cs z.1) (X : kScr E b L xs) (st : kS) (v4 : Int32) (h : fL_law_J1287 L xs st v4 = some z) : kX G E cs (wL G a st) 1287 [(1, .ref (a 0)), (4, .int v4)] [] := by
  unfold fL_law_J1287 at h
  refine x_aload_n (pc := 1287) C 0 dL_law_1287 rfl rfl ?_
  refine x_iconst (pc := 1288) C 0 dL_law_1288 (by decide) ?_
  refine x_iconst (pc := 1289) C 4 dL_law_1289 (by decide) ?_
  obtain ⟨z_161, hz_161, h⟩ := kB h
  refine x_callVL0 (pc := 1290) C st [.int 0, .int 4] (mX9_house G a st 0 4 hz_161) yvX9_house q14_12 ⟨Nat.le_of_ble_eq_true rfl, Nat.le_of_ble_eq_true rfl, rfl, rfl⟩ Zd.2.1 rfl rfl (Nat.le_of_ble_eq_true rfl) rfl dL_law_1290 ?_
  refine x_bipush (pc := 1293) C (-102) dL_law_1293 (by decide) ?_
  refine x_icmp_ne (pc := 1295) C 1558 dL_law_1295 (by decide) (fun c_162 => ?_) (fun c_162 => ?_)
  · have h := kIn c_162 h
    refine x_iconst (pc := 1558) C 0 dL_law_1558 (by decide) ?_
    obtain rfl := Option.some.inj h
    exact x_lawretZ (pc := 1559) C Zd dL_law_1559
  · have h := kIp c_162 h
    exact wL_law_J1298  C Zd X  st v4 h
def fL_law_J1275 (L : Nat) (xs : Nat → Int32) (st : kS) (v4 : Int32) : Option (Int32 × kS) := (fX9_house st v4 0).bind (fun z_159 => if z_159 = (-101) then (fL_law_J1287 L xs st v4) else (some (0, st)))
set_option maxRecDepth 100000 in
set_option maxHeartbeats 4000000 in
theorem wL_law_J1275 {G : kG} {E : kE} {a : Nat → Nat} {cs : Nat × Nat} {b L : Nat} {xs : Nat → Int32} (C : kOk G E cL_law RL 36 room_1) {z : Int32 × kS} (Zd : kLawZ E b cs z.1) (X : kScr E b L xs) (st : kS) (v4 : Int32) (h : fL_law_J1275 L xs st v4 = some z) : kX G E cs (wL G a st) 1275 [(1, .ref (a 0)), (4, .int v4)] [] := by
  unfold fL_law_J1275 at h
  refine x_aload_n (pc := 1275) C 0 dL_law_1275 rfl rfl ?_
  refine x_iload (pc := 1276) C 1 dL_law_1276 rfl ?_
  refine x_iconst (pc := 1278) C 0 dL_law_1278 (by decide) ?_
  obtain ⟨z_159, hz_159, h⟩ := kB h
  refine x_callVL0 (pc := 1279) C st [.int v4, .int 0] (mX9_house G a st v4 0 hz_159) yvX9_house q14_12 ⟨Nat.le_of_ble_eq_true rfl, Nat.le_of_ble_eq_true rfl, rfl, rfl⟩ Zd.2.1 rfl rfl (Nat.le_of_ble_eq_true rfl) rfl dL_law_1279 ?_
  refine x_bipush (pc := 1282) C (-101) dL_law_1282 (by decide) ?_
  refine x_icmp_ne (pc := 1284) C 1558 dL_law_1284 (by decide) (fun c_160 => ?_) (fun c_160 => ?_)
  · have h := kIn c_160 h
    refine x_iconst (pc := 1558) C 0 dL_law_1558 (by decide) ?_
    obtain rfl := Option.some.inj h
    exact x_lawretZ (pc := 1559) C Zd dL_law_1559
  · have h := kIp c_160 h
    exact wL_law_J1287  C Zd X  st v4 h
def fL_law_J216 (L : Nat) (xs : Nat → Int32) (st : kS) (v4 : Int32) (v5 : Int32) (v6 : Int32) (v7 : Int32) (v8 : Int32) : Option (Int32 × kS) := fL_law_L219 (fun v6_154 v7_155 v8_156 v10_157 st_158 => fL_law_J1275 L xs st_158 v4) L xs v4 v5 kFU v6 v7 v8 0 st
set_option maxRecDepth 100000 in
set_option maxHeartbeats 4000000 in
theorem wL_law_J216 {G : kG} {E : kE} {a : Nat → Nat} {cs : Nat × Nat} {b L : Nat} {xs : Nat → Int32} (C : kOk G E cL_law RL 36 room_1) {z : Int32 × kS} (Zd : kLawZ E b cs z.1) (X : kScr E b L xs) (st : kS) (v4 : Int32) (v5 : Int32) (v6 : Int32) (v7 : Int32) (v8 : Int32) (h : fL_law_J216 L xs st v4 v5 v6 v7 v8 = some z) : kX G E cs (wL G a st) 216 [(0, .ref b), (1, .ref (a 0)), (2, .ref (a 31)), (3, .ref (a 32)), (4, .int v4), (5, .int v5), (6, .int v6), (7, .int v7), (8, .int v8)] [] := by
  unfold fL_law_J216 at h
  refine x_iconst (pc := 216) C 0 dL_law_216 (by decide) ?_
  refine x_istore (pc := 217) C (lv' := [(10, .int 0), (0, .ref b), (1, .ref (a 0)), (2, .ref (a 31)), (3, .ref (a 32)), (4, .int v4), (5, .int v5), (6, .int v6), (7, .int v7), (8, .int v8)]) dL_law_217 (by decide) rfl ?_
  refine kX.pick [1, 2, 3, 4, 5, 6, 7, 8, 9, 0] (lv' := [(0, .ref b), (1, .ref (a 0)), (2, .ref (a 31)), (3, .ref (a 32)), (4, .int v4), (5, .int v5), (6, .int v6), (7, .int v7), (8, .int v8), (10, .int 0)]) rfl ?_
  refine wL_law_L219  C Zd X  v4 v5 (fun v6_154 v7_155 v8_156 v10_157 st_158 h => ?_) kFU v6 v7 v8 0 st h
  exact wL_law_J1275  C Zd X  st_158 v4 h
def fL_law_J204 (L : Nat) (xs : Nat → Int32) (st : kS) (v4 : Int32) (v5 : Int32) (v6 : Int32) (v7 : Int32) (v8 : Int32) (v9 : Int32) : Option (Int32 × kS) := if (fX9_count st 1) = v9 then (fL_law_J216 L xs st v4 v5 v6 v7 v8) else (some (0, st))
set_option maxRecDepth 100000 in
set_option maxHeartbeats 4000000 in
theorem wL_law_J204 {G : kG} {E : kE} {a : Nat → Nat} {cs : Nat × Nat} {b L : Nat} {xs : Nat → Int32} (C : kOk G E cL_law RL 36 room_1) {z : Int32 × kS} (Zd : kLawZ E b cs z.1) (X : kScr E b L xs) (st : kS) (v4 : Int32) (v5 : Int32) (v6 : Int32) (v7 : Int32) (v8 : Int32) (v9 : Int32) (h : fL_law_J204 L xs st v4 v5 v6 v7 v8 v9 = some z) : kX G E cs (wL G a st) 204 [(0, .ref b), (1, .ref (a 0)), (2, .ref (a 31)), (3, .ref (a 32)), (4, .int v4), (5, .int v5), (6, .int v6), (7, .int v7), (8, .int v8), (9, .int v9)] [] := by
  unfold fL_law_J204 at h
  refine x_aload_n (pc := 204) C 1 dL_law_204 rfl rfl ?_
  refine x_iconst (pc := 205) C 1 dL_law_205 (by decide) ?_
  refine x_callVL0 (pc := 206) C st [.int 1] (mX9_count G a st 1) yvX9_count q8_4 ⟨Nat.le_of_ble_eq_true rfl, Nat.le_of_ble_eq_true rfl, rfl, rfl⟩ Zd.2.1 rfl rfl (Nat.le_of_ble_eq_true rfl) rfl dL_law_206 ?_
  refine x_iload (pc := 209) C 9 dL_law_209 rfl ?_
  refine x_icmp_eq (pc := 211) C 216 dL_law_211 (by decide) (fun c_28 => ?_) (fun c_28 => ?_)
  · have h := kIp c_28 h
    refine kX.pick [0, 1, 2, 3, 4, 5, 6, 7, 8] (lv' := [(0, .ref b), (1, .ref (a 0)), (2, .ref (a 31)), (3, .ref (a 32)), (4, .int v4), (5, .int v5), (6, .int v6), (7, .int v7), (8, .int v8)]) rfl ?_
    exact wL_law_J216  C Zd X  st v4 v5 v6 v7 v8 h
  · have h := kIn c_28 h
    refine x_iconst (pc := 214) C 0 dL_law_214 (by decide) ?_
    obtain rfl := Option.some.inj h
    exact x_lawretZ (pc := 215) C Zd dL_law_215
def fL_law_J37 (L : Nat) (xs : Nat → Int32) (st : kS) (v4 : Int32) : Option (Int32 × kS) := (fL_first v4).bind (fun z_3 => fL_law_L61 (fun v9_26 v10_27 => fL_law_J204 L xs st v4 z_3 z_3 z_3 0 v9_26) L xs st v4 z_3 z_3 z_3 0 kFU 0 0)
set_option maxRecDepth 100000 in
set_option maxHeartbeats 4000000 in
theorem wL_law_J37 {G : kG} {E : kE} {a : Nat → Nat} {cs : Nat × Nat} {b L : Nat} {xs : Nat → Int32} (C : kOk G E cL_law RL 36 room_1) {z : Int32 × kS} (Zd : kLawZ E b cs z.1) (X : kScr E b L xs) (st : kS) (v4 : Int32) (h : fL_law_J37 L xs st v4 = some z) : kX G E cs (wL G a st) 37 [(0, .ref b), (1, .ref (a 0)), (2, .ref (a 31)), (3, .ref (a 32)), (4, .int v4)] [] := by
  unfold fL_law_J37 at h
  refine x_iload (pc := 37) C 4 dL_law_37 rfl ?_
  obtain ⟨z_3, hz_3, h⟩ := kB h
  refine x_callS (pc := 39) C [.int v4] (mL_first G v4 hz_3) ysL_first q12_0 ⟨Nat.le_of_ble_eq_true rfl, Nat.le_of_ble_eq_true rfl, rfl, rfl⟩ Zd.2.1 rfl rfl (Nat.le_of_ble_eq_true rfl) rfl dL_law_39 ?_
  refine x_istore (pc := 42) C (lv' := [(5, .int z_3), (0, .ref b), (1, .ref (a 0)), (2, .ref (a 31)), (3, .ref (a 32)), (4, .int v4)]) dL_law_42 (by decide) rfl ?_
  refine x_iload (pc := 44) C 0 dL_law_44 rfl ?_
  refine x_istore (pc := 46) C (lv' := [(6, .int z_3), (5, .int z_3), (0, .ref b), (1, .ref (a 0)), (2, .ref (a 31)), (3, .ref (a 32)), (4, .int v4)]) dL_law_46 (by decide) rfl ?_
  refine x_iload (pc := 48) C 1 dL_law_48 rfl ?_
  refine x_istore (pc := 50) C (lv' := [(7, .int z_3), (6, .int z_3), (5, .int z_3), (0, .ref b), (1, .ref (a 0)), (2, .ref (a 31)), (3, .ref (a 32)), (4, .int v4)]) dL_law_50 (by decide) rfl ?_
  refine x_iconst (pc := 52) C 0 dL_law_52 (by decide) ?_
  refine x_istore (pc := 53) C (lv' := [(8, .int 0), (7, .int z_3), (6, .int z_3), (5, .int z_3), (0, .ref b), (1, .ref (a 0)), (2, .ref (a 31)), (3, .ref (a 32)), (4, .int v4)]) dL_law_53 (by decide) rfl ?_
  refine x_iconst (pc := 55) C 0 dL_law_55 (by decide) ?_
  refine x_istore (pc := 56) C (lv' := [(9, .int 0), (8, .int 0), (7, .int z_3), (6, .int z_3), (5, .int z_3), (0, .ref b), (1, .ref (a 0)), (2, .ref (a 31)), (3, .ref (a 32)), (4, .int v4)]) dL_law_56 (by decide) rfl ?_
  refine x_iconst (pc := 58) C 0 dL_law_58 (by decide) ?_
  refine x_istore (pc := 59) C (lv' := [(10, .int 0), (9, .int 0), (8, .int 0), (7, .int z_3), (6, .int z_3), (5, .int z_3), (0, .ref b), (1, .ref (a 0)), (2, .ref (a 31)), (3, .ref (a 32)), (4, .int v4)]) dL_law_59 (by decide) rfl ?_
  refine kX.pick [6, 7, 8, 9, 10, 5, 4, 3, 2, 1, 0] (lv' := [(0, .ref b), (1, .ref (a 0)), (2, .ref (a 31)), (3, .ref (a 32)), (4, .int v4), (5, .int z_3), (6, .int z_3), (7, .int z_3), (8, .int 0), (9, .int 0), (10, .int 0)]) rfl ?_
  refine wL_law_L61  C Zd X  st v4 z_3 z_3 z_3 0 (fun v9_26 v10_27 h => ?_) kFU 0 0 h
  exact wL_law_J204  C Zd X  st v4 z_3 z_3 z_3 0 v9_26 h
def fL_law (L : Nat) (xs : Nat → Int32) (st : kS) : Option (Int32 × kS) := (fL_ring L xs st 0 6).bind (fun z_1 => if 0 ≤ z_1.1 then (fL_law_J37 L xs z_1.2 z_1.1) else (some (0, z_1.2)))
set_option maxRecDepth 100000 in
set_option maxHeartbeats 4000000 in
theorem wL_law {G : kG} {E : kE} {a : Nat → Nat} {cs : Nat × Nat} {b L : Nat} {xs : Nat → Int32} (C : kOk G E cL_law RL 36 room_1) {z : Int32 × kS} (Zd : kLawZ E b cs z.1) (X : kScr E b L xs) (st : kS) (h : fL_law L xs st = some z) : kX G E cs (wL G a st) 18 [(0, .ref b), (1, .ref (a 0)), (2, .ref (a 31)), (3, .ref (a 32))] [] := by
  unfold fL_law at h
  refine x_aload_n (pc := 18) C 1 dL_law_18 rfl rfl ?_
  refine x_aload_n (pc := 19) C 0 dL_law_19 rfl rfl ?_
  refine x_iconst (pc := 20) C 0 dL_law_20 (by decide) ?_
  refine x_bipush (pc := 21) C 6 dL_law_21 (by decide) ?_
  refine x_aload_n (pc := 23) C 2 dL_law_23 rfl rfl ?_
  refine x_aload_n (pc := 24) C 3 dL_law_24 rfl rfl ?_
  obtain ⟨z_1, hz_1, h⟩ := kB h
  refine x_callSS (pc := 25) C X [.ref (a 0), .ref b, .int 0, .int 6, .ref (a 31), .ref (a 32)] (mL_ring G a b st 0 6 hz_1) ysL_ring q5_4 ⟨Nat.le_of_ble_eq_true rfl, Nat.le_of_ble_eq_true rfl, rfl, rfl⟩ Zd.2.1 rfl rfl (Nat.le_of_ble_eq_true rfl) rfl dL_law_25 ?_
  refine x_istore (pc := 28) C (lv' := [(4, .int z_1.1), (0, .ref b), (1, .ref (a 0)), (2, .ref (a 31)), (3, .ref (a 32))]) dL_law_28 (by decide) rfl ?_
  refine x_iload (pc := 30) C 0 dL_law_30 rfl ?_
  refine x_if_ge (pc := 32) C 37 dL_law_32 (by decide) (fun c_2 => ?_) (fun c_2 => ?_)
  · have h := kIp c_2 h
    refine kX.pick [1, 2, 3, 4, 0] (lv' := [(0, .ref b), (1, .ref (a 0)), (2, .ref (a 31)), (3, .ref (a 32)), (4, .int z_1.1)]) rfl ?_
    exact wL_law_J37  C Zd X  z_1.2 z_1.1 h
  · have h := kIn c_2 h
    refine x_iconst (pc := 35) C 0 dL_law_35 (by decide) ?_
    obtain rfl := Option.some.inj h
    exact x_lawretZ (pc := 36) C Zd dL_law_36
