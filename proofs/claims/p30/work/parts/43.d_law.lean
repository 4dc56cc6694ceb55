def fL_law_J1204 (K : Int32 → Int32 → Int32 → Int32 → kS → Option (Int32 × kS)) (Gc : Int32 → Int32 → Int32 → Int32 → kS → Option (Int32 × kS)) (L : Nat) (xs : Nat → Int32) (st : kS) (v4 : Int32) (v5 : Int32) (v6 : Int32) (v7 : Int32) (v8 : Int32) (v10 : Int32) (v23 : Int32) (v24 : Int32) (s0 : Int64) (s1 : Int64) (s2 : Int64) : Option (Int32 × kS) := (fL_terms s2 s1 s0 1).bind (fun z_139 => if z_139 = 0 then (some (0, st)) else ((fX9_apart st 1 0).bind (fun z_141 => (fX9_apart (kJ st z_141.2) 1 1).bind (fun z_142 => (fL_terms z_141.1.toInt64 z_142.1.toInt64 v23.toInt64 v4.toInt64).bind (fun z_143 => if z_143 = 0 then (some (0, (kJ (kJ st z_141.2) z_142.2))) else ((fX9_apart (kJ (kJ st z_141.2) z_142.2) 2 0).bind (fun z_145 => (fX9_apart (kJ (kJ (kJ st z_141.2) z_142.2) z_145.2) 2 1).bind (fun z_146 => (fL_terms z_145.1.toInt64 z_146.1.toInt64 v24.toInt64 (v4.toInt64 * v4.toInt64)).bind (fun z_147 => if z_147 = 0 then (some (0, (kJ (kJ (kJ (kJ st z_141.2) z_142.2) z_145.2) z_146.2))) else (Gc v6 v7 v8 (v10 + 1) (kJ (kJ (kJ (kJ st z_141.2) z_142.2) z_145.2) z_146.2)))))))))))
set_option maxRecDepth 100000 in
set_option maxHeartbeats 4000000 in
theorem wL_law_J1204 {G : kG} {E : kE} {a : Nat → Nat} {cs : Nat × Nat} {b L : Nat} {xs : Nat → Int32} (C : kOk G E cL_law RL 36 room_1) {z : Int32 × kS} (Zd : kLawZ E b cs z.1) (X : kScr E b L xs) {K Gc : Int32 → Int32 → Int32 → Int32 → kS → Option (Int32 × kS)} (st : kS) (v4 : Int32) (v5 : Int32) (v6 : Int32) (v7 : Int32) (v8 : Int32) (v10 : Int32) (v23 : Int32) (v24 : Int32) (s0 : Int64) (s1 : Int64) (s2 : Int64) (hK : ∀ (u6 : Int32) (u7 : Int32) (u8 : Int32) (u10 : Int32) (su : kS), K u6 u7 u8 u10 su = some z → kX G E cs (wL G a su) 1275 [(1, .ref (a 0)), (4, .int v4)] []) (hG : ∀ (u6 : Int32) (u7 : Int32) (u8 : Int32) (u10 : Int32) (su : kS), Gc u6 u7 u8 u10 su = some z → kX G E cs (wL G a su) 219 [(0, .ref b), (1, .ref (a 0)), (2, .ref (a 31)), (3, .ref (a 32)), (4, .int v4), (5, .int v5), (6, .int u6), (7, .int u7), (8, .int u8), (10, .int u10)] []) (h : fL_law_J1204 K Gc L xs st v4 v5 v6 v7 v8 v10 v23 v24 s0 s1 s2 = some z) : kX G E cs (wL G a st) 1204 [(0, .ref b), (1, .ref (a 0)), (2, .ref (a 31)), (3, .ref (a 32)), (4, .int v4), (5, .int v5), (6, .int v6), (7, .int v7), (8, .int v8), (10, .int v10), (23, .int v23), (24, .int v24)] [.long s0, .long s1, .long s2] := by
  unfold fL_law_J1204 at h
  refine x_lconst (pc := 1204) C 1 dL_law_1204 (by decide) ?_
  obtain ⟨z_139, hz_139, h⟩ := kB h
  refine x_callS (pc := 1205) C [.long s2, .long s1, .long s0, .long 1] (mL_terms G s2 s1 s0 1 hz_139) ysL_terms q18_17 ⟨Nat.le_of_ble_eq_true rfl, Nat.le_of_ble_eq_true rfl, rfl, rfl⟩ Zd.2.1 rfl rfl (Nat.le_of_ble_eq_true rfl) rfl dL_law_1205 ?_
  refine x_if_eq (pc := 1208) C 1267 dL_law_1208 (by decide) (fun c_140 => ?_) (fun c_140 => ?_)
  · have h := kIp c_140 h
    refine x_iconst (pc := 1267) C 0 dL_law_1267 (by decide) ?_
    obtain rfl := Option.some.inj h
    exact x_lawretZ (pc := 1268) C Zd dL_law_1268
  · have h := kIn c_140 h
    refine x_aload_n (pc := 1211) C 1 dL_law_1211 rfl rfl ?_
    refine x_iconst (pc := 1212) C 1 dL_law_1212 (by decide) ?_
    refine x_iconst (pc := 1213) C 0 dL_law_1213 (by decide) ?_
    obtain ⟨z_141, hz_141, h⟩ := kB h
    refine x_callVL (pc := 1214) C st [.int 1, .int 0] (mX9_apart G a st 1 0 hz_141) yvX9_apart q20_20 ⟨Nat.le_of_ble_eq_true rfl, Nat.le_of_ble_eq_true rfl, rfl, rfl⟩ Zd.2.1 rfl rfl (Nat.le_of_ble_eq_true rfl) rfl dL_law_1214 ?_
    refine x_i2l (pc := 1217) C dL_law_1217 ?_
    refine x_aload_n (pc := 1218) C 1 dL_law_1218 rfl rfl ?_
    refine x_iconst (pc := 1219) C 1 dL_law_1219 (by decide) ?_
    refine x_iconst (pc := 1220) C 1 dL_law_1220 (by decide) ?_
    obtain ⟨z_142, hz_142, h⟩ := kB h
    refine x_callVL (pc := 1221) C (kJ st z_141.2) [.int 1, .int 1] (mX9_apart G a (kJ st z_141.2) 1 1 hz_142) yvX9_apart q20_20 ⟨Nat.le_of_ble_eq_true rfl, Nat.le_of_ble_eq_true rfl, rfl, rfl⟩ Zd.2.1 rfl rfl (Nat.le_of_ble_eq_true rfl) rfl dL_law_1221 ?_
    refine x_i2l (pc := 1224) C dL_law_1224 ?_
    refine x_iload (pc := 1225) C 10 dL_law_1225 rfl ?_
    refine x_i2l (pc := 1227) C dL_law_1227 ?_
    refine x_iload (pc := 1228) C 4 dL_law_1228 rfl ?_
    refine x_i2l (pc := 1230) C dL_law_1230 ?_
    obtain ⟨z_143, hz_143, h⟩ := kB h
    refine x_callS (pc := 1231) C [.long z_141.1.toInt64, .long z_142.1.toInt64, .long v23.toInt64, .long v4.toInt64] (mL_terms G z_141.1.toInt64 z_142.1.toInt64 v23.toInt64 v4.toInt64 hz_143) ysL_terms q18_17 ⟨Nat.le_of_ble_eq_true rfl, Nat.le_of_ble_eq_true rfl, rfl, rfl⟩ Zd.2.1 rfl rfl (Nat.le_of_ble_eq_true rfl) rfl dL_law_1231 ?_
    refine x_if_eq (pc := 1234) C 1267 dL_law_1234 (by decide) (fun c_144 => ?_) (fun c_144 => ?_)
    · have h := kIp c_144 h
      refine x_iconst (pc := 1267) C 0 dL_law_1267 (by decide) ?_
      obtain rfl := Option.some.inj h
      exact x_lawretZ (pc := 1268) C Zd dL_law_1268
    · have h := kIn c_144 h
      refine x_aload_n (pc := 1237) C 1 dL_law_1237 rfl rfl ?_
      refine x_iconst (pc := 1238) C 2 dL_law_1238 (by decide) ?_
      refine x_iconst (pc := 1239) C 0 dL_law_1239 (by decide) ?_
      obtain ⟨z_145, hz_145, h⟩ := kB h
      refine x_callVL (pc := 1240) C (kJ (kJ st z_141.2) z_142.2) [.int 2, .int 0] (mX9_apart G a (kJ (kJ st z_141.2) z_142.2) 2 0 hz_145) yvX9_apart q20_20 ⟨Nat.le_of_ble_eq_true rfl, Nat.le_of_ble_eq_true rfl, rfl, rfl⟩ Zd.2.1 rfl rfl (Nat.le_of_ble_eq_true rfl) rfl dL_law_1240 ?_
      refine x_i2l (pc := 1243) C dL_law_1243 ?_
      refine x_aload_n (pc := 1244) C 1 dL_law_1244 rfl rfl ?_
      refine x_iconst (pc := 1245) C 2 dL_law_1245 (by decide) ?_
      refine x_iconst (pc := 1246) C 1 dL_law_1246 (by decide) ?_
      obtain ⟨z_146, hz_146, h⟩ := kB h
      refine x_callVL (pc := 1247) C (kJ (kJ (kJ st z_141.2) z_142.2) z_145.2) [.int 2, .int 1] (mX9_apart G a (kJ (kJ (kJ st z_141.2) z_142.2) z_145.2) 2 1 hz_146) yvX9_apart q20_20 ⟨Nat.le_of_ble_eq_true rfl, Nat.le_of_ble_eq_true rfl, rfl, rfl⟩ Zd.2.1 rfl rfl (Nat.le_of_ble_eq_true rfl) rfl dL_law_1247 ?_
      refine x_i2l (pc := 1250) C dL_law_1250 ?_
      refine x_iload (pc := 1251) C 11 dL_law_1251 rfl ?_
      refine x_i2l (pc := 1253) C dL_law_1253 ?_
      refine x_iload (pc := 1254) C 4 dL_law_1254 rfl ?_
      refine x_i2l (pc := 1256) C dL_law_1256 ?_
      refine x_iload (pc := 1257) C 4 dL_law_1257 rfl ?_
      refine x_i2l (pc := 1259) C dL_law_1259 ?_
      refine x_lmul (pc := 1260) C dL_law_1260 ?_
      obtain ⟨z_147, hz_147, h⟩ := kB h
      refine x_callS (pc := 1261) C [.long z_145.1.toInt64, .long z_146.1.toInt64, .long v24.toInt64, .long (v4.toInt64 * v4.toInt64)] (mL_terms G z_145.1.toInt64 z_146.1.toInt64 v24.toInt64 (v4.toInt64 * v4.toInt64) hz_147) ysL_terms q18_17 ⟨Nat.le_of_ble_eq_true rfl, Nat.le_of_ble_eq_true rfl, rfl, rfl⟩ Zd.2.1 rfl rfl (Nat.le_of_ble_eq_true rfl) rfl dL_law_1261 ?_
      refine x_if_ne (pc := 1264) C 1269 dL_law_1264 (by decide) (fun c_148 => ?_) (fun c_148 => ?_)
      · have h := kIn c_148 h
        refine x_iinc (pc := 1269) C 9 (v := v10 + 1) (lv' := [(10, .int (v10 + 1)), (0, .ref b), (1, .ref (a 0)), (2, .ref (a 31)), (3, .ref (a 32)), (4, .int v4), (5, .int v5), (6, .int v6), (7, .int v7), (8, .int v8), (23, .int v23), (24, .int v24)]) dL_law_1269 rfl rfl (by decide) rfl ?_
        refine x_goto (pc := 1272) C 219 dL_law_1272 (by decide) ?_
        refine kX.pick [1, 2, 3, 4, 5, 6, 7, 8, 9, 0] (lv' := [(0, .ref b), (1, .ref (a 0)), (2, .ref (a 31)), (3, .ref (a 32)), (4, .int v4), (5, .int v5), (6, .int v6), (7, .int v7), (8, .int v8), (10, .int (v10 + 1))]) rfl ?_
        exact hG v6 v7 v8 (v10 + 1) (kJ (kJ (kJ (kJ st z_141.2) z_142.2) z_145.2) z_146.2) h
      · have h := kIp c_148 h
        refine x_iconst (pc := 1267) C 0 dL_law_1267 (by decide) ?_
        obtain rfl := Option.some.inj h
        exact x_lawretZ (pc := 1268) C Zd dL_law_1268
def fL_law_J1180 (K : Int32 → Int32 → Int32 → Int32 → kS → Option (Int32 × kS)) (Gc : Int32 → Int32 → Int32 → Int32 → kS → Option (Int32 × kS)) (L : Nat) (xs : Nat → Int32) (st : kS) (v4 : Int32) (v5 : Int32) (v6 : Int32) (v7 : Int32) (v8 : Int32) (v10 : Int32) (v23 : Int32) (v24 : Int32) (v25 : Int32) : Option (Int32 × kS) := (fX9_apart st 0 0).bind (fun z_136 => (fX9_apart (kJ st z_136.2) 0 1).bind (fun z_137 => if v25 = 0 then (fL_law_J1204 K Gc L xs (kJ (kJ st z_136.2) z_137.2) v4 v5 v6 v7 v8 v10 v23 v24 0 z_137.1.toInt64 z_136.1.toInt64) else (fL_law_J1204 K Gc L xs (kJ (kJ st z_136.2) z_137.2) v4 v5 v6 v7 v8 v10 v23 v24 1 z_137.1.toInt64 z_136.1.toInt64)))
set_option maxRecDepth 100000 in
set_option maxHeartbeats 4000000 in
theorem wL_law_J1180 {G : kG} {E : kE} {a : Nat → Nat} {cs : Nat × Nat} {b L : Nat} {xs : Nat → Int32} (C : kOk G E cL_law RL 36 room_1) {z : Int32 × kS} (Zd : kLawZ E b cs z.1) (X : kScr E b L xs) {K Gc : Int32 → Int32 → Int32 → Int32 → kS → Option (Int32 × kS)} (st : kS) (v4 : Int32) (v5 : Int32) (v6 : Int32) (v7 : Int32) (v8 : Int32) (v10 : Int32) (v23 : Int32) (v24 : Int32) (v25 : Int32) (hK : ∀ (u6 : Int32) (u7 : Int32) (u8 : Int32) (u10 : Int32) (su : kS), K u6 u7 u8 u10 su = some z → kX G E cs (wL G a su) 1275 [(1, .ref (a 0)), (4, .int v4)] []) (hG : ∀ (u6 : Int32) (u7 : Int32) (u8 : Int32) (u10 : Int32) (su : kS), Gc u6 u7 u8 u10 su = some z → kX G E cs (wL G a su) 219 [(0, .ref b), (1, .ref (a 0)), (2, .ref (a 31)), (3, .ref (a 32)), (4, .int v4), (5, .int v5), (6, .int u6), (7, .int u7), (8, .int u8), (10, .int u10)] []) (h : fL_law_J1180 K Gc L xs st v4 v5 v6 v7 v8 v10 v23 v24 v25 = some z) : kX G E cs (wL G a st) 1180 [(0, .ref b), (1, .ref (a 0)), (2, .ref (a 31)), (3, .ref (a 32)), (4, .int v4), (5, .int v5), (6, .int v6), (7, .int v7), (8, .int v8), (10, .int v10), (23, .int v23), (24, .int v24), (25, .int v25)] [] := by
  unfold fL_law_J1180 at h
  refine x_aload_n (pc := 1180) C 1 dL_law_1180 rfl rfl ?_
  refine x_iconst (pc := 1181) C 0 dL_law_1181 (by decide) ?_
  refine x_iconst (pc := 1182) C 0 dL_law_1182 (by decide) ?_
  obtain ⟨z_136, hz_136, h⟩ := kB h
  refine x_callVL (pc := 1183) C st [.int 0, .int 0] (mX9_apart G a st 0 0 hz_136) yvX9_apart q20_20 ⟨Nat.le_of_ble_eq_true rfl, Nat.le_of_ble_eq_true rfl, rfl, rfl⟩ Zd.2.1 rfl rfl (Nat.le_of_ble_eq_true rfl) rfl dL_law_1183 ?_
  refine x_i2l (pc := 1186) C dL_law_1186 ?_
  refine x_aload_n (pc := 1187) C 1 dL_law_1187 rfl rfl ?_
  refine x_iconst (pc := 1188) C 0 dL_law_1188 (by decide) ?_
  refine x_iconst (pc := 1189) C 1 dL_law_1189 (by decide) ?_
  obtain ⟨z_137, hz_137, h⟩ := kB h
  refine x_callVL (pc := 1190) C (kJ st z_136.2) [.int 0, .int 1] (mX9_apart G a (kJ st z_136.2) 0 1 hz_137) yvX9_apart q20_20 ⟨Nat.le_of_ble_eq_true rfl, Nat.le_of_ble_eq_true rfl, rfl, rfl⟩ Zd.2.1 rfl rfl (Nat.le_of_ble_eq_true rfl) rfl dL_law_1190 ?_
  refine x_i2l (pc := 1193) C dL_law_1193 ?_
  refine x_iload (pc := 1194) C 12 dL_law_1194 rfl ?_
  refine x_if_eq (pc := 1196) C 1203 dL_law_1196 (by decide) (fun c_138 => ?_) (fun c_138 => ?_)
  · have h := kIp c_138 h
    refine x_lconst (pc := 1203) C 0 dL_law_1203 (by decide) ?_
    refine kX.pick [0, 1, 2, 3, 4, 5, 6, 7, 8, 9, 10, 11] (lv' := [(0, .ref b), (1, .ref (a 0)), (2, .ref (a 31)), (3, .ref (a 32)), (4, .int v4), (5, .int v5), (6, .int v6), (7, .int v7), (8, .int v8), (10, .int v10), (23, .int v23), (24, .int v24)]) rfl ?_
    exact wL_law_J1204  C Zd X  (kJ (kJ st z_136.2) z_137.2) v4 v5 v6 v7 v8 v10 v23 v24 0 z_137.1.toInt64 z_136.1.toInt64 hK hG h
  · have h := kIn c_138 h
    refine x_lconst (pc := 1199) C 1 dL_law_1199 (by decide) ?_
    refine x_goto (pc := 1200) C 1204 dL_law_1200 (by decide) ?_
    refine kX.pick [0, 1, 2, 3, 4, 5, 6, 7, 8, 9, 10, 11] (lv' := [(0, .ref b), (1, .ref (a 0)), (2, .ref (a 31)), (3, .ref (a 32)), (4, .int v4), (5, .int v5), (6, .int v6), (7, .int v7), (8, .int v8), (10, .int v10), (23, .int v23), (24, .int v24)]) rfl ?_
    exact wL_law_J1204  C Zd X  (kJ (kJ st z_136.2) z_137.2) v4 v5 v6 v7 v8 v10 v23 v24 1 z_137.1.toInt64 z_136.1.toInt64 hK hG h
def fL_law_J967 (K : Int32 → Int32 → Int32 → Int32 → kS → Option (Int32 × kS)) (Gc : Int32 → Int32 → Int32 → Int32 → kS → Option (Int32 × kS)) (L : Nat) (xs : Nat → Int32) (st : kS) (v4 : Int32) (v5 : Int32) (v6 : Int32) (v7 : Int32) (v8 : Int32) (v10 : Int32) (v23 : Int32) (v24 : Int32) (s0 : Int32) : Option (Int32 × kS) := fL_law_L972 (fun v23_133 v24_134 v26_135 => fL_law_J1180 K Gc L xs st v4 v5 v6 v7 v8 v10 v23_133 v24_134 s0) L xs st v4 v5 v6 v7 v8 v10 s0 kFU v23 v24 0
set_option maxRecDepth 100000 in
set_option maxHeartbeats 4000000 in
theorem wL_law_J967 {G : kG} {E : kE} {a : Nat → Nat} {cs : Nat × Nat} {b L : Nat} {xs : Nat → Int32} (C : kOk G E cL_law RL 36 room_1) {z : Int32 × kS} (Zd : kLawZ E b cs z.1) (X : kScr E b L xs) {K Gc : Int32 → Int32 → Int32 → Int32 → kS → Option (Int32 × kS)} (st : kS) (v4 : Int32) (v5 : Int32) (v6 : Int32) (v7 : Int32) (v8 : Int32) (v10 : Int32) (v23 : Int32) (v24 : Int32) (s0 : Int32) (hK : ∀ (u6 : Int32) (u7 : Int32) (u8 : Int32) (u10 : Int32) (su : kS), K u6 u7 u8 u10 su = some z → kX G E cs (wL G a su) 1275 [(1, .ref (a 0)), (4, .int v4)] []) (hG : ∀ (u6 : Int32) (u7 : Int32) (u8 : Int32) (u10 : Int32) (su : kS), Gc u6 u7 u8 u10 su = some z → kX G E cs (wL G a su) 219 [(0, .ref b), (1, .ref (a 0)), (2, .ref (a 31)), (3, .ref (a 32)), (4, .int v4), (5, .int v5), (6, .int u6), (7, .int u7), (8, .int u8), (10, .int u10)] []) (h : fL_law_J967 K Gc L xs st v4 v5 v6 v7 v8 v10 v23 v24 s0 = some z) : kX G E cs (wL G a st) 967 [(0, .ref b), (1, .ref (a 0)), (2, .ref (a 31)), (3, .ref (a 32)), (4, .int v4), (5, .int v5), (6, .int v6), (7, .int v7), (8, .int v8), (10, .int v10), (23, .int v23), (24, .int v24)] [.int s0] := by
  unfold fL_law_J967 at h
  refine x_istore (pc := 967) C (lv' := [(25, .int s0), (0, .ref b), (1, .ref (a 0)), (2, .ref (a 31)), (3, .ref (a 32)), (4, .int v4), (5, .int v5), (6, .int v6), (7, .int v7), (8, .int v8), (10, .int v10), (23, .int v23), (24, .int v24)]) dL_law_967 (by decide) rfl ?_
  refine x_iconst (pc := 969) C 0 dL_law_969 (by decide) ?_
  refine x_istore (pc := 970) C (lv' := [(26, .int 0), (25, .int s0), (0, .ref b), (1, .ref (a 0)), (2, .ref (a 31)), (3, .ref (a 32)), (4, .int v4), (5, .int v5), (6, .int v6), (7, .int v7), (8, .int v8), (10, .int v10), (23, .int v23), (24, .int v24)]) dL_law_970 (by decide) rfl ?_
  refine kX.pick [2, 3, 4, 5, 6, 7, 8, 9, 10, 11, 12, 13, 1, 0] (lv' := [(0, .ref b), (1, .ref (a 0)), (2, .ref (a 31)), (3, .ref (a 32)), (4, .int v4), (5, .int v5), (6, .int v6), (7, .int v7), (8, .int v8), (10, .int v10), (23, .int v23), (24, .int v24), (25, .int s0), (26, .int 0)]) rfl ?_
  refine wL_law_L972  C Zd X  st v4 v5 v6 v7 v8 v10 s0 (fun v23_133 v24_134 v26_135 h => ?_) kFU v23 v24 0 h
  exact wL_law_J1180  C Zd X  st v4 v5 v6 v7 v8 v10 v23_133 v24_134 s0 hK hG h
def fL_law_J944 (K : Int32 → Int32 → Int32 → Int32 → kS → Option (Int32 × kS)) (Gc : Int32 → Int32 → Int32 → Int32 → kS → Option (Int32 × kS)) (L : Nat) (xs : Nat → Int32) (st : kS) (v4 : Int32) (v5 : Int32) (v6 : Int32) (v7 : Int32) (v8 : Int32) (v10 : Int32) : Option (Int32 × kS) := (fL_touch st v4 v6).bind (fun z_108 => if z_108 = 0 then (fL_law_J967 K Gc L xs st v4 v5 v6 v7 v8 v10 0 0 1) else (fL_law_J967 K Gc L xs st v4 v5 v6 v7 v8 v10 0 0 0))
set_option maxRecDepth 100000 in
set_option maxHeartbeats 4000000 in
theorem wL_law_J944 {G : kG} {E : kE} {a : Nat → Nat} {cs : Nat × Nat} {b L : Nat} {xs : Nat → Int32} (C : kOk G E cL_law RL 36 room_1) {z : Int32 × kS} (Zd : kLawZ E b cs z.1) (X : kScr E b L xs) {K Gc : Int32 → Int32 → Int32 → Int32 → kS → Option (Int32 × kS)} (st : kS) (v4 : Int32) (v5 : Int32) (v6 : Int32) (v7 : Int32) (v8 : Int32) (v10 : Int32) (hK : ∀ (u6 : Int32) (u7 : Int32) (u8 : Int32) (u10 : Int32) (su : kS), K u6 u7 u8 u10 su = some z → kX G E cs (wL G a su) 1275 [(1, .ref (a 0)), (4, .int v4)] []) (hG : ∀ (u6 : Int32) (u7 : Int32) (u8 : Int32) (u10 : Int32) (su : kS), Gc u6 u7 u8 u10 su = some z → kX G E cs (wL G a su) 219 [(0, .ref b), (1, .ref (a 0)), (2, .ref (a 31)), (3, .ref (a 32)), (4, .int v4), (5, .int v5), (6, .int u6), (7, .int u7), (8, .int u8), (10, .int u10)] []) (h : fL_law_J944 K Gc L xs st v4 v5 v6 v7 v8 v10 = some z) : kX G E cs (wL G a st) 944 [(0, .ref b), (1, .ref (a 0)), (2, .ref (a 31)), (3, .ref (a 32)), (4, .int v4), (5, .int v5), (6, .int v6), (7, .int v7), (8, .int v8), (10, .int v10)] [] := by
  unfold fL_law_J944 at h
  refine x_iconst (pc := 944) C 0 dL_law_944 (by decide) ?_
  refine x_istore (pc := 945) C (lv' := [(23, .int 0), (0, .ref b), (1, .ref (a 0)), (2, .ref (a 31)), (3, .ref (a 32)), (4, .int v4), (5, .int v5), (6, .int v6), (7, .int v7), (8, .int v8), (10, .int v10)]) dL_law_945 (by decide) rfl ?_
  refine x_iconst (pc := 947) C 0 dL_law_947 (by decide) ?_
  refine x_istore (pc := 948) C (lv' := [(24, .int 0), (23, .int 0), (0, .ref b), (1, .ref (a 0)), (2, .ref (a 31)), (3, .ref (a 32)), (4, .int v4), (5, .int v5), (6, .int v6), (7, .int v7), (8, .int v8), (10, .int v10)]) dL_law_948 (by decide) rfl ?_
  refine x_iload (pc := 950) C 6 dL_law_950 rfl ?_
  refine x_aload_n (pc := 952) C 4 dL_law_952 rfl rfl ?_
  refine x_aload_n (pc := 953) C 5 dL_law_953 rfl rfl ?_
  refine x_iload (pc := 954) C 8 dL_law_954 rfl ?_
  obtain ⟨z_108, hz_108, h⟩ := kB h
  refine x_callS (pc := 956) C [.int v4, .ref (a 31), .ref (a 32), .int v6] (mL_touch G a st v4 v6 hz_108) ysL_touch q17_2 ⟨Nat.le_of_ble_eq_true rfl, Nat.le_of_ble_eq_true rfl, rfl, rfl⟩ Zd.2.1 rfl rfl (Nat.le_of_ble_eq_true rfl) rfl dL_law_956 ?_
  refine x_if_ne (pc := 959) C 966 dL_law_959 (by decide) (fun c_109 => ?_) (fun c_109 => ?_)
  · have h := kIn c_109 h
    refine x_iconst (pc := 966) C 0 dL_law_966 (by decide) ?_
    refine kX.pick [2, 3, 4, 5, 6, 7, 8, 9, 10, 11, 1, 0] (lv' := [(0, .ref b), (1, .ref (a 0)), (2, .ref (a 31)), (3, .ref (a 32)), (4, .int v4), (5, .int v5), (6, .int v6), (7, .int v7), (8, .int v8), (10, .int v10), (23, .int 0), (24, .int 0)]) rfl ?_
    exact wL_law_J967  C Zd X  st v4 v5 v6 v7 v8 v10 0 0 0 hK hG h
  · have h := kIp c_109 h
    refine x_iconst (pc := 962) C 1 dL_law_962 (by decide) ?_
    refine x_goto (pc := 963) C 967 dL_law_963 (by decide) ?_
    refine kX.pick [2, 3, 4, 5, 6, 7, 8, 9, 10, 11, 1, 0] (lv' := [(0, .ref b), (1, .ref (a 0)), (2, .ref (a 31)), (3, .ref (a 32)), (4, .int v4), (5, .int v5), (6, .int v6), (7, .int v7), (8, .int v8), (10, .int v10), (23, .int 0), (24, .int 0)]) rfl ?_
    exact wL_law_J967  C Zd X  st v4 v5 v6 v7 v8 v10 0 0 1 hK hG h
def fL_law_J939 (K : Int32 → Int32 → Int32 → Int32 → kS → Option (Int32 × kS)) (Gc : Int32 → Int32 → Int32 → Int32 → kS → Option (Int32 × kS)) (L : Nat) (xs : Nat → Int32) (st : kS) (v4 : Int32) (v5 : Int32) (v6 : Int32) (v7 : Int32) (v8 : Int32) (v10 : Int32) (s0 : Int32) (s1 : Int32) : Option (Int32 × kS) := if s1 = s0 then (fL_law_J944 K Gc L xs st v4 v5 v6 v7 v8 v10) else (some (0, st))
set_option maxRecDepth 100000 in
set_option maxHeartbeats 4000000 in
theorem wL_law_J939 {G : kG} {E : kE} {a : Nat → Nat} {cs : Nat × Nat} {b L : Nat} {xs : Nat → Int32} (C : kOk G E cL_law RL 36 room_1) {z : Int32 × kS} (Zd : kLawZ E b cs z.1) (X : kScr E b L xs) {K Gc : Int32 → Int32 → Int32 → Int32 → kS → Option (Int32 × kS)} (st : kS) (v4 : Int32) (v5 : Int32) (v6 : Int32) (v7 : Int32) (v8 : Int32) (v10 : Int32) (s0 : Int32) (s1 : Int32) (hK : ∀ (u6 : Int32) (u7 : Int32) (u8 : Int32) (u10 : Int32) (su : kS), K u6 u7 u8 u10 su = some z → kX G E cs (wL G a su) 1275 [(1, .ref (a 0)), (4, .int v4)] []) (hG : ∀ (u6 : Int32) (u7 : Int32) (u8 : Int32) (u10 : Int32) (su : kS), Gc u6 u7 u8 u10 su = some z → kX G E cs (wL G a su) 219 [(0, .ref b), (1, .ref (a 0)), (2, .ref (a 31)), (3, .ref (a 32)), (4, .int v4), (5, .int v5), (6, .int u6), (7, .int u7), (8, .int u8), (10, .int u10)] []) (h : fL_law_J939 K Gc L xs st v4 v5 v6 v7 v8 v10 s0 s1 = some z) : kX G E cs (wL G a st) 939 [(0, .ref b), (1, .ref (a 0)), (2, .ref (a 31)), (3, .ref (a 32)), (4, .int v4), (5, .int v5), (6, .int v6), (7, .int v7), (8, .int v8), (10, .int v10)] [.int s0, .int s1] := by
  unfold fL_law_J939 at h
  refine x_icmp_eq (pc := 939) C 944 dL_law_939 (by decide) (fun c_107 => ?_) (fun c_107 => ?_)
  · have h := kIp c_107 h
    exact wL_law_J944  C Zd X  st v4 v5 v6 v7 v8 v10 hK hG h
  · have h := kIn c_107 h
    refine x_iconst (pc := 942) C 0 dL_law_942 (by decide) ?_
    obtain rfl := Option.some.inj h
    exact x_lawretZ (pc := 943) C Zd dL_law_943
def fL_law_J908 (K : Int32 → Int32 → Int32 → Int32 → kS → Option (Int32 × kS)) (Gc : Int32 → Int32 → Int32 → Int32 → kS → Option (Int32 × kS)) (L : Nat) (xs : Nat → Int32) (st : kS) (v4 : Int32) (v5 : Int32) (v6 : Int32) (v7 : Int32) (v8 : Int32) (v10 : Int32) (v18 : Int32) (v20 : Int64) (v22 : Int32) : Option (Int32 × kS) := (fX9_ways st v18).bind (fun z_103 => if (lg_cmp z_103.1 v20) = 0 then ((fX9_must (kJ st z_103.2) v18).bind (fun z_105 => if (lg_cmp v20 0) ≤ 0 then (fL_law_J939 K Gc L xs (kJ (kJ st z_103.2) z_105.2) v4 v5 v6 v7 v8 v10 0 z_105.1) else (fL_law_J939 K Gc L xs (kJ (kJ st z_103.2) z_105.2) v4 v5 v6 v7 v8 v10 v22 z_105.1))) else (some (0, (kJ st z_103.2))))
set_option maxRecDepth 100000 in
set_option maxHeartbeats 4000000 in
theorem wL_law_J908 {G : kG} {E : kE} {a : Nat → Nat} {cs : Nat × Nat} {b L : Nat} {xs : Nat → Int32} (C : kOk G E cL_law RL 36 room_1) {z : Int32 × kS} (Zd : kLawZ E b cs z.1) (X : kScr E b L xs) {K Gc : Int32 → Int32 → Int32 → Int32 → kS → Option (Int32 × kS)} (st : kS) (v4 : Int32) (v5 : Int32) (v6 : Int32) (v7 : Int32) (v8 : Int32) (v10 : Int32) (v18 : Int32) (v20 : Int64) (v22 : Int32) (hK : ∀ (u6 : Int32) (u7 : Int32) (u8 : Int32) (u10 : Int32) (su : kS), K u6 u7 u8 u10 su = some z → kX G E cs (wL G a su) 1275 [(1, .ref (a 0)), (4, .int v4)] []) (hG : ∀ (u6 : Int32) (u7 : Int32) (u8 : Int32) (u10 : Int32) (su : kS), Gc u6 u7 u8 u10 su = some z → kX G E cs (wL G a su) 219 [(0, .ref b), (1, .ref (a 0)), (2, .ref (a 31)), (3, .ref (a 32)), (4, .int v4), (5, .int v5), (6, .int u6), (7, .int u7), (8, .int u8), (10, .int u10)] []) (h : fL_law_J908 K Gc L xs st v4 v5 v6 v7 v8 v10 v18 v20 v22 = some z) : kX G E cs (wL G a st) 908 [(0, .ref b), (1, .ref (a 0)), (2, .ref (a 31)), (3, .ref (a 32)), (4, .int v4), (5, .int v5), (6, .int v6), (7, .int v7), (8, .int v8), (10, .int v10), (18, .int v18), (20, .long v20), (22, .int v22)] [] := by
  unfold fL_law_J908 at h
  refine x_aload_n (pc := 908) C 1 dL_law_908 rfl rfl ?_
  refine x_iload (pc := 909) C 10 dL_law_909 rfl ?_
  obtain ⟨z_103, hz_103, h⟩ := kB h
  refine x_callVL (pc := 911) C st [.int v18] (mX9_ways G a st v18 hz_103) yvX9_ways q18_20 ⟨Nat.le_of_ble_eq_true rfl, Nat.le_of_ble_eq_true rfl, rfl, rfl⟩ Zd.2.1 rfl rfl (Nat.le_of_ble_eq_true rfl) rfl dL_law_911 ?_
  refine x_lload (pc := 914) C 11 dL_law_914 rfl ?_
  refine x_lcmp (pc := 916) C dL_law_916 ?_
  refine x_if_ne (pc := 917) C 942 dL_law_917 (by decide) (fun c_104 => ?_) (fun c_104 => ?_)
  · have h := kIn c_104 h
    refine x_iconst (pc := 942) C 0 dL_law_942 (by decide) ?_
    obtain rfl := Option.some.inj h
    exact x_lawretZ (pc := 943) C Zd dL_law_943
  · have h := kIp c_104 h
    refine x_aload_n (pc := 920) C 1 dL_law_920 rfl rfl ?_
    refine x_iload (pc := 921) C 10 dL_law_921 rfl ?_
    obtain ⟨z_105, hz_105, h⟩ := kB h
    refine x_callVL (pc := 923) C (kJ st z_103.2) [.int v18] (mX9_must G a (kJ st z_103.2) v18 hz_105) yvX9_must q20_11 ⟨Nat.le_of_ble_eq_true rfl, Nat.le_of_ble_eq_true rfl, rfl, rfl⟩ Zd.2.1 rfl rfl (Nat.le_of_ble_eq_true rfl) rfl dL_law_923 ?_
    refine x_lload (pc := 926) C 11 dL_law_926 rfl ?_
    refine x_lconst (pc := 928) C 0 dL_law_928 (by decide) ?_
    refine x_lcmp (pc := 929) C dL_law_929 ?_
    refine x_if_le (pc := 930) C 938 dL_law_930 (by decide) (fun c_106 => ?_) (fun c_106 => ?_)
    · have h := kIp c_106 h
      refine x_iconst (pc := 938) C 0 dL_law_938 (by decide) ?_
      refine kX.pick [0, 1, 2, 3, 4, 5, 6, 7, 8, 9] (lv' := [(0, .ref b), (1, .ref (a 0)), (2, .ref (a 31)), (3, .ref (a 32)), (4, .int v4), (5, .int v5), (6, .int v6), (7, .int v7), (8, .int v8), (10, .int v10)]) rfl ?_
      exact wL_law_J939  C Zd X  (kJ (kJ st z_103.2) z_105.2) v4 v5 v6 v7 v8 v10 0 z_105.1 hK hG h
    · have h := kIn c_106 h
      refine x_iload (pc := 933) C 12 dL_law_933 rfl ?_
      refine x_goto (pc := 935) C 939 dL_law_935 (by decide) ?_
      refine kX.pick [0, 1, 2, 3, 4, 5, 6, 7, 8, 9] (lv' := [(0, .ref b), (1, .ref (a 0)), (2, .ref (a 31)), (3, .ref (a 32)), (4, .int v4), (5, .int v5), (6, .int v6), (7, .int v7), (8, .int v8), (10, .int v10)]) rfl ?_
      exact wL_law_J939  C Zd X  (kJ (kJ st z_103.2) z_105.2) v4 v5 v6 v7 v8 v10 v22 z_105.1 hK hG h
def fL_law_J713 (K : Int32 → Int32 → Int32 → Int32 → kS → Option (Int32 × kS)) (Gc : Int32 → Int32 → Int32 → Int32 → kS → Option (Int32 × kS)) (L : Nat) (xs : Nat → Int32) (st : kS) (v4 : Int32) (v5 : Int32) (v6 : Int32) (v7 : Int32) (v8 : Int32) (v10 : Int32) (v11 : Int32) : Option (Int32 × kS) := fL_law_L729 (fun v19_82 v20_83 => fL_law_L763 (fun v20_100 v22_101 v23_102 => fL_law_J908 K Gc L xs st v4 v5 v6 v7 v8 v10 (kr (v11 / 8192) 5) v20_100 v22_101) L xs st v4 v5 v6 v7 v8 v10 (kr (v11 / 8192) 5) v19_82 kFU 0 ((kshl 1 v4) - 1) 0) L xs st v4 v5 v6 v7 v8 v10 (kr (v11 / 8192) 5) kFU 1 0
set_option maxRecDepth 100000 in
set_option maxHeartbeats 4000000 in
theorem wL_law_J713 {G : kG} {E : kE} {a : Nat → Nat} {cs : Nat × Nat} {b L : Nat} {xs : Nat → Int32} (C : kOk G E cL_law RL 36 room_1) {z : Int32 × kS} (Zd : kLawZ E b cs z.1) (X : kScr E b L xs) {K Gc : Int32 → Int32 → Int32 → Int32 → kS → Option (Int32 × kS)} (st : kS) (v4 : Int32) (v5 : Int32) (v6 : Int32) (v7 : Int32) (v8 : Int32) (v10 : Int32) (v11 : Int32) (hK : ∀ (u6 : Int32) (u7 : Int32) (u8 : Int32) (u10 : Int32) (su : kS), K u6 u7 u8 u10 su = some z → kX G E cs (wL G a su) 1275 [(1, .ref (a 0)), (4, .int v4)] []) (hG : ∀ (u6 : Int32) (u7 : Int32) (u8 : Int32) (u10 : Int32) (su : kS), Gc u6 u7 u8 u10 su = some z → kX G E cs (wL G a su) 219 [(0, .ref b), (1, .ref (a 0)), (2, .ref (a 31)), (3, .ref (a 32)), (4, .int v4), (5, .int v5), (6, .int u6), (7, .int u7), (8, .int u8), (10, .int u10)] []) (h : fL_law_J713 K Gc L xs st v4 v5 v6 v7 v8 v10 v11 = some z) : kX G E cs (wL G a st) 713 [(0, .ref b), (1, .ref (a 0)), (2, .ref (a 31)), (3, .ref (a 32)), (4, .int v4), (5, .int v5), (6, .int v6), (7, .int v7), (8, .int v8), (10, .int v10), (11, .int v11)] [] := by
  unfold fL_law_J713 at h
  refine x_iload (pc := 713) C 10 dL_law_713 rfl ?_
  refine x_sipush (pc := 715) C 8192 dL_law_715 (by decide) ?_
  refine y_idiv (pc := 718) C dL_law_718 (by decide) ?_
  refine x_iconst (pc := 719) C 5 dL_law_719 (by decide) ?_
  refine y_irem (pc := 720) C dL_law_720 (by decide) ?_
  refine x_istore (pc := 721) C (lv' := [(18, .int (kr (v11 / 8192) 5)), (0, .ref b), (1, .ref (a 0)), (2, .ref (a 31)), (3, .ref (a 32)), (4, .int v4), (5, .int v5), (6, .int v6), (7, .int v7), (8, .int v8), (10, .int v10), (11, .int v11)]) dL_law_721 (by decide) rfl ?_
  refine x_iconst (pc := 723) C 1 dL_law_723 (by decide) ?_
  refine x_istore (pc := 724) C (lv' := [(19, .int 1), (18, .int (kr (v11 / 8192) 5)), (0, .ref b), (1, .ref (a 0)), (2, .ref (a 31)), (3, .ref (a 32)), (4, .int v4), (5, .int v5), (6, .int v6), (7, .int v7), (8, .int v8), (10, .int v10), (11, .int v11)]) dL_law_724 (by decide) rfl ?_
  refine x_iconst (pc := 726) C 0 dL_law_726 (by decide) ?_
  refine x_istore (pc := 727) C (lv' := [(20, .int 0), (19, .int 1), (18, .int (kr (v11 / 8192) 5)), (0, .ref b), (1, .ref (a 0)), (2, .ref (a 31)), (3, .ref (a 32)), (4, .int v4), (5, .int v5), (6, .int v6), (7, .int v7), (8, .int v8), (10, .int v10), (11, .int v11)]) dL_law_727 (by decide) rfl ?_
  refine kX.pick [3, 4, 5, 6, 7, 8, 9, 10, 11, 12, 2, 1, 0] (lv' := [(0, .ref b), (1, .ref (a 0)), (2, .ref (a 31)), (3, .ref (a 32)), (4, .int v4), (5, .int v5), (6, .int v6), (7, .int v7), (8, .int v8), (10, .int v10), (18, .int (kr (v11 / 8192) 5)), (19, .int 1), (20, .int 0)]) rfl ?_
  refine wL_law_L729  C Zd X  st v4 v5 v6 v7 v8 v10 (kr (v11 / 8192) 5) (fun v19_82 v20_83 h => ?_) kFU 1 0 h
  refine x_lconst (pc := 749) C 0 dL_law_749 (by decide) ?_
  refine x_lstore (pc := 750) C (lv' := [(20, .long 0), (0, .ref b), (1, .ref (a 0)), (2, .ref (a 31)), (3, .ref (a 32)), (4, .int v4), (5, .int v5), (6, .int v6), (7, .int v7), (8, .int v8), (10, .int v10), (18, .int (kr (v11 / 8192) 5)), (19, .int v19_82)]) dL_law_750 (by decide) rfl ?_
  refine x_iconst (pc := 752) C 1 dL_law_752 (by decide) ?_
  refine x_iload (pc := 753) C 5 dL_law_753 rfl ?_
  refine y_ishl (pc := 755) C dL_law_755 ?_
  refine x_iconst (pc := 756) C 1 dL_law_756 (by decide) ?_
  refine x_isub (pc := 757) C dL_law_757 ?_
  refine x_istore (pc := 758) C (lv' := [(22, .int ((kshl 1 v4) - 1)), (20, .long 0), (0, .ref b), (1, .ref (a 0)), (2, .ref (a 31)), (3, .ref (a 32)), (4, .int v4), (5, .int v5), (6, .int v6), (7, .int v7), (8, .int v8), (10, .int v10), (18, .int (kr (v11 / 8192) 5)), (19, .int v19_82)]) dL_law_758 (by decide) rfl ?_
  refine x_iconst (pc := 760) C 0 dL_law_760 (by decide) ?_
  refine x_istore (pc := 761) C (lv' := [(23, .int 0), (22, .int ((kshl 1 v4) - 1)), (20, .long 0), (0, .ref b), (1, .ref (a 0)), (2, .ref (a 31)), (3, .ref (a 32)), (4, .int v4), (5, .int v5), (6, .int v6), (7, .int v7), (8, .int v8), (10, .int v10), (18, .int (kr (v11 / 8192) 5)), (19, .int v19_82)]) dL_law_761 (by decide) rfl ?_
  refine kX.pick [3, 4, 5, 6, 7, 8, 9, 10, 11, 12, 13, 14, 2, 1, 0] (lv' := [(0, .ref b), (1, .ref (a 0)), (2, .ref (a 31)), (3, .ref (a 32)), (4, .int v4), (5, .int v5), (6, .int v6), (7, .int v7), (8, .int v8), (10, .int v10), (18, .int (kr (v11 / 8192) 5)), (19, .int v19_82), (20, .long 0), (22, .int ((kshl 1 v4) - 1)), (23, .int 0)]) rfl ?_
  refine wL_law_L763  C Zd X  st v4 v5 v6 v7 v8 v10 (kr (v11 / 8192) 5) v19_82 (fun v20_100 v22_101 v23_102 h => ?_) kFU 0 ((kshl 1 v4) - 1) 0 h
  exact wL_law_J908  C Zd X  st v4 v5 v6 v7 v8 v10 (kr (v11 / 8192) 5) v20_100 v22_101 hK hG h
def fL_law_J675 (K : Int32 → Int32 → Int32 → Int32 → kS → Option (Int32 × kS)) (Gc : Int32 → Int32 → Int32 → Int32 → kS → Option (Int32 × kS)) (L : Nat) (xs : Nat → Int32) (st : kS) (v4 : Int32) (v5 : Int32) (v6 : Int32) (v7 : Int32) (v8 : Int32) (v10 : Int32) (v11 : Int32) (v13 : Int32) (v14 : Int32) (v15 : Int32) (v16 : Int32) (v17 : Int32) : Option (Int32 × kS) := (fX9_odds st v13 v14 v15 0).bind (fun z_77 => (fX9_odds (kJ st z_77.2) v13 v14 v15 1).bind (fun z_78 => (fL_terms z_77.1.toInt64 z_78.1.toInt64 v17.toInt64 v16.toInt64).bind (fun z_79 => if z_79 = 0 then (some (0, (kJ (kJ st z_77.2) z_78.2))) else (fL_law_J713 K Gc L xs (kJ (kJ st z_77.2) z_78.2) v4 v5 v6 v7 v8 v10 v11))))
set_option maxRecDepth 100000 in
set_option maxHeartbeats 4000000 in
theorem wL_law_J675 {G : kG} {E : kE} {a : Nat → Nat} {cs : Nat × Nat} {b L : Nat} {xs : Nat → Int32} (C : kOk G E cL_law RL 36 room_1) {z : Int32 × kS} (Zd : kLawZ E b cs z.1) (X : kScr E b L xs) {K Gc : Int32 → Int32 → Int32 → Int32 → kS → Option (Int32 × kS)} (st : kS) (v4 : Int32) (v5 : Int32) (v6 : Int32) (v7 : Int32) (v8 : Int32) (v10 : Int32) (v11 : Int32) (v13 : Int32) (v14 : Int32) (v15 : Int32) (v16 : Int32) (v17 : Int32) (hK : ∀ (u6 : Int32) (u7 : Int32) (u8 : Int32) (u10 : Int32) (su : kS), K u6 u7 u8 u10 su = some z → kX G E cs (wL G a su) 1275 [(1, .ref (a 0)), (4, .int v4)] []) (hG : ∀ (u6 : Int32) (u7 : Int32) (u8 : Int32) (u10 : Int32) (su : kS), Gc u6 u7 u8 u10 su = some z → kX G E cs (wL G a su) 219 [(0, .ref b), (1, .ref (a 0)), (2, .ref (a 31)), (3, .ref (a 32)), (4, .int v4), (5, .int v5), (6, .int u6), (7, .int u7), (8, .int u8), (10, .int u10)] []) (h : fL_law_J675 K Gc L xs st v4 v5 v6 v7 v8 v10 v11 v13 v14 v15 v16 v17 = some z) : kX G E cs (wL G a st) 675 [(0, .ref b), (1, .ref (a 0)), (2, .ref (a 31)), (3, .ref (a 32)), (4, .int v4), (5, .int v5), (6, .int v6), (7, .int v7), (8, .int v8), (10, .int v10), (11, .int v11), (13, .int v13), (14, .int v14), (15, .int v15), (16, .int v16), (17, .int v17)] [] := by
  unfold fL_law_J675 at h
  refine x_aload_n (pc := 675) C 1 dL_law_675 rfl rfl ?_
  refine x_iload (pc := 676) C 11 dL_law_676 rfl ?_
  refine x_iload (pc := 678) C 12 dL_law_678 rfl ?_
  refine x_iload (pc := 680) C 13 dL_law_680 rfl ?_
  refine x_iconst (pc := 682) C 0 dL_law_682 (by decide) ?_
  obtain ⟨z_77, hz_77, h⟩ := kB h
  refine x_callVL (pc := 683) C st [.int v13, .int v14, .int v15, .int 0] (mX9_odds G a st v13 v14 v15 0 hz_77) yvX9_odds q17_13 ⟨Nat.le_of_ble_eq_true rfl, Nat.le_of_ble_eq_true rfl, rfl, rfl⟩ Zd.2.1 rfl rfl (Nat.le_of_ble_eq_true rfl) rfl dL_law_683 ?_
  refine x_i2l (pc := 686) C dL_law_686 ?_
  refine x_aload_n (pc := 687) C 1 dL_law_687 rfl rfl ?_
  refine x_iload (pc := 688) C 11 dL_law_688 rfl ?_
  refine x_iload (pc := 690) C 12 dL_law_690 rfl ?_
  refine x_iload (pc := 692) C 13 dL_law_692 rfl ?_
  refine x_iconst (pc := 694) C 1 dL_law_694 (by decide) ?_
  obtain ⟨z_78, hz_78, h⟩ := kB h
  refine x_callVL (pc := 695) C (kJ st z_77.2) [.int v13, .int v14, .int v15, .int 1] (mX9_odds G a (kJ st z_77.2) v13 v14 v15 1 hz_78) yvX9_odds q17_13 ⟨Nat.le_of_ble_eq_true rfl, Nat.le_of_ble_eq_true rfl, rfl, rfl⟩ Zd.2.1 rfl rfl (Nat.le_of_ble_eq_true rfl) rfl dL_law_695 ?_
  refine x_i2l (pc := 698) C dL_law_698 ?_
  refine x_iload (pc := 699) C 15 dL_law_699 rfl ?_
  refine x_i2l (pc := 701) C dL_law_701 ?_
  refine x_iload (pc := 702) C 14 dL_law_702 rfl ?_
  refine x_i2l (pc := 704) C dL_law_704 ?_
  obtain ⟨z_79, hz_79, h⟩ := kB h
  refine x_callS (pc := 705) C [.long z_77.1.toInt64, .long z_78.1.toInt64, .long v17.toInt64, .long v16.toInt64] (mL_terms G z_77.1.toInt64 z_78.1.toInt64 v17.toInt64 v16.toInt64 hz_79) ysL_terms q18_17 ⟨Nat.le_of_ble_eq_true rfl, Nat.le_of_ble_eq_true rfl, rfl, rfl⟩ Zd.2.1 rfl rfl (Nat.le_of_ble_eq_true rfl) rfl dL_law_705 ?_
  refine x_if_ne (pc := 708) C 713 dL_law_708 (by decide) (fun c_80 => ?_) (fun c_80 => ?_)
  · have h := kIn c_80 h
    refine kX.pick [0, 1, 2, 3, 4, 5, 6, 7, 8, 9, 10] (lv' := [(0, .ref b), (1, .ref (a 0)), (2, .ref (a 31)), (3, .ref (a 32)), (4, .int v4), (5, .int v5), (6, .int v6), (7, .int v7), (8, .int v8), (10, .int v10), (11, .int v11)]) rfl ?_
    exact wL_law_J713  C Zd X  (kJ (kJ st z_77.2) z_78.2) v4 v5 v6 v7 v8 v10 v11 hK hG h
  · have h := kIp c_80 h
    refine x_iconst (pc := 711) C 0 dL_law_711 (by decide) ?_
    obtain rfl := Option.some.inj h
    exact x_lawretZ (pc := 712) C Zd dL_law_712
def fL_law_J531 (K : Int32 → Int32 → Int32 → Int32 → kS → Option (Int32 × kS)) (Gc : Int32 → Int32 → Int32 → Int32 → kS → Option (Int32 × kS)) (L : Nat) (xs : Nat → Int32) (st : kS) (v4 : Int32) (v5 : Int32) (v6 : Int32) (v7 : Int32) (v8 : Int32) (v10 : Int32) (v11 : Int32) : Option (Int32 × kS) := if v4 = 0 then none else fL_law_L568 (fun v16_65 v17_66 => fL_law_L594 (fun v17_75 v18_76 => fL_law_J675 K Gc L xs st v4 v5 v6 v7 v8 v10 v11 (kr (v11 / 32) v4) (kr (v11 / 256) v4) (kr (v11 / 2048) 4) v16_65 v17_75) L xs st v4 v5 v6 v7 v8 v10 v11 (kr (v11 / 32) v4) (kr (v11 / 256) v4) (kr (v11 / 2048) 4) v16_65 kFU 0 0) L xs st v4 v5 v6 v7 v8 v10 v11 (kr (v11 / 32) v4) (kr (v11 / 256) v4) (kr (v11 / 2048) 4) kFU 1 0
set_option maxRecDepth 100000 in
set_option maxHeartbeats 4000000 in
theorem wL_law_J531 {G : kG} {E : kE} {a : Nat → Nat} {cs : Nat × Nat} {b L : Nat} {xs : Nat → Int32} (C : kOk G E cL_law RL 36 room_1) {z : Int32 × kS} (Zd : kLawZ E b cs z.1) (X : kScr E b L xs) {K Gc : Int32 → Int32 → Int32 → Int32 → kS → Option (Int32 × kS)} (st : kS) (v4 : Int32) (v5 : Int32) (v6 : Int32) (v7 : Int32) (v8 : Int32) (v10 : Int32) (v11 : Int32) (hK : ∀ (u6 : Int32) (u7 : Int32) (u8 : Int32) (u10 : Int32) (su : kS), K u6 u7 u8 u10 su = some z → kX G E cs (wL G a su) 1275 [(1, .ref (a 0)), (4, .int v4)] []) (hG : ∀ (u6 : Int32) (u7 : Int32) (u8 : Int32) (u10 : Int32) (su : kS), Gc u6 u7 u8 u10 su = some z → kX G E cs (wL G a su) 219 [(0, .ref b), (1, .ref (a 0)), (2, .ref (a 31)), (3, .ref (a 32)), (4, .int v4), (5, .int v5), (6, .int u6), (7, .int u7), (8, .int u8), (10, .int u10)] []) (h : fL_law_J531 K Gc L xs st v4 v5 v6 v7 v8 v10 v11 = some z) : kX G E cs (wL G a st) 531 [(0, .ref b), (1, .ref (a 0)), (2, .ref (a 31)), (3, .ref (a 32)), (4, .int v4), (5, .int v5), (6, .int v6), (7, .int v7), (8, .int v8), (10, .int v10), (11, .int v11)] [] := by
  unfold fL_law_J531 at h
  refine x_iload (pc := 531) C 10 dL_law_531 rfl ?_
  refine x_bipush (pc := 533) C 32 dL_law_533 (by decide) ?_
  refine y_idiv (pc := 535) C dL_law_535 (by decide) ?_
  refine x_iload (pc := 536) C 4 dL_law_536 rfl ?_
  obtain ⟨c_63, h⟩ := kGd h
  refine y_irem (pc := 538) C dL_law_538 c_63 ?_
  refine x_istore (pc := 539) C (lv' := [(13, .int (kr (v11 / 32) v4)), (0, .ref b), (1, .ref (a 0)), (2, .ref (a 31)), (3, .ref (a 32)), (4, .int v4), (5, .int v5), (6, .int v6), (7, .int v7), (8, .int v8), (10, .int v10), (11, .int v11)]) dL_law_539 (by decide) rfl ?_
  refine x_iload (pc := 541) C 11 dL_law_541 rfl ?_
  refine x_sipush (pc := 543) C 256 dL_law_543 (by decide) ?_
  refine y_idiv (pc := 546) C dL_law_546 (by decide) ?_
  refine x_iload (pc := 547) C 5 dL_law_547 rfl ?_
  refine y_irem (pc := 549) C dL_law_549 c_63 ?_
  refine x_istore (pc := 550) C (lv' := [(14, .int (kr (v11 / 256) v4)), (13, .int (kr (v11 / 32) v4)), (0, .ref b), (1, .ref (a 0)), (2, .ref (a 31)), (3, .ref (a 32)), (4, .int v4), (5, .int v5), (6, .int v6), (7, .int v7), (8, .int v8), (10, .int v10), (11, .int v11)]) dL_law_550 (by decide) rfl ?_
  refine x_iload (pc := 552) C 12 dL_law_552 rfl ?_
  refine x_sipush (pc := 554) C 2048 dL_law_554 (by decide) ?_
  refine y_idiv (pc := 557) C dL_law_557 (by decide) ?_
  refine x_iconst (pc := 558) C 4 dL_law_558 (by decide) ?_
  refine y_irem (pc := 559) C dL_law_559 (by decide) ?_
  refine x_istore (pc := 560) C (lv' := [(15, .int (kr (v11 / 2048) 4)), (14, .int (kr (v11 / 256) v4)), (13, .int (kr (v11 / 32) v4)), (0, .ref b), (1, .ref (a 0)), (2, .ref (a 31)), (3, .ref (a 32)), (4, .int v4), (5, .int v5), (6, .int v6), (7, .int v7), (8, .int v8), (10, .int v10), (11, .int v11)]) dL_law_560 (by decide) rfl ?_
  refine x_iconst (pc := 562) C 1 dL_law_562 (by decide) ?_
  refine x_istore (pc := 563) C (lv' := [(16, .int 1), (15, .int (kr (v11 / 2048) 4)), (14, .int (kr (v11 / 256) v4)), (13, .int (kr (v11 / 32) v4)), (0, .ref b), (1, .ref (a 0)), (2, .ref (a 31)), (3, .ref (a 32)), (4, .int v4), (5, .int v5), (6, .int v6), (7, .int v7), (8, .int v8), (10, .int v10), (11, .int v11)]) dL_law_563 (by decide) rfl ?_
  refine x_iconst (pc := 565) C 0 dL_law_565 (by decide) ?_
  refine x_istore (pc := 566) C (lv' := [(17, .int 0), (16, .int 1), (15, .int (kr (v11 / 2048) 4)), (14, .int (kr (v11 / 256) v4)), (13, .int (kr (v11 / 32) v4)), (0, .ref b), (1, .ref (a 0)), (2, .ref (a 31)), (3, .ref (a 32)), (4, .int v4), (5, .int v5), (6, .int v6), (7, .int v7), (8, .int v8), (10, .int v10), (11, .int v11)]) dL_law_566 (by decide) rfl ?_
  refine kX.pick [5, 6, 7, 8, 9, 10, 11, 12, 13, 14, 15, 4, 3, 2, 1, 0] (lv' := [(0, .ref b), (1, .ref (a 0)), (2, .ref (a 31)), (3, .ref (a 32)), (4, .int v4), (5, .int v5), (6, .int v6), (7, .int v7), (8, .int v8), (10, .int v10), (11, .int v11), (13, .int (kr (v11 / 32) v4)), (14, .int (kr (v11 / 256) v4)), (15, .int (kr (v11 / 2048) 4)), (16, .int 1), (17, .int 0)]) rfl ?_
  refine wL_law_L568  C Zd X  st v4 v5 v6 v7 v8 v10 v11 (kr (v11 / 32) v4) (kr (v11 / 256) v4) (kr (v11 / 2048) 4) (fun v16_65 v17_66 h => ?_) kFU 1 0 h
  refine x_iconst (pc := 588) C 0 dL_law_588 (by decide) ?_
  refine x_istore (pc := 589) C (lv' := [(17, .int 0), (0, .ref b), (1, .ref (a 0)), (2, .ref (a 31)), (3, .ref (a 32)), (4, .int v4), (5, .int v5), (6, .int v6), (7, .int v7), (8, .int v8), (10, .int v10), (11, .int v11), (13, .int (kr (v11 / 32) v4)), (14, .int (kr (v11 / 256) v4)), (15, .int (kr (v11 / 2048) 4)), (16, .int v16_65)]) dL_law_589 (by decide) rfl ?_
  refine x_iconst (pc := 591) C 0 dL_law_591 (by decide) ?_
  refine x_istore (pc := 592) C (lv' := [(18, .int 0), (17, .int 0), (0, .ref b), (1, .ref (a 0)), (2, .ref (a 31)), (3, .ref (a 32)), (4, .int v4), (5, .int v5), (6, .int v6), (7, .int v7), (8, .int v8), (10, .int v10), (11, .int v11), (13, .int (kr (v11 / 32) v4)), (14, .int (kr (v11 / 256) v4)), (15, .int (kr (v11 / 2048) 4)), (16, .int v16_65)]) dL_law_592 (by decide) rfl ?_
  refine kX.pick [2, 3, 4, 5, 6, 7, 8, 9, 10, 11, 12, 13, 14, 15, 16, 1, 0] (lv' := [(0, .ref b), (1, .ref (a 0)), (2, .ref (a 31)), (3, .ref (a 32)), (4, .int v4), (5, .int v5), (6, .int v6), (7, .int v7), (8, .int v8), (10, .int v10), (11, .int v11), (13, .int (kr (v11 / 32) v4)), (14, .int (kr (v11 / 256) v4)), (15, .int (kr (v11 / 2048) 4)), (16, .int v16_65), (17, .int 0), (18, .int 0)]) rfl ?_
  refine wL_law_L594  C Zd X  st v4 v5 v6 v7 v8 v10 v11 (kr (v11 / 32) v4) (kr (v11 / 256) v4) (kr (v11 / 2048) 4) v16_65 (fun v17_75 v18_76 h => ?_) kFU 0 0 h
  exact wL_law_J675  C Zd X  st v4 v5 v6 v7 v8 v10 v11 (kr (v11 / 32) v4) (kr (v11 / 256) v4) (kr (v11 / 2048) 4) v16_65 v17_75 hK hG h
def fL_law_J494 (K : Int32 → Int32 → Int32 → Int32 → kS → Option (Int32 × kS)) (Gc : Int32 → Int32 → Int32 → Int32 → kS → Option (Int32 × kS)) (L : Nat) (xs : Nat → Int32) (st : kS) (v4 : Int32) (v5 : Int32) (v6 : Int32) (v7 : Int32) (v8 : Int32) (v10 : Int32) (v11 : Int32) (v12 : Int32) : Option (Int32 × kS) := (fX9_touch st).bind (fun z_57 => (fL_touch st v4 v6).bind (fun z_58 => if z_57 = z_58 then ((fX9_joins st).bind (fun z_60 => if z_60 = v12 then (if (fX9_count st 2) = v8 then (fL_law_J531 K Gc L xs st v4 v5 v6 v7 v8 v10 v11) else (some (0, st))) else (some (0, st)))) else (some (0, st))))
set_option maxRecDepth 100000 in
set_option maxHeartbeats 4000000 in
theorem wL_law_J494 {G : kG} {E : kE} {a : Nat → Nat} {cs : Nat × Nat} {b L : Nat} {xs : Nat → Int32} (C : kOk G E cL_law RL 36 room_1) {z : Int32 × kS} (Zd : kLawZ E b cs z.1) (X : kScr E b L xs) {K Gc : Int32 → Int32 → Int32 → Int32 → kS → Option (Int32 × kS)} (st : kS) (v4 : Int32) (v5 : Int32) (v6 : Int32) (v7 : Int32) (v8 : Int32) (v10 : Int32) (v11 : Int32) (v12 : Int32) (hK : ∀ (u6 : Int32) (u7 : Int32) (u8 : Int32) (u10 : Int32) (su : kS), K u6 u7 u8 u10 su = some z → kX G E cs (wL G a su) 1275 [(1, .ref (a 0)), (4, .int v4)] []) (hG : ∀ (u6 : Int32) (u7 : Int32) (u8 : Int32) (u10 : Int32) (su : kS), Gc u6 u7 u8 u10 su = some z → kX G E cs (wL G a su) 219 [(0, .ref b), (1, .ref (a 0)), (2, .ref (a 31)), (3, .ref (a 32)), (4, .int v4), (5, .int v5), (6, .int u6), (7, .int u7), (8, .int u8), (10, .int u10)] []) (h : fL_law_J494 K Gc L xs st v4 v5 v6 v7 v8 v10 v11 v12 = some z) : kX G E cs (wL G a st) 494 [(0, .ref b), (1, .ref (a 0)), (2, .ref (a 31)), (3, .ref (a 32)), (4, .int v4), (5, .int v5), (6, .int v6), (7, .int v7), (8, .int v8), (10, .int v10), (11, .int v11), (12, .int v12)] [] := by
  unfold fL_law_J494 at h
  refine x_aload_n (pc := 494) C 1 dL_law_494 rfl rfl ?_
  obtain ⟨z_57, hz_57, h⟩ := kB h
  refine x_callVL0 (pc := 495) C st [] (mX9_touch G a st hz_57) yvX9_touch q16_14 ⟨Nat.le_of_ble_eq_true rfl, Nat.le_of_ble_eq_true rfl, rfl, rfl⟩ Zd.2.1 rfl rfl (Nat.le_of_ble_eq_true rfl) rfl dL_law_495 ?_
  refine x_iload (pc := 498) C 4 dL_law_498 rfl ?_
  refine x_aload_n (pc := 500) C 2 dL_law_500 rfl rfl ?_
  refine x_aload_n (pc := 501) C 3 dL_law_501 rfl rfl ?_
  refine x_iload (pc := 502) C 6 dL_law_502 rfl ?_
  obtain ⟨z_58, hz_58, h⟩ := kB h
  refine x_callS (pc := 504) C [.int v4, .ref (a 31), .ref (a 32), .int v6] (mL_touch G a st v4 v6 hz_58) ysL_touch q17_2 ⟨Nat.le_of_ble_eq_true rfl, Nat.le_of_ble_eq_true rfl, rfl, rfl⟩ Zd.2.1 rfl rfl (Nat.le_of_ble_eq_true rfl) rfl dL_law_504 ?_
  refine x_icmp_ne (pc := 507) C 529 dL_law_507 (by decide) (fun c_59 => ?_) (fun c_59 => ?_)
  · have h := kIn c_59 h
    refine x_iconst (pc := 529) C 0 dL_law_529 (by decide) ?_
    obtain rfl := Option.some.inj h
    exact x_lawretZ (pc := 530) C Zd dL_law_530
  · have h := kIp c_59 h
    refine x_aload_n (pc := 510) C 1 dL_law_510 rfl rfl ?_
    obtain ⟨z_60, hz_60, h⟩ := kB h
    refine x_callVL0 (pc := 511) C st [] (mX9_joins G a st hz_60) yvX9_joins q17_5 ⟨Nat.le_of_ble_eq_true rfl, Nat.le_of_ble_eq_true rfl, rfl, rfl⟩ Zd.2.1 rfl rfl (Nat.le_of_ble_eq_true rfl) rfl dL_law_511 ?_
    refine x_iload (pc := 514) C 11 dL_law_514 rfl ?_
    refine x_icmp_ne (pc := 516) C 529 dL_law_516 (by decide) (fun c_61 => ?_) (fun c_61 => ?_)
    · have h := kIn c_61 h
      refine x_iconst (pc := 529) C 0 dL_law_529 (by decide) ?_
      obtain rfl := Option.some.inj h
      exact x_lawretZ (pc := 530) C Zd dL_law_530
    · have h := kIp c_61 h
      refine x_aload_n (pc := 519) C 1 dL_law_519 rfl rfl ?_
      refine x_iconst (pc := 520) C 2 dL_law_520 (by decide) ?_
      refine x_callVL0 (pc := 521) C st [.int 2] (mX9_count G a st 2) yvX9_count q8_4 ⟨Nat.le_of_ble_eq_true rfl, Nat.le_of_ble_eq_true rfl, rfl, rfl⟩ Zd.2.1 rfl rfl (Nat.le_of_ble_eq_true rfl) rfl dL_law_521 ?_
      refine x_iload (pc := 524) C 8 dL_law_524 rfl ?_
      refine x_icmp_eq (pc := 526) C 531 dL_law_526 (by decide) (fun c_62 => ?_) (fun c_62 => ?_)
      · have h := kIp c_62 h
        refine kX.pick [0, 1, 2, 3, 4, 5, 6, 7, 8, 9, 10] (lv' := [(0, .ref b), (1, .ref (a 0)), (2, .ref (a 31)), (3, .ref (a 32)), (4, .int v4), (5, .int v5), (6, .int v6), (7, .int v7), (8, .int v8), (10, .int v10), (11, .int v11)]) rfl ?_
        exact wL_law_J531  C Zd X  st v4 v5 v6 v7 v8 v10 v11 hK hG h
      · have h := kIn c_62 h
        refine x_iconst (pc := 529) C 0 dL_law_529 (by decide) ?_
        obtain rfl := Option.some.inj h
        exact x_lawretZ (pc := 530) C Zd dL_law_530
def fL_law_J310 (K : Int32 → Int32 → Int32 → Int32 → kS → Option (Int32 × kS)) (Gc : Int32 → Int32 → Int32 → Int32 → kS → Option (Int32 × kS)) (L : Nat) (xs : Nat → Int32) (st : kS) (v4 : Int32) (v5 : Int32) (v6 : Int32) (v7 : Int32) (v8 : Int32) (v10 : Int32) (v11 : Int32) : Option (Int32 × kS) := fL_law_L316 (fun v12_55 v13_56 => fL_law_J494 K Gc L xs st v4 v5 v6 v7 v8 v10 v11 v12_55) L xs st v4 v5 v6 v7 v8 v10 v11 kFU 0 0
set_option maxRecDepth 100000 in
set_option maxHeartbeats 4000000 in
theorem wL_law_J310 {G : kG} {E : kE} {a : Nat → Nat} {cs : Nat × Nat} {b L : Nat} {xs : Nat → Int32} (C : kOk G E cL_law RL 36 room_1) {z : Int32 × kS} (Zd : kLawZ E b cs z.1) (X : kScr E b L xs) {K Gc : Int32 → Int32 → Int32 → Int32 → kS → Option (Int32 × kS)} (st : kS) (v4 : Int32) (v5 : Int32) (v6 : Int32) (v7 : Int32) (v8 : Int32) (v10 : Int32) (v11 : Int32) (hK : ∀ (u6 : Int32) (u7 : Int32) (u8 : Int32) (u10 : Int32) (su : kS), K u6 u7 u8 u10 su = some z → kX G E cs (wL G a su) 1275 [(1, .ref (a 0)), (4, .int v4)] []) (hG : ∀ (u6 : Int32) (u7 : Int32) (u8 : Int32) (u10 : Int32) (su : kS), Gc u6 u7 u8 u10 su = some z → kX G E cs (wL G a su) 219 [(0, .ref b), (1, .ref (a 0)), (2, .ref (a 31)), (3, .ref (a 32)), (4, .int v4), (5, .int v5), (6, .int u6), (7, .int u7), (8, .int u8), (10, .int u10)] []) (h : fL_law_J310 K Gc L xs st v4 v5 v6 v7 v8 v10 v11 = some z) : kX G E cs (wL G a st) 310 [(0, .ref b), (1, .ref (a 0)), (2, .ref (a 31)), (3, .ref (a 32)), (4, .int v4), (5, .int v5), (6, .int v6), (7, .int v7), (8, .int v8), (10, .int v10), (11, .int v11)] [] := by
  unfold fL_law_J310 at h
  refine x_iconst (pc := 310) C 0 dL_law_310 (by decide) ?_
  refine x_istore (pc := 311) C (lv' := [(12, .int 0), (0, .ref b), (1, .ref (a 0)), (2, .ref (a 31)), (3, .ref (a 32)), (4, .int v4), (5, .int v5), (6, .int v6), (7, .int v7), (8, .int v8), (10, .int v10), (11, .int v11)]) dL_law_311 (by decide) rfl ?_
  refine x_iconst (pc := 313) C 0 dL_law_313 (by decide) ?_
  refine x_istore (pc := 314) C (lv' := [(13, .int 0), (12, .int 0), (0, .ref b), (1, .ref (a 0)), (2, .ref (a 31)), (3, .ref (a 32)), (4, .int v4), (5, .int v5), (6, .int v6), (7, .int v7), (8, .int v8), (10, .int v10), (11, .int v11)]) dL_law_314 (by decide) rfl ?_
  refine kX.pick [2, 3, 4, 5, 6, 7, 8, 9, 10, 11, 12, 1, 0] (lv' := [(0, .ref b), (1, .ref (a 0)), (2, .ref (a 31)), (3, .ref (a 32)), (4, .int v4), (5, .int v5), (6, .int v6), (7, .int v7), (8, .int v8), (10, .int v10), (11, .int v11), (12, .int 0), (13, .int 0)]) rfl ?_
  refine wL_law_L316  C Zd X  st v4 v5 v6 v7 v8 v10 v11 (fun v12_55 v13_56 h => ?_) kFU 0 0 h
  exact wL_law_J494  C Zd X  st v4 v5 v6 v7 v8 v10 v11 v12_55 hK hG h
def fL_law_J294 (K : Int32 → Int32 → Int32 → Int32 → kS → Option (Int32 × kS)) (Gc : Int32 → Int32 → Int32 → Int32 → kS → Option (Int32 × kS)) (L : Nat) (xs : Nat → Int32) (st : kS) (v4 : Int32) (v5 : Int32) (v6 : Int32) (v8 : Int32) (v10 : Int32) (v11 : Int32) (v14 : Int32) (s0 : Int32) (s1 : Int32) : Option (Int32 × kS) := if s1 = s0 then (fL_law_J310 K Gc L xs st v4 v5 v14 v6 (v8 + 1) v10 v11) else (some (0, st))
set_option maxRecDepth 100000 in
set_option maxHeartbeats 4000000 in
theorem wL_law_J294 {G : kG} {E : kE} {a : Nat → Nat} {cs : Nat × Nat} {b L : Nat} {xs : Nat → Int32} (C : kOk G E cL_law RL 36 room_1) {z : Int32 × kS} (Zd : kLawZ E b cs z.1) (X : kScr E b L xs) {K Gc : Int32 → Int32 → Int32 → Int32 → kS → Option (Int32 × kS)} (st : kS) (v4 : Int32) (v5 : Int32) (v6 : Int32) (v8 : Int32) (v10 : Int32) (v11 : Int32) (v14 : Int32) (s0 : Int32) (s1 : Int32) (hK : ∀ (u6 : Int32) (u7 : Int32) (u8 : Int32) (u10 : Int32) (su : kS), K u6 u7 u8 u10 su = some z → kX G E cs (wL G a su) 1275 [(1, .ref (a 0)), (4, .int v4)] []) (hG : ∀ (u6 : Int32) (u7 : Int32) (u8 : Int32) (u10 : Int32) (su : kS), Gc u6 u7 u8 u10 su = some z → kX G E cs (wL G a su) 219 [(0, .ref b), (1, .ref (a 0)), (2, .ref (a 31)), (3, .ref (a 32)), (4, .int v4), (5, .int v5), (6, .int u6), (7, .int u7), (8, .int u8), (10, .int u10)] []) (h : fL_law_J294 K Gc L xs st v4 v5 v6 v8 v10 v11 v14 s0 s1 = some z) : kX G E cs (wL G a st) 294 [(0, .ref b), (1, .ref (a 0)), (2, .ref (a 31)), (3, .ref (a 32)), (4, .int v4), (5, .int v5), (6, .int v6), (8, .int v8), (10, .int v10), (11, .int v11), (14, .int v14)] [.int s0, .int s1] := by
  unfold fL_law_J294 at h
  refine x_icmp_eq (pc := 294) C 299 dL_law_294 (by decide) (fun c_153 => ?_) (fun c_153 => ?_)
  · have h := kIp c_153 h
    refine x_iload (pc := 299) C 6 dL_law_299 rfl ?_
    refine x_istore (pc := 301) C (lv' := [(7, .int v6), (0, .ref b), (1, .ref (a 0)), (2, .ref (a 31)), (3, .ref (a 32)), (4, .int v4), (5, .int v5), (6, .int v6), (8, .int v8), (10, .int v10), (11, .int v11), (14, .int v14)]) dL_law_301 (by decide) rfl ?_
    refine x_iload (pc := 303) C 11 dL_law_303 rfl ?_
    refine x_istore (pc := 305) C (lv' := [(6, .int v14), (7, .int v6), (0, .ref b), (1, .ref (a 0)), (2, .ref (a 31)), (3, .ref (a 32)), (4, .int v4), (5, .int v5), (8, .int v8), (10, .int v10), (11, .int v11), (14, .int v14)]) dL_law_305 (by decide) rfl ?_
    refine x_iinc (pc := 307) C 8 (v := v8 + 1) (lv' := [(8, .int (v8 + 1)), (6, .int v14), (7, .int v6), (0, .ref b), (1, .ref (a 0)), (2, .ref (a 31)), (3, .ref (a 32)), (4, .int v4), (5, .int v5), (10, .int v10), (11, .int v11), (14, .int v14)]) dL_law_307 rfl rfl (by decide) rfl ?_
    refine kX.pick [3, 4, 5, 6, 7, 8, 1, 2, 0, 9, 10] (lv' := [(0, .ref b), (1, .ref (a 0)), (2, .ref (a 31)), (3, .ref (a 32)), (4, .int v4), (5, .int v5), (6, .int v14), (7, .int v6), (8, .int (v8 + 1)), (10, .int v10), (11, .int v11)]) rfl ?_
    exact wL_law_J310  C Zd X  st v4 v5 v14 v6 (v8 + 1) v10 v11 hK hG h
  · have h := kIn c_153 h
    refine x_iconst (pc := 297) C 0 dL_law_297 (by decide) ?_
    obtain rfl := Option.some.inj h
    exact x_lawretZ (pc := 298) C Zd dL_law_298
def fL_law_L219_B (K : Int32 → Int32 → Int32 → Int32 → kS → Option (Int32 × kS)) (Gc : Int32 → Int32 → Int32 → Int32 → kS → Option (Int32 × kS)) (L : Nat) (xs : Nat → Int32) (st : kS) (v4 : Int32) (v5 : Int32) (v6 : Int32) (v7 : Int32) (v8 : Int32) (v10 : Int32) : Option (Int32 × kS) := if 14 ≤ v10 then (K v6 v7 v8 v10 st) else ((fL_cell L xs (2 + v10)).bind (fun z_30 => if v10 ≤ 0 then (fL_law_J310 K Gc L xs st v4 v5 v6 v7 v8 v10 z_30) else (if v4 = 0 then none else (fL_change st v4 v6 ((kr z_30 v4) + ((kr (z_30 / 8) 3) - 1))).bind (fun z_150 => (fX9_night st (kr z_30 v4) ((kr (z_30 / 8) 3) - 1)).bind (fun z_151 => if z_150 = v6 then (fL_law_J294 K Gc L xs (kJ st z_151.2) v4 v5 v6 v8 v10 z_30 z_150 0 z_151.1) else (fL_law_J294 K Gc L xs (kJ st z_151.2) v4 v5 v6 v8 v10 z_30 z_150 1 z_151.1))))))
set_option maxRecDepth 100000 in
set_option maxHeartbeats 4000000 in
theorem wL_law_L219_B {G : kG} {E : kE} {a : Nat → Nat} {cs : Nat × Nat} {b L : Nat} {xs : Nat → Int32} (C : kOk G E cL_law RL 36 room_1) {z : Int32 × kS} (Zd : kLawZ E b cs z.1) (X : kScr E b L xs) {K Gc : Int32 → Int32 → Int32 → Int32 → kS → Option (Int32 × kS)} (st : kS) (v4 : Int32) (v5 : Int32) (v6 : Int32) (v7 : Int32) (v8 : Int32) (v10 : Int32) (hK : ∀ (u6 : Int32) (u7 : Int32) (u8 : Int32) (u10 : Int32) (su : kS), K u6 u7 u8 u10 su = some z → kX G E cs (wL G a su) 1275 [(1, .ref (a 0)), (4, .int v4)] []) (hG : ∀ (u6 : Int32) (u7 : Int32) (u8 : Int32) (u10 : Int32) (su : kS), Gc u6 u7 u8 u10 su = some z → kX G E cs (wL G a su) 219 [(0, .ref b), (1, .ref (a 0)), (2, .ref (a 31)), (3, .ref (a 32)), (4, .int v4), (5, .int v5), (6, .int u6), (7, .int u7), (8, .int u8), (10, .int u10)] []) (h : fL_law_L219_B K Gc L xs st v4 v5 v6 v7 v8 v10 = some z) : kX G E cs (wL G a st) 219 [(0, .ref b), (1, .ref (a 0)), (2, .ref (a 31)), (3, .ref (a 32)), (4, .int v4), (5, .int v5), (6, .int v6), (7, .int v7), (8, .int v8), (10, .int v10)] [] := by
  unfold fL_law_L219_B at h
  refine x_iload (pc := 219) C 9 dL_law_219 rfl ?_
  refine x_bipush (pc := 221) C 14 dL_law_221 (by decide) ?_
  refine x_icmp_ge (pc := 223) C 1275 dL_law_223 (by decide) (fun c_29 => ?_) (fun c_29 => ?_)
  · have h := kIp c_29 h
    refine kX.pick [1, 4] (lv' := [(1, .ref (a 0)), (4, .int v4)]) rfl ?_
    exact hK v6 v7 v8 v10 st h
  · have h := kIn c_29 h
    refine x_aload_n (pc := 226) C 0 dL_law_226 rfl rfl ?_
    refine x_iconst (pc := 227) C 2 dL_law_227 (by decide) ?_
    refine x_iload (pc := 228) C 9 dL_law_228 rfl ?_
    refine x_iadd (pc := 230) C dL_law_230 ?_
    obtain ⟨z_30, hz_30, h⟩ := kB h
    refine x_callSS (pc := 231) C X [.ref b, .int (2 + v10)] (mL_cell G b (2 + v10) hz_30) ysL_cell q5_8 ⟨Nat.le_of_ble_eq_true rfl, Nat.le_of_ble_eq_true rfl, rfl, rfl⟩ Zd.2.1 rfl rfl (Nat.le_of_ble_eq_true rfl) rfl dL_law_231 ?_
    refine x_istore (pc := 234) C (lv' := [(11, .int z_30), (0, .ref b), (1, .ref (a 0)), (2, .ref (a 31)), (3, .ref (a 32)), (4, .int v4), (5, .int v5), (6, .int v6), (7, .int v7), (8, .int v8), (10, .int v10)]) dL_law_234 (by decide) rfl ?_
    refine x_iload (pc := 236) C 10 dL_law_236 rfl ?_
    refine x_if_le (pc := 238) C 310 dL_law_238 (by decide) (fun c_31 => ?_) (fun c_31 => ?_)
    · have h := kIp c_31 h
      refine kX.pick [1, 2, 3, 4, 5, 6, 7, 8, 9, 10, 0] (lv' := [(0, .ref b), (1, .ref (a 0)), (2, .ref (a 31)), (3, .ref (a 32)), (4, .int v4), (5, .int v5), (6, .int v6), (7, .int v7), (8, .int v8), (10, .int v10), (11, .int z_30)]) rfl ?_
      exact wL_law_J310  C Zd X  st v4 v5 v6 v7 v8 v10 z_30 hK hG h
    · have h := kIn c_31 h
      refine x_iload (pc := 241) C 0 dL_law_241 rfl ?_
      refine x_iload (pc := 243) C 5 dL_law_243 rfl ?_
      obtain ⟨c_149, h⟩ := kGd h
      refine y_irem (pc := 245) C dL_law_245 c_149 ?_
      refine x_istore (pc := 246) C (lv' := [(12, .int (kr z_30 v4)), (11, .int z_30), (0, .ref b), (1, .ref (a 0)), (2, .ref (a 31)), (3, .ref (a 32)), (4, .int v4), (5, .int v5), (6, .int v6), (7, .int v7), (8, .int v8), (10, .int v10)]) dL_law_246 (by decide) rfl ?_
      refine x_iload (pc := 248) C 1 dL_law_248 rfl ?_
      refine x_bipush (pc := 250) C 8 dL_law_250 (by decide) ?_
      refine y_idiv (pc := 252) C dL_law_252 (by decide) ?_
      refine x_iconst (pc := 253) C 3 dL_law_253 (by decide) ?_
      refine y_irem (pc := 254) C dL_law_254 (by decide) ?_
      refine x_iconst (pc := 255) C 1 dL_law_255 (by decide) ?_
      refine x_isub (pc := 256) C dL_law_256 ?_
      refine x_istore (pc := 257) C (lv' := [(13, .int ((kr (z_30 / 8) 3) - 1)), (12, .int (kr z_30 v4)), (11, .int z_30), (0, .ref b), (1, .ref (a 0)), (2, .ref (a 31)), (3, .ref (a 32)), (4, .int v4), (5, .int v5), (6, .int v6), (7, .int v7), (8, .int v8), (10, .int v10)]) dL_law_257 (by decide) rfl ?_
      refine x_iload (pc := 259) C 7 dL_law_259 rfl ?_
      refine x_aload_n (pc := 261) C 5 dL_law_261 rfl rfl ?_
      refine x_iload (pc := 262) C 9 dL_law_262 rfl ?_
      refine x_iload (pc := 264) C 1 dL_law_264 rfl ?_
      refine x_iload (pc := 266) C 0 dL_law_266 rfl ?_
      refine x_iadd (pc := 268) C dL_law_268 ?_
      obtain ⟨z_150, hz_150, h⟩ := kB h
      refine x_callS (pc := 269) C [.int v4, .ref (a 31), .int v6, .int ((kr z_30 v4) + ((kr (z_30 / 8) 3) - 1))] (mL_change G a st v4 v6 ((kr z_30 v4) + ((kr (z_30 / 8) 3) - 1)) hz_150) ysL_change q12_17 ⟨Nat.le_of_ble_eq_true rfl, Nat.le_of_ble_eq_true rfl, rfl, rfl⟩ Zd.2.1 rfl rfl (Nat.le_of_ble_eq_true rfl) rfl dL_law_269 ?_
      refine x_istore (pc := 272) C (lv' := [(14, .int z_150), (13, .int ((kr (z_30 / 8) 3) - 1)), (12, .int (kr z_30 v4)), (11, .int z_30), (0, .ref b), (1, .ref (a 0)), (2, .ref (a 31)), (3, .ref (a 32)), (4, .int v4), (5, .int v5), (6, .int v6), (7, .int v7), (8, .int v8), (10, .int v10)]) dL_law_272 (by decide) rfl ?_
      refine x_aload_n (pc := 274) C 5 dL_law_274 rfl rfl ?_
      refine x_iload (pc := 275) C 2 dL_law_275 rfl ?_
      refine x_iload (pc := 277) C 1 dL_law_277 rfl ?_
      obtain ⟨z_151, hz_151, h⟩ := kB h
      refine x_callVL (pc := 279) C st [.int (kr z_30 v4), .int ((kr (z_30 / 8) 3) - 1)] (mX9_night G a st (kr z_30 v4) ((kr (z_30 / 8) 3) - 1) hz_151) yvX9_night q12_23 ⟨Nat.le_of_ble_eq_true rfl, Nat.le_of_ble_eq_true rfl, rfl, rfl⟩ Zd.2.1 rfl rfl (Nat.le_of_ble_eq_true rfl) rfl dL_law_279 ?_
      refine x_iload (pc := 282) C 0 dL_law_282 rfl ?_
      refine x_iload (pc := 284) C 10 dL_law_284 rfl ?_
      refine x_icmp_eq (pc := 286) C 293 dL_law_286 (by decide) (fun c_152 => ?_) (fun c_152 => ?_)
      · have h := kIp c_152 h
        refine x_iconst (pc := 293) C 0 dL_law_293 (by decide) ?_
        refine kX.pick [4, 5, 6, 7, 8, 9, 10, 12, 13, 3, 0] (lv' := [(0, .ref b), (1, .ref (a 0)), (2, .ref (a 31)), (3, .ref (a 32)), (4, .int v4), (5, .int v5), (6, .int v6), (8, .int v8), (10, .int v10), (11, .int z_30), (14, .int z_150)]) rfl ?_
        exact wL_law_J294  C Zd X  (kJ st z_151.2) v4 v5 v6 v8 v10 z_30 z_150 0 z_151.1 hK hG h
      · have h := kIn c_152 h
        refine x_iconst (pc := 289) C 1 dL_law_289 (by decide) ?_
        refine x_goto (pc := 290) C 294 dL_law_290 (by decide) ?_
        refine kX.pick [4, 5, 6, 7, 8, 9, 10, 12, 13, 3, 0] (lv' := [(0, .ref b), (1, .ref (a 0)), (2, .ref (a 31)), (3, .ref (a 32)), (4, .int v4), (5, .int v5), (6, .int v6), (8, .int v8), (10, .int v10), (11, .int z_30), (14, .int z_150)]) rfl ?_
        exact wL_law_J294  C Zd X  (kJ st z_151.2) v4 v5 v6 v8 v10 z_30 z_150 1 z_151.1 hK hG h
