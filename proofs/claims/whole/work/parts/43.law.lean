def kH_letters (R : Nat → kS → kS → Prop) : Prop := ∀ (k : Nat) (sx sm : kS) (p0 : Int64), k < 512 → R k sx sm → ∃ (zx : Int32 × kS), ∃ (zm : Int32 × kS), fX9_letters sx p0 = some zx ∧ fX10_letters sm p0 = some zm ∧ zx.1 = zm.1 ∧ R (k + 1) zx.2 zm.2
def kH_blank (R : Nat → kS → kS → Prop) : Prop := ∀ (k : Nat) (sx sm : kS), k < 512 → R k sx sm → (fX9_blank sx).1 = (fX10_blank sm).1 ∧ R (k + 1) (fX9_blank sx).2 (fX10_blank sm).2
def kH_fault (R : Nat → kS → kS → Prop) : Prop := ∀ (k : Nat) (sx sm : kS) (p0 : Int32), k < 512 → R k sx sm → ∃ (zx : Int32), ∃ (zm : Int32 × kS), fX9_fault sx p0 = some zx ∧ fX10_fault sm p0 = some zm ∧ zx = zm.1 ∧ R (k + 1) sx zm.2
def kH_ring (R : Nat → kS → kS → Prop) : Prop := ∀ (k : Nat) (sx sm : kS), k < 512 → R k sx sm → ∃ (zx : Int32 × kS), ∃ (zm : Int32 × kS), fX9_ring sx = some zx ∧ fX10_ring sm = some zm ∧ zx.1 = zm.1 ∧ R (k + 1) zx.2 zm.2
def kH_aim (R : Nat → kS → kS → Prop) : Prop := ∀ (k : Nat) (sx sm : kS), k < 512 → R k sx sm → ∃ (zx : Int32 × kS), ∃ (zm : Int32 × kS), fX9_aim sx = some zx ∧ fX10_aim sm = some zm ∧ zx.1 = zm.1 ∧ R (k + 1) zx.2 zm.2
def kH_letter (R : Nat → kS → kS → Prop) : Prop := ∀ (k : Nat) (sx sm : kS), k < 512 → R k sx sm → ∃ (zx : Int32 × kS), ∃ (zm : Int32 × kS), fX9_letter sx = some zx ∧ fX10_letter sm = some zm ∧ zx.1 = zm.1 ∧ R (k + 1) zx.2 zm.2
def kH_house (R : Nat → kS → kS → Prop) : Prop := ∀ (k : Nat) (sx sm : kS) (p0 : Int32) (p1 : Int32), k < 512 → R k sx sm → ∃ (zx : Int32), ∃ (zm : Int32), fX9_house sx p0 p1 = some zx ∧ fX10_house sm p0 p1 = some zm ∧ zx = zm ∧ R (k + 1) sx sm
def kH_as (R : Nat → kS → kS → Prop) : Prop := ∀ (k : Nat) (sx sm : kS) (p0 : Int32) (p1 : Int32), k < 512 → R k sx sm → ∃ (zm : Int32), fX10_as sm p0 p1 = some zm ∧ (fX9_as sx p0 p1) = zm ∧ R (k + 1) sx sm
def kH_at (R : Nat → kS → kS → Prop) : Prop := ∀ (k : Nat) (sx sm : kS) (p0 : Int32), k < 512 → R k sx sm → ∃ (zm : Int32), fX10_at sm p0 = some zm ∧ (fX9_at sx p0) = zm ∧ R (k + 1) sx sm
def kH_feud (R : Nat → kS → kS → Prop) : Prop := ∀ (k : Nat) (sx sm : kS) (p0 : Int32) (p1 : Int32), k < 512 → R k sx sm → ∃ (zm : Int32), fX10_feud sm p0 p1 = some zm ∧ (fX9_feud sx p0 p1) = zm ∧ R (k + 1) sx sm
def kH_touch (R : Nat → kS → kS → Prop) : Prop := ∀ (k : Nat) (sx sm : kS), k < 512 → R k sx sm → ∃ (zx : Int32), ∃ (zm : Int32), fX9_touch sx = some zx ∧ fX10_touch sm = some zm ∧ zx = zm ∧ R (k + 1) sx sm
def kH_joins (R : Nat → kS → kS → Prop) : Prop := ∀ (k : Nat) (sx sm : kS), k < 512 → R k sx sm → ∃ (zx : Int32), ∃ (zm : Int32), fX9_joins sx = some zx ∧ fX10_joins sm = some zm ∧ zx = zm ∧ R (k + 1) sx sm
def kH_walk (R : Nat → kS → kS → Prop) : Prop := ∀ (k : Nat) (sx sm : kS) (p0 : Int32), k < 512 → R k sx sm → ∃ (zx : Int32), ∃ (zm : Int32), fX9_walk sx p0 = some zx ∧ fX10_walk sm p0 = some zm ∧ zx = zm ∧ R (k + 1) sx sm
def kH_night (R : Nat → kS → kS → Prop) : Prop := ∀ (k : Nat) (sx sm : kS) (p0 : Int32) (p1 : Int32), k < 512 → R k sx sm → ∃ (zx : Int32 × kS), ∃ (zm : Int32 × kS), fX9_night sx p0 p1 = some zx ∧ fX10_night sm p0 p1 = some zm ∧ zx.1 = zm.1 ∧ R (k + 1) zx.2 zm.2
def kH_nights (R : Nat → kS → kS → Prop) : Prop := ∀ (k : Nat) (sx sm : kS) (p0 : Int32) (p1 : Int32), k < 512 → R k sx sm → ∃ (zx : Int32 × kS), ∃ (zm : Int32 × kS), fX9_nights sx p0 p1 = some zx ∧ fX10_nights sm p0 p1 = some zm ∧ zx.1 = zm.1 ∧ R (k + 1) zx.2 zm.2
def kH_seed (R : Nat → kS → kS → Prop) : Prop := ∀ (k : Nat) (sx sm : kS) (p0 : Int32), k < 512 → R k sx sm → (fX9_seed sx p0).1 = (fX10_seed sm p0).1 ∧ R (k + 1) (fX9_seed sx p0).2 (fX10_seed sm p0).2
def kH_apart (R : Nat → kS → kS → Prop) : Prop := ∀ (k : Nat) (sx sm : kS) (p0 : Int32) (p1 : Int32), k < 512 → R k sx sm → ∃ (zx : Int32 × kS), ∃ (zm : Int32 × kS), fX9_apart sx p0 p1 = some zx ∧ fX10_apart sm p0 p1 = some zm ∧ zx.1 = zm.1 ∧ R (k + 1) zx.2 zm.2
def kH_choose (R : Nat → kS → kS → Prop) : Prop := ∀ (k : Nat) (sx sm : kS) (p0 : Int32) (p1 : Int32), k < 512 → R k sx sm → ∃ (zx : Int32 × kS), ∃ (zm : Int32 × kS), fX9_choose sx p0 p1 = some zx ∧ fX10_choose sm p0 p1 = some zm ∧ zx.1 = zm.1 ∧ R (k + 1) zx.2 zm.2
def kH_fewest (R : Nat → kS → kS → Prop) : Prop := ∀ (k : Nat) (sx sm : kS), k < 512 → R k sx sm → ∃ (zx : Int32 × kS), ∃ (zm : Int32 × kS), fX9_fewest sx = some zx ∧ fX10_fewest sm = some zm ∧ zx.1 = zm.1 ∧ R (k + 1) zx.2 zm.2
def kH_surely (R : Nat → kS → kS → Prop) : Prop := ∀ (k : Nat) (sx sm : kS), k < 512 → R k sx sm → ∃ (zx : Int32 × kS), ∃ (zm : Int32 × kS), fX9_surely sx = some zx ∧ fX10_surely sm = some zm ∧ zx.1 = zm.1 ∧ R (k + 1) zx.2 zm.2
def kH_odds (R : Nat → kS → kS → Prop) : Prop := ∀ (k : Nat) (sx sm : kS) (p0 : Int32) (p1 : Int32) (p2 : Int32) (p3 : Int32), k < 512 → R k sx sm → ∃ (zx : Int32 × kS), ∃ (zm : Int32 × kS), fX9_odds sx p0 p1 p2 p3 = some zx ∧ fX10_odds sm p0 p1 p2 p3 = some zm ∧ zx.1 = zm.1 ∧ R (k + 1) zx.2 zm.2
def kH_ways (R : Nat → kS → kS → Prop) : Prop := ∀ (k : Nat) (sx sm : kS) (p0 : Int32), k < 512 → R k sx sm → ∃ (zx : Int64 × kS), ∃ (zm : Int64 × kS), fX9_ways sx p0 = some zx ∧ fX10_ways sm p0 = some zm ∧ zx.1 = zm.1 ∧ R (k + 1) zx.2 zm.2
def kH_must (R : Nat → kS → kS → Prop) : Prop := ∀ (k : Nat) (sx sm : kS) (p0 : Int32), k < 512 → R k sx sm → ∃ (zx : Int32 × kS), ∃ (zm : Int32 × kS), fX9_must sx p0 = some zx ∧ fX10_must sm p0 = some zm ∧ zx.1 = zm.1 ∧ R (k + 1) zx.2 zm.2
def kH_image (R : Nat → kS → kS → Prop) : Prop := ∀ (k : Nat) (sx sm : kS), k < 512 → R k sx sm → ∃ (zx : Int32 × kS), ∃ (zm : Int32 × kS), fX9_image sx = some zx ∧ fX10_image sm = some zm ∧ zx.1 = zm.1 ∧ R (k + 1) zx.2 zm.2
def kH_restore (R : Nat → kS → kS → Prop) : Prop := ∀ (k : Nat) (sx sm : kS), k < 512 → R k sx sm → ∃ (zx : Int32 × kS), ∃ (zm : Int32 × kS), fX9_restore sx = some zx ∧ fX10_restore sm = some zm ∧ zx.1 = zm.1 ∧ R (k + 1) zx.2 zm.2
def kH_count (R : Nat → kS → kS → Prop) : Prop := ∀ (k : Nat) (sx sm : kS) (p0 : Int32), k < 512 → R k sx sm → ∃ (zm : Int32), fX10_count sm p0 = some zm ∧ (fX9_count sx p0) = zm ∧ R (k + 1) sx sm
def kH_digest (R : Nat → kS → kS → Prop) : Prop := ∀ (k : Nat) (sx sm : kS), k < 512 → R k sx sm → ∃ (zx : Int64 × kS), ∃ (zm : Int64 × kS), fX9_digest sx = some zx ∧ fX10_digest sm = some zm ∧ zx.1 = zm.1 ∧ R (k + 1) zx.2 zm.2
def kSim (R : Nat → kS → kS → Prop) : Prop := kH_letters R ∧ kH_blank R ∧ kH_fault R ∧ kH_ring R ∧ kH_aim R ∧ kH_letter R ∧ kH_house R ∧ kH_as R ∧ kH_at R ∧ kH_feud R ∧ kH_touch R ∧ kH_joins R ∧ kH_walk R ∧ kH_night R ∧ kH_nights R ∧ kH_seed R ∧ kH_apart R ∧ kH_choose R ∧ kH_fewest R ∧ kH_surely R ∧ kH_odds R ∧ kH_ways R ∧ kH_must R ∧ kH_image R ∧ kH_restore R ∧ kH_count R ∧ kH_digest R
theorem lg_cmp_self {x y : Int64} (h : x = y) : lg_cmp x y = 0 := by
  subst h
  unfold lg_cmp
  rw [if_neg (by simp), if_pos rfl]
section LW
variable {G : kG} {E : kE} {cs : Nat × Nat} {a am : Nat → Nat} {pc : Nat} {lv : List (Nat × Value)} {stk : List Value}
set_option maxRecDepth 100000 in
theorem kX.swapX (sx sm : kS) (k : kX G E cs (wM G am sm ++ wX G a sx) pc lv stk) : kX G E cs (wX G a sx ++ wM G am sm) pc lv stk := kX.reord [31, 32, 33, 34, 35, 36, 37, 38, 39, 40, 41, 42, 43, 44, 45, 46, 47, 48, 49, 50, 51, 52, 53, 54, 0, 1, 2, 3, 4, 5, 6, 7, 8, 9, 10, 11, 12, 13, 14, 15, 16, 17, 18, 19, 20, 21, 22, 23, 24, 25, 26, 27, 28, 29, 30] (by decide) rfl rfl k
set_option maxRecDepth 100000 in
theorem kX.swapM (sx sm : kS) (k : kX G E cs (wX G a sx ++ wM G am sm) pc lv stk) : kX G E cs (wM G am sm ++ wX G a sx) pc lv stk := kX.reord [24, 25, 26, 27, 28, 29, 30, 31, 32, 33, 34, 35, 36, 37, 38, 39, 40, 41, 42, 43, 44, 45, 46, 47, 48, 49, 50, 51, 52, 53, 54, 0, 1, 2, 3, 4, 5, 6, 7, 8, 9, 10, 11, 12, 13, 14, 15, 16, 17, 18, 19, 20, 21, 22, 23] (by decide) rfl rfl k
end LW
set_option maxRecDepth 100000 in
set_option maxHeartbeats 4000000 in
theorem law_letters {G : kG} {E : kE} {cs : Nat × Nat} {a am : Nat → Nat} (C : kOk G E cL_law RL 4 room_1) (hcs : cs.1 ≤ room_1.cells ∧ cs.2 ≤ room_1.slots) {b L : Nat} {xs : Nat → Int32} (X : kScr E b L xs) {i : Int32} (h0 : vp_in i L) (h1 : vp_in (i + 1) L) (h2 : vp_in (i + 2) L) (h3 : vp_in (i + 3) L) (h4 : vp_in (i + 4) L) {R : Nat → kS → kS → Prop} (hH : kH_letters R) {k : Nat} (hk : k < 512) (sx sm : kS) (hR : R k sx sm) (next : ∀ (sx sm : kS), R (k + 1) sx sm → kX G E cs (wX G a sx ++ wM G am sm) 799 [(0, .ref b), (1, .ref (a 0)), (2, .ref (am 0)), (3, .int i)] []) : kX G E cs (wX G a sx ++ wM G am sm) 156 [(0, .ref b), (1, .ref (a 0)), (2, .ref (am 0)), (3, .int i)] [] := by
  obtain ⟨zx, zm, ex, em, eq, hR2⟩ := hH k sx sm ((klshl ((xs (i + 1).toNatClampNeg).toInt64) 32) ||| (((xs (i + 2).toNatClampNeg).toInt64) &&& (4294967295))) hk hR
  refine x_aload_n (pc := 156) C 1 dL_law_156 rfl rfl ?_
  refine x_aload_n (pc := 157) C 0 dL_law_157 rfl rfl ?_
  refine x_iload_n (pc := 158) C 3 dL_law_158 rfl rfl ?_
  refine x_iconst (pc := 159) C 1 dL_law_159 (by decide) ?_
  refine x_iadd (pc := 160) C dL_law_160 ?_
  refine x_sld (pc := 161) C X h1 dL_law_161 ?_
  refine x_i2l (pc := 162) C dL_law_162 ?_
  refine x_bipush (pc := 163) C 32 dL_law_163 (by decide) ?_
  refine y_lshl (pc := 165) C dL_law_165 ?_
  refine x_aload_n (pc := 166) C 0 dL_law_166 rfl rfl ?_
  refine x_iload_n (pc := 167) C 3 dL_law_167 rfl rfl ?_
  refine x_iconst (pc := 168) C 2 dL_law_168 (by decide) ?_
  refine x_iadd (pc := 169) C dL_law_169 ?_
  refine x_sld (pc := 170) C X h2 dL_law_170 ?_
  refine x_i2l (pc := 171) C dL_law_171 ?_
  refine x_ldc2 (pc := 172) C q1_6 dL_law_172 ?_
  refine x_land (pc := 175) C dL_law_175 ?_
  refine x_lor (pc := 176) C dL_law_176 ?_
  refine kX.swapX sx sm ?_
  refine x_callVF (pc := 177) C (wM G am sm) 0 [.long ((klshl ((xs (i + 1).toNatClampNeg).toInt64) 32) ||| (((xs (i + 2).toNatClampNeg).toInt64) &&& (4294967295)))] rfl rfl rfl (mX9_letters G a sx ((klshl ((xs (i + 1).toNatClampNeg).toInt64) 32) ||| (((xs (i + 2).toNatClampNeg).toInt64) &&& (4294967295))) ex) yvX9_letters q6_14 ⟨by decide, by decide, rfl, rfl⟩ hcs rfl rfl (Nat.le_of_ble_eq_true rfl) rfl dL_law_177 ?_
  refine kX.swapM (zx.2) sm ?_
  refine x_aload_n (pc := 180) C 2 dL_law_180 rfl rfl ?_
  refine x_aload_n (pc := 181) C 0 dL_law_181 rfl rfl ?_
  refine x_iload_n (pc := 182) C 3 dL_law_182 rfl rfl ?_
  refine x_iconst (pc := 183) C 1 dL_law_183 (by decide) ?_
  refine x_iadd (pc := 184) C dL_law_184 ?_
  refine x_sld (pc := 185) C X h1 dL_law_185 ?_
  refine x_i2l (pc := 186) C dL_law_186 ?_
  refine x_bipush (pc := 187) C 32 dL_law_187 (by decide) ?_
  refine y_lshl (pc := 189) C dL_law_189 ?_
  refine x_aload_n (pc := 190) C 0 dL_law_190 rfl rfl ?_
  refine x_iload_n (pc := 191) C 3 dL_law_191 rfl rfl ?_
  refine x_iconst (pc := 192) C 2 dL_law_192 (by decide) ?_
  refine x_iadd (pc := 193) C dL_law_193 ?_
  refine x_sld (pc := 194) C X h2 dL_law_194 ?_
  refine x_i2l (pc := 195) C dL_law_195 ?_
  refine x_ldc2 (pc := 196) C q1_6 dL_law_196 ?_
  refine x_land (pc := 199) C dL_law_199 ?_
  refine x_lor (pc := 200) C dL_law_200 ?_
  refine x_callVF (pc := 201) C (wX G a (zx.2)) 0 [.long ((klshl ((xs (i + 1).toNatClampNeg).toInt64) 32) ||| (((xs (i + 2).toNatClampNeg).toInt64) &&& (4294967295)))] rfl rfl rfl (mX10_letters G am sm ((klshl ((xs (i + 1).toNatClampNeg).toInt64) 32) ||| (((xs (i + 2).toNatClampNeg).toInt64) &&& (4294967295))) em) yvX10_letters q7_9 ⟨by decide, by decide, rfl, rfl⟩ hcs rfl rfl (Nat.le_of_ble_eq_true rfl) rfl dL_law_201 ?_
  exact x_icmp_eq (pc := 204) C 799 dL_law_204 (by decide) (fun _ => next _ _ hR2) (fun q => absurd eq q)
set_option maxRecDepth 100000 in
set_option maxHeartbeats 4000000 in
theorem law_blank {G : kG} {E : kE} {cs : Nat × Nat} {a am : Nat → Nat} (C : kOk G E cL_law RL 4 room_1) (hcs : cs.1 ≤ room_1.cells ∧ cs.2 ≤ room_1.slots) {b L : Nat} {xs : Nat → Int32} (X : kScr E b L xs) {i : Int32} (h0 : vp_in i L) (h1 : vp_in (i + 1) L) (h2 : vp_in (i + 2) L) (h3 : vp_in (i + 3) L) (h4 : vp_in (i + 4) L) {R : Nat → kS → kS → Prop} (hH : kH_blank R) {k : Nat} (hk : k < 512) (sx sm : kS) (hR : R k sx sm) (next : ∀ (sx sm : kS), R (k + 1) sx sm → kX G E cs (wX G a sx ++ wM G am sm) 799 [(0, .ref b), (1, .ref (a 0)), (2, .ref (am 0)), (3, .int i)] []) : kX G E cs (wX G a sx ++ wM G am sm) 209 [(0, .ref b), (1, .ref (a 0)), (2, .ref (am 0)), (3, .int i)] [] := by
  obtain ⟨eq, hR2⟩ := hH k sx sm  hk hR
  refine x_aload_n (pc := 209) C 1 dL_law_209 rfl rfl ?_
  refine kX.swapX sx sm ?_
  refine x_callVF (pc := 210) C (wM G am sm) 0 [] rfl rfl rfl (mX9_blank G a sx ) yvX9_blank q7_15 ⟨by decide, by decide, rfl, rfl⟩ hcs rfl rfl (Nat.le_of_ble_eq_true rfl) rfl dL_law_210 ?_
  refine kX.swapM ((fX9_blank sx).2) sm ?_
  refine x_aload_n (pc := 213) C 2 dL_law_213 rfl rfl ?_
  refine x_callVF (pc := 214) C (wX G a ((fX9_blank sx).2)) 0 [] rfl rfl rfl (mX10_blank G am sm ) yvX10_blank q7_23 ⟨by decide, by decide, rfl, rfl⟩ hcs rfl rfl (Nat.le_of_ble_eq_true rfl) rfl dL_law_214 ?_
  exact x_icmp_eq (pc := 217) C 799 dL_law_217 (by decide) (fun _ => next _ _ hR2) (fun q => absurd eq q)
set_option maxRecDepth 100000 in
set_option maxHeartbeats 4000000 in
theorem law_fault {G : kG} {E : kE} {cs : Nat × Nat} {a am : Nat → Nat} (C : kOk G E cL_law RL 4 room_1) (hcs : cs.1 ≤ room_1.cells ∧ cs.2 ≤ room_1.slots) {b L : Nat} {xs : Nat → Int32} (X : kScr E b L xs) {i : Int32} (h0 : vp_in i L) (h1 : vp_in (i + 1) L) (h2 : vp_in (i + 2) L) (h3 : vp_in (i + 3) L) (h4 : vp_in (i + 4) L) {R : Nat → kS → kS → Prop} (hH : kH_fault R) {k : Nat} (hk : k < 512) (sx sm : kS) (hR : R k sx sm) (next : ∀ (sx sm : kS), R (k + 1) sx sm → kX G E cs (wX G a sx ++ wM G am sm) 799 [(0, .ref b), (1, .ref (a 0)), (2, .ref (am 0)), (3, .int i)] []) : kX G E cs (wX G a sx ++ wM G am sm) 222 [(0, .ref b), (1, .ref (a 0)), (2, .ref (am 0)), (3, .int i)] [] := by
  obtain ⟨zx, zm, ex, em, eq, hR2⟩ := hH k sx sm (xs (i + 1).toNatClampNeg) hk hR
  refine x_aload_n (pc := 222) C 1 dL_law_222 rfl rfl ?_
  refine x_aload_n (pc := 223) C 0 dL_law_223 rfl rfl ?_
  refine x_iload_n (pc := 224) C 3 dL_law_224 rfl rfl ?_
  refine x_iconst (pc := 225) C 1 dL_law_225 (by decide) ?_
  refine x_iadd (pc := 226) C dL_law_226 ?_
  refine x_sld (pc := 227) C X h1 dL_law_227 ?_
  refine kX.swapX sx sm ?_
  refine x_callVF (pc := 228) C (wM G am sm) 0 [.int (xs (i + 1).toNatClampNeg)] rfl rfl rfl (mX9_fault G a sx (xs (i + 1).toNatClampNeg) ex) yvX9_fault q8_3 ⟨by decide, by decide, rfl, rfl⟩ hcs rfl rfl (Nat.le_of_ble_eq_true rfl) rfl dL_law_228 ?_
  refine kX.swapM (sx) sm ?_
  refine x_aload_n (pc := 231) C 2 dL_law_231 rfl rfl ?_
  refine x_aload_n (pc := 232) C 0 dL_law_232 rfl rfl ?_
  refine x_iload_n (pc := 233) C 3 dL_law_233 rfl rfl ?_
  refine x_iconst (pc := 234) C 1 dL_law_234 (by decide) ?_
  refine x_iadd (pc := 235) C dL_law_235 ?_
  refine x_sld (pc := 236) C X h1 dL_law_236 ?_
  refine x_callVF (pc := 237) C (wX G a (sx)) 0 [.int (xs (i + 1).toNatClampNeg)] rfl rfl rfl (mX10_fault G am sm (xs (i + 1).toNatClampNeg) em) yvX10_fault q9_21 ⟨by decide, by decide, rfl, rfl⟩ hcs rfl rfl (Nat.le_of_ble_eq_true rfl) rfl dL_law_237 ?_
  exact x_icmp_eq (pc := 240) C 799 dL_law_240 (by decide) (fun _ => next _ _ hR2) (fun q => absurd eq q)
set_option maxRecDepth 100000 in
set_option maxHeartbeats 4000000 in
theorem law_ring {G : kG} {E : kE} {cs : Nat × Nat} {a am : Nat → Nat} (C : kOk G E cL_law RL 4 room_1) (hcs : cs.1 ≤ room_1.cells ∧ cs.2 ≤ room_1.slots) {b L : Nat} {xs : Nat → Int32} (X : kScr E b L xs) {i : Int32} (h0 : vp_in i L) (h1 : vp_in (i + 1) L) (h2 : vp_in (i + 2) L) (h3 : vp_in (i + 3) L) (h4 : vp_in (i + 4) L) {R : Nat → kS → kS → Prop} (hH : kH_ring R) {k : Nat} (hk : k < 512) (sx sm : kS) (hR : R k sx sm) (next : ∀ (sx sm : kS), R (k + 1) sx sm → kX G E cs (wX G a sx ++ wM G am sm) 799 [(0, .ref b), (1, .ref (a 0)), (2, .ref (am 0)), (3, .int i)] []) : kX G E cs (wX G a sx ++ wM G am sm) 245 [(0, .ref b), (1, .ref (a 0)), (2, .ref (am 0)), (3, .int i)] [] := by
  obtain ⟨zx, zm, ex, em, eq, hR2⟩ := hH k sx sm  hk hR
  refine x_aload_n (pc := 245) C 1 dL_law_245 rfl rfl ?_
  refine kX.swapX sx sm ?_
  refine x_callVF (pc := 246) C (wM G am sm) 0 [] rfl rfl rfl (mX9_ring G a sx  ex) yvX9_ring q11_10 ⟨by decide, by decide, rfl, rfl⟩ hcs rfl rfl (Nat.le_of_ble_eq_true rfl) rfl dL_law_246 ?_
  refine kX.swapM (zx.2) sm ?_
  refine x_aload_n (pc := 249) C 2 dL_law_249 rfl rfl ?_
  refine x_callVF (pc := 250) C (wX G a (zx.2)) 0 [] rfl rfl rfl (mX10_ring G am sm  em) yvX10_ring q14_22 ⟨by decide, by decide, rfl, rfl⟩ hcs rfl rfl (Nat.le_of_ble_eq_true rfl) rfl dL_law_250 ?_
  exact x_icmp_eq (pc := 253) C 799 dL_law_253 (by decide) (fun _ => next _ _ hR2) (fun q => absurd eq q)
set_option maxRecDepth 100000 in
set_option maxHeartbeats 4000000 in
theorem law_aim {G : kG} {E : kE} {cs : Nat × Nat} {a am : Nat → Nat} (C : kOk G E cL_law RL 4 room_1) (hcs : cs.1 ≤ room_1.cells ∧ cs.2 ≤ room_1.slots) {b L : Nat} {xs : Nat → Int32} (X : kScr E b L xs) {i : Int32} (h0 : vp_in i L) (h1 : vp_in (i + 1) L) (h2 : vp_in (i + 2) L) (h3 : vp_in (i + 3) L) (h4 : vp_in (i + 4) L) {R : Nat → kS → kS → Prop} (hH : kH_aim R) {k : Nat} (hk : k < 512) (sx sm : kS) (hR : R k sx sm) (next : ∀ (sx sm : kS), R (k + 1) sx sm → kX G E cs (wX G a sx ++ wM G am sm) 799 [(0, .ref b), (1, .ref (a 0)), (2, .ref (am 0)), (3, .int i)] []) : kX G E cs (wX G a sx ++ wM G am sm) 258 [(0, .ref b), (1, .ref (a 0)), (2, .ref (am 0)), (3, .int i)] [] := by
  obtain ⟨zx, zm, ex, em, eq, hR2⟩ := hH k sx sm  hk hR
  refine x_aload_n (pc := 258) C 1 dL_law_258 rfl rfl ?_
  refine kX.swapX sx sm ?_
  refine x_callVF (pc := 259) C (wM G am sm) 0 [] rfl rfl rfl (mX9_aim G a sx  ex) yvX9_aim q16_11 ⟨by decide, by decide, rfl, rfl⟩ hcs rfl rfl (Nat.le_of_ble_eq_true rfl) rfl dL_law_259 ?_
  refine kX.swapM (zx.2) sm ?_
  refine x_aload_n (pc := 262) C 2 dL_law_262 rfl rfl ?_
  refine x_callVF (pc := 263) C (wX G a (zx.2)) 0 [] rfl rfl rfl (mX10_aim G am sm  em) yvX10_aim q17_7 ⟨by decide, by decide, rfl, rfl⟩ hcs rfl rfl (Nat.le_of_ble_eq_true rfl) rfl dL_law_263 ?_
  exact x_icmp_eq (pc := 266) C 799 dL_law_266 (by decide) (fun _ => next _ _ hR2) (fun q => absurd eq q)
set_option maxRecDepth 100000 in
set_option maxHeartbeats 4000000 in
theorem law_letter {G : kG} {E : kE} {cs : Nat × Nat} {a am : Nat → Nat} (C : kOk G E cL_law RL 4 room_1) (hcs : cs.1 ≤ room_1.cells ∧ cs.2 ≤ room_1.slots) {b L : Nat} {xs : Nat → Int32} (X : kScr E b L xs) {i : Int32} (h0 : vp_in i L) (h1 : vp_in (i + 1) L) (h2 : vp_in (i + 2) L) (h3 : vp_in (i + 3) L) (h4 : vp_in (i + 4) L) {R : Nat → kS → kS → Prop} (hH : kH_letter R) {k : Nat} (hk : k < 512) (sx sm : kS) (hR : R k sx sm) (next : ∀ (sx sm : kS), R (k + 1) sx sm → kX G E cs (wX G a sx ++ wM G am sm) 799 [(0, .ref b), (1, .ref (a 0)), (2, .ref (am 0)), (3, .int i)] []) : kX G E cs (wX G a sx ++ wM G am sm) 271 [(0, .ref b), (1, .ref (a 0)), (2, .ref (am 0)), (3, .int i)] [] := by
  obtain ⟨zx, zm, ex, em, eq, hR2⟩ := hH k sx sm  hk hR
  refine x_aload_n (pc := 271) C 1 dL_law_271 rfl rfl ?_
  refine kX.swapX sx sm ?_
  refine x_callVF (pc := 272) C (wM G am sm) 0 [] rfl rfl rfl (mX9_letter G a sx  ex) yvX9_letter q17_11 ⟨by decide, by decide, rfl, rfl⟩ hcs rfl rfl (Nat.le_of_ble_eq_true rfl) rfl dL_law_272 ?_
  refine kX.swapM (zx.2) sm ?_
  refine x_aload_n (pc := 275) C 2 dL_law_275 rfl rfl ?_
  refine x_callVF (pc := 276) C (wX G a (zx.2)) 0 [] rfl rfl rfl (mX10_letter G am sm  em) yvX10_letter q19_10 ⟨by decide, by decide, rfl, rfl⟩ hcs rfl rfl (Nat.le_of_ble_eq_true rfl) rfl dL_law_276 ?_
  exact x_icmp_eq (pc := 279) C 799 dL_law_279 (by decide) (fun _ => next _ _ hR2) (fun q => absurd eq q)
set_option maxRecDepth 100000 in
set_option maxHeartbeats 4000000 in
theorem law_house {G : kG} {E : kE} {cs : Nat × Nat} {a am : Nat → Nat} (C : kOk G E cL_law RL 4 room_1) (hcs : cs.1 ≤ room_1.cells ∧ cs.2 ≤ room_1.slots) {b L : Nat} {xs : Nat → Int32} (X : kScr E b L xs) {i : Int32} (h0 : vp_in i L) (h1 : vp_in (i + 1) L) (h2 : vp_in (i + 2) L) (h3 : vp_in (i + 3) L) (h4 : vp_in (i + 4) L) {R : Nat → kS → kS → Prop} (hH : kH_house R) {k : Nat} (hk : k < 512) (sx sm : kS) (hR : R k sx sm) (next : ∀ (sx sm : kS), R (k + 1) sx sm → kX G E cs (wX G a sx ++ wM G am sm) 799 [(0, .ref b), (1, .ref (a 0)), (2, .ref (am 0)), (3, .int i)] []) : kX G E cs (wX G a sx ++ wM G am sm) 284 [(0, .ref b), (1, .ref (a 0)), (2, .ref (am 0)), (3, .int i)] [] := by
  obtain ⟨zx, zm, ex, em, eq, hR2⟩ := hH k sx sm (xs (i + 1).toNatClampNeg) (xs (i + 2).toNatClampNeg) hk hR
  refine x_aload_n (pc := 284) C 1 dL_law_284 rfl rfl ?_
  refine x_aload_n (pc := 285) C 0 dL_law_285 rfl rfl ?_
  refine x_iload_n (pc := 286) C 3 dL_law_286 rfl rfl ?_
  refine x_iconst (pc := 287) C 1 dL_law_287 (by decide) ?_
  refine x_iadd (pc := 288) C dL_law_288 ?_
  refine x_sld (pc := 289) C X h1 dL_law_289 ?_
  refine x_aload_n (pc := 290) C 0 dL_law_290 rfl rfl ?_
  refine x_iload_n (pc := 291) C 3 dL_law_291 rfl rfl ?_
  refine x_iconst (pc := 292) C 2 dL_law_292 (by decide) ?_
  refine x_iadd (pc := 293) C dL_law_293 ?_
  refine x_sld (pc := 294) C X h2 dL_law_294 ?_
  refine kX.swapX sx sm ?_
  refine x_callVF (pc := 295) C (wM G am sm) 0 [.int (xs (i + 1).toNatClampNeg), .int (xs (i + 2).toNatClampNeg)] rfl rfl rfl (mX9_house G a sx (xs (i + 1).toNatClampNeg) (xs (i + 2).toNatClampNeg) ex) yvX9_house q20_6 ⟨by decide, by decide, rfl, rfl⟩ hcs rfl rfl (Nat.le_of_ble_eq_true rfl) rfl dL_law_295 ?_
  refine kX.swapM (sx) sm ?_
  refine x_aload_n (pc := 298) C 2 dL_law_298 rfl rfl ?_
  refine x_aload_n (pc := 299) C 0 dL_law_299 rfl rfl ?_
  refine x_iload_n (pc := 300) C 3 dL_law_300 rfl rfl ?_
  refine x_iconst (pc := 301) C 1 dL_law_301 (by decide) ?_
  refine x_iadd (pc := 302) C dL_law_302 ?_
  refine x_sld (pc := 303) C X h1 dL_law_303 ?_
  refine x_aload_n (pc := 304) C 0 dL_law_304 rfl rfl ?_
  refine x_iload_n (pc := 305) C 3 dL_law_305 rfl rfl ?_
  refine x_iconst (pc := 306) C 2 dL_law_306 (by decide) ?_
  refine x_iadd (pc := 307) C dL_law_307 ?_
  refine x_sld (pc := 308) C X h2 dL_law_308 ?_
  refine x_callVF (pc := 309) C (wX G a (sx)) 0 [.int (xs (i + 1).toNatClampNeg), .int (xs (i + 2).toNatClampNeg)] rfl rfl rfl (mX10_house G am sm (xs (i + 1).toNatClampNeg) (xs (i + 2).toNatClampNeg) em) yvX10_house q20_23 ⟨by decide, by decide, rfl, rfl⟩ hcs rfl rfl (Nat.le_of_ble_eq_true rfl) rfl dL_law_309 ?_
  exact x_icmp_eq (pc := 312) C 799 dL_law_312 (by decide) (fun _ => next _ _ hR2) (fun q => absurd eq q)
set_option maxRecDepth 100000 in
set_option maxHeartbeats 4000000 in
theorem law_as {G : kG} {E : kE} {cs : Nat × Nat} {a am : Nat → Nat} (C : kOk G E cL_law RL 4 room_1) (hcs : cs.1 ≤ room_1.cells ∧ cs.2 ≤ room_1.slots) {b L : Nat} {xs : Nat → Int32} (X : kScr E b L xs) {i : Int32} (h0 : vp_in i L) (h1 : vp_in (i + 1) L) (h2 : vp_in (i + 2) L) (h3 : vp_in (i + 3) L) (h4 : vp_in (i + 4) L) {R : Nat → kS → kS → Prop} (hH : kH_as R) {k : Nat} (hk : k < 512) (sx sm : kS) (hR : R k sx sm) (next : ∀ (sx sm : kS), R (k + 1) sx sm → kX G E cs (wX G a sx ++ wM G am sm) 799 [(0, .ref b), (1, .ref (a 0)), (2, .ref (am 0)), (3, .int i)] []) : kX G E cs (wX G a sx ++ wM G am sm) 317 [(0, .ref b), (1, .ref (a 0)), (2, .ref (am 0)), (3, .int i)] [] := by
  obtain ⟨zm, em, eq, hR2⟩ := hH k sx sm (xs (i + 1).toNatClampNeg) (xs (i + 2).toNatClampNeg) hk hR
  refine x_aload_n (pc := 317) C 1 dL_law_317 rfl rfl ?_
  refine x_aload_n (pc := 318) C 0 dL_law_318 rfl rfl ?_
  refine x_iload_n (pc := 319) C 3 dL_law_319 rfl rfl ?_
  refine x_iconst (pc := 320) C 1 dL_law_320 (by decide) ?_
  refine x_iadd (pc := 321) C dL_law_321 ?_
  refine x_sld (pc := 322) C X h1 dL_law_322 ?_
  refine x_aload_n (pc := 323) C 0 dL_law_323 rfl rfl ?_
  refine x_iload_n (pc := 324) C 3 dL_law_324 rfl rfl ?_
  refine x_iconst (pc := 325) C 2 dL_law_325 (by decide) ?_
  refine x_iadd (pc := 326) C dL_law_326 ?_
  refine x_sld (pc := 327) C X h2 dL_law_327 ?_
  refine kX.swapX sx sm ?_
  refine x_callVF (pc := 328) C (wM G am sm) 0 [.int (xs (i + 1).toNatClampNeg), .int (xs (i + 2).toNatClampNeg)] rfl rfl rfl (mX9_as G a sx (xs (i + 1).toNatClampNeg) (xs (i + 2).toNatClampNeg)) yvX9_as q21_7 ⟨by decide, by decide, rfl, rfl⟩ hcs rfl rfl (Nat.le_of_ble_eq_true rfl) rfl dL_law_328 ?_
  refine kX.swapM (sx) sm ?_
  refine x_aload_n (pc := 331) C 2 dL_law_331 rfl rfl ?_
  refine x_aload_n (pc := 332) C 0 dL_law_332 rfl rfl ?_
  refine x_iload_n (pc := 333) C 3 dL_law_333 rfl rfl ?_
  refine x_iconst (pc := 334) C 1 dL_law_334 (by decide) ?_
  refine x_iadd (pc := 335) C dL_law_335 ?_
  refine x_sld (pc := 336) C X h1 dL_law_336 ?_
  refine x_aload_n (pc := 337) C 0 dL_law_337 rfl rfl ?_
  refine x_iload_n (pc := 338) C 3 dL_law_338 rfl rfl ?_
  refine x_iconst (pc := 339) C 2 dL_law_339 (by decide) ?_
  refine x_iadd (pc := 340) C dL_law_340 ?_
  refine x_sld (pc := 341) C X h2 dL_law_341 ?_
  refine x_callVF (pc := 342) C (wX G a (sx)) 0 [.int (xs (i + 1).toNatClampNeg), .int (xs (i + 2).toNatClampNeg)] rfl rfl rfl (mX10_as G am sm (xs (i + 1).toNatClampNeg) (xs (i + 2).toNatClampNeg) em) yvX10_as q21_12 ⟨by decide, by decide, rfl, rfl⟩ hcs rfl rfl (Nat.le_of_ble_eq_true rfl) rfl dL_law_342 ?_
  exact x_icmp_eq (pc := 345) C 799 dL_law_345 (by decide) (fun _ => next _ _ hR2) (fun q => absurd eq q)
set_option maxRecDepth 100000 in
set_option maxHeartbeats 4000000 in
theorem law_at {G : kG} {E : kE} {cs : Nat × Nat} {a am : Nat → Nat} (C : kOk G E cL_law RL 4 room_1) (hcs : cs.1 ≤ room_1.cells ∧ cs.2 ≤ room_1.slots) {b L : Nat} {xs : Nat → Int32} (X : kScr E b L xs) {i : Int32} (h0 : vp_in i L) (h1 : vp_in (i + 1) L) (h2 : vp_in (i + 2) L) (h3 : vp_in (i + 3) L) (h4 : vp_in (i + 4) L) {R : Nat → kS → kS → Prop} (hH : kH_at R) {k : Nat} (hk : k < 512) (sx sm : kS) (hR : R k sx sm) (next : ∀ (sx sm : kS), R (k + 1) sx sm → kX G E cs (wX G a sx ++ wM G am sm) 799 [(0, .ref b), (1, .ref (a 0)), (2, .ref (am 0)), (3, .int i)] []) : kX G E cs (wX G a sx ++ wM G am sm) 350 [(0, .ref b), (1, .ref (a 0)), (2, .ref (am 0)), (3, .int i)] [] := by
  obtain ⟨zm, em, eq, hR2⟩ := hH k sx sm (xs (i + 1).toNatClampNeg) hk hR
  refine x_aload_n (pc := 350) C 1 dL_law_350 rfl rfl ?_
  refine x_aload_n (pc := 351) C 0 dL_law_351 rfl rfl ?_
  refine x_iload_n (pc := 352) C 3 dL_law_352 rfl rfl ?_
  refine x_iconst (pc := 353) C 1 dL_law_353 (by decide) ?_
  refine x_iadd (pc := 354) C dL_law_354 ?_
  refine x_sld (pc := 355) C X h1 dL_law_355 ?_
  refine kX.swapX sx sm ?_
  refine x_callVF (pc := 356) C (wM G am sm) 0 [.int (xs (i + 1).toNatClampNeg)] rfl rfl rfl (mX9_at G a sx (xs (i + 1).toNatClampNeg)) yvX9_at q21_16 ⟨by decide, by decide, rfl, rfl⟩ hcs rfl rfl (Nat.le_of_ble_eq_true rfl) rfl dL_law_356 ?_
  refine kX.swapM (sx) sm ?_
  refine x_aload_n (pc := 359) C 2 dL_law_359 rfl rfl ?_
  refine x_aload_n (pc := 360) C 0 dL_law_360 rfl rfl ?_
  refine x_iload_n (pc := 361) C 3 dL_law_361 rfl rfl ?_
  refine x_iconst (pc := 362) C 1 dL_law_362 (by decide) ?_
  refine x_iadd (pc := 363) C dL_law_363 ?_
  refine x_sld (pc := 364) C X h1 dL_law_364 ?_
  refine x_callVF (pc := 365) C (wX G a (sx)) 0 [.int (xs (i + 1).toNatClampNeg)] rfl rfl rfl (mX10_at G am sm (xs (i + 1).toNatClampNeg) em) yvX10_at q21_20 ⟨by decide, by decide, rfl, rfl⟩ hcs rfl rfl (Nat.le_of_ble_eq_true rfl) rfl dL_law_365 ?_
  exact x_icmp_eq (pc := 368) C 799 dL_law_368 (by decide) (fun _ => next _ _ hR2) (fun q => absurd eq q)
set_option maxRecDepth 100000 in
set_option maxHeartbeats 4000000 in
theorem law_feud {G : kG} {E : kE} {cs : Nat × Nat} {a am : Nat → Nat} (C : kOk G E cL_law RL 4 room_1) (hcs : cs.1 ≤ room_1.cells ∧ cs.2 ≤ room_1.slots) {b L : Nat} {xs : Nat → Int32} (X : kScr E b L xs) {i : Int32} (h0 : vp_in i L) (h1 : vp_in (i + 1) L) (h2 : vp_in (i + 2) L) (h3 : vp_in (i + 3) L) (h4 : vp_in (i + 4) L) {R : Nat → kS → kS → Prop} (hH : kH_feud R) {k : Nat} (hk : k < 512) (sx sm : kS) (hR : R k sx sm) (next : ∀ (sx sm : kS), R (k + 1) sx sm → kX G E cs (wX G a sx ++ wM G am sm) 799 [(0, .ref b), (1, .ref (a 0)), (2, .ref (am 0)), (3, .int i)] []) : kX G E cs (wX G a sx ++ wM G am sm) 373 [(0, .ref b), (1, .ref (a 0)), (2, .ref (am 0)), (3, .int i)] [] := by
  obtain ⟨zm, em, eq, hR2⟩ := hH k sx sm (xs (i + 1).toNatClampNeg) (xs (i + 2).toNatClampNeg) hk hR
  refine x_aload_n (pc := 373) C 1 dL_law_373 rfl rfl ?_
  refine x_aload_n (pc := 374) C 0 dL_law_374 rfl rfl ?_
  refine x_iload_n (pc := 375) C 3 dL_law_375 rfl rfl ?_
  refine x_iconst (pc := 376) C 1 dL_law_376 (by decide) ?_
  refine x_iadd (pc := 377) C dL_law_377 ?_
  refine x_sld (pc := 378) C X h1 dL_law_378 ?_
  refine x_aload_n (pc := 379) C 0 dL_law_379 rfl rfl ?_
  refine x_iload_n (pc := 380) C 3 dL_law_380 rfl rfl ?_
  refine x_iconst (pc := 381) C 2 dL_law_381 (by decide) ?_
  refine x_iadd (pc := 382) C dL_law_382 ?_
  refine x_sld (pc := 383) C X h2 dL_law_383 ?_
  refine kX.swapX sx sm ?_
  refine x_callVF (pc := 384) C (wM G am sm) 0 [.int (xs (i + 1).toNatClampNeg), .int (xs (i + 2).toNatClampNeg)] rfl rfl rfl (mX9_feud G a sx (xs (i + 1).toNatClampNeg) (xs (i + 2).toNatClampNeg)) yvX9_feud q22_0 ⟨by decide, by decide, rfl, rfl⟩ hcs rfl rfl (Nat.le_of_ble_eq_true rfl) rfl dL_law_384 ?_
  refine kX.swapM (sx) sm ?_
  refine x_aload_n (pc := 387) C 2 dL_law_387 rfl rfl ?_
  refine x_aload_n (pc := 388) C 0 dL_law_388 rfl rfl ?_
  refine x_iload_n (pc := 389) C 3 dL_law_389 rfl rfl ?_
  refine x_iconst (pc := 390) C 1 dL_law_390 (by decide) ?_
  refine x_iadd (pc := 391) C dL_law_391 ?_
  refine x_sld (pc := 392) C X h1 dL_law_392 ?_
  refine x_aload_n (pc := 393) C 0 dL_law_393 rfl rfl ?_
  refine x_iload_n (pc := 394) C 3 dL_law_394 rfl rfl ?_
  refine x_iconst (pc := 395) C 2 dL_law_395 (by decide) ?_
  refine x_iadd (pc := 396) C dL_law_396 ?_
  refine x_sld (pc := 397) C X h2 dL_law_397 ?_
  refine x_callVF (pc := 398) C (wX G a (sx)) 0 [.int (xs (i + 1).toNatClampNeg), .int (xs (i + 2).toNatClampNeg)] rfl rfl rfl (mX10_feud G am sm (xs (i + 1).toNatClampNeg) (xs (i + 2).toNatClampNeg) em) yvX10_feud q22_5 ⟨by decide, by decide, rfl, rfl⟩ hcs rfl rfl (Nat.le_of_ble_eq_true rfl) rfl dL_law_398 ?_
  exact x_icmp_eq (pc := 401) C 799 dL_law_401 (by decide) (fun _ => next _ _ hR2) (fun q => absurd eq q)
set_option maxRecDepth 100000 in
set_option maxHeartbeats 4000000 in
theorem law_touch {G : kG} {E : kE} {cs : Nat × Nat} {a am : Nat → Nat} (C : kOk G E cL_law RL 4 room_1) (hcs : cs.1 ≤ room_1.cells ∧ cs.2 ≤ room_1.slots) {b L : Nat} {xs : Nat → Int32} (X : kScr E b L xs) {i : Int32} (h0 : vp_in i L) (h1 : vp_in (i + 1) L) (h2 : vp_in (i + 2) L) (h3 : vp_in (i + 3) L) (h4 : vp_in (i + 4) L) {R : Nat → kS → kS → Prop} (hH : kH_touch R) {k : Nat} (hk : k < 512) (sx sm : kS) (hR : R k sx sm) (next : ∀ (sx sm : kS), R (k + 1) sx sm → kX G E cs (wX G a sx ++ wM G am sm) 799 [(0, .ref b), (1, .ref (a 0)), (2, .ref (am 0)), (3, .int i)] []) : kX G E cs (wX G a sx ++ wM G am sm) 406 [(0, .ref b), (1, .ref (a 0)), (2, .ref (am 0)), (3, .int i)] [] := by
  obtain ⟨zx, zm, ex, em, eq, hR2⟩ := hH k sx sm  hk hR
  refine x_aload_n (pc := 406) C 1 dL_law_406 rfl rfl ?_
  refine kX.swapX sx sm ?_
  refine x_callVF (pc := 407) C (wM G am sm) 0 [] rfl rfl rfl (mX9_touch G a sx  ex) yvX9_touch q22_9 ⟨by decide, by decide, rfl, rfl⟩ hcs rfl rfl (Nat.le_of_ble_eq_true rfl) rfl dL_law_407 ?_
  refine kX.swapM (sx) sm ?_
  refine x_aload_n (pc := 410) C 2 dL_law_410 rfl rfl ?_
  refine x_callVF (pc := 411) C (wX G a (sx)) 0 [] rfl rfl rfl (mX10_touch G am sm  em) yvX10_touch q22_17 ⟨by decide, by decide, rfl, rfl⟩ hcs rfl rfl (Nat.le_of_ble_eq_true rfl) rfl dL_law_411 ?_
  exact x_icmp_eq (pc := 414) C 799 dL_law_414 (by decide) (fun _ => next _ _ hR2) (fun q => absurd eq q)
set_option maxRecDepth 100000 in
set_option maxHeartbeats 4000000 in
theorem law_joins {G : kG} {E : kE} {cs : Nat × Nat} {a am : Nat → Nat} (C : kOk G E cL_law RL 4 room_1) (hcs : cs.1 ≤ room_1.cells ∧ cs.2 ≤ room_1.slots) {b L : Nat} {xs : Nat → Int32} (X : kScr E b L xs) {i : Int32} (h0 : vp_in i L) (h1 : vp_in (i + 1) L) (h2 : vp_in (i + 2) L) (h3 : vp_in (i + 3) L) (h4 : vp_in (i + 4) L) {R : Nat → kS → kS → Prop} (hH : kH_joins R) {k : Nat} (hk : k < 512) (sx sm : kS) (hR : R k sx sm) (next : ∀ (sx sm : kS), R (k + 1) sx sm → kX G E cs (wX G a sx ++ wM G am sm) 799 [(0, .ref b), (1, .ref (a 0)), (2, .ref (am 0)), (3, .int i)] []) : kX G E cs (wX G a sx ++ wM G am sm) 419 [(0, .ref b), (1, .ref (a 0)), (2, .ref (am 0)), (3, .int i)] [] := by
  obtain ⟨zx, zm, ex, em, eq, hR2⟩ := hH k sx sm  hk hR
  refine x_aload_n (pc := 419) C 1 dL_law_419 rfl rfl ?_
  refine kX.swapX sx sm ?_
  refine x_callVF (pc := 420) C (wM G am sm) 0 [] rfl rfl rfl (mX9_joins G a sx  ex) yvX9_joins q23_1 ⟨by decide, by decide, rfl, rfl⟩ hcs rfl rfl (Nat.le_of_ble_eq_true rfl) rfl dL_law_420 ?_
  refine kX.swapM (sx) sm ?_
  refine x_aload_n (pc := 423) C 2 dL_law_423 rfl rfl ?_
  refine x_callVF (pc := 424) C (wX G a (sx)) 0 [] rfl rfl rfl (mX10_joins G am sm  em) yvX10_joins q23_6 ⟨by decide, by decide, rfl, rfl⟩ hcs rfl rfl (Nat.le_of_ble_eq_true rfl) rfl dL_law_424 ?_
  exact x_icmp_eq (pc := 427) C 799 dL_law_427 (by decide) (fun _ => next _ _ hR2) (fun q => absurd eq q)
set_option maxRecDepth 100000 in
set_option maxHeartbeats 4000000 in
theorem law_walk {G : kG} {E : kE} {cs : Nat × Nat} {a am : Nat → Nat} (C : kOk G E cL_law RL 4 room_1) (hcs : cs.1 ≤ room_1.cells ∧ cs.2 ≤ room_1.slots) {b L : Nat} {xs : Nat → Int32} (X : kScr E b L xs) {i : Int32} (h0 : vp_in i L) (h1 : vp_in (i + 1) L) (h2 : vp_in (i + 2) L) (h3 : vp_in (i + 3) L) (h4 : vp_in (i + 4) L) {R : Nat → kS → kS → Prop} (hH : kH_walk R) {k : Nat} (hk : k < 512) (sx sm : kS) (hR : R k sx sm) (next : ∀ (sx sm : kS), R (k + 1) sx sm → kX G E cs (wX G a sx ++ wM G am sm) 799 [(0, .ref b), (1, .ref (a 0)), (2, .ref (am 0)), (3, .int i)] []) : kX G E cs (wX G a sx ++ wM G am sm) 432 [(0, .ref b), (1, .ref (a 0)), (2, .ref (am 0)), (3, .int i)] [] := by
  obtain ⟨zx, zm, ex, em, eq, hR2⟩ := hH k sx sm (xs (i + 1).toNatClampNeg) hk hR
  refine x_aload_n (pc := 432) C 1 dL_law_432 rfl rfl ?_
  refine x_aload_n (pc := 433) C 0 dL_law_433 rfl rfl ?_
  refine x_iload_n (pc := 434) C 3 dL_law_434 rfl rfl ?_
  refine x_iconst (pc := 435) C 1 dL_law_435 (by decide) ?_
  refine x_iadd (pc := 436) C dL_law_436 ?_
  refine x_sld (pc := 437) C X h1 dL_law_437 ?_
  refine kX.swapX sx sm ?_
  refine x_callVF (pc := 438) C (wM G am sm) 0 [.int (xs (i + 1).toNatClampNeg)] rfl rfl rfl (mX9_walk G a sx (xs (i + 1).toNatClampNeg) ex) yvX9_walk q23_14 ⟨by decide, by decide, rfl, rfl⟩ hcs rfl rfl (Nat.le_of_ble_eq_true rfl) rfl dL_law_438 ?_
  refine kX.swapM (sx) sm ?_
  refine x_aload_n (pc := 441) C 2 dL_law_441 rfl rfl ?_
  refine x_aload_n (pc := 442) C 0 dL_law_442 rfl rfl ?_
  refine x_iload_n (pc := 443) C 3 dL_law_443 rfl rfl ?_
  refine x_iconst (pc := 444) C 1 dL_law_444 (by decide) ?_
  refine x_iadd (pc := 445) C dL_law_445 ?_
  refine x_sld (pc := 446) C X h1 dL_law_446 ?_
  refine x_callVF (pc := 447) C (wX G a (sx)) 0 [.int (xs (i + 1).toNatClampNeg)] rfl rfl rfl (mX10_walk G am sm (xs (i + 1).toNatClampNeg) em) yvX10_walk q24_5 ⟨by decide, by decide, rfl, rfl⟩ hcs rfl rfl (Nat.le_of_ble_eq_true rfl) rfl dL_law_447 ?_
  exact x_icmp_eq (pc := 450) C 799 dL_law_450 (by decide) (fun _ => next _ _ hR2) (fun q => absurd eq q)
set_option maxRecDepth 100000 in
set_option maxHeartbeats 4000000 in
theorem law_night {G : kG} {E : kE} {cs : Nat × Nat} {a am : Nat → Nat} (C : kOk G E cL_law RL 4 room_1) (hcs : cs.1 ≤ room_1.cells ∧ cs.2 ≤ room_1.slots) {b L : Nat} {xs : Nat → Int32} (X : kScr E b L xs) {i : Int32} (h0 : vp_in i L) (h1 : vp_in (i + 1) L) (h2 : vp_in (i + 2) L) (h3 : vp_in (i + 3) L) (h4 : vp_in (i + 4) L) {R : Nat → kS → kS → Prop} (hH : kH_night R) {k : Nat} (hk : k < 512) (sx sm : kS) (hR : R k sx sm) (next : ∀ (sx sm : kS), R (k + 1) sx sm → kX G E cs (wX G a sx ++ wM G am sm) 799 [(0, .ref b), (1, .ref (a 0)), (2, .ref (am 0)), (3, .int i)] []) : kX G E cs (wX G a sx ++ wM G am sm) 455 [(0, .ref b), (1, .ref (a 0)), (2, .ref (am 0)), (3, .int i)] [] := by
  obtain ⟨zx, zm, ex, em, eq, hR2⟩ := hH k sx sm (xs (i + 1).toNatClampNeg) (xs (i + 2).toNatClampNeg) hk hR
  refine x_aload_n (pc := 455) C 1 dL_law_455 rfl rfl ?_
  refine x_aload_n (pc := 456) C 0 dL_law_456 rfl rfl ?_
  refine x_iload_n (pc := 457) C 3 dL_law_457 rfl rfl ?_
  refine x_iconst (pc := 458) C 1 dL_law_458 (by decide) ?_
  refine x_iadd (pc := 459) C dL_law_459 ?_
  refine x_sld (pc := 460) C X h1 dL_law_460 ?_
  refine x_aload_n (pc := 461) C 0 dL_law_461 rfl rfl ?_
  refine x_iload_n (pc := 462) C 3 dL_law_462 rfl rfl ?_
  refine x_iconst (pc := 463) C 2 dL_law_463 (by decide) ?_
  refine x_iadd (pc := 464) C dL_law_464 ?_
  refine x_sld (pc := 465) C X h2 dL_law_465 ?_
  refine kX.swapX sx sm ?_
  refine x_callVF (pc := 466) C (wM G am sm) 0 [.int (xs (i + 1).toNatClampNeg), .int (xs (i + 2).toNatClampNeg)] rfl rfl rfl (mX9_night G a sx (xs (i + 1).toNatClampNeg) (xs (i + 2).toNatClampNeg) ex) yvX9_night q24_17 ⟨by decide, by decide, rfl, rfl⟩ hcs rfl rfl (Nat.le_of_ble_eq_true rfl) rfl dL_law_466 ?_
  refine kX.swapM (zx.2) sm ?_
  refine x_aload_n (pc := 469) C 2 dL_law_469 rfl rfl ?_
  refine x_aload_n (pc := 470) C 0 dL_law_470 rfl rfl ?_
  refine x_iload_n (pc := 471) C 3 dL_law_471 rfl rfl ?_
  refine x_iconst (pc := 472) C 1 dL_law_472 (by decide) ?_
  refine x_iadd (pc := 473) C dL_law_473 ?_
  refine x_sld (pc := 474) C X h1 dL_law_474 ?_
  refine x_aload_n (pc := 475) C 0 dL_law_475 rfl rfl ?_
  refine x_iload_n (pc := 476) C 3 dL_law_476 rfl rfl ?_
  refine x_iconst (pc := 477) C 2 dL_law_477 (by decide) ?_
  refine x_iadd (pc := 478) C dL_law_478 ?_
  refine x_sld (pc := 479) C X h2 dL_law_479 ?_
  refine x_callVF (pc := 480) C (wX G a (zx.2)) 0 [.int (xs (i + 1).toNatClampNeg), .int (xs (i + 2).toNatClampNeg)] rfl rfl rfl (mX10_night G am sm (xs (i + 1).toNatClampNeg) (xs (i + 2).toNatClampNeg) em) yvX10_night q25_14 ⟨by decide, by decide, rfl, rfl⟩ hcs rfl rfl (Nat.le_of_ble_eq_true rfl) rfl dL_law_480 ?_
  exact x_icmp_eq (pc := 483) C 799 dL_law_483 (by decide) (fun _ => next _ _ hR2) (fun q => absurd eq q)
set_option maxRecDepth 100000 in
set_option maxHeartbeats 4000000 in
theorem law_nights {G : kG} {E : kE} {cs : Nat × Nat} {a am : Nat → Nat} (C : kOk G E cL_law RL 4 room_1) (hcs : cs.1 ≤ room_1.cells ∧ cs.2 ≤ room_1.slots) {b L : Nat} {xs : Nat → Int32} (X : kScr E b L xs) {i : Int32} (h0 : vp_in i L) (h1 : vp_in (i + 1) L) (h2 : vp_in (i + 2) L) (h3 : vp_in (i + 3) L) (h4 : vp_in (i + 4) L) {R : Nat → kS → kS → Prop} (hH : kH_nights R) {k : Nat} (hk : k < 512) (sx sm : kS) (hR : R k sx sm) (next : ∀ (sx sm : kS), R (k + 1) sx sm → kX G E cs (wX G a sx ++ wM G am sm) 799 [(0, .ref b), (1, .ref (a 0)), (2, .ref (am 0)), (3, .int i)] []) : kX G E cs (wX G a sx ++ wM G am sm) 488 [(0, .ref b), (1, .ref (a 0)), (2, .ref (am 0)), (3, .int i)] [] := by
  obtain ⟨zx, zm, ex, em, eq, hR2⟩ := hH k sx sm (xs (i + 1).toNatClampNeg) (xs (i + 2).toNatClampNeg) hk hR
  refine x_aload_n (pc := 488) C 1 dL_law_488 rfl rfl ?_
  refine x_aload_n (pc := 489) C 0 dL_law_489 rfl rfl ?_
  refine x_iload_n (pc := 490) C 3 dL_law_490 rfl rfl ?_
  refine x_iconst (pc := 491) C 1 dL_law_491 (by decide) ?_
  refine x_iadd (pc := 492) C dL_law_492 ?_
  refine x_sld (pc := 493) C X h1 dL_law_493 ?_
  refine x_aload_n (pc := 494) C 0 dL_law_494 rfl rfl ?_
  refine x_iload_n (pc := 495) C 3 dL_law_495 rfl rfl ?_
  refine x_iconst (pc := 496) C 2 dL_law_496 (by decide) ?_
  refine x_iadd (pc := 497) C dL_law_497 ?_
  refine x_sld (pc := 498) C X h2 dL_law_498 ?_
  refine kX.swapX sx sm ?_
  refine x_callVF (pc := 499) C (wM G am sm) 0 [.int (xs (i + 1).toNatClampNeg), .int (xs (i + 2).toNatClampNeg)] rfl rfl rfl (mX9_nights G a sx (xs (i + 1).toNatClampNeg) (xs (i + 2).toNatClampNeg) ex) yvX9_nights q26_10 ⟨by decide, by decide, rfl, rfl⟩ hcs rfl rfl (Nat.le_of_ble_eq_true rfl) rfl dL_law_499 ?_
  refine kX.swapM (zx.2) sm ?_
  refine x_aload_n (pc := 502) C 2 dL_law_502 rfl rfl ?_
  refine x_aload_n (pc := 503) C 0 dL_law_503 rfl rfl ?_
  refine x_iload_n (pc := 504) C 3 dL_law_504 rfl rfl ?_
  refine x_iconst (pc := 505) C 1 dL_law_505 (by decide) ?_
  refine x_iadd (pc := 506) C dL_law_506 ?_
  refine x_sld (pc := 507) C X h1 dL_law_507 ?_
  refine x_aload_n (pc := 508) C 0 dL_law_508 rfl rfl ?_
  refine x_iload_n (pc := 509) C 3 dL_law_509 rfl rfl ?_
  refine x_iconst (pc := 510) C 2 dL_law_510 (by decide) ?_
  refine x_iadd (pc := 511) C dL_law_511 ?_
  refine x_sld (pc := 512) C X h2 dL_law_512 ?_
  refine x_callVF (pc := 513) C (wX G a (zx.2)) 0 [.int (xs (i + 1).toNatClampNeg), .int (xs (i + 2).toNatClampNeg)] rfl rfl rfl (mX10_nights G am sm (xs (i + 1).toNatClampNeg) (xs (i + 2).toNatClampNeg) em) yvX10_nights q28_11 ⟨by decide, by decide, rfl, rfl⟩ hcs rfl rfl (Nat.le_of_ble_eq_true rfl) rfl dL_law_513 ?_
  exact x_icmp_eq (pc := 516) C 799 dL_law_516 (by decide) (fun _ => next _ _ hR2) (fun q => absurd eq q)
set_option maxRecDepth 100000 in
set_option maxHeartbeats 4000000 in
theorem law_seed {G : kG} {E : kE} {cs : Nat × Nat} {a am : Nat → Nat} (C : kOk G E cL_law RL 4 room_1) (hcs : cs.1 ≤ room_1.cells ∧ cs.2 ≤ room_1.slots) {b L : Nat} {xs : Nat → Int32} (X : kScr E b L xs) {i : Int32} (h0 : vp_in i L) (h1 : vp_in (i + 1) L) (h2 : vp_in (i + 2) L) (h3 : vp_in (i + 3) L) (h4 : vp_in (i + 4) L) {R : Nat → kS → kS → Prop} (hH : kH_seed R) {k : Nat} (hk : k < 512) (sx sm : kS) (hR : R k sx sm) (next : ∀ (sx sm : kS), R (k + 1) sx sm → kX G E cs (wX G a sx ++ wM G am sm) 799 [(0, .ref b), (1, .ref (a 0)), (2, .ref (am 0)), (3, .int i)] []) : kX G E cs (wX G a sx ++ wM G am sm) 521 [(0, .ref b), (1, .ref (a 0)), (2, .ref (am 0)), (3, .int i)] [] := by
  obtain ⟨eq, hR2⟩ := hH k sx sm (xs (i + 1).toNatClampNeg) hk hR
  refine x_aload_n (pc := 521) C 1 dL_law_521 rfl rfl ?_
  refine x_aload_n (pc := 522) C 0 dL_law_522 rfl rfl ?_
  refine x_iload_n (pc := 523) C 3 dL_law_523 rfl rfl ?_
  refine x_iconst (pc := 524) C 1 dL_law_524 (by decide) ?_
  refine x_iadd (pc := 525) C dL_law_525 ?_
  refine x_sld (pc := 526) C X h1 dL_law_526 ?_
  refine kX.swapX sx sm ?_
  refine x_callVF (pc := 527) C (wM G am sm) 0 [.int (xs (i + 1).toNatClampNeg)] rfl rfl rfl (mX9_seed G a sx (xs (i + 1).toNatClampNeg)) yvX9_seed q29_11 ⟨by decide, by decide, rfl, rfl⟩ hcs rfl rfl (Nat.le_of_ble_eq_true rfl) rfl dL_law_527 ?_
  refine kX.swapM ((fX9_seed sx (xs (i + 1).toNatClampNeg)).2) sm ?_
  refine x_aload_n (pc := 530) C 2 dL_law_530 rfl rfl ?_
  refine x_aload_n (pc := 531) C 0 dL_law_531 rfl rfl ?_
  refine x_iload_n (pc := 532) C 3 dL_law_532 rfl rfl ?_
  refine x_iconst (pc := 533) C 1 dL_law_533 (by decide) ?_
  refine x_iadd (pc := 534) C dL_law_534 ?_
  refine x_sld (pc := 535) C X h1 dL_law_535 ?_
  refine x_callVF (pc := 536) C (wX G a ((fX9_seed sx (xs (i + 1).toNatClampNeg)).2)) 0 [.int (xs (i + 1).toNatClampNeg)] rfl rfl rfl (mX10_seed G am sm (xs (i + 1).toNatClampNeg)) yvX10_seed q29_15 ⟨by decide, by decide, rfl, rfl⟩ hcs rfl rfl (Nat.le_of_ble_eq_true rfl) rfl dL_law_536 ?_
  exact x_icmp_eq (pc := 539) C 799 dL_law_539 (by decide) (fun _ => next _ _ hR2) (fun q => absurd eq q)
set_option maxRecDepth 100000 in
set_option maxHeartbeats 4000000 in
theorem law_apart {G : kG} {E : kE} {cs : Nat × Nat} {a am : Nat → Nat} (C : kOk G E cL_law RL 4 room_1) (hcs : cs.1 ≤ room_1.cells ∧ cs.2 ≤ room_1.slots) {b L : Nat} {xs : Nat → Int32} (X : kScr E b L xs) {i : Int32} (h0 : vp_in i L) (h1 : vp_in (i + 1) L) (h2 : vp_in (i + 2) L) (h3 : vp_in (i + 3) L) (h4 : vp_in (i + 4) L) {R : Nat → kS → kS → Prop} (hH : kH_apart R) {k : Nat} (hk : k < 512) (sx sm : kS) (hR : R k sx sm) (next : ∀ (sx sm : kS), R (k + 1) sx sm → kX G E cs (wX G a sx ++ wM G am sm) 799 [(0, .ref b), (1, .ref (a 0)), (2, .ref (am 0)), (3, .int i)] []) : kX G E cs (wX G a sx ++ wM G am sm) 544 [(0, .ref b), (1, .ref (a 0)), (2, .ref (am 0)), (3, .int i)] [] := by
  obtain ⟨zx, zm, ex, em, eq, hR2⟩ := hH k sx sm (xs (i + 1).toNatClampNeg) (xs (i + 2).toNatClampNeg) hk hR
  refine x_aload_n (pc := 544) C 1 dL_law_544 rfl rfl ?_
  refine x_aload_n (pc := 545) C 0 dL_law_545 rfl rfl ?_
  refine x_iload_n (pc := 546) C 3 dL_law_546 rfl rfl ?_
  refine x_iconst (pc := 547) C 1 dL_law_547 (by decide) ?_
  refine x_iadd (pc := 548) C dL_law_548 ?_
  refine x_sld (pc := 549) C X h1 dL_law_549 ?_
  refine x_aload_n (pc := 550) C 0 dL_law_550 rfl rfl ?_
  refine x_iload_n (pc := 551) C 3 dL_law_551 rfl rfl ?_
  refine x_iconst (pc := 552) C 2 dL_law_552 (by decide) ?_
  refine x_iadd (pc := 553) C dL_law_553 ?_
  refine x_sld (pc := 554) C X h2 dL_law_554 ?_
  refine kX.swapX sx sm ?_
  refine x_callVF (pc := 555) C (wM G am sm) 0 [.int (xs (i + 1).toNatClampNeg), .int (xs (i + 2).toNatClampNeg)] rfl rfl rfl (mX9_apart G a sx (xs (i + 1).toNatClampNeg) (xs (i + 2).toNatClampNeg) ex) yvX9_apart q29_19 ⟨by decide, by decide, rfl, rfl⟩ hcs rfl rfl (Nat.le_of_ble_eq_true rfl) rfl dL_law_555 ?_
  refine kX.swapM (zx.2) sm ?_
  refine x_aload_n (pc := 558) C 2 dL_law_558 rfl rfl ?_
  refine x_aload_n (pc := 559) C 0 dL_law_559 rfl rfl ?_
  refine x_iload_n (pc := 560) C 3 dL_law_560 rfl rfl ?_
  refine x_iconst (pc := 561) C 1 dL_law_561 (by decide) ?_
  refine x_iadd (pc := 562) C dL_law_562 ?_
  refine x_sld (pc := 563) C X h1 dL_law_563 ?_
  refine x_aload_n (pc := 564) C 0 dL_law_564 rfl rfl ?_
  refine x_iload_n (pc := 565) C 3 dL_law_565 rfl rfl ?_
  refine x_iconst (pc := 566) C 2 dL_law_566 (by decide) ?_
  refine x_iadd (pc := 567) C dL_law_567 ?_
  refine x_sld (pc := 568) C X h2 dL_law_568 ?_
  refine x_callVF (pc := 569) C (wX G a (zx.2)) 0 [.int (xs (i + 1).toNatClampNeg), .int (xs (i + 2).toNatClampNeg)] rfl rfl rfl (mX10_apart G am sm (xs (i + 1).toNatClampNeg) (xs (i + 2).toNatClampNeg) em) yvX10_apart q30_8 ⟨by decide, by decide, rfl, rfl⟩ hcs rfl rfl (Nat.le_of_ble_eq_true rfl) rfl dL_law_569 ?_
  exact x_icmp_eq (pc := 572) C 799 dL_law_572 (by decide) (fun _ => next _ _ hR2) (fun q => absurd eq q)
set_option maxRecDepth 100000 in
set_option maxHeartbeats 4000000 in
theorem law_choose {G : kG} {E : kE} {cs : Nat × Nat} {a am : Nat → Nat} (C : kOk G E cL_law RL 4 room_1) (hcs : cs.1 ≤ room_1.cells ∧ cs.2 ≤ room_1.slots) {b L : Nat} {xs : Nat → Int32} (X : kScr E b L xs) {i : Int32} (h0 : vp_in i L) (h1 : vp_in (i + 1) L) (h2 : vp_in (i + 2) L) (h3 : vp_in (i + 3) L) (h4 : vp_in (i + 4) L) {R : Nat → kS → kS → Prop} (hH : kH_choose R) {k : Nat} (hk : k < 512) (sx sm : kS) (hR : R k sx sm) (next : ∀ (sx sm : kS), R (k + 1) sx sm → kX G E cs (wX G a sx ++ wM G am sm) 799 [(0, .ref b), (1, .ref (a 0)), (2, .ref (am 0)), (3, .int i)] []) : kX G E cs (wX G a sx ++ wM G am sm) 577 [(0, .ref b), (1, .ref (a 0)), (2, .ref (am 0)), (3, .int i)] [] := by
  obtain ⟨zx, zm, ex, em, eq, hR2⟩ := hH k sx sm (xs (i + 1).toNatClampNeg) (xs (i + 2).toNatClampNeg) hk hR
  refine x_aload_n (pc := 577) C 1 dL_law_577 rfl rfl ?_
  refine x_aload_n (pc := 578) C 0 dL_law_578 rfl rfl ?_
  refine x_iload_n (pc := 579) C 3 dL_law_579 rfl rfl ?_
  refine x_iconst (pc := 580) C 1 dL_law_580 (by decide) ?_
  refine x_iadd (pc := 581) C dL_law_581 ?_
  refine x_sld (pc := 582) C X h1 dL_law_582 ?_
  refine x_aload_n (pc := 583) C 0 dL_law_583 rfl rfl ?_
  refine x_iload_n (pc := 584) C 3 dL_law_584 rfl rfl ?_
  refine x_iconst (pc := 585) C 2 dL_law_585 (by decide) ?_
  refine x_iadd (pc := 586) C dL_law_586 ?_
  refine x_sld (pc := 587) C X h2 dL_law_587 ?_
  refine kX.swapX sx sm ?_
  refine x_callVF (pc := 588) C (wM G am sm) 0 [.int (xs (i + 1).toNatClampNeg), .int (xs (i + 2).toNatClampNeg)] rfl rfl rfl (mX9_choose G a sx (xs (i + 1).toNatClampNeg) (xs (i + 2).toNatClampNeg) ex) yvX9_choose q30_23 ⟨by decide, by decide, rfl, rfl⟩ hcs rfl rfl (Nat.le_of_ble_eq_true rfl) rfl dL_law_588 ?_
  refine kX.swapM (zx.2) sm ?_
  refine x_aload_n (pc := 591) C 2 dL_law_591 rfl rfl ?_
  refine x_aload_n (pc := 592) C 0 dL_law_592 rfl rfl ?_
  refine x_iload_n (pc := 593) C 3 dL_law_593 rfl rfl ?_
  refine x_iconst (pc := 594) C 1 dL_law_594 (by decide) ?_
  refine x_iadd (pc := 595) C dL_law_595 ?_
  refine x_sld (pc := 596) C X h1 dL_law_596 ?_
  refine x_aload_n (pc := 597) C 0 dL_law_597 rfl rfl ?_
  refine x_iload_n (pc := 598) C 3 dL_law_598 rfl rfl ?_
  refine x_iconst (pc := 599) C 2 dL_law_599 (by decide) ?_
  refine x_iadd (pc := 600) C dL_law_600 ?_
  refine x_sld (pc := 601) C X h2 dL_law_601 ?_
  refine x_callVF (pc := 602) C (wX G a (zx.2)) 0 [.int (xs (i + 1).toNatClampNeg), .int (xs (i + 2).toNatClampNeg)] rfl rfl rfl (mX10_choose G am sm (xs (i + 1).toNatClampNeg) (xs (i + 2).toNatClampNeg) em) yvX10_choose q31_3 ⟨by decide, by decide, rfl, rfl⟩ hcs rfl rfl (Nat.le_of_ble_eq_true rfl) rfl dL_law_602 ?_
  exact x_icmp_eq (pc := 605) C 799 dL_law_605 (by decide) (fun _ => next _ _ hR2) (fun q => absurd eq q)
set_option maxRecDepth 100000 in
set_option maxHeartbeats 4000000 in
theorem law_fewest {G : kG} {E : kE} {cs : Nat × Nat} {a am : Nat → Nat} (C : kOk G E cL_law RL 4 room_1) (hcs : cs.1 ≤ room_1.cells ∧ cs.2 ≤ room_1.slots) {b L : Nat} {xs : Nat → Int32} (X : kScr E b L xs) {i : Int32} (h0 : vp_in i L) (h1 : vp_in (i + 1) L) (h2 : vp_in (i + 2) L) (h3 : vp_in (i + 3) L) (h4 : vp_in (i + 4) L) {R : Nat → kS → kS → Prop} (hH : kH_fewest R) {k : Nat} (hk : k < 512) (sx sm : kS) (hR : R k sx sm) (next : ∀ (sx sm : kS), R (k + 1) sx sm → kX G E cs (wX G a sx ++ wM G am sm) 799 [(0, .ref b), (1, .ref (a 0)), (2, .ref (am 0)), (3, .int i)] []) : kX G E cs (wX G a sx ++ wM G am sm) 610 [(0, .ref b), (1, .ref (a 0)), (2, .ref (am 0)), (3, .int i)] [] := by
  obtain ⟨zx, zm, ex, em, eq, hR2⟩ := hH k sx sm  hk hR
  refine x_aload_n (pc := 610) C 1 dL_law_610 rfl rfl ?_
  refine kX.swapX sx sm ?_
  refine x_callVF (pc := 611) C (wM G am sm) 0 [] rfl rfl rfl (mX9_fewest G a sx  ex) yvX9_fewest q31_7 ⟨by decide, by decide, rfl, rfl⟩ hcs rfl rfl (Nat.le_of_ble_eq_true rfl) rfl dL_law_611 ?_
  refine kX.swapM (zx.2) sm ?_
  refine x_aload_n (pc := 614) C 2 dL_law_614 rfl rfl ?_
  refine x_callVF (pc := 615) C (wX G a (zx.2)) 0 [] rfl rfl rfl (mX10_fewest G am sm  em) yvX10_fewest q32_0 ⟨by decide, by decide, rfl, rfl⟩ hcs rfl rfl (Nat.le_of_ble_eq_true rfl) rfl dL_law_615 ?_
  exact x_icmp_eq (pc := 618) C 799 dL_law_618 (by decide) (fun _ => next _ _ hR2) (fun q => absurd eq q)
set_option maxRecDepth 100000 in
set_option maxHeartbeats 4000000 in
theorem law_surely {G : kG} {E : kE} {cs : Nat × Nat} {a am : Nat → Nat} (C : kOk G E cL_law RL 4 room_1) (hcs : cs.1 ≤ room_1.cells ∧ cs.2 ≤ room_1.slots) {b L : Nat} {xs : Nat → Int32} (X : kScr E b L xs) {i : Int32} (h0 : vp_in i L) (h1 : vp_in (i + 1) L) (h2 : vp_in (i + 2) L) (h3 : vp_in (i + 3) L) (h4 : vp_in (i + 4) L) {R : Nat → kS → kS → Prop} (hH : kH_surely R) {k : Nat} (hk : k < 512) (sx sm : kS) (hR : R k sx sm) (next : ∀ (sx sm : kS), R (k + 1) sx sm → kX G E cs (wX G a sx ++ wM G am sm) 799 [(0, .ref b), (1, .ref (a 0)), (2, .ref (am 0)), (3, .int i)] []) : kX G E cs (wX G a sx ++ wM G am sm) 623 [(0, .ref b), (1, .ref (a 0)), (2, .ref (am 0)), (3, .int i)] [] := by
  obtain ⟨zx, zm, ex, em, eq, hR2⟩ := hH k sx sm  hk hR
  refine x_aload_n (pc := 623) C 1 dL_law_623 rfl rfl ?_
  refine kX.swapX sx sm ?_
  refine x_callVF (pc := 624) C (wM G am sm) 0 [] rfl rfl rfl (mX9_surely G a sx  ex) yvX9_surely q32_9 ⟨by decide, by decide, rfl, rfl⟩ hcs rfl rfl (Nat.le_of_ble_eq_true rfl) rfl dL_law_624 ?_
  refine kX.swapM (zx.2) sm ?_
  refine x_aload_n (pc := 627) C 2 dL_law_627 rfl rfl ?_
  refine x_callVF (pc := 628) C (wX G a (zx.2)) 0 [] rfl rfl rfl (mX10_surely G am sm  em) yvX10_surely q33_3 ⟨by decide, by decide, rfl, rfl⟩ hcs rfl rfl (Nat.le_of_ble_eq_true rfl) rfl dL_law_628 ?_
  exact x_icmp_eq (pc := 631) C 799 dL_law_631 (by decide) (fun _ => next _ _ hR2) (fun q => absurd eq q)
set_option maxRecDepth 100000 in
set_option maxHeartbeats 4000000 in
theorem law_odds {G : kG} {E : kE} {cs : Nat × Nat} {a am : Nat → Nat} (C : kOk G E cL_law RL 4 room_1) (hcs : cs.1 ≤ room_1.cells ∧ cs.2 ≤ room_1.slots) {b L : Nat} {xs : Nat → Int32} (X : kScr E b L xs) {i : Int32} (h0 : vp_in i L) (h1 : vp_in (i + 1) L) (h2 : vp_in (i + 2) L) (h3 : vp_in (i + 3) L) (h4 : vp_in (i + 4) L) {R : Nat → kS → kS → Prop} (hH : kH_odds R) {k : Nat} (hk : k < 512) (sx sm : kS) (hR : R k sx sm) (next : ∀ (sx sm : kS), R (k + 1) sx sm → kX G E cs (wX G a sx ++ wM G am sm) 799 [(0, .ref b), (1, .ref (a 0)), (2, .ref (am 0)), (3, .int i)] []) : kX G E cs (wX G a sx ++ wM G am sm) 636 [(0, .ref b), (1, .ref (a 0)), (2, .ref (am 0)), (3, .int i)] [] := by
  obtain ⟨zx, zm, ex, em, eq, hR2⟩ := hH k sx sm (xs (i + 1).toNatClampNeg) (xs (i + 2).toNatClampNeg) (xs (i + 3).toNatClampNeg) (xs (i + 4).toNatClampNeg) hk hR
  refine x_aload_n (pc := 636) C 1 dL_law_636 rfl rfl ?_
  refine x_aload_n (pc := 637) C 0 dL_law_637 rfl rfl ?_
  refine x_iload_n (pc := 638) C 3 dL_law_638 rfl rfl ?_
  refine x_iconst (pc := 639) C 1 dL_law_639 (by decide) ?_
  refine x_iadd (pc := 640) C dL_law_640 ?_
  refine x_sld (pc := 641) C X h1 dL_law_641 ?_
  refine x_aload_n (pc := 642) C 0 dL_law_642 rfl rfl ?_
  refine x_iload_n (pc := 643) C 3 dL_law_643 rfl rfl ?_
  refine x_iconst (pc := 644) C 2 dL_law_644 (by decide) ?_
  refine x_iadd (pc := 645) C dL_law_645 ?_
  refine x_sld (pc := 646) C X h2 dL_law_646 ?_
  refine x_aload_n (pc := 647) C 0 dL_law_647 rfl rfl ?_
  refine x_iload_n (pc := 648) C 3 dL_law_648 rfl rfl ?_
  refine x_iconst (pc := 649) C 3 dL_law_649 (by decide) ?_
  refine x_iadd (pc := 650) C dL_law_650 ?_
  refine x_sld (pc := 651) C X h3 dL_law_651 ?_
  refine x_aload_n (pc := 652) C 0 dL_law_652 rfl rfl ?_
  refine x_iload_n (pc := 653) C 3 dL_law_653 rfl rfl ?_
  refine x_iconst (pc := 654) C 4 dL_law_654 (by decide) ?_
  refine x_iadd (pc := 655) C dL_law_655 ?_
  refine x_sld (pc := 656) C X h4 dL_law_656 ?_
  refine kX.swapX sx sm ?_
  refine x_callVF (pc := 657) C (wM G am sm) 0 [.int (xs (i + 1).toNatClampNeg), .int (xs (i + 2).toNatClampNeg), .int (xs (i + 3).toNatClampNeg), .int (xs (i + 4).toNatClampNeg)] rfl rfl rfl (mX9_odds G a sx (xs (i + 1).toNatClampNeg) (xs (i + 2).toNatClampNeg) (xs (i + 3).toNatClampNeg) (xs (i + 4).toNatClampNeg) ex) yvX9_odds q33_15 ⟨by decide, by decide, rfl, rfl⟩ hcs rfl rfl (Nat.le_of_ble_eq_true rfl) rfl dL_law_657 ?_
  refine kX.swapM (zx.2) sm ?_
  refine x_aload_n (pc := 660) C 2 dL_law_660 rfl rfl ?_
  refine x_aload_n (pc := 661) C 0 dL_law_661 rfl rfl ?_
  refine x_iload_n (pc := 662) C 3 dL_law_662 rfl rfl ?_
  refine x_iconst (pc := 663) C 1 dL_law_663 (by decide) ?_
  refine x_iadd (pc := 664) C dL_law_664 ?_
  refine x_sld (pc := 665) C X h1 dL_law_665 ?_
  refine x_aload_n (pc := 666) C 0 dL_law_666 rfl rfl ?_
  refine x_iload_n (pc := 667) C 3 dL_law_667 rfl rfl ?_
  refine x_iconst (pc := 668) C 2 dL_law_668 (by decide) ?_
  refine x_iadd (pc := 669) C dL_law_669 ?_
  refine x_sld (pc := 670) C X h2 dL_law_670 ?_
  refine x_aload_n (pc := 671) C 0 dL_law_671 rfl rfl ?_
  refine x_iload_n (pc := 672) C 3 dL_law_672 rfl rfl ?_
  refine x_iconst (pc := 673) C 3 dL_law_673 (by decide) ?_
  refine x_iadd (pc := 674) C dL_law_674 ?_
  refine x_sld (pc := 675) C X h3 dL_law_675 ?_
  refine x_aload_n (pc := 676) C 0 dL_law_676 rfl rfl ?_
  refine x_iload_n (pc := 677) C 3 dL_law_677 rfl rfl ?_
  refine x_iconst (pc := 678) C 4 dL_law_678 (by decide) ?_
  refine x_iadd (pc := 679) C dL_law_679 ?_
  refine x_sld (pc := 680) C X h4 dL_law_680 ?_
  refine x_callVF (pc := 681) C (wX G a (zx.2)) 0 [.int (xs (i + 1).toNatClampNeg), .int (xs (i + 2).toNatClampNeg), .int (xs (i + 3).toNatClampNeg), .int (xs (i + 4).toNatClampNeg)] rfl rfl rfl (mX10_odds G am sm (xs (i + 1).toNatClampNeg) (xs (i + 2).toNatClampNeg) (xs (i + 3).toNatClampNeg) (xs (i + 4).toNatClampNeg) em) yvX10_odds q34_12 ⟨by decide, by decide, rfl, rfl⟩ hcs rfl rfl (Nat.le_of_ble_eq_true rfl) rfl dL_law_681 ?_
  exact x_icmp_eq (pc := 684) C 799 dL_law_684 (by decide) (fun _ => next _ _ hR2) (fun q => absurd eq q)
set_option maxRecDepth 100000 in
set_option maxHeartbeats 4000000 in
theorem law_ways {G : kG} {E : kE} {cs : Nat × Nat} {a am : Nat → Nat} (C : kOk G E cL_law RL 4 room_1) (hcs : cs.1 ≤ room_1.cells ∧ cs.2 ≤ room_1.slots) {b L : Nat} {xs : Nat → Int32} (X : kScr E b L xs) {i : Int32} (h0 : vp_in i L) (h1 : vp_in (i + 1) L) (h2 : vp_in (i + 2) L) (h3 : vp_in (i + 3) L) (h4 : vp_in (i + 4) L) {R : Nat → kS → kS → Prop} (hH : kH_ways R) {k : Nat} (hk : k < 512) (sx sm : kS) (hR : R k sx sm) (next : ∀ (sx sm : kS), R (k + 1) sx sm → kX G E cs (wX G a sx ++ wM G am sm) 799 [(0, .ref b), (1, .ref (a 0)), (2, .ref (am 0)), (3, .int i)] []) : kX G E cs (wX G a sx ++ wM G am sm) 689 [(0, .ref b), (1, .ref (a 0)), (2, .ref (am 0)), (3, .int i)] [] := by
  obtain ⟨zx, zm, ex, em, eq, hR2⟩ := hH k sx sm (xs (i + 1).toNatClampNeg) hk hR
  refine x_aload_n (pc := 689) C 1 dL_law_689 rfl rfl ?_
  refine x_aload_n (pc := 690) C 0 dL_law_690 rfl rfl ?_
  refine x_iload_n (pc := 691) C 3 dL_law_691 rfl rfl ?_
  refine x_iconst (pc := 692) C 1 dL_law_692 (by decide) ?_
  refine x_iadd (pc := 693) C dL_law_693 ?_
  refine x_sld (pc := 694) C X h1 dL_law_694 ?_
  refine kX.swapX sx sm ?_
  refine x_callVF (pc := 695) C (wM G am sm) 0 [.int (xs (i + 1).toNatClampNeg)] rfl rfl rfl (mX9_ways G a sx (xs (i + 1).toNatClampNeg) ex) yvX9_ways q35_0 ⟨by decide, by decide, rfl, rfl⟩ hcs rfl rfl (Nat.le_of_ble_eq_true rfl) rfl dL_law_695 ?_
  refine kX.swapM (zx.2) sm ?_
  refine x_aload_n (pc := 698) C 2 dL_law_698 rfl rfl ?_
  refine x_aload_n (pc := 699) C 0 dL_law_699 rfl rfl ?_
  refine x_iload_n (pc := 700) C 3 dL_law_700 rfl rfl ?_
  refine x_iconst (pc := 701) C 1 dL_law_701 (by decide) ?_
  refine x_iadd (pc := 702) C dL_law_702 ?_
  refine x_sld (pc := 703) C X h1 dL_law_703 ?_
  refine x_callVF (pc := 704) C (wX G a (zx.2)) 0 [.int (xs (i + 1).toNatClampNeg)] rfl rfl rfl (mX10_ways G am sm (xs (i + 1).toNatClampNeg) em) yvX10_ways q36_7 ⟨by decide, by decide, rfl, rfl⟩ hcs rfl rfl (Nat.le_of_ble_eq_true rfl) rfl dL_law_704 ?_
  refine x_lcmp (pc := 707) C dL_law_707 ?_
  exact x_if_eq (pc := 708) C 799 dL_law_708 (by decide) (fun _ => next _ _ hR2) (fun q => absurd (lg_cmp_self eq) q)
set_option maxRecDepth 100000 in
set_option maxHeartbeats 4000000 in
theorem law_must {G : kG} {E : kE} {cs : Nat × Nat} {a am : Nat → Nat} (C : kOk G E cL_law RL 4 room_1) (hcs : cs.1 ≤ room_1.cells ∧ cs.2 ≤ room_1.slots) {b L : Nat} {xs : Nat → Int32} (X : kScr E b L xs) {i : Int32} (h0 : vp_in i L) (h1 : vp_in (i + 1) L) (h2 : vp_in (i + 2) L) (h3 : vp_in (i + 3) L) (h4 : vp_in (i + 4) L) {R : Nat → kS → kS → Prop} (hH : kH_must R) {k : Nat} (hk : k < 512) (sx sm : kS) (hR : R k sx sm) (next : ∀ (sx sm : kS), R (k + 1) sx sm → kX G E cs (wX G a sx ++ wM G am sm) 799 [(0, .ref b), (1, .ref (a 0)), (2, .ref (am 0)), (3, .int i)] []) : kX G E cs (wX G a sx ++ wM G am sm) 713 [(0, .ref b), (1, .ref (a 0)), (2, .ref (am 0)), (3, .int i)] [] := by
  obtain ⟨zx, zm, ex, em, eq, hR2⟩ := hH k sx sm (xs (i + 1).toNatClampNeg) hk hR
  refine x_aload_n (pc := 713) C 1 dL_law_713 rfl rfl ?_
  refine x_aload_n (pc := 714) C 0 dL_law_714 rfl rfl ?_
  refine x_iload_n (pc := 715) C 3 dL_law_715 rfl rfl ?_
  refine x_iconst (pc := 716) C 1 dL_law_716 (by decide) ?_
  refine x_iadd (pc := 717) C dL_law_717 ?_
  refine x_sld (pc := 718) C X h1 dL_law_718 ?_
  refine kX.swapX sx sm ?_
  refine x_callVF (pc := 719) C (wM G am sm) 0 [.int (xs (i + 1).toNatClampNeg)] rfl rfl rfl (mX9_must G a sx (xs (i + 1).toNatClampNeg) ex) yvX9_must q36_17 ⟨by decide, by decide, rfl, rfl⟩ hcs rfl rfl (Nat.le_of_ble_eq_true rfl) rfl dL_law_719 ?_
  refine kX.swapM (zx.2) sm ?_
  refine x_aload_n (pc := 722) C 2 dL_law_722 rfl rfl ?_
  refine x_aload_n (pc := 723) C 0 dL_law_723 rfl rfl ?_
  refine x_iload_n (pc := 724) C 3 dL_law_724 rfl rfl ?_
  refine x_iconst (pc := 725) C 1 dL_law_725 (by decide) ?_
  refine x_iadd (pc := 726) C dL_law_726 ?_
  refine x_sld (pc := 727) C X h1 dL_law_727 ?_
  refine x_callVF (pc := 728) C (wX G a (zx.2)) 0 [.int (xs (i + 1).toNatClampNeg)] rfl rfl rfl (mX10_must G am sm (xs (i + 1).toNatClampNeg) em) yvX10_must q37_2 ⟨by decide, by decide, rfl, rfl⟩ hcs rfl rfl (Nat.le_of_ble_eq_true rfl) rfl dL_law_728 ?_
  exact x_icmp_eq (pc := 731) C 799 dL_law_731 (by decide) (fun _ => next _ _ hR2) (fun q => absurd eq q)
set_option maxRecDepth 100000 in
set_option maxHeartbeats 4000000 in
theorem law_image {G : kG} {E : kE} {cs : Nat × Nat} {a am : Nat → Nat} (C : kOk G E cL_law RL 4 room_1) (hcs : cs.1 ≤ room_1.cells ∧ cs.2 ≤ room_1.slots) {b L : Nat} {xs : Nat → Int32} (X : kScr E b L xs) {i : Int32} (h0 : vp_in i L) (h1 : vp_in (i + 1) L) (h2 : vp_in (i + 2) L) (h3 : vp_in (i + 3) L) (h4 : vp_in (i + 4) L) {R : Nat → kS → kS → Prop} (hH : kH_image R) {k : Nat} (hk : k < 512) (sx sm : kS) (hR : R k sx sm) (next : ∀ (sx sm : kS), R (k + 1) sx sm → kX G E cs (wX G a sx ++ wM G am sm) 799 [(0, .ref b), (1, .ref (a 0)), (2, .ref (am 0)), (3, .int i)] []) : kX G E cs (wX G a sx ++ wM G am sm) 736 [(0, .ref b), (1, .ref (a 0)), (2, .ref (am 0)), (3, .int i)] [] := by
  obtain ⟨zx, zm, ex, em, eq, hR2⟩ := hH k sx sm  hk hR
  refine x_aload_n (pc := 736) C 1 dL_law_736 rfl rfl ?_
  refine kX.swapX sx sm ?_
  refine x_callVF (pc := 737) C (wM G am sm) 0 [] rfl rfl rfl (mX9_image G a sx  ex) yvX9_image q37_10 ⟨by decide, by decide, rfl, rfl⟩ hcs rfl rfl (Nat.le_of_ble_eq_true rfl) rfl dL_law_737 ?_
  refine kX.swapM (zx.2) sm ?_
  refine x_aload_n (pc := 740) C 2 dL_law_740 rfl rfl ?_
  refine x_callVF (pc := 741) C (wX G a (zx.2)) 0 [] rfl rfl rfl (mX10_image G am sm  em) yvX10_image q37_18 ⟨by decide, by decide, rfl, rfl⟩ hcs rfl rfl (Nat.le_of_ble_eq_true rfl) rfl dL_law_741 ?_
  exact x_icmp_eq (pc := 744) C 799 dL_law_744 (by decide) (fun _ => next _ _ hR2) (fun q => absurd eq q)
set_option maxRecDepth 100000 in
set_option maxHeartbeats 4000000 in
theorem law_restore {G : kG} {E : kE} {cs : Nat × Nat} {a am : Nat → Nat} (C : kOk G E cL_law RL 4 room_1) (hcs : cs.1 ≤ room_1.cells ∧ cs.2 ≤ room_1.slots) {b L : Nat} {xs : Nat → Int32} (X : kScr E b L xs) {i : Int32} (h0 : vp_in i L) (h1 : vp_in (i + 1) L) (h2 : vp_in (i + 2) L) (h3 : vp_in (i + 3) L) (h4 : vp_in (i + 4) L) {R : Nat → kS → kS → Prop} (hH : kH_restore R) {k : Nat} (hk : k < 512) (sx sm : kS) (hR : R k sx sm) (next : ∀ (sx sm : kS), R (k + 1) sx sm → kX G E cs (wX G a sx ++ wM G am sm) 799 [(0, .ref b), (1, .ref (a 0)), (2, .ref (am 0)), (3, .int i)] []) : kX G E cs (wX G a sx ++ wM G am sm) 749 [(0, .ref b), (1, .ref (a 0)), (2, .ref (am 0)), (3, .int i)] [] := by
  obtain ⟨zx, zm, ex, em, eq, hR2⟩ := hH k sx sm  hk hR
  refine x_aload_n (pc := 749) C 1 dL_law_749 rfl rfl ?_
  refine kX.swapX sx sm ?_
  refine x_callVF (pc := 750) C (wM G am sm) 0 [] rfl rfl rfl (mX9_restore G a sx  ex) yvX9_restore q38_2 ⟨by decide, by decide, rfl, rfl⟩ hcs rfl rfl (Nat.le_of_ble_eq_true rfl) rfl dL_law_750 ?_
  refine kX.swapM (zx.2) sm ?_
  refine x_aload_n (pc := 753) C 2 dL_law_753 rfl rfl ?_
  refine x_callVF (pc := 754) C (wX G a (zx.2)) 0 [] rfl rfl rfl (mX10_restore G am sm  em) yvX10_restore q38_6 ⟨by decide, by decide, rfl, rfl⟩ hcs rfl rfl (Nat.le_of_ble_eq_true rfl) rfl dL_law_754 ?_
  exact x_icmp_eq (pc := 757) C 799 dL_law_757 (by decide) (fun _ => next _ _ hR2) (fun q => absurd eq q)
set_option maxRecDepth 100000 in
set_option maxHeartbeats 4000000 in
theorem law_count {G : kG} {E : kE} {cs : Nat × Nat} {a am : Nat → Nat} (C : kOk G E cL_law RL 4 room_1) (hcs : cs.1 ≤ room_1.cells ∧ cs.2 ≤ room_1.slots) {b L : Nat} {xs : Nat → Int32} (X : kScr E b L xs) {i : Int32} (h0 : vp_in i L) (h1 : vp_in (i + 1) L) (h2 : vp_in (i + 2) L) (h3 : vp_in (i + 3) L) (h4 : vp_in (i + 4) L) {R : Nat → kS → kS → Prop} (hH : kH_count R) {k : Nat} (hk : k < 512) (sx sm : kS) (hR : R k sx sm) (next : ∀ (sx sm : kS), R (k + 1) sx sm → kX G E cs (wX G a sx ++ wM G am sm) 799 [(0, .ref b), (1, .ref (a 0)), (2, .ref (am 0)), (3, .int i)] []) : kX G E cs (wX G a sx ++ wM G am sm) 762 [(0, .ref b), (1, .ref (a 0)), (2, .ref (am 0)), (3, .int i)] [] := by
  obtain ⟨zm, em, eq, hR2⟩ := hH k sx sm (xs (i + 1).toNatClampNeg) hk hR
  refine x_aload_n (pc := 762) C 1 dL_law_762 rfl rfl ?_
  refine x_aload_n (pc := 763) C 0 dL_law_763 rfl rfl ?_
  refine x_iload_n (pc := 764) C 3 dL_law_764 rfl rfl ?_
  refine x_iconst (pc := 765) C 1 dL_law_765 (by decide) ?_
  refine x_iadd (pc := 766) C dL_law_766 ?_
  refine x_sld (pc := 767) C X h1 dL_law_767 ?_
  refine kX.swapX sx sm ?_
  refine x_callVF (pc := 768) C (wM G am sm) 0 [.int (xs (i + 1).toNatClampNeg)] rfl rfl rfl (mX9_count G a sx (xs (i + 1).toNatClampNeg)) yvX9_count q38_10 ⟨by decide, by decide, rfl, rfl⟩ hcs rfl rfl (Nat.le_of_ble_eq_true rfl) rfl dL_law_768 ?_
  refine kX.swapM (sx) sm ?_
  refine x_aload_n (pc := 771) C 2 dL_law_771 rfl rfl ?_
  refine x_aload_n (pc := 772) C 0 dL_law_772 rfl rfl ?_
  refine x_iload_n (pc := 773) C 3 dL_law_773 rfl rfl ?_
  refine x_iconst (pc := 774) C 1 dL_law_774 (by decide) ?_
  refine x_iadd (pc := 775) C dL_law_775 ?_
  refine x_sld (pc := 776) C X h1 dL_law_776 ?_
  refine x_callVF (pc := 777) C (wX G a (sx)) 0 [.int (xs (i + 1).toNatClampNeg)] rfl rfl rfl (mX10_count G am sm (xs (i + 1).toNatClampNeg) em) yvX10_count q38_14 ⟨by decide, by decide, rfl, rfl⟩ hcs rfl rfl (Nat.le_of_ble_eq_true rfl) rfl dL_law_777 ?_
  exact x_icmp_eq (pc := 780) C 799 dL_law_780 (by decide) (fun _ => next _ _ hR2) (fun q => absurd eq q)
set_option maxRecDepth 100000 in
set_option maxHeartbeats 4000000 in
theorem law_digest {G : kG} {E : kE} {cs : Nat × Nat} {a am : Nat → Nat} (C : kOk G E cL_law RL 4 room_1) (hcs : cs.1 ≤ room_1.cells ∧ cs.2 ≤ room_1.slots) {b L : Nat} {xs : Nat → Int32} (X : kScr E b L xs) {i : Int32} (h0 : vp_in i L) (h1 : vp_in (i + 1) L) (h2 : vp_in (i + 2) L) (h3 : vp_in (i + 3) L) (h4 : vp_in (i + 4) L) {R : Nat → kS → kS → Prop} (hH : kH_digest R) {k : Nat} (hk : k < 512) (sx sm : kS) (hR : R k sx sm) (next : ∀ (sx sm : kS), R (k + 1) sx sm → kX G E cs (wX G a sx ++ wM G am sm) 799 [(0, .ref b), (1, .ref (a 0)), (2, .ref (am 0)), (3, .int i)] []) : kX G E cs (wX G a sx ++ wM G am sm) 785 [(0, .ref b), (1, .ref (a 0)), (2, .ref (am 0)), (3, .int i)] [] := by
  obtain ⟨zx, zm, ex, em, eq, hR2⟩ := hH k sx sm  hk hR
  refine x_aload_n (pc := 785) C 1 dL_law_785 rfl rfl ?_
  refine kX.swapX sx sm ?_
  refine x_callVF (pc := 786) C (wM G am sm) 0 [] rfl rfl rfl (mX9_digest G a sx  ex) yvX9_digest q39_2 ⟨by decide, by decide, rfl, rfl⟩ hcs rfl rfl (Nat.le_of_ble_eq_true rfl) rfl dL_law_786 ?_
  refine kX.swapM (zx.2) sm ?_
  refine x_aload_n (pc := 789) C 2 dL_law_789 rfl rfl ?_
  refine x_callVF (pc := 790) C (wX G a (zx.2)) 0 [] rfl rfl rfl (mX10_digest G am sm  em) yvX10_digest q39_23 ⟨by decide, by decide, rfl, rfl⟩ hcs rfl rfl (Nat.le_of_ble_eq_true rfl) rfl dL_law_790 ?_
  refine x_lcmp (pc := 793) C dL_law_793 ?_
  exact x_if_eq (pc := 794) C 799 dL_law_794 (by decide) (fun _ => next _ _ hR2) (fun q => absurd (lg_cmp_self eq) q)
