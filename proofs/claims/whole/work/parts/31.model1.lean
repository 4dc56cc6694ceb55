theorem yvX10_nextRing : kYV yX10_nextRing RX10 cX10_nextRing 5 (some .int) 2 := ⟨q10_13, q10_14, q1_5, q10_15, by decide +kernel⟩
abbrev rmfX10_nextRing : Room := { frames := 1, cells := 0, slots := 0, locals := 22 }
def fX10_nextRing_J82 (st : kS) (v2 : Int32) : Option (Int32 × kS) := if v2 = 59 then (if (gI st 10) ≤ 2 then (some ((-1), st)) else (some (1, st))) else (some ((-1), st))
set_option maxRecDepth 100000 in
set_option maxHeartbeats 4000000 in
theorem wX10_nextRing_J82 {G : kG} {E : kE} {a : Nat → Nat} (C : kOk G E cX10_nextRing RX10 5 rmfX10_nextRing) {z : Int32 × kS} (Zd : kEnd G E (0, 0) (some .int) (some (.int z.1)) (wM G a z.2)) (st : kS) (v2 : Int32) (h : fX10_nextRing_J82 st v2 = some z) : kX G E (0, 0) (wM G a st) 82 [(0, .ref (a 0)), (2, .int v2)] [] := by
  unfold fX10_nextRing_J82 at h
  refine x_iload_n (pc := 82) C 1 dX10_nextRing_82 rfl rfl ?_
  refine x_bipush (pc := 83) C 59 dX10_nextRing_83 (by decide) ?_
  refine x_icmp_ne (pc := 85) C 100 dX10_nextRing_85 (by decide) (fun c_3 => ?_) (fun c_3 => ?_)
  · have h := kIn c_3 h
    refine x_iconst (pc := 100) C (-1) dX10_nextRing_100 (by decide) ?_
    obtain rfl := Option.some.inj h
    exact x_iret (pc := 101) C Zd dX10_nextRing_101
  · have h := kIp c_3 h
    refine x_aload_n (pc := 88) C 0 dX10_nextRing_88 rfl rfl ?_
    refine x_get (pc := 89) C inlX10 0 rfl rfl 20 (by decide) q10_9 (v := .int (gI st 10)) rfl dX10_nextRing_89 ?_
    refine x_iconst (pc := 92) C 2 dX10_nextRing_92 (by decide) ?_
    refine x_icmp_le (pc := 93) C 100 dX10_nextRing_93 (by decide) (fun c_4 => ?_) (fun c_4 => ?_)
    · have h := kIp c_4 h
      refine x_iconst (pc := 100) C (-1) dX10_nextRing_100 (by decide) ?_
      obtain rfl := Option.some.inj h
      exact x_iret (pc := 101) C Zd dX10_nextRing_101
    · have h := kIn c_4 h
      refine x_iconst (pc := 96) C 1 dX10_nextRing_96 (by decide) ?_
      refine x_goto (pc := 97) C 101 dX10_nextRing_97 (by decide) ?_
      obtain rfl := Option.some.inj h
      exact x_iret (pc := 101) C Zd dX10_nextRing_101
def fX10_nextRing_J180 (st : kS) (v4 : Int32) (s0 : Int32) (s1 : Int32) : Option (Int32 × kS) := if v4 = 0 then (some ((-1), (sI st 11 (s1 + s0)))) else (some (3, (sI st 11 (s1 + s0))))
set_option maxRecDepth 100000 in
set_option maxHeartbeats 4000000 in
theorem wX10_nextRing_J180 {G : kG} {E : kE} {a : Nat → Nat} (C : kOk G E cX10_nextRing RX10 5 rmfX10_nextRing) {z : Int32 × kS} (Zd : kEnd G E (0, 0) (some .int) (some (.int z.1)) (wM G a z.2)) (st : kS) (v4 : Int32) (s0 : Int32) (s1 : Int32) (h : fX10_nextRing_J180 st v4 s0 s1 = some z) : kX G E (0, 0) (wM G a st) 180 [(4, .int v4)] [.int s0, .int s1, .ref (a 0)] := by
  unfold fX10_nextRing_J180 at h
  refine x_iadd (pc := 180) C dX10_nextRing_180 ?_
  refine x_put (pc := 181) C inlX10 tyX10 tyX10_ok nmX10 0 rfl rfl 21 (by decide) q10_10 rfl .int (v := .int (s1 + s0)) (by decide +kernel) rfl rfl (Nat.le_of_ble_eq_true rfl) (swM_I11 G a _ _) dX10_nextRing_181 ?_
  refine x_iload (pc := 184) C 0 dX10_nextRing_184 rfl ?_
  refine x_if_eq (pc := 186) C 193 dX10_nextRing_186 (by decide) (fun c_14 => ?_) (fun c_14 => ?_)
  · have h := kIp c_14 h
    refine x_iconst (pc := 193) C (-1) dX10_nextRing_193 (by decide) ?_
    obtain rfl := Option.some.inj h
    exact x_iret (pc := 194) C Zd dX10_nextRing_194
  · have h := kIn c_14 h
    refine x_iconst (pc := 189) C 3 dX10_nextRing_189 (by decide) ?_
    refine x_goto (pc := 190) C 194 dX10_nextRing_190 (by decide) ?_
    obtain rfl := Option.some.inj h
    exact x_iret (pc := 194) C Zd dX10_nextRing_194
def fX10_nextRing_J150 (st : kS) (v2 : Int32) (s0 : Int32) : Option (Int32 × kS) := if (gI st 11) < 0 ∨ 6 ≤ (gI st 11).toNatClampNeg then none else if s0 = 0 then (fX10_nextRing_J180 (sA st 11 (upd (gA st 11) (gI st 11).toNatClampNeg (v2 - 48))) s0 0 (gI st 11)) else (fX10_nextRing_J180 (sA st 11 (upd (gA st 11) (gI st 11).toNatClampNeg (v2 - 48))) s0 1 (gI st 11))
set_option maxRecDepth 100000 in
set_option maxHeartbeats 4000000 in
theorem wX10_nextRing_J150 {G : kG} {E : kE} {a : Nat → Nat} (C : kOk G E cX10_nextRing RX10 5 rmfX10_nextRing) {z : Int32 × kS} (Zd : kEnd G E (0, 0) (some .int) (some (.int z.1)) (wM G a z.2)) (st : kS) (v2 : Int32) (s0 : Int32) (h : fX10_nextRing_J150 st v2 s0 = some z) : kX G E (0, 0) (wM G a st) 150 [(0, .ref (a 0)), (2, .int v2)] [.int s0] := by
  unfold fX10_nextRing_J150 at h
  refine x_istore (pc := 150) C (lv' := [(4, .int s0), (0, .ref (a 0)), (2, .int v2)]) dX10_nextRing_150 (by decide) rfl ?_
  refine x_aload_n (pc := 152) C 1 dX10_nextRing_152 rfl rfl ?_
  refine x_get (pc := 153) C inlX10 0 rfl rfl 24 (by decide) q6_0 (v := .ref (a 11)) rfl dX10_nextRing_153 ?_
  refine x_aload_n (pc := 156) C 1 dX10_nextRing_156 rfl rfl ?_
  refine x_get (pc := 157) C inlX10 0 rfl rfl 21 (by decide) q10_10 (v := .int (gI st 11)) rfl dX10_nextRing_157 ?_
  refine x_iload_n (pc := 160) C 2 dX10_nextRing_160 rfl rfl ?_
  refine x_bipush (pc := 161) C 48 dX10_nextRing_161 (by decide) ?_
  refine x_isub (pc := 163) C dX10_nextRing_163 ?_
  obtain ⟨hi_12, h⟩ := kGn h
  refine x_iast (pc := 164) C 11 (lwM_A11 G a rfl) hi_12 (swM_A11 G a _ _) dX10_nextRing_164 ?_
  refine x_aload_n (pc := 165) C 1 dX10_nextRing_165 rfl rfl ?_
  refine x_dup (pc := 166) C dX10_nextRing_166 rfl ?_
  refine x_get (pc := 167) C inlX10 0 rfl rfl 21 (by decide) q10_10 (v := .int (gI st 11)) rfl dX10_nextRing_167 ?_
  refine x_iload (pc := 170) C 0 dX10_nextRing_170 rfl ?_
  refine x_if_eq (pc := 172) C 179 dX10_nextRing_172 (by decide) (fun c_13 => ?_) (fun c_13 => ?_)
  · have h := kIp c_13 h
    refine x_iconst (pc := 179) C 0 dX10_nextRing_179 (by decide) ?_
    refine kX.pick [0] (lv' := [(4, .int s0)]) rfl ?_
    exact wX10_nextRing_J180  C Zd  (sA st 11 (upd (gA st 11) (gI st 11).toNatClampNeg (v2 - 48))) s0 0 (gI st 11) h
  · have h := kIn c_13 h
    refine x_iconst (pc := 175) C 1 dX10_nextRing_175 (by decide) ?_
    refine x_goto (pc := 176) C 180 dX10_nextRing_176 (by decide) ?_
    refine kX.pick [0] (lv' := [(4, .int s0)]) rfl ?_
    exact wX10_nextRing_J180  C Zd  (sA st 11 (upd (gA st 11) (gI st 11).toNatClampNeg (v2 - 48))) s0 1 (gI st 11) h
def fX10_nextRing_J149 (st : kS) (v2 : Int32) : Option (Int32 × kS) := fX10_nextRing_J150 st v2 0
set_option maxRecDepth 100000 in
set_option maxHeartbeats 4000000 in
theorem wX10_nextRing_J149 {G : kG} {E : kE} {a : Nat → Nat} (C : kOk G E cX10_nextRing RX10 5 rmfX10_nextRing) {z : Int32 × kS} (Zd : kEnd G E (0, 0) (some .int) (some (.int z.1)) (wM G a z.2)) (st : kS) (v2 : Int32) (h : fX10_nextRing_J149 st v2 = some z) : kX G E (0, 0) (wM G a st) 149 [(0, .ref (a 0)), (2, .int v2)] [] := by
  unfold fX10_nextRing_J149 at h
  refine x_iconst (pc := 149) C 0 dX10_nextRing_149 (by decide) ?_
  exact wX10_nextRing_J150  C Zd  st v2 0 h
def fX10_nextRing (st : kS) (x1 : Int32) (x2 : Int32) : Option (Int32 × kS) := if x1 = 0 then (if (fX10_kindBy x2) = (-1) then (fX10_nextRing_J82 st x2) else (if 6 ≤ (gI st 10) then (fX10_nextRing_J82 st x2) else (if (gI st 10) < 0 ∨ 6 ≤ (gI st 10).toNatClampNeg then none else some (0, (sI (sA st 9 (upd (gA st 9) (gI st 10).toNatClampNeg (fX10_kindBy x2))) 10 ((gI st 10) + 1)))))) else (if x1 = 1 then (if (gI st 11) < 0 ∨ 6 ≤ (gI st 11).toNatClampNeg then none else if (fX10_within x2 48 (47 + (gI st 10))) = 0 then (some ((-1), (sA st 10 (upd (gA st 10) (gI st 11).toNatClampNeg (x2 - 48))))) else (some (2, (sA st 10 (upd (gA st 10) (gI st 11).toNatClampNeg (x2 - 48)))))) else (if x1 = 2 then (if (fX10_within x2 48 (47 + (gI st 10))) = 0 then (fX10_nextRing_J149 st x2) else ((ka 6 (gA st 10) (gI st 11)).bind (fun x_15 => if (x2 - 48) = x_15 then (fX10_nextRing_J149 st x2) else (fX10_nextRing_J150 st x2 1)))) else (if x2 = 44 then (if 6 ≤ (gI st 11) then (some ((-1), st)) else (some (1, st))) else (some ((-1), st)))))
set_option maxRecDepth 100000 in
set_option maxHeartbeats 4000000 in
theorem wX10_nextRing {G : kG} {E : kE} {a : Nat → Nat} (C : kOk G E cX10_nextRing RX10 5 rmfX10_nextRing) {z : Int32 × kS} (Zd : kEnd G E (0, 0) (some .int) (some (.int z.1)) (wM G a z.2)) (st : kS) (x1 : Int32) (x2 : Int32) (h : fX10_nextRing st x1 x2 = some z) : kX G E (0, 0) (wM G a st) 0 [(0, .ref (a 0)), (1, .int x1), (2, .int x2)] [] := by
  unfold fX10_nextRing at h
  refine x_iload_n (pc := 0) C 2 dX10_nextRing_0 rfl rfl ?_
  refine x_bipush (pc := 1) C 48 dX10_nextRing_1 (by decide) ?_
  refine x_bipush (pc := 3) C 47 dX10_nextRing_3 (by decide) ?_
  refine x_aload_n (pc := 5) C 0 dX10_nextRing_5 rfl rfl ?_
  refine x_get (pc := 6) C inlX10 0 rfl rfl 20 (by decide) q10_9 (v := .int (gI st 10)) rfl dX10_nextRing_6 ?_
  refine x_iadd (pc := 9) C dX10_nextRing_9 ?_
  refine x_callS (pc := 10) C [.int x2, .int 48, .int (47 + (gI st 10))] (mX10_within G x2 48 (47 + (gI st 10))) ysX10_within q10_2 ⟨Nat.le_of_ble_eq_true rfl, Nat.le_of_ble_eq_true rfl, rfl, rfl⟩ ⟨Nat.zero_le _, Nat.zero_le _⟩ rfl rfl (Nat.le_of_ble_eq_true rfl) rfl dX10_nextRing_10 ?_
  refine x_istore_n (pc := 13) C (lv' := [(3, .int (fX10_within x2 48 (47 + (gI st 10)))), (0, .ref (a 0)), (1, .int x1), (2, .int x2)]) dX10_nextRing_13 rfl (by decide) rfl ?_
  refine x_iload_n (pc := 14) C 2 dX10_nextRing_14 rfl rfl ?_
  rcases Decidable.em (x1 = 0) with c_1 | c_1
  · have h := kIp c_1 h
    refine x_tsIn (pc := 15) C 40 dX10_nextRing_15 (by rw [c_1]; decide) (by rw [c_1]; decide) (by rw [c_1]; rfl) (by decide) ?_
    refine x_iload_n (pc := 40) C 3 dX10_nextRing_40 rfl rfl ?_
    refine x_callS (pc := 41) C [.int x2] (mX10_kindBy G x2) ysX10_kindBy q10_16 ⟨Nat.le_of_ble_eq_true rfl, Nat.le_of_ble_eq_true rfl, rfl, rfl⟩ ⟨Nat.zero_le _, Nat.zero_le _⟩ rfl rfl (Nat.le_of_ble_eq_true rfl) rfl dX10_nextRing_41 ?_
    refine x_iconst (pc := 44) C (-1) dX10_nextRing_44 (by decide) ?_
    refine x_icmp_eq (pc := 45) C 82 dX10_nextRing_45 (by decide) (fun c_2 => ?_) (fun c_2 => ?_)
    · have h := kIp c_2 h
      refine kX.pick [1, 3] (lv' := [(0, .ref (a 0)), (2, .int x2)]) rfl ?_
      exact wX10_nextRing_J82  C Zd  st x2 h
    · have h := kIn c_2 h
      refine x_aload_n (pc := 48) C 1 dX10_nextRing_48 rfl rfl ?_
      refine x_get (pc := 49) C inlX10 0 rfl rfl 20 (by decide) q10_9 (v := .int (gI st 10)) rfl dX10_nextRing_49 ?_
      refine x_bipush (pc := 52) C 6 dX10_nextRing_52 (by decide) ?_
      refine x_icmp_ge (pc := 54) C 82 dX10_nextRing_54 (by decide) (fun c_5 => ?_) (fun c_5 => ?_)
      · have h := kIp c_5 h
        refine kX.pick [1, 3] (lv' := [(0, .ref (a 0)), (2, .int x2)]) rfl ?_
        exact wX10_nextRing_J82  C Zd  st x2 h
      · have h := kIn c_5 h
        refine x_aload_n (pc := 57) C 1 dX10_nextRing_57 rfl rfl ?_
        refine x_get (pc := 58) C inlX10 0 rfl rfl 22 (by decide) q5_22 (v := .ref (a 9)) rfl dX10_nextRing_58 ?_
        refine x_aload_n (pc := 61) C 1 dX10_nextRing_61 rfl rfl ?_
        refine x_get (pc := 62) C inlX10 0 rfl rfl 20 (by decide) q10_9 (v := .int (gI st 10)) rfl dX10_nextRing_62 ?_
        refine x_iload_n (pc := 65) C 3 dX10_nextRing_65 rfl rfl ?_
        refine x_callS (pc := 66) C [.int x2] (mX10_kindBy G x2) ysX10_kindBy q10_16 ⟨Nat.le_of_ble_eq_true rfl, Nat.le_of_ble_eq_true rfl, rfl, rfl⟩ ⟨Nat.zero_le _, Nat.zero_le _⟩ rfl rfl (Nat.le_of_ble_eq_true rfl) rfl dX10_nextRing_66 ?_
        obtain ⟨hi_6, h⟩ := kGn h
        refine x_iast (pc := 69) C 9 (lwM_A9 G a rfl) hi_6 (swM_A9 G a _ _) dX10_nextRing_69 ?_
        refine x_aload_n (pc := 70) C 1 dX10_nextRing_70 rfl rfl ?_
        refine x_dup (pc := 71) C dX10_nextRing_71 rfl ?_
        refine x_get (pc := 72) C inlX10 0 rfl rfl 20 (by decide) q10_9 (v := .int (gI st 10)) rfl dX10_nextRing_72 ?_
        refine x_iconst (pc := 75) C 1 dX10_nextRing_75 (by decide) ?_
        refine x_iadd (pc := 76) C dX10_nextRing_76 ?_
        refine x_put (pc := 77) C inlX10 tyX10 tyX10_ok nmX10 0 rfl rfl 20 (by decide) q10_9 rfl .int (v := .int ((gI st 10) + 1)) (by decide +kernel) rfl rfl (Nat.le_of_ble_eq_true rfl) (swM_I10 G a _ _) dX10_nextRing_77 ?_
        refine x_iconst (pc := 80) C 0 dX10_nextRing_80 (by decide) ?_
        obtain rfl := Option.some.inj h
        exact x_iret (pc := 81) C Zd dX10_nextRing_81
  have h := kIn c_1 h
  rcases Decidable.em (x1 = 1) with c_7 | c_7
  · have h := kIp c_7 h
    refine x_tsIn (pc := 15) C 102 dX10_nextRing_15 (by rw [c_7]; decide) (by rw [c_7]; decide) (by rw [c_7]; rfl) (by decide) ?_
    refine x_aload_n (pc := 102) C 1 dX10_nextRing_102 rfl rfl ?_
    refine x_get (pc := 103) C inlX10 0 rfl rfl 23 (by decide) q5_23 (v := .ref (a 10)) rfl dX10_nextRing_103 ?_
    refine x_aload_n (pc := 106) C 1 dX10_nextRing_106 rfl rfl ?_
    refine x_get (pc := 107) C inlX10 0 rfl rfl 21 (by decide) q10_10 (v := .int (gI st 11)) rfl dX10_nextRing_107 ?_
    refine x_iload_n (pc := 110) C 3 dX10_nextRing_110 rfl rfl ?_
    refine x_bipush (pc := 111) C 48 dX10_nextRing_111 (by decide) ?_
    refine x_isub (pc := 113) C dX10_nextRing_113 ?_
    obtain ⟨hi_8, h⟩ := kGn h
    refine x_iast (pc := 114) C 10 (lwM_A10 G a rfl) hi_8 (swM_A10 G a _ _) dX10_nextRing_114 ?_
    refine x_iload_n (pc := 115) C 0 dX10_nextRing_115 rfl rfl ?_
    refine x_if_eq (pc := 116) C 123 dX10_nextRing_116 (by decide) (fun c_9 => ?_) (fun c_9 => ?_)
    · have h := kIp c_9 h
      refine x_iconst (pc := 123) C (-1) dX10_nextRing_123 (by decide) ?_
      obtain rfl := Option.some.inj h
      exact x_iret (pc := 124) C Zd dX10_nextRing_124
    · have h := kIn c_9 h
      refine x_iconst (pc := 119) C 2 dX10_nextRing_119 (by decide) ?_
      refine x_goto (pc := 120) C 124 dX10_nextRing_120 (by decide) ?_
      obtain rfl := Option.some.inj h
      exact x_iret (pc := 124) C Zd dX10_nextRing_124
  have h := kIn c_7 h
  rcases Decidable.em (x1 = 2) with c_10 | c_10
  · have h := kIp c_10 h
    refine x_tsIn (pc := 15) C 125 dX10_nextRing_15 (by rw [c_10]; decide) (by rw [c_10]; decide) (by rw [c_10]; rfl) (by decide) ?_
    refine x_iload_n (pc := 125) C 0 dX10_nextRing_125 rfl rfl ?_
    refine x_if_eq (pc := 126) C 149 dX10_nextRing_126 (by decide) (fun c_11 => ?_) (fun c_11 => ?_)
    · have h := kIp c_11 h
      refine kX.pick [1, 3] (lv' := [(0, .ref (a 0)), (2, .int x2)]) rfl ?_
      exact wX10_nextRing_J149  C Zd  st x2 h
    · have h := kIn c_11 h
      refine x_iload_n (pc := 129) C 3 dX10_nextRing_129 rfl rfl ?_
      refine x_bipush (pc := 130) C 48 dX10_nextRing_130 (by decide) ?_
      refine x_isub (pc := 132) C dX10_nextRing_132 ?_
      refine x_aload_n (pc := 133) C 1 dX10_nextRing_133 rfl rfl ?_
      refine x_get (pc := 134) C inlX10 0 rfl rfl 23 (by decide) q5_23 (v := .ref (a 10)) rfl dX10_nextRing_134 ?_
      refine x_aload_n (pc := 137) C 1 dX10_nextRing_137 rfl rfl ?_
      refine x_get (pc := 138) C inlX10 0 rfl rfl 21 (by decide) q10_10 (v := .int (gI st 11)) rfl dX10_nextRing_138 ?_
      obtain ⟨x_15, hx_15, h⟩ := kB h
      obtain ⟨hi_16, hx_15⟩ := ka_some hx_15
      refine y_iald (pc := 141) C 10 (lwM_A10 G a rfl) hi_16 hx_15 dX10_nextRing_141 ?_
      refine x_icmp_eq (pc := 142) C 149 dX10_nextRing_142 (by decide) (fun c_17 => ?_) (fun c_17 => ?_)
      · have h := kIp c_17 h
        refine kX.pick [1, 3] (lv' := [(0, .ref (a 0)), (2, .int x2)]) rfl ?_
        exact wX10_nextRing_J149  C Zd  st x2 h
      · have h := kIn c_17 h
        refine x_iconst (pc := 145) C 1 dX10_nextRing_145 (by decide) ?_
        refine x_goto (pc := 146) C 150 dX10_nextRing_146 (by decide) ?_
        refine kX.pick [1, 3] (lv' := [(0, .ref (a 0)), (2, .int x2)]) rfl ?_
        exact wX10_nextRing_J150  C Zd  st x2 1 h
  have h := kIn c_10 h
  refine x_tsOut (pc := 15) C 195 dX10_nextRing_15 (k_out (fun i hi1 hi2 => by
      have hq : i = 0 ∨ i = 1 ∨ i = 2 := by omega
      rcases hq with rfl | rfl | rfl
      · exact lv_neT c_1 rfl
      · exact lv_neT c_7 rfl
      · exact lv_neT c_10 rfl)) (by decide) ?_
  refine x_iload_n (pc := 195) C 3 dX10_nextRing_195 rfl rfl ?_
  refine x_bipush (pc := 196) C 44 dX10_nextRing_196 (by decide) ?_
  refine x_icmp_ne (pc := 198) C 214 dX10_nextRing_198 (by decide) (fun c_18 => ?_) (fun c_18 => ?_)
  · have h := kIn c_18 h
    refine x_iconst (pc := 214) C (-1) dX10_nextRing_214 (by decide) ?_
    obtain rfl := Option.some.inj h
    exact x_iret (pc := 215) C Zd dX10_nextRing_215
  · have h := kIp c_18 h
    refine x_aload_n (pc := 201) C 1 dX10_nextRing_201 rfl rfl ?_
    refine x_get (pc := 202) C inlX10 0 rfl rfl 21 (by decide) q10_10 (v := .int (gI st 11)) rfl dX10_nextRing_202 ?_
    refine x_bipush (pc := 205) C 6 dX10_nextRing_205 (by decide) ?_
    refine x_icmp_ge (pc := 207) C 214 dX10_nextRing_207 (by decide) (fun c_19 => ?_) (fun c_19 => ?_)
    · have h := kIp c_19 h
      refine x_iconst (pc := 214) C (-1) dX10_nextRing_214 (by decide) ?_
      obtain rfl := Option.some.inj h
      exact x_iret (pc := 215) C Zd dX10_nextRing_215
    · have h := kIn c_19 h
      refine x_iconst (pc := 210) C 1 dX10_nextRing_210 (by decide) ?_
      refine x_goto (pc := 211) C 215 dX10_nextRing_211 (by decide) ?_
      obtain rfl := Option.some.inj h
      exact x_iret (pc := 215) C Zd dX10_nextRing_215
set_option maxRecDepth 100000 in
theorem mX10_nextRing (G : kG) (a : Nat → Nat) (st : kS) (x1 : Int32) (x2 : Int32) {z : Int32 × kS} (h : fX10_nextRing st x1 x2 = some z) : kMet G yX10_nextRing cX10_nextRing 5 (some .int) rmfX10_nextRing (0, 0) [.ref (a 0), .int x1, .int x2] (wM G a st) (some (.int z.1)) (wM G a z.2) := kMet.mk (by decide +kernel) (Nat.le_of_ble_eq_true rfl) (fun E C Zd => wX10_nextRing  C Zd  st x1 x2 h)
theorem yvX10_readRing : kYV yX10_readRing RX10 cX10_readRing 5 none 0 := ⟨q10_6, q10_7, q1_5, q10_8, by decide +kernel⟩
abbrev rmfX10_readRing : Room := { frames := 2, cells := 0, slots := 0, locals := 46 }
def fX10_readRing_J63 (K : Int32 → Int32 → Int32 → kS → Option (kS)) (Gc : Int32 → Int32 → Int32 → kS → Option (kS)) (st : kS) (v2 : Int32) (v3 : Int32) (s0 : Int32) : Option (kS) := if v3 = 0 then (Gc s0 (v2 + 0) v3 st) else (Gc s0 (v2 + 1) v3 st)
set_option maxRecDepth 100000 in
set_option maxHeartbeats 4000000 in
theorem wX10_readRing_J63 {G : kG} {E : kE} {a : Nat → Nat} (C : kOk G E cX10_readRing RX10 5 rmfX10_readRing) {z : kS} (Zd : kEnd G E (0, 0) none none (wM G a z)) {K Gc : Int32 → Int32 → Int32 → kS → Option (kS)} (st : kS) (v2 : Int32) (v3 : Int32) (s0 : Int32) (hK : ∀ (u1 : Int32) (u2 : Int32) (u3 : Int32) (su : kS), K u1 u2 u3 su = some z → kX G E (0, 0) (wM G a su) 79 [(0, .ref (a 0)), (1, .int u1), (2, .int u2)] []) (hG : ∀ (u1 : Int32) (u2 : Int32) (u3 : Int32) (su : kS), Gc u1 u2 u3 su = some z → kX G E (0, 0) (wM G a su) 16 [(0, .ref (a 0)), (1, .int u1), (2, .int u2), (3, .int u3)] []) (h : fX10_readRing_J63 K Gc st v2 v3 s0 = some z) : kX G E (0, 0) (wM G a st) 63 [(0, .ref (a 0)), (2, .int v2), (3, .int v3)] [.int s0] := by
  unfold fX10_readRing_J63 at h
  refine x_istore_n (pc := 63) C (lv' := [(1, .int s0), (0, .ref (a 0)), (2, .int v2), (3, .int v3)]) dX10_readRing_63 rfl (by decide) rfl ?_
  refine x_iload_n (pc := 64) C 2 dX10_readRing_64 rfl rfl ?_
  refine x_iload_n (pc := 65) C 3 dX10_readRing_65 rfl rfl ?_
  refine x_if_eq (pc := 66) C 73 dX10_readRing_66 (by decide) (fun c_8 => ?_) (fun c_8 => ?_)
  · have h := kIp c_8 h
    refine x_iconst (pc := 73) C 0 dX10_readRing_73 (by decide) ?_
    refine x_iadd (pc := 74) C dX10_readRing_74 ?_
    refine x_istore_n (pc := 75) C (lv' := [(2, .int (v2 + 0)), (1, .int s0), (0, .ref (a 0)), (3, .int v3)]) dX10_readRing_75 rfl (by decide) rfl ?_
    refine x_goto (pc := 76) C 16 dX10_readRing_76 (by decide) ?_
    refine kX.pick [2, 1, 0, 3] (lv' := [(0, .ref (a 0)), (1, .int s0), (2, .int (v2 + 0)), (3, .int v3)]) rfl ?_
    exact hG s0 (v2 + 0) v3 st h
  · have h := kIn c_8 h
    refine x_iconst (pc := 69) C 1 dX10_readRing_69 (by decide) ?_
    refine x_goto (pc := 70) C 74 dX10_readRing_70 (by decide) ?_
    refine x_iadd (pc := 74) C dX10_readRing_74 ?_
    refine x_istore_n (pc := 75) C (lv' := [(2, .int (v2 + 1)), (1, .int s0), (0, .ref (a 0)), (3, .int v3)]) dX10_readRing_75 rfl (by decide) rfl ?_
    refine x_goto (pc := 76) C 16 dX10_readRing_76 (by decide) ?_
    refine kX.pick [2, 1, 0, 3] (lv' := [(0, .ref (a 0)), (1, .int s0), (2, .int (v2 + 1)), (3, .int v3)]) rfl ?_
    exact hG s0 (v2 + 1) v3 st h
def fX10_readRing_J52 (K : Int32 → Int32 → Int32 → kS → Option (kS)) (Gc : Int32 → Int32 → Int32 → kS → Option (kS)) (st : kS) (v1 : Int32) (v2 : Int32) (v4 : Int32) (s0 : Int32) : Option (kS) := if s0 = 0 then (fX10_readRing_J63 K Gc st v2 s0 v1) else (fX10_readRing_J63 K Gc st v2 s0 v4)
set_option maxRecDepth 100000 in
set_option maxHeartbeats 4000000 in
theorem wX10_readRing_J52 {G : kG} {E : kE} {a : Nat → Nat} (C : kOk G E cX10_readRing RX10 5 rmfX10_readRing) {z : kS} (Zd : kEnd G E (0, 0) none none (wM G a z)) {K Gc : Int32 → Int32 → Int32 → kS → Option (kS)} (st : kS) (v1 : Int32) (v2 : Int32) (v4 : Int32) (s0 : Int32) (hK : ∀ (u1 : Int32) (u2 : Int32) (u3 : Int32) (su : kS), K u1 u2 u3 su = some z → kX G E (0, 0) (wM G a su) 79 [(0, .ref (a 0)), (1, .int u1), (2, .int u2)] []) (hG : ∀ (u1 : Int32) (u2 : Int32) (u3 : Int32) (su : kS), Gc u1 u2 u3 su = some z → kX G E (0, 0) (wM G a su) 16 [(0, .ref (a 0)), (1, .int u1), (2, .int u2), (3, .int u3)] []) (h : fX10_readRing_J52 K Gc st v1 v2 v4 s0 = some z) : kX G E (0, 0) (wM G a st) 52 [(0, .ref (a 0)), (1, .int v1), (2, .int v2), (4, .int v4)] [.int s0] := by
  unfold fX10_readRing_J52 at h
  refine x_istore_n (pc := 52) C (lv' := [(3, .int s0), (0, .ref (a 0)), (1, .int v1), (2, .int v2), (4, .int v4)]) dX10_readRing_52 rfl (by decide) rfl ?_
  refine x_iload_n (pc := 53) C 0 dX10_readRing_53 rfl rfl ?_
  refine x_if_eq (pc := 54) C 62 dX10_readRing_54 (by decide) (fun c_7 => ?_) (fun c_7 => ?_)
  · have h := kIp c_7 h
    refine x_iload_n (pc := 62) C 2 dX10_readRing_62 rfl rfl ?_
    refine kX.pick [1, 3, 0] (lv' := [(0, .ref (a 0)), (2, .int v2), (3, .int s0)]) rfl ?_
    exact wX10_readRing_J63  C Zd  st v2 s0 v1 hK hG h
  · have h := kIn c_7 h
    refine x_iload (pc := 57) C 4 dX10_readRing_57 rfl ?_
    refine x_goto (pc := 59) C 63 dX10_readRing_59 (by decide) ?_
    refine kX.pick [1, 3, 0] (lv' := [(0, .ref (a 0)), (2, .int v2), (3, .int s0)]) rfl ?_
    exact wX10_readRing_J63  C Zd  st v2 s0 v4 hK hG h
def fX10_readRing_L16_B (K : Int32 → Int32 → Int32 → kS → Option (kS)) (Gc : Int32 → Int32 → Int32 → kS → Option (kS)) (st : kS) (v1 : Int32) (v2 : Int32) (v3 : Int32) : Option (kS) := if (gI st 4) ≤ v2 then (K v1 v2 v3 st) else (if v3 = 0 then (K v1 v2 v3 st) else ((ka 26 (gA st 6) v2).bind (fun x_3 => (fX10_nextRing st v1 x_3).bind (fun z_5 => if z_5.1 = (-1) then (fX10_readRing_J52 K Gc z_5.2 v1 v2 z_5.1 0) else (fX10_readRing_J52 K Gc z_5.2 v1 v2 z_5.1 1)))))
set_option maxRecDepth 100000 in
set_option maxHeartbeats 4000000 in
theorem wX10_readRing_L16_B {G : kG} {E : kE} {a : Nat → Nat} (C : kOk G E cX10_readRing RX10 5 rmfX10_readRing) {z : kS} (Zd : kEnd G E (0, 0) none none (wM G a z)) {K Gc : Int32 → Int32 → Int32 → kS → Option (kS)} (st : kS) (v1 : Int32) (v2 : Int32) (v3 : Int32) (hK : ∀ (u1 : Int32) (u2 : Int32) (u3 : Int32) (su : kS), K u1 u2 u3 su = some z → kX G E (0, 0) (wM G a su) 79 [(0, .ref (a 0)), (1, .int u1), (2, .int u2)] []) (hG : ∀ (u1 : Int32) (u2 : Int32) (u3 : Int32) (su : kS), Gc u1 u2 u3 su = some z → kX G E (0, 0) (wM G a su) 16 [(0, .ref (a 0)), (1, .int u1), (2, .int u2), (3, .int u3)] []) (h : fX10_readRing_L16_B K Gc st v1 v2 v3 = some z) : kX G E (0, 0) (wM G a st) 16 [(0, .ref (a 0)), (1, .int v1), (2, .int v2), (3, .int v3)] [] := by
  unfold fX10_readRing_L16_B at h
  refine x_iload_n (pc := 16) C 2 dX10_readRing_16 rfl rfl ?_
  refine x_aload_n (pc := 17) C 0 dX10_readRing_17 rfl rfl ?_
  refine x_get (pc := 18) C inlX10 0 rfl rfl 10 (by decide) q7_14 (v := .int (gI st 4)) rfl dX10_readRing_18 ?_
  refine x_icmp_ge (pc := 21) C 79 dX10_readRing_21 (by decide) (fun c_1 => ?_) (fun c_1 => ?_)
  · have h := kIp c_1 h
    refine kX.pick [0, 1, 2] (lv' := [(0, .ref (a 0)), (1, .int v1), (2, .int v2)]) rfl ?_
    exact hK v1 v2 v3 st h
  · have h := kIn c_1 h
    refine x_iload_n (pc := 24) C 3 dX10_readRing_24 rfl rfl ?_
    refine x_if_eq (pc := 25) C 79 dX10_readRing_25 (by decide) (fun c_2 => ?_) (fun c_2 => ?_)
    · have h := kIp c_2 h
      refine kX.pick [0, 1, 2] (lv' := [(0, .ref (a 0)), (1, .int v1), (2, .int v2)]) rfl ?_
      exact hK v1 v2 v3 st h
    · have h := kIn c_2 h
      refine x_aload_n (pc := 28) C 0 dX10_readRing_28 rfl rfl ?_
      refine x_iload_n (pc := 29) C 1 dX10_readRing_29 rfl rfl ?_
      refine x_aload_n (pc := 30) C 0 dX10_readRing_30 rfl rfl ?_
      refine x_get (pc := 31) C inlX10 0 rfl rfl 11 (by decide) q5_19 (v := .ref (a 6)) rfl dX10_readRing_31 ?_
      refine x_iload_n (pc := 34) C 2 dX10_readRing_34 rfl rfl ?_
      obtain ⟨x_3, hx_3, h⟩ := kB h
      obtain ⟨hi_4, hx_3⟩ := ka_some hx_3
      refine y_bald (pc := 35) C 6 (lwM_A6 G a rfl) hi_4 hx_3 dX10_readRing_35 ?_
      obtain ⟨z_5, hz_5, h⟩ := kB h
      refine x_callV (pc := 36) C 0 [.int v1, .int x_3] rfl rfl (mX10_nextRing G a st v1 x_3 hz_5) yvX10_nextRing q10_12 ⟨Nat.le_of_ble_eq_true rfl, Nat.le_of_ble_eq_true rfl, rfl, rfl⟩ ⟨Nat.zero_le _, Nat.zero_le _⟩ rfl rfl (Nat.le_of_ble_eq_true rfl) rfl dX10_readRing_36 ?_
      refine x_istore (pc := 39) C (lv' := [(4, .int z_5.1), (0, .ref (a 0)), (1, .int v1), (2, .int v2), (3, .int v3)]) dX10_readRing_39 (by decide) rfl ?_
      refine x_iload (pc := 41) C 0 dX10_readRing_41 rfl ?_
      refine x_iconst (pc := 43) C (-1) dX10_readRing_43 (by decide) ?_
      refine x_icmp_eq (pc := 44) C 51 dX10_readRing_44 (by decide) (fun c_6 => ?_) (fun c_6 => ?_)
      · have h := kIp c_6 h
        refine x_iconst (pc := 51) C 0 dX10_readRing_51 (by decide) ?_
        refine kX.pick [1, 2, 3, 0] (lv' := [(0, .ref (a 0)), (1, .int v1), (2, .int v2), (4, .int z_5.1)]) rfl ?_
        exact wX10_readRing_J52  C Zd  z_5.2 v1 v2 z_5.1 0 hK hG h
      · have h := kIn c_6 h
        refine x_iconst (pc := 47) C 1 dX10_readRing_47 (by decide) ?_
        refine x_goto (pc := 48) C 52 dX10_readRing_48 (by decide) ?_
        refine kX.pick [1, 2, 3, 0] (lv' := [(0, .ref (a 0)), (1, .int v1), (2, .int v2), (4, .int z_5.1)]) rfl ?_
        exact wX10_readRing_J52  C Zd  z_5.2 v1 v2 z_5.1 1 hK hG h
def fX10_readRing_L16 (K : Int32 → Int32 → Int32 → kS → Option (kS)) : Nat → Int32 → Int32 → Int32 → kS → Option (kS)
  | 0, _, _, _, _ => none
  | F + 1, v1, v2, v3, st => fX10_readRing_L16_B K (fX10_readRing_L16 K F) st v1 v2 v3
set_option maxRecDepth 100000 in
set_option maxHeartbeats 4000000 in
theorem wX10_readRing_L16 {G : kG} {E : kE} {a : Nat → Nat} (C : kOk G E cX10_readRing RX10 5 rmfX10_readRing) {z : kS} (Zd : kEnd G E (0, 0) none none (wM G a z)) {K : Int32 → Int32 → Int32 → kS → Option (kS)} (hK : ∀ (u1 : Int32) (u2 : Int32) (u3 : Int32) (su : kS), K u1 u2 u3 su = some z → kX G E (0, 0) (wM G a su) 79 [(0, .ref (a 0)), (1, .int u1), (2, .int u2)] []) : ∀ (F : Nat) (v1 : Int32) (v2 : Int32) (v3 : Int32) (st : kS), fX10_readRing_L16 K F v1 v2 v3 st = some z → kX G E (0, 0) (wM G a st) 16 [(0, .ref (a 0)), (1, .int v1), (2, .int v2), (3, .int v3)] [] := by
  intro F
  induction F with
  | zero =>
    intro v1 v2 v3 st h
    exact absurd (show none = some z from h) (fun q => by cases q)
  | succ F ih =>
    intro v1 v2 v3 st h
    exact wX10_readRing_L16_B  C Zd  st v1 v2 v3 hK (fun v1 v2 v3 st h => ih v1 v2 v3 st h) h
def fX10_readRing_J105 (st : kS) (v1 : Int32) : Option (kS) := if v1 = 3 then (some (sI st 9 1)) else (some (sI st 9 0))
set_option maxRecDepth 100000 in
set_option maxHeartbeats 4000000 in
theorem wX10_readRing_J105 {G : kG} {E : kE} {a : Nat → Nat} (C : kOk G E cX10_readRing RX10 5 rmfX10_readRing) {z : kS} (Zd : kEnd G E (0, 0) none none (wM G a z)) (st : kS) (v1 : Int32) (h : fX10_readRing_J105 st v1 = some z) : kX G E (0, 0) (wM G a st) 105 [(1, .int v1)] [.ref (a 0)] := by
  unfold fX10_readRing_J105 at h
  refine x_iload_n (pc := 105) C 0 dX10_readRing_105 rfl rfl ?_
  refine x_iconst (pc := 106) C 3 dX10_readRing_106 (by decide) ?_
  refine x_icmp_ne (pc := 107) C 114 dX10_readRing_107 (by decide) (fun c_15 => ?_) (fun c_15 => ?_)
  · have h := kIn c_15 h
    refine x_iconst (pc := 114) C 0 dX10_readRing_114 (by decide) ?_
    refine x_put (pc := 115) C inlX10 tyX10 tyX10_ok nmX10 0 rfl rfl 19 (by decide) q10_11 rfl .boolean (v := .int 0) (by decide +kernel) rfl rfl (Nat.le_of_ble_eq_true rfl) (swM_I9 G a _ _) dX10_readRing_115 ?_
    obtain rfl := Option.some.inj h
    exact x_vret (pc := 118) C Zd dX10_readRing_118
  · have h := kIp c_15 h
    refine x_iconst (pc := 110) C 1 dX10_readRing_110 (by decide) ?_
    refine x_goto (pc := 111) C 115 dX10_readRing_111 (by decide) ?_
    refine x_put (pc := 115) C inlX10 tyX10 tyX10_ok nmX10 0 rfl rfl 19 (by decide) q10_11 rfl .boolean (v := .int 1) (by decide +kernel) rfl rfl (Nat.le_of_ble_eq_true rfl) (swM_I9 G a _ _) dX10_readRing_115 ?_
    obtain rfl := Option.some.inj h
    exact x_vret (pc := 118) C Zd dX10_readRing_118
def fX10_readRing_J79 (st : kS) (v1 : Int32) (v2 : Int32) : Option (kS) := if v2 = (gI st 4) then (if v1 = 0 then (if 2 < (gI st 10) then (some (sI (sI st 8 v2) 9 1)) else (fX10_readRing_J105 (sI st 8 v2) v1)) else (fX10_readRing_J105 (sI st 8 v2) v1)) else (some (sI (sI st 8 v2) 9 0))
set_option maxRecDepth 100000 in
set_option maxHeartbeats 4000000 in
theorem wX10_readRing_J79 {G : kG} {E : kE} {a : Nat → Nat} (C : kOk G E cX10_readRing RX10 5 rmfX10_readRing) {z : kS} (Zd : kEnd G E (0, 0) none none (wM G a z)) (st : kS) (v1 : Int32) (v2 : Int32) (h : fX10_readRing_J79 st v1 v2 = some z) : kX G E (0, 0) (wM G a st) 79 [(0, .ref (a 0)), (1, .int v1), (2, .int v2)] [] := by
  unfold fX10_readRing_J79 at h
  refine x_aload_n (pc := 79) C 0 dX10_readRing_79 rfl rfl ?_
  refine x_iload_n (pc := 80) C 2 dX10_readRing_80 rfl rfl ?_
  refine x_put (pc := 81) C inlX10 tyX10 tyX10_ok nmX10 0 rfl rfl 18 (by decide) q10_1 rfl .int (v := .int v2) (by decide +kernel) rfl rfl (Nat.le_of_ble_eq_true rfl) (swM_I8 G a _ _) dX10_readRing_81 ?_
  refine x_aload_n (pc := 84) C 0 dX10_readRing_84 rfl rfl ?_
  refine x_iload_n (pc := 85) C 2 dX10_readRing_85 rfl rfl ?_
  refine x_aload_n (pc := 86) C 0 dX10_readRing_86 rfl rfl ?_
  refine x_get (pc := 87) C inlX10 0 rfl rfl 10 (by decide) q7_14 (v := .int (gI st 4)) rfl dX10_readRing_87 ?_
  refine x_icmp_ne (pc := 90) C 114 dX10_readRing_90 (by decide) (fun c_13 => ?_) (fun c_13 => ?_)
  · have h := kIn c_13 h
    refine x_iconst (pc := 114) C 0 dX10_readRing_114 (by decide) ?_
    refine x_put (pc := 115) C inlX10 tyX10 tyX10_ok nmX10 0 rfl rfl 19 (by decide) q10_11 rfl .boolean (v := .int 0) (by decide +kernel) rfl rfl (Nat.le_of_ble_eq_true rfl) (swM_I9 G a _ _) dX10_readRing_115 ?_
    obtain rfl := Option.some.inj h
    exact x_vret (pc := 118) C Zd dX10_readRing_118
  · have h := kIp c_13 h
    refine x_iload_n (pc := 93) C 1 dX10_readRing_93 rfl rfl ?_
    refine x_if_ne (pc := 94) C 105 dX10_readRing_94 (by decide) (fun c_14 => ?_) (fun c_14 => ?_)
    · have h := kIn c_14 h
      refine kX.pick [1] (lv' := [(1, .int v1)]) rfl ?_
      exact wX10_readRing_J105  C Zd  (sI st 8 v2) v1 h
    · have h := kIp c_14 h
      refine x_aload_n (pc := 97) C 0 dX10_readRing_97 rfl rfl ?_
      refine x_get (pc := 98) C inlX10 0 rfl rfl 20 (by decide) q10_9 (v := .int (gI st 10)) rfl dX10_readRing_98 ?_
      refine x_iconst (pc := 101) C 2 dX10_readRing_101 (by decide) ?_
      refine x_icmp_gt (pc := 102) C 110 dX10_readRing_102 (by decide) (fun c_16 => ?_) (fun c_16 => ?_)
      · have h := kIp c_16 h
        refine x_iconst (pc := 110) C 1 dX10_readRing_110 (by decide) ?_
        refine x_goto (pc := 111) C 115 dX10_readRing_111 (by decide) ?_
        refine x_put (pc := 115) C inlX10 tyX10 tyX10_ok nmX10 0 rfl rfl 19 (by decide) q10_11 rfl .boolean (v := .int 1) (by decide +kernel) rfl rfl (Nat.le_of_ble_eq_true rfl) (swM_I9 G a _ _) dX10_readRing_115 ?_
        obtain rfl := Option.some.inj h
        exact x_vret (pc := 118) C Zd dX10_readRing_118
      · have h := kIn c_16 h
        refine kX.pick [1] (lv' := [(1, .int v1)]) rfl ?_
        exact wX10_readRing_J105  C Zd  (sI st 8 v2) v1 h
def fX10_readRing (st : kS) : Option (kS) := fX10_readRing_L16 (fun v1_9 v2_10 v3_11 st_12 => fX10_readRing_J79 st_12 v1_9 v2_10) kFU 0 0 1 (sI (sI st 10 0) 11 0)
set_option maxRecDepth 100000 in
set_option maxHeartbeats 4000000 in
theorem wX10_readRing {G : kG} {E : kE} {a : Nat → Nat} (C : kOk G E cX10_readRing RX10 5 rmfX10_readRing) {z : kS} (Zd : kEnd G E (0, 0) none none (wM G a z)) (st : kS) (h : fX10_readRing st = some z) : kX G E (0, 0) (wM G a st) 0 [(0, .ref (a 0))] [] := by
  unfold fX10_readRing at h
  refine x_aload_n (pc := 0) C 0 dX10_readRing_0 rfl rfl ?_
  refine x_iconst (pc := 1) C 0 dX10_readRing_1 (by decide) ?_
  refine x_put (pc := 2) C inlX10 tyX10 tyX10_ok nmX10 0 rfl rfl 20 (by decide) q10_9 rfl .int (v := .int 0) (by decide +kernel) rfl rfl (Nat.le_of_ble_eq_true rfl) (swM_I10 G a _ _) dX10_readRing_2 ?_
  refine x_aload_n (pc := 5) C 0 dX10_readRing_5 rfl rfl ?_
  refine x_iconst (pc := 6) C 0 dX10_readRing_6 (by decide) ?_
  refine x_put (pc := 7) C inlX10 tyX10 tyX10_ok nmX10 0 rfl rfl 21 (by decide) q10_10 rfl .int (v := .int 0) (by decide +kernel) rfl rfl (Nat.le_of_ble_eq_true rfl) (swM_I11 G a _ _) dX10_readRing_7 ?_
  refine x_iconst (pc := 10) C 0 dX10_readRing_10 (by decide) ?_
  refine x_istore_n (pc := 11) C (lv' := [(1, .int 0), (0, .ref (a 0))]) dX10_readRing_11 rfl (by decide) rfl ?_
  refine x_iconst (pc := 12) C 0 dX10_readRing_12 (by decide) ?_
  refine x_istore_n (pc := 13) C (lv' := [(2, .int 0), (1, .int 0), (0, .ref (a 0))]) dX10_readRing_13 rfl (by decide) rfl ?_
  refine x_iconst (pc := 14) C 1 dX10_readRing_14 (by decide) ?_
  refine x_istore_n (pc := 15) C (lv' := [(3, .int 1), (2, .int 0), (1, .int 0), (0, .ref (a 0))]) dX10_readRing_15 rfl (by decide) rfl ?_
  refine kX.pick [3, 2, 1, 0] (lv' := [(0, .ref (a 0)), (1, .int 0), (2, .int 0), (3, .int 1)]) rfl ?_
  refine wX10_readRing_L16  C Zd   (fun v1_9 v2_10 v3_11 st_12 h => ?_) kFU 0 0 1 (sI (sI st 10 0) 11 0) h
  exact wX10_readRing_J79  C Zd  st_12 v1_9 v2_10 h
set_option maxRecDepth 100000 in
theorem mX10_readRing (G : kG) (a : Nat → Nat) (st : kS)  {z : kS} (h : fX10_readRing st = some z) : kMet G yX10_readRing cX10_readRing 5 none rmfX10_readRing (0, 0) [.ref (a 0)] (wM G a st) none (wM G a z) := kMet.mk (by decide +kernel) (Nat.le_of_ble_eq_true rfl) (fun E C Zd => wX10_readRing  C Zd  st  h)
theorem yvX10_fault : kYV yX10_fault RX10 cX10_fault 2 (some .int) 1 := ⟨q9_22, q9_23, q1_5, q10_0, by decide +kernel⟩
abbrev rmfX10_fault : Room := { frames := 3, cells := 0, slots := 0, locals := 70 }
def fX10_fault (st : kS) (x1 : Int32) : Option (Int32 × kS) := if (fX10_within x1 0 1) = 0 then (some ((-102), st)) else (if x1 = 0 then ((fX10_readRing st).bind (fun z_4 => some ((gI z_4 8), z_4))) else ((fX10_readLetter st).bind (fun z_3 => some ((gI z_3 8), z_3))))
set_option maxRecDepth 100000 in
set_option maxHeartbeats 4000000 in
theorem wX10_fault {G : kG} {E : kE} {a : Nat → Nat} (C : kOk G E cX10_fault RX10 2 rmfX10_fault) {z : Int32 × kS} (Zd : kEnd G E (0, 0) (some .int) (some (.int z.1)) (wM G a z.2)) (st : kS) (x1 : Int32) (h : fX10_fault st x1 = some z) : kX G E (0, 0) (wM G a st) 0 [(0, .ref (a 0)), (1, .int x1)] [] := by
  unfold fX10_fault at h
  refine x_iload_n (pc := 0) C 1 dX10_fault_0 rfl rfl ?_
  refine x_iconst (pc := 1) C 0 dX10_fault_1 (by decide) ?_
  refine x_iconst (pc := 2) C 1 dX10_fault_2 (by decide) ?_
  refine x_callS (pc := 3) C [.int x1, .int 0, .int 1] (mX10_within G x1 0 1) ysX10_within q10_2 ⟨Nat.le_of_ble_eq_true rfl, Nat.le_of_ble_eq_true rfl, rfl, rfl⟩ ⟨Nat.zero_le _, Nat.zero_le _⟩ rfl rfl (Nat.le_of_ble_eq_true rfl) rfl dX10_fault_3 ?_
  refine x_if_ne (pc := 6) C 12 dX10_fault_6 (by decide) (fun c_1 => ?_) (fun c_1 => ?_)
  · have h := kIn c_1 h
    refine x_iload_n (pc := 12) C 1 dX10_fault_12 rfl rfl ?_
    refine x_if_ne (pc := 13) C 23 dX10_fault_13 (by decide) (fun c_2 => ?_) (fun c_2 => ?_)
    · have h := kIn c_2 h
      refine x_aload_n (pc := 23) C 0 dX10_fault_23 rfl rfl ?_
      obtain ⟨z_3, hz_3, h⟩ := kB h
      refine x_callV (pc := 24) C 0 [] rfl rfl (mX10_readLetter G a st hz_3) yvX10_readLetter q10_19 ⟨Nat.le_of_ble_eq_true rfl, Nat.le_of_ble_eq_true rfl, rfl, rfl⟩ ⟨Nat.zero_le _, Nat.zero_le _⟩ rfl rfl (Nat.le_of_ble_eq_true rfl) rfl dX10_fault_24 ?_
      refine x_aload_n (pc := 27) C 0 dX10_fault_27 rfl rfl ?_
      refine x_get (pc := 28) C inlX10 0 rfl rfl 18 (by decide) q10_1 (v := .int (gI z_3 8)) rfl dX10_fault_28 ?_
      obtain rfl := Option.some.inj h
      exact x_iret (pc := 31) C Zd dX10_fault_31
    · have h := kIp c_2 h
      refine x_aload_n (pc := 16) C 0 dX10_fault_16 rfl rfl ?_
      obtain ⟨z_4, hz_4, h⟩ := kB h
      refine x_callV (pc := 17) C 0 [] rfl rfl (mX10_readRing G a st hz_4) yvX10_readRing q10_5 ⟨Nat.le_of_ble_eq_true rfl, Nat.le_of_ble_eq_true rfl, rfl, rfl⟩ ⟨Nat.zero_le _, Nat.zero_le _⟩ rfl rfl (Nat.le_of_ble_eq_true rfl) rfl dX10_fault_17 ?_
      refine x_goto (pc := 20) C 27 dX10_fault_20 (by decide) ?_
      refine x_aload_n (pc := 27) C 0 dX10_fault_27 rfl rfl ?_
      refine x_get (pc := 28) C inlX10 0 rfl rfl 18 (by decide) q10_1 (v := .int (gI z_4 8)) rfl dX10_fault_28 ?_
      obtain rfl := Option.some.inj h
      exact x_iret (pc := 31) C Zd dX10_fault_31
  · have h := kIp c_1 h
    refine x_bipush (pc := 9) C (-102) dX10_fault_9 (by decide) ?_
    obtain rfl := Option.some.inj h
    exact x_iret (pc := 11) C Zd dX10_fault_11
set_option maxRecDepth 100000 in
theorem mX10_fault (G : kG) (a : Nat → Nat) (st : kS) (x1 : Int32) {z : Int32 × kS} (h : fX10_fault st x1 = some z) : kMet G yX10_fault cX10_fault 2 (some .int) rmfX10_fault (0, 0) [.ref (a 0), .int x1] (wM G a st) (some (.int z.1)) (wM G a z.2) := kMet.mk (by decide +kernel) (Nat.le_of_ble_eq_true rfl) (fun E C Zd => wX10_fault  C Zd  st x1 h)
theorem yvX10_think : kYV yX10_think RX10 cX10_think 5 (some .boolean) 1 := ⟨q15_12, q15_13, q1_5, q15_14, by decide +kernel⟩
abbrev rmfX10_think : Room := { frames := 0, cells := 0, slots := 0, locals := 0 }
def fX10_think_L12_B (K : Int32 → Int32 → Int32 → kS → Option (Int32 × kS)) (Gc : Int32 → Int32 → Int32 → kS → Option (Int32 × kS)) (st : kS) (v2 : Int32) (v3 : Int32) (v4 : Int32) : Option (Int32 × kS) := if v4 < 0 then (K v2 v3 v4 st) else (if v4 < 0 ∨ 6 ≤ v4.toNatClampNeg then none else (ka 6 (upd (gA st 15) v4.toNatClampNeg (kr v2 6)) v4).bind (fun x_3 => Gc (v2 / 6) (v3 ||| (kshl 1 x_3)) (v4 + (-1)) (sA st 15 (upd (gA st 15) v4.toNatClampNeg (kr v2 6)))))
set_option maxRecDepth 100000 in
set_option maxHeartbeats 4000000 in
theorem wX10_think_L12_B {G : kG} {E : kE} {a : Nat → Nat} (C : kOk G E cX10_think RX10 5 rmfX10_think) {z : Int32 × kS} (Zd : kEnd G E (0, 0) (some .boolean) (some (.int z.1)) (wM G a z.2)) {K Gc : Int32 → Int32 → Int32 → kS → Option (Int32 × kS)} (st : kS) (v2 : Int32) (v3 : Int32) (v4 : Int32) (hK : ∀ (u2 : Int32) (u3 : Int32) (u4 : Int32) (su : kS), K u2 u3 u4 su = some z → kX G E (0, 0) (wM G a su) 51 [(0, .ref (a 0)), (2, .int u2), (3, .int u3)] []) (hG : ∀ (u2 : Int32) (u3 : Int32) (u4 : Int32) (su : kS), Gc u2 u3 u4 su = some z → kX G E (0, 0) (wM G a su) 12 [(0, .ref (a 0)), (2, .int u2), (3, .int u3), (4, .int u4)] []) (h : fX10_think_L12_B K Gc st v2 v3 v4 = some z) : kX G E (0, 0) (wM G a st) 12 [(0, .ref (a 0)), (2, .int v2), (3, .int v3), (4, .int v4)] [] := by
  unfold fX10_think_L12_B at h
  refine x_iload (pc := 12) C 3 dX10_think_12 rfl ?_
  refine x_if_lt (pc := 14) C 51 dX10_think_14 (by decide) (fun c_1 => ?_) (fun c_1 => ?_)
  · have h := kIp c_1 h
    refine kX.pick [0, 1, 2] (lv' := [(0, .ref (a 0)), (2, .int v2), (3, .int v3)]) rfl ?_
    exact hK v2 v3 v4 st h
  · have h := kIn c_1 h
    refine x_aload_n (pc := 17) C 0 dX10_think_17 rfl rfl ?_
    refine x_get (pc := 18) C inlX10 0 rfl rfl 33 (by decide) q6_5 (v := .ref (a 15)) rfl dX10_think_18 ?_
    refine x_iload (pc := 21) C 3 dX10_think_21 rfl ?_
    refine x_iload_n (pc := 23) C 1 dX10_think_23 rfl rfl ?_
    refine x_bipush (pc := 24) C 6 dX10_think_24 (by decide) ?_
    refine y_irem (pc := 26) C dX10_think_26 (by decide) ?_
    obtain ⟨hi_2, h⟩ := kGn h
    refine x_iast (pc := 27) C 15 (lwM_A15 G a rfl) hi_2 (swM_A15 G a _ _) dX10_think_27 ?_
    refine x_iload_n (pc := 28) C 2 dX10_think_28 rfl rfl ?_
    refine x_iconst (pc := 29) C 1 dX10_think_29 (by decide) ?_
    refine x_aload_n (pc := 30) C 0 dX10_think_30 rfl rfl ?_
    refine x_get (pc := 31) C inlX10 0 rfl rfl 33 (by decide) q6_5 (v := .ref (a 15)) rfl dX10_think_31 ?_
    refine x_iload (pc := 34) C 3 dX10_think_34 rfl ?_
    obtain ⟨x_3, hx_3, h⟩ := kB h
    obtain ⟨hi_4, hx_3⟩ := ka_some hx_3
    refine y_iald (pc := 36) C 15 (lwM_A15 G a (gA_e _ _ _)) hi_4 hx_3 dX10_think_36 ?_
    refine y_ishl (pc := 37) C dX10_think_37 ?_
    refine x_ior (pc := 38) C dX10_think_38 ?_
    refine x_istore_n (pc := 39) C (lv' := [(3, .int (v3 ||| (kshl 1 x_3))), (0, .ref (a 0)), (2, .int v2), (4, .int v4)]) dX10_think_39 rfl (by decide) rfl ?_
    refine x_iload_n (pc := 40) C 2 dX10_think_40 rfl rfl ?_
    refine x_bipush (pc := 41) C 6 dX10_think_41 (by decide) ?_
    refine y_idiv (pc := 43) C dX10_think_43 (by decide) ?_
    refine x_istore_n (pc := 44) C (lv' := [(2, .int (v2 / 6)), (3, .int (v3 ||| (kshl 1 x_3))), (0, .ref (a 0)), (4, .int v4)]) dX10_think_44 rfl (by decide) rfl ?_
    refine x_iinc (pc := 45) C 3 (v := v4 + (-1)) (lv' := [(4, .int (v4 + (-1))), (2, .int (v2 / 6)), (3, .int (v3 ||| (kshl 1 x_3))), (0, .ref (a 0))]) dX10_think_45 rfl rfl (by decide) rfl ?_
    refine x_goto (pc := 48) C 12 dX10_think_48 (by decide) ?_
    refine kX.pick [3, 1, 2, 0] (lv' := [(0, .ref (a 0)), (2, .int (v2 / 6)), (3, .int (v3 ||| (kshl 1 x_3))), (4, .int (v4 + (-1)))]) rfl ?_
    exact hG (v2 / 6) (v3 ||| (kshl 1 x_3)) (v4 + (-1)) (sA st 15 (upd (gA st 15) v4.toNatClampNeg (kr v2 6))) h
def fX10_think_L12 (K : Int32 → Int32 → Int32 → kS → Option (Int32 × kS)) : Nat → Int32 → Int32 → Int32 → kS → Option (Int32 × kS)
  | 0, _, _, _, _ => none
  | F + 1, v2, v3, v4, st => fX10_think_L12_B K (fX10_think_L12 K F) st v2 v3 v4
set_option maxRecDepth 100000 in
set_option maxHeartbeats 4000000 in
theorem wX10_think_L12 {G : kG} {E : kE} {a : Nat → Nat} (C : kOk G E cX10_think RX10 5 rmfX10_think) {z : Int32 × kS} (Zd : kEnd G E (0, 0) (some .boolean) (some (.int z.1)) (wM G a z.2)) {K : Int32 → Int32 → Int32 → kS → Option (Int32 × kS)} (hK : ∀ (u2 : Int32) (u3 : Int32) (u4 : Int32) (su : kS), K u2 u3 u4 su = some z → kX G E (0, 0) (wM G a su) 51 [(0, .ref (a 0)), (2, .int u2), (3, .int u3)] []) : ∀ (F : Nat) (v2 : Int32) (v3 : Int32) (v4 : Int32) (st : kS), fX10_think_L12 K F v2 v3 v4 st = some z → kX G E (0, 0) (wM G a st) 12 [(0, .ref (a 0)), (2, .int v2), (3, .int v3), (4, .int v4)] [] := by
  intro F
  induction F with
  | zero =>
    intro v2 v3 v4 st h
    exact absurd (show none = some z from h) (fun q => by cases q)
  | succ F ih =>
    intro v2 v3 v4 st h
    exact wX10_think_L12_B  C Zd  st v2 v3 v4 hK (fun v2 v3 v4 st h => ih v2 v3 v4 st h) h
def fX10_think (st : kS) (x1 : Int32) : Option (Int32 × kS) := fX10_think_L12 (fun v2_5 v3_6 v4_7 st_8 => if v2_5 = 0 then (if v3_6 = ((kshl 1 (gI st_8 0)) - 1) then (some (1, st_8)) else (some (0, st_8))) else (some (0, st_8))) kFU x1 0 ((gI st 0) - 1) st
set_option maxRecDepth 100000 in
set_option maxHeartbeats 4000000 in
theorem wX10_think {G : kG} {E : kE} {a : Nat → Nat} (C : kOk G E cX10_think RX10 5 rmfX10_think) {z : Int32 × kS} (Zd : kEnd G E (0, 0) (some .boolean) (some (.int z.1)) (wM G a z.2)) (st : kS) (x1 : Int32) (h : fX10_think st x1 = some z) : kX G E (0, 0) (wM G a st) 0 [(0, .ref (a 0)), (1, .int x1)] [] := by
  unfold fX10_think at h
  refine x_iload_n (pc := 0) C 1 dX10_think_0 rfl rfl ?_
  refine x_istore_n (pc := 1) C (lv' := [(2, .int x1), (0, .ref (a 0)), (1, .int x1)]) dX10_think_1 rfl (by decide) rfl ?_
  refine x_iconst (pc := 2) C 0 dX10_think_2 (by decide) ?_
  refine x_istore_n (pc := 3) C (lv' := [(3, .int 0), (2, .int x1), (0, .ref (a 0)), (1, .int x1)]) dX10_think_3 rfl (by decide) rfl ?_
  refine x_aload_n (pc := 4) C 2 dX10_think_4 rfl rfl ?_
  refine x_get (pc := 5) C inlX10 0 rfl rfl 0 (by decide) q15_2 (v := .int (gI st 0)) rfl dX10_think_5 ?_
  refine x_iconst (pc := 8) C 1 dX10_think_8 (by decide) ?_
  refine x_isub (pc := 9) C dX10_think_9 ?_
  refine x_istore (pc := 10) C (lv' := [(4, .int ((gI st 0) - 1)), (3, .int 0), (2, .int x1), (0, .ref (a 0)), (1, .int x1)]) dX10_think_10 (by decide) rfl ?_
  refine kX.pick [3, 2, 1, 0] (lv' := [(0, .ref (a 0)), (2, .int x1), (3, .int 0), (4, .int ((gI st 0) - 1))]) rfl ?_
  refine wX10_think_L12  C Zd   (fun v2_5 v3_6 v4_7 st_8 h => ?_) kFU x1 0 ((gI st 0) - 1) st h
  refine x_iload_n (pc := 51) C 1 dX10_think_51 rfl rfl ?_
  refine x_if_ne (pc := 52) C 71 dX10_think_52 (by decide) (fun c_9 => ?_) (fun c_9 => ?_)
  · have h := kIn c_9 h
    refine x_iconst (pc := 71) C 0 dX10_think_71 (by decide) ?_
    obtain rfl := Option.some.inj h
    exact x_zret (pc := 72) C rfl Zd dX10_think_72
  · have h := kIp c_9 h
    refine x_iload_n (pc := 55) C 2 dX10_think_55 rfl rfl ?_
    refine x_iconst (pc := 56) C 1 dX10_think_56 (by decide) ?_
    refine x_aload_n (pc := 57) C 0 dX10_think_57 rfl rfl ?_
    refine x_get (pc := 58) C inlX10 0 rfl rfl 0 (by decide) q15_2 (v := .int (gI st_8 0)) rfl dX10_think_58 ?_
    refine y_ishl (pc := 61) C dX10_think_61 ?_
    refine x_iconst (pc := 62) C 1 dX10_think_62 (by decide) ?_
    refine x_isub (pc := 63) C dX10_think_63 ?_
    refine x_icmp_ne (pc := 64) C 71 dX10_think_64 (by decide) (fun c_10 => ?_) (fun c_10 => ?_)
    · have h := kIn c_10 h
      refine x_iconst (pc := 71) C 0 dX10_think_71 (by decide) ?_
      obtain rfl := Option.some.inj h
      exact x_zret (pc := 72) C rfl Zd dX10_think_72
    · have h := kIp c_10 h
      refine x_iconst (pc := 67) C 1 dX10_think_67 (by decide) ?_
      refine x_goto (pc := 68) C 72 dX10_think_68 (by decide) ?_
      obtain rfl := Option.some.inj h
      exact x_zret (pc := 72) C rfl Zd dX10_think_72
set_option maxRecDepth 100000 in
theorem mX10_think (G : kG) (a : Nat → Nat) (st : kS) (x1 : Int32) {z : Int32 × kS} (h : fX10_think st x1 = some z) : kMet G yX10_think cX10_think 5 (some .boolean) rmfX10_think (0, 0) [.ref (a 0), .int x1] (wM G a st) (some (.int z.1)) (wM G a z.2) := kMet.mk (by decide +kernel) (Nat.le_of_ble_eq_true rfl) (fun E C Zd => wX10_think  C Zd  st x1 h)
theorem yvX10_isStill : kYV yX10_isStill RX10 cX10_isStill 2 (some .boolean) 1 := ⟨q16_0, q16_1, q1_5, q16_2, by decide +kernel⟩
abbrev rmfX10_isStill : Room := { frames := 0, cells := 0, slots := 0, locals := 0 }
def fX10_isStill (st : kS) (x1 : Int32) : Option (Int32) := (ka 6 (gA st 1) x1).bind (fun x_1 => if x_1 = 1 then (some 1) else ((ka 6 (gA st 1) x1).bind (fun x_4 => if x_4 = 3 then (some 1) else (some 0))))
set_option maxRecDepth 100000 in
set_option maxHeartbeats 4000000 in
theorem wX10_isStill {G : kG} {E : kE} {a : Nat → Nat} {st0 : kS} (C : kOk G E cX10_isStill RX10 2 rmfX10_isStill) {z : Int32} (Zd : kEnd G E (0, 0) (some .boolean) (some (.int z)) (wM G a st0)) (x1 : Int32) (h : fX10_isStill st0 x1 = some z) : kX G E (0, 0) (wM G a st0) 0 [(0, .ref (a 0)), (1, .int x1)] [] := by
  unfold fX10_isStill at h
  refine x_aload_n (pc := 0) C 0 dX10_isStill_0 rfl rfl ?_
  refine x_get (pc := 1) C inlX10 0 rfl rfl 2 (by decide) q5_11 (v := .ref (a 1)) rfl dX10_isStill_1 ?_
  refine x_iload_n (pc := 4) C 1 dX10_isStill_4 rfl rfl ?_
  obtain ⟨x_1, hx_1, h⟩ := kB h
  obtain ⟨hi_2, hx_1⟩ := ka_some hx_1
  refine y_iald (pc := 5) C 1 (lwM_A1 G a rfl) hi_2 hx_1 dX10_isStill_5 ?_
  refine x_iconst (pc := 6) C 1 dX10_isStill_6 (by decide) ?_
  refine x_icmp_eq (pc := 7) C 20 dX10_isStill_7 (by decide) (fun c_3 => ?_) (fun c_3 => ?_)
  · have h := kIp c_3 h
    refine x_iconst (pc := 20) C 1 dX10_isStill_20 (by decide) ?_
    refine x_goto (pc := 21) C 25 dX10_isStill_21 (by decide) ?_
    obtain rfl := Option.some.inj h
    exact x_zret (pc := 25) C rfl Zd dX10_isStill_25
  · have h := kIn c_3 h
    refine x_aload_n (pc := 10) C 0 dX10_isStill_10 rfl rfl ?_
    refine x_get (pc := 11) C inlX10 0 rfl rfl 2 (by decide) q5_11 (v := .ref (a 1)) rfl dX10_isStill_11 ?_
    refine x_iload_n (pc := 14) C 1 dX10_isStill_14 rfl rfl ?_
    obtain ⟨x_4, hx_4, h⟩ := kB h
    obtain ⟨hi_5, hx_4⟩ := ka_some hx_4
    refine y_iald (pc := 15) C 1 (lwM_A1 G a rfl) hi_5 hx_4 dX10_isStill_15 ?_
    refine x_iconst (pc := 16) C 3 dX10_isStill_16 (by decide) ?_
    refine x_icmp_ne (pc := 17) C 24 dX10_isStill_17 (by decide) (fun c_6 => ?_) (fun c_6 => ?_)
    · have h := kIn c_6 h
      refine x_iconst (pc := 24) C 0 dX10_isStill_24 (by decide) ?_
      obtain rfl := Option.some.inj h
      exact x_zret (pc := 25) C rfl Zd dX10_isStill_25
    · have h := kIp c_6 h
      refine x_iconst (pc := 20) C 1 dX10_isStill_20 (by decide) ?_
      refine x_goto (pc := 21) C 25 dX10_isStill_21 (by decide) ?_
      obtain rfl := Option.some.inj h
      exact x_zret (pc := 25) C rfl Zd dX10_isStill_25
set_option maxRecDepth 100000 in
theorem mX10_isStill (G : kG) (a : Nat → Nat) (st : kS) (x1 : Int32) {z : Int32} (h : fX10_isStill st x1 = some z) : kMet G yX10_isStill cX10_isStill 2 (some .boolean) rmfX10_isStill (0, 0) [.ref (a 0), .int x1] (wM G a st) (some (.int z)) (wM G a st) := kMet.mk (by decide +kernel) (Nat.le_of_ble_eq_true rfl) (fun E C Zd => wX10_isStill  C Zd  x1 h)
theorem yvX10_changes : kYV yX10_changes RX10 cX10_changes 2 (some .boolean) 1 := ⟨q15_20, q15_21, q1_5, q15_22, by decide +kernel⟩
abbrev rmfX10_changes : Room := { frames := 1, cells := 0, slots := 0, locals := 21 }
def fX10_changes (st : kS) (x1 : Int32) : Option (Int32) := (ka 6 (gA st 15) x1).bind (fun x_1 => (fX10_isStill st x_1).bind (fun z_3 => if z_3 = 0 then (if (gI st 0) = 0 then none else (ka 6 (gA st 15) (kr (x1 + 1) (gI st 0))).bind (fun x_6 => (fX10_isStill st x_6).bind (fun z_8 => if z_8 = 0 then (some 1) else (some 0)))) else (some 0)))
set_option maxRecDepth 100000 in
set_option maxHeartbeats 4000000 in
theorem wX10_changes {G : kG} {E : kE} {a : Nat → Nat} {st0 : kS} (C : kOk G E cX10_changes RX10 2 rmfX10_changes) {z : Int32} (Zd : kEnd G E (0, 0) (some .boolean) (some (.int z)) (wM G a st0)) (x1 : Int32) (h : fX10_changes st0 x1 = some z) : kX G E (0, 0) (wM G a st0) 0 [(0, .ref (a 0)), (1, .int x1)] [] := by
  unfold fX10_changes at h
  refine x_aload_n (pc := 0) C 0 dX10_changes_0 rfl rfl ?_
  refine x_aload_n (pc := 1) C 0 dX10_changes_1 rfl rfl ?_
  refine x_get (pc := 2) C inlX10 0 rfl rfl 33 (by decide) q6_5 (v := .ref (a 15)) rfl dX10_changes_2 ?_
  refine x_iload_n (pc := 5) C 1 dX10_changes_5 rfl rfl ?_
  obtain ⟨x_1, hx_1, h⟩ := kB h
  obtain ⟨hi_2, hx_1⟩ := ka_some hx_1
  refine y_iald (pc := 6) C 15 (lwM_A15 G a rfl) hi_2 hx_1 dX10_changes_6 ?_
  obtain ⟨z_3, hz_3, h⟩ := kB h
  refine x_callV (pc := 7) C 0 [.int x_1] rfl rfl (mX10_isStill G a st0 x_1 hz_3) yvX10_isStill q15_23 ⟨Nat.le_of_ble_eq_true rfl, Nat.le_of_ble_eq_true rfl, rfl, rfl⟩ ⟨Nat.zero_le _, Nat.zero_le _⟩ rfl rfl (Nat.le_of_ble_eq_true rfl) rfl dX10_changes_7 ?_
  refine x_if_ne (pc := 10) C 37 dX10_changes_10 (by decide) (fun c_4 => ?_) (fun c_4 => ?_)
  · have h := kIn c_4 h
    refine x_iconst (pc := 37) C 0 dX10_changes_37 (by decide) ?_
    obtain rfl := Option.some.inj h
    exact x_zret (pc := 38) C rfl Zd dX10_changes_38
  · have h := kIp c_4 h
    refine x_aload_n (pc := 13) C 0 dX10_changes_13 rfl rfl ?_
    refine x_aload_n (pc := 14) C 0 dX10_changes_14 rfl rfl ?_
    refine x_get (pc := 15) C inlX10 0 rfl rfl 33 (by decide) q6_5 (v := .ref (a 15)) rfl dX10_changes_15 ?_
    refine x_iload_n (pc := 18) C 1 dX10_changes_18 rfl rfl ?_
    refine x_iconst (pc := 19) C 1 dX10_changes_19 (by decide) ?_
    refine x_iadd (pc := 20) C dX10_changes_20 ?_
    refine x_aload_n (pc := 21) C 0 dX10_changes_21 rfl rfl ?_
    refine x_get (pc := 22) C inlX10 0 rfl rfl 0 (by decide) q15_2 (v := .int (gI st0 0)) rfl dX10_changes_22 ?_
    obtain ⟨c_5, h⟩ := kGd h
    refine y_irem (pc := 25) C dX10_changes_25 c_5 ?_
    obtain ⟨x_6, hx_6, h⟩ := kB h
    obtain ⟨hi_7, hx_6⟩ := ka_some hx_6
    refine y_iald (pc := 26) C 15 (lwM_A15 G a rfl) hi_7 hx_6 dX10_changes_26 ?_
    obtain ⟨z_8, hz_8, h⟩ := kB h
    refine x_callV (pc := 27) C 0 [.int x_6] rfl rfl (mX10_isStill G a st0 x_6 hz_8) yvX10_isStill q15_23 ⟨Nat.le_of_ble_eq_true rfl, Nat.le_of_ble_eq_true rfl, rfl, rfl⟩ ⟨Nat.zero_le _, Nat.zero_le _⟩ rfl rfl (Nat.le_of_ble_eq_true rfl) rfl dX10_changes_27 ?_
    refine x_if_ne (pc := 30) C 37 dX10_changes_30 (by decide) (fun c_9 => ?_) (fun c_9 => ?_)
    · have h := kIn c_9 h
      refine x_iconst (pc := 37) C 0 dX10_changes_37 (by decide) ?_
      obtain rfl := Option.some.inj h
      exact x_zret (pc := 38) C rfl Zd dX10_changes_38
    · have h := kIp c_9 h
      refine x_iconst (pc := 33) C 1 dX10_changes_33 (by decide) ?_
      refine x_goto (pc := 34) C 38 dX10_changes_34 (by decide) ?_
      obtain rfl := Option.some.inj h
      exact x_zret (pc := 38) C rfl Zd dX10_changes_38
set_option maxRecDepth 100000 in
theorem mX10_changes (G : kG) (a : Nat → Nat) (st : kS) (x1 : Int32) {z : Int32} (h : fX10_changes st x1 = some z) : kMet G yX10_changes cX10_changes 2 (some .boolean) rmfX10_changes (0, 0) [.ref (a 0), .int x1] (wM G a st) (some (.int z)) (wM G a st) := kMet.mk (by decide +kernel) (Nat.le_of_ble_eq_true rfl) (fun E C Zd => wX10_changes  C Zd  x1 h)
theorem yvX10_code : kYV yX10_code RX10 cX10_code 4 (some .int) 1 := ⟨q16_8, q16_9, q1_5, q16_10, by decide +kernel⟩
abbrev rmfX10_code : Room := { frames := 0, cells := 0, slots := 0, locals := 0 }
def fX10_code_L4_B (K : Int32 → Int32 → Option (Int32)) (Gc : Int32 → Int32 → Option (Int32)) (N1 : Nat) (f1 : Nat → Int32) (st : kS) (v2 : Int32) (v3 : Int32) : Option (Int32) := if (gI st 0) ≤ v3 then (K v2 v3) else ((ka N1 f1 v3).bind (fun x_2 => Gc ((6 * v2) + x_2) (v3 + 1)))
set_option maxRecDepth 100000 in
set_option maxHeartbeats 4000000 in
theorem wX10_code_L4_B {G : kG} {E : kE} {a : Nat → Nat} {st0 : kS} {q1 a1 N1 : Nat} {f1 : Nat → Int32} (hN1 : N1 < 2 ^ 31) (C : kOk G E cX10_code RX10 4 rmfX10_code) {z : Int32} (Zd : kEnd G E (0, 0) (some .int) (some (.int z)) (wM G a st0)) (hq1 : (wM G a st0)[q1]? = some (a1, .inl (G.2.1, N1, .inl f1))) {K Gc : Int32 → Int32 → Option (Int32)} (v2 : Int32) (v3 : Int32) (hK : ∀ (u2 : Int32) (u3 : Int32), K u2 u3 = some z → kX G E (0, 0) (wM G a st0) 27 [(2, .int u2)] []) (hG : ∀ (u2 : Int32) (u3 : Int32), Gc u2 u3 = some z → kX G E (0, 0) (wM G a st0) 4 [(0, .ref (a 0)), (1, .ref a1), (2, .int u2), (3, .int u3)] []) (h : fX10_code_L4_B K Gc N1 f1 st0 v2 v3 = some z) : kX G E (0, 0) (wM G a st0) 4 [(0, .ref (a 0)), (1, .ref a1), (2, .int v2), (3, .int v3)] [] := by
  unfold fX10_code_L4_B at h
  refine x_iload_n (pc := 4) C 3 dX10_code_4 rfl rfl ?_
  refine x_aload_n (pc := 5) C 0 dX10_code_5 rfl rfl ?_
  refine x_get (pc := 6) C inlX10 0 rfl rfl 0 (by decide) q15_2 (v := .int (gI st0 0)) rfl dX10_code_6 ?_
  refine x_icmp_ge (pc := 9) C 27 dX10_code_9 (by decide) (fun c_1 => ?_) (fun c_1 => ?_)
  · have h := kIp c_1 h
    refine kX.pick [2] (lv' := [(2, .int v2)]) rfl ?_
    exact hK v2 v3 h
  · have h := kIn c_1 h
    refine x_bipush (pc := 12) C 6 dX10_code_12 (by decide) ?_
    refine x_iload_n (pc := 14) C 2 dX10_code_14 rfl rfl ?_
    refine x_imul (pc := 15) C dX10_code_15 ?_
    refine x_aload_n (pc := 16) C 1 dX10_code_16 rfl rfl ?_
    refine x_iload_n (pc := 17) C 3 dX10_code_17 rfl rfl ?_
    obtain ⟨x_2, hx_2, h⟩ := kB h
    obtain ⟨hi_3, hx_2⟩ := ka_some hx_2
    refine y_iald (pc := 18) C q1 hq1 hi_3 hx_2 dX10_code_18 ?_
    refine x_iadd (pc := 19) C dX10_code_19 ?_
    refine x_istore_n (pc := 20) C (lv' := [(2, .int ((6 * v2) + x_2)), (0, .ref (a 0)), (1, .ref a1), (3, .int v3)]) dX10_code_20 rfl (by decide) rfl ?_
    refine x_iinc (pc := 21) C 3 (v := v3 + 1) (lv' := [(3, .int (v3 + 1)), (2, .int ((6 * v2) + x_2)), (0, .ref (a 0)), (1, .ref a1)]) dX10_code_21 rfl rfl (by decide) rfl ?_
    refine x_goto (pc := 24) C 4 dX10_code_24 (by decide) ?_
    refine kX.pick [2, 3, 1, 0] (lv' := [(0, .ref (a 0)), (1, .ref a1), (2, .int ((6 * v2) + x_2)), (3, .int (v3 + 1))]) rfl ?_
    exact hG ((6 * v2) + x_2) (v3 + 1) h
def fX10_code_L4 (K : Int32 → Int32 → Option (Int32)) (N1 : Nat) (f1 : Nat → Int32) (st : kS) : Nat → Int32 → Int32 → Option (Int32)
  | 0, _, _ => none
  | F + 1, v2, v3 => fX10_code_L4_B K (fX10_code_L4 K N1 f1 st F) N1 f1 st v2 v3
set_option maxRecDepth 100000 in
set_option maxHeartbeats 4000000 in
theorem wX10_code_L4 {G : kG} {E : kE} {a : Nat → Nat} {st0 : kS} {q1 a1 N1 : Nat} {f1 : Nat → Int32} (hN1 : N1 < 2 ^ 31) (C : kOk G E cX10_code RX10 4 rmfX10_code) {z : Int32} (Zd : kEnd G E (0, 0) (some .int) (some (.int z)) (wM G a st0)) (hq1 : (wM G a st0)[q1]? = some (a1, .inl (G.2.1, N1, .inl f1))) {K : Int32 → Int32 → Option (Int32)} (hK : ∀ (u2 : Int32) (u3 : Int32), K u2 u3 = some z → kX G E (0, 0) (wM G a st0) 27 [(2, .int u2)] []) : ∀ (F : Nat) (v2 : Int32) (v3 : Int32), fX10_code_L4 K N1 f1 st0 F v2 v3 = some z → kX G E (0, 0) (wM G a st0) 4 [(0, .ref (a 0)), (1, .ref a1), (2, .int v2), (3, .int v3)] [] := by
  intro F
  induction F with
  | zero =>
    intro v2 v3 h
    exact absurd (show none = some z from h) (fun q => by cases q)
  | succ F ih =>
    intro v2 v3 h
    exact wX10_code_L4_B hN1 C Zd hq1 v2 v3 hK (fun v2 v3 h => ih v2 v3 h) h
def fX10_code (N1 : Nat) (f1 : Nat → Int32) (st : kS) : Option (Int32) := fX10_code_L4 (fun v2_4 v3_5 => some v2_4) N1 f1 st kFU 0 0
set_option maxRecDepth 100000 in
set_option maxHeartbeats 4000000 in
theorem wX10_code {G : kG} {E : kE} {a : Nat → Nat} {st0 : kS} {q1 a1 N1 : Nat} {f1 : Nat → Int32} (hN1 : N1 < 2 ^ 31) (C : kOk G E cX10_code RX10 4 rmfX10_code) {z : Int32} (Zd : kEnd G E (0, 0) (some .int) (some (.int z)) (wM G a st0)) (hq1 : (wM G a st0)[q1]? = some (a1, .inl (G.2.1, N1, .inl f1))) (h : fX10_code N1 f1 st0 = some z) : kX G E (0, 0) (wM G a st0) 0 [(0, .ref (a 0)), (1, .ref a1)] [] := by
  unfold fX10_code at h
  refine x_iconst (pc := 0) C 0 dX10_code_0 (by decide) ?_
  refine x_istore_n (pc := 1) C (lv' := [(2, .int 0), (0, .ref (a 0)), (1, .ref a1)]) dX10_code_1 rfl (by decide) rfl ?_
  refine x_iconst (pc := 2) C 0 dX10_code_2 (by decide) ?_
  refine x_istore_n (pc := 3) C (lv' := [(3, .int 0), (2, .int 0), (0, .ref (a 0)), (1, .ref a1)]) dX10_code_3 rfl (by decide) rfl ?_
  refine kX.pick [2, 3, 1, 0] (lv' := [(0, .ref (a 0)), (1, .ref a1), (2, .int 0), (3, .int 0)]) rfl ?_
  refine wX10_code_L4 hN1 C Zd hq1  (fun v2_4 v3_5 h => ?_) kFU 0 0 h
  refine x_iload_n (pc := 27) C 0 dX10_code_27 rfl rfl ?_
  obtain rfl := Option.some.inj h
  exact x_iret (pc := 28) C Zd dX10_code_28
set_option maxRecDepth 100000 in
theorem mX10_code (G : kG) (a : Nat → Nat) {st : kS} {a1 : Nat} {N : Nat} {f : Nat → Int32} (q1 : Nat) (hq1 : (wM G a st)[q1]? = some (a1, .inl (G.2.1, N, .inl f))) (hN1 : N < 2 ^ 31) (_ : kS)  {z : Int32} (h : fX10_code N f st = some z) : kMet G yX10_code cX10_code 4 (some .int) rmfX10_code (0, 0) [.ref (a 0), .ref a1] (wM G a st) (some (.int z)) (wM G a st) := kMet.mk (by decide +kernel) (Nat.le_of_ble_eq_true rfl) (fun E C Zd => wX10_code hN1 C Zd hq1  h)
theorem yvX10_change : kYV yX10_change RX10 cX10_change 4 none 1 := ⟨q16_4, q16_5, q1_5, q16_6, by decide +kernel⟩
abbrev rmfX10_change : Room := { frames := 0, cells := 0, slots := 0, locals := 0 }
def fX10_change (st : kS) (x1 : Int32) : Option (kS) := if (gI st 0) = 0 then none else (ka 6 (gA st 15) x1).bind (fun x_2 => (ka 6 (gA st 15) (kr (x1 + 1) (gI st 0))).bind (fun x_4 => if x1 < 0 ∨ 6 ≤ x1.toNatClampNeg then none else if (kr (x1 + 1) (gI st 0)) < 0 ∨ 6 ≤ (kr (x1 + 1) (gI st 0)).toNatClampNeg then none else some (sA (sA st 15 (upd (gA st 15) x1.toNatClampNeg x_4)) 15 (upd (upd (gA st 15) x1.toNatClampNeg x_4) (kr (x1 + 1) (gI st 0)).toNatClampNeg x_2))))
set_option maxRecDepth 100000 in
set_option maxHeartbeats 4000000 in
theorem wX10_change {G : kG} {E : kE} {a : Nat → Nat} (C : kOk G E cX10_change RX10 4 rmfX10_change) {z : kS} (Zd : kEnd G E (0, 0) none none (wM G a z)) (st : kS) (x1 : Int32) (h : fX10_change st x1 = some z) : kX G E (0, 0) (wM G a st) 0 [(0, .ref (a 0)), (1, .int x1)] [] := by
  unfold fX10_change at h
  refine x_iload_n (pc := 0) C 1 dX10_change_0 rfl rfl ?_
  refine x_iconst (pc := 1) C 1 dX10_change_1 (by decide) ?_
  refine x_iadd (pc := 2) C dX10_change_2 ?_
  refine x_aload_n (pc := 3) C 0 dX10_change_3 rfl rfl ?_
  refine x_get (pc := 4) C inlX10 0 rfl rfl 0 (by decide) q15_2 (v := .int (gI st 0)) rfl dX10_change_4 ?_
  obtain ⟨c_1, h⟩ := kGd h
  refine y_irem (pc := 7) C dX10_change_7 c_1 ?_
  refine x_istore_n (pc := 8) C (lv' := [(2, .int (kr (x1 + 1) (gI st 0))), (0, .ref (a 0)), (1, .int x1)]) dX10_change_8 rfl (by decide) rfl ?_
  refine x_aload_n (pc := 9) C 1 dX10_change_9 rfl rfl ?_
  refine x_get (pc := 10) C inlX10 0 rfl rfl 33 (by decide) q6_5 (v := .ref (a 15)) rfl dX10_change_10 ?_
  refine x_iload_n (pc := 13) C 2 dX10_change_13 rfl rfl ?_
  obtain ⟨x_2, hx_2, h⟩ := kB h
  obtain ⟨hi_3, hx_2⟩ := ka_some hx_2
  refine y_iald (pc := 14) C 15 (lwM_A15 G a rfl) hi_3 hx_2 dX10_change_14 ?_
  refine x_istore_n (pc := 15) C (lv' := [(3, .int x_2), (2, .int (kr (x1 + 1) (gI st 0))), (0, .ref (a 0)), (1, .int x1)]) dX10_change_15 rfl (by decide) rfl ?_
  refine x_aload_n (pc := 16) C 2 dX10_change_16 rfl rfl ?_
  refine x_get (pc := 17) C inlX10 0 rfl rfl 33 (by decide) q6_5 (v := .ref (a 15)) rfl dX10_change_17 ?_
  refine x_iload_n (pc := 20) C 3 dX10_change_20 rfl rfl ?_
  refine x_aload_n (pc := 21) C 2 dX10_change_21 rfl rfl ?_
  refine x_get (pc := 22) C inlX10 0 rfl rfl 33 (by decide) q6_5 (v := .ref (a 15)) rfl dX10_change_22 ?_
  refine x_iload_n (pc := 25) C 1 dX10_change_25 rfl rfl ?_
  obtain ⟨x_4, hx_4, h⟩ := kB h
  obtain ⟨hi_5, hx_4⟩ := ka_some hx_4
  refine y_iald (pc := 26) C 15 (lwM_A15 G a rfl) hi_5 hx_4 dX10_change_26 ?_
  obtain ⟨hi_6, h⟩ := kGn h
  refine x_iast (pc := 27) C 15 (lwM_A15 G a rfl) hi_6 (swM_A15 G a _ _) dX10_change_27 ?_
  refine x_aload_n (pc := 28) C 2 dX10_change_28 rfl rfl ?_
  refine x_get (pc := 29) C inlX10 0 rfl rfl 33 (by decide) q6_5 (v := .ref (a 15)) rfl dX10_change_29 ?_
  refine x_iload_n (pc := 32) C 1 dX10_change_32 rfl rfl ?_
  refine x_iload_n (pc := 33) C 0 dX10_change_33 rfl rfl ?_
  obtain ⟨hi_7, h⟩ := kGn h
  refine x_iast (pc := 34) C 15 (lwM_A15 G a (gA_e _ _ _)) hi_7 (swM_A15 G a _ _) dX10_change_34 ?_
  obtain rfl := Option.some.inj h
  exact x_vret (pc := 35) C Zd dX10_change_35
set_option maxRecDepth 100000 in
theorem mX10_change (G : kG) (a : Nat → Nat) (st : kS) (x1 : Int32) {z : kS} (h : fX10_change st x1 = some z) : kMet G yX10_change cX10_change 4 none rmfX10_change (0, 0) [.ref (a 0), .int x1] (wM G a st) none (wM G a z) := kMet.mk (by decide +kernel) (Nat.le_of_ble_eq_true rfl) (fun E C Zd => wX10_change  C Zd  st x1 h)
