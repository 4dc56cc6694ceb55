/-! THE STATE of a system in numbers: ints, longs, rows of ints, rows of longs, each by its own number; what methods of Java's own and of Cells compute -/
def kS : Type := (Nat → Int32) × (Nat → Int64) × (Nat → Nat → Int32) × (Nat → Nat → Int64)
def gI (s : kS) (k : Nat) : Int32 := s.1 k
def gJ (s : kS) (k : Nat) : Int64 := s.2.1 k
def gA (s : kS) (k : Nat) : Nat → Int32 := s.2.2.1 k
def gL (s : kS) (k : Nat) : Nat → Int64 := s.2.2.2 k
def sI (s : kS) (k : Nat) (v : Int32) : kS := (upd s.1 k v, s.2)
def sJ (s : kS) (k : Nat) (v : Int64) : kS := (s.1, vp_updL s.2.1 k v, s.2.2)
def sA (s : kS) (k : Nat) (v : Nat → Int32) : kS := (s.1, s.2.1, va_up s.2.2.1 k v, s.2.2.2)
def sL (s : kS) (k : Nat) (v : Nat → Int64) : kS := (s.1, s.2.1, s.2.2.1, va_up s.2.2.2 k v)
theorem gI_sI (s : kS) (k j : Nat) (v : Int32) : gI (sI s k v) j = if j = k then v else gI s j := rfl
theorem gI_sJ (s : kS) (k j : Nat) (v : Int64) : gI (sJ s k v) j = gI s j := rfl
theorem gI_sA (s : kS) (k j : Nat) (v : Nat → Int32) : gI (sA s k v) j = gI s j := rfl
theorem gI_sL (s : kS) (k j : Nat) (v : Nat → Int64) : gI (sL s k v) j = gI s j := rfl
theorem gJ_sI (s : kS) (k j : Nat) (v : Int32) : gJ (sI s k v) j = gJ s j := rfl
theorem gJ_sJ (s : kS) (k j : Nat) (v : Int64) : gJ (sJ s k v) j = if j = k then v else gJ s j := rfl
theorem gJ_sA (s : kS) (k j : Nat) (v : Nat → Int32) : gJ (sA s k v) j = gJ s j := rfl
theorem gJ_sL (s : kS) (k j : Nat) (v : Nat → Int64) : gJ (sL s k v) j = gJ s j := rfl
theorem gA_sI (s : kS) (k j : Nat) (v : Int32) : gA (sI s k v) j = gA s j := rfl
theorem gA_sJ (s : kS) (k j : Nat) (v : Int64) : gA (sJ s k v) j = gA s j := rfl
theorem gA_sA (s : kS) (k j : Nat) (v : Nat → Int32) : gA (sA s k v) j = if j = k then v else gA s j := rfl
theorem gA_sL (s : kS) (k j : Nat) (v : Nat → Int64) : gA (sL s k v) j = gA s j := rfl
theorem gL_sI (s : kS) (k j : Nat) (v : Int32) : gL (sI s k v) j = gL s j := rfl
theorem gL_sJ (s : kS) (k j : Nat) (v : Int64) : gL (sJ s k v) j = gL s j := rfl
theorem gL_sA (s : kS) (k j : Nat) (v : Nat → Int32) : gL (sA s k v) j = gL s j := rfl
theorem gL_sL (s : kS) (k j : Nat) (v : Nat → Int64) : gL (sL s k v) j = if j = k then v else gL s j := rfl
theorem gI_e (s : kS) (k : Nat) (v : Int32) : gI (sI s k v) k = v := (gI_sI s k k v).trans (if_pos rfl)
theorem gJ_e (s : kS) (k : Nat) (v : Int64) : gJ (sJ s k v) k = v := (gJ_sJ s k k v).trans (if_pos rfl)
theorem gA_e (s : kS) (k : Nat) (v : Nat → Int32) : gA (sA s k v) k = v := (gA_sA s k k v).trans (if_pos rfl)
theorem gL_e (s : kS) (k : Nat) (v : Nat → Int64) : gL (sL s k v) k = v := (gL_sL s k k v).trans (if_pos rfl)
theorem gI_n {s : kS} {k j : Nat} {v : Int32} (h : j ≠ k) : gI (sI s k v) j = gI s j := (gI_sI s k j v).trans (if_neg h)
theorem gJ_n {s : kS} {k j : Nat} {v : Int64} (h : j ≠ k) : gJ (sJ s k v) j = gJ s j := (gJ_sJ s k j v).trans (if_neg h)
theorem gA_n {s : kS} {k j : Nat} {v : Nat → Int32} (h : j ≠ k) : gA (sA s k v) j = gA s j := (gA_sA s k j v).trans (if_neg h)
theorem gL_n {s : kS} {k j : Nat} {v : Nat → Int64} (h : j ≠ k) : gL (sL s k v) j = gL s j := (gL_sL s k j v).trans (if_neg h)
/-- enough for any loop -/
def kFU : Nat := 60000
def kr (x y : Int32) : Int32 := x - x / y * y
def klr (x y : Int64) : Int64 := x - x / y * y
def kshl (x y : Int32) : Int32 := x <<< (y &&& 31)
def kshr (x y : Int32) : Int32 := x >>> (y &&& 31)
def kushr (x y : Int32) : Int32 := (x.toUInt32 >>> (y.toUInt32 &&& Int32.toUInt32 31)).toInt32
def klshl (x : Int64) (y : Int32) : Int64 := x <<< (y.toInt64 &&& 63)
def klshr (x : Int64) (y : Int32) : Int64 := x >>> (y.toInt64 &&& 63)
def klushr (x : Int64) (y : Int32) : Int64 := (x.toUInt64 >>> (y.toInt64.toUInt64 &&& Int64.toUInt64 63)).toInt64
def kmax (x y : Int32) : Int32 := if x < y then y else x
def kmin (x y : Int32) : Int32 := if y < x then y else x
def kabs (x : Int32) : Int32 := if 0 ≤ x then x else 0 - x
def kfm (x y : Int32) : Int32 := if 0 ≤ x ^^^ y then kr x y else if kr x y = 0 then kr x y else kr x y + y
def kg (N : Nat) (f : Nat → Int32) (i : Int32) : Int32 := if i < 0 ∨ N ≤ i.toNatClampNeg then 0 else f i.toNatClampNeg
def kgl (N : Nat) (f : Nat → Int64) (i : Int32) : Int64 := if i < 0 ∨ N ≤ i.toNatClampNeg then 0 else f i.toNatClampNeg
def kp (N : Nat) (f : Nat → Int32) (i v : Int32) : Nat → Int32 := if i < 0 ∨ N ≤ i.toNatClampNeg then f else upd f i.toNatClampNeg v
def kpl (N : Nat) (f : Nat → Int64) (i : Int32) (v : Int64) : Nat → Int64 := if i < 0 ∨ N ≤ i.toNatClampNeg then f else vp_updL f i.toNatClampNeg v
def kfill (N : Nat) (f : Nat → Int32) (v : Int32) : Nat → Int32 := fun j => if j < N then v else f j
def kfillL (N : Nat) (f : Nat → Int64) (v : Int64) : Nat → Int64 := fun j => if j < N then v else f j
/-- an array's place: none if it is outside -/
def ka (N : Nat) (f : Nat → Int32) (i : Int32) : Option Int32 := if i < 0 ∨ N ≤ i.toNatClampNeg then none else some (f i.toNatClampNeg)
def kal (N : Nat) (f : Nat → Int64) (i : Int32) : Option Int64 := if i < 0 ∨ N ≤ i.toNatClampNeg then none else some (f i.toNatClampNeg)
theorem ka_some {N : Nat} {f : Nat → Int32} {i x : Int32} (h : ka N f i = some x) : vp_in i N ∧ f i.toNatClampNeg = x := by
  unfold ka at h
  split at h
  · cases h
  · next hc => exact ⟨hc, Option.some.inj h⟩
theorem kal_some {N : Nat} {f : Nat → Int64} {i : Int32} {x : Int64} (h : kal N f i = some x) : vp_in i N ∧ f i.toNatClampNeg = x := by
  unfold kal at h
  split at h
  · cases h
  · next hc => exact ⟨hc, Option.some.inj h⟩
theorem kB {α β : Type} {o : Option α} {f : α → Option β} {z : β} (h : o.bind f = some z) : ∃ x, o = some x ∧ f x = some z := by
  cases o with
  | none => cases h
  | some x => exact ⟨x, rfl, h⟩
theorem kIp {α : Type} {c : Prop} [Decidable c] {x y z : α} (hc : c) (h : (if c then x else y) = z) : x = z := by rwa [if_pos hc] at h
theorem kIn {α : Type} {c : Prop} [Decidable c] {x y z : α} (hc : ¬ c) (h : (if c then x else y) = z) : y = z := by rwa [if_neg hc] at h
theorem kGd {α : Type} {c : Prop} [Decidable c] {x : Option α} {z : α} (h : (if c then none else x) = some z) : ¬ c ∧ x = some z := by
  by_cases hc : c
  · rw [if_pos hc] at h
    cases h
  · rw [if_neg hc] at h
    exact ⟨hc, h⟩
theorem kGn {α : Type} {c : Prop} [Decidable c] {x : Option α} {z : α} (h : (if c then none else x) = some z) : ¬ c ∧ x = some z := kGd h
theorem kBn {x : Int32} (h : ¬ ¬ (x = 0 ∨ x = 1)) : narrow .boolean (.int x) = .int x := by
  rcases Decidable.not_not.mp h with rfl | rfl <;> rfl
theorem kBf {x : Int32} (h : ¬ ¬ (x = 0 ∨ x = 1)) : fits .boolean (.int x) = true := by
  rcases Decidable.not_not.mp h with rfl | rfl <;> rfl
theorem k_nle0 {x : Int32} (h : ¬ x ≤ 0) : ¬ x = 0 := fun e => h (by rw [e]; decide)
theorem k_gt0 {x : Int32} (h : 0 < x) : ¬ x = 0 := fun e => by rw [e] at h; exact absurd h (by decide)
theorem k_len {i : Int32} {N : Nat} (h0 : ¬ i < 0) (hN : N < 2 ^ 31) : nI N ≤ i ↔ N ≤ i.toNatClampNeg := by
  obtain ⟨j, hj, rfl⟩ := nI_of h0
  rw [nI_leI hN hj, nI_clamp hj]
section KR
variable {G : kG} {E : kE} {cs : Nat × Nat} {cc : ByteArray} {own : String} {n : Nat} {rm : Room} {ws : va_W} {pc : Nat} {lv : List (Nat × Value)} {stk : List Value}
theorem y_irem (C : kOk G E cc own n rm) {x y : Int32} (hdg : decode cc pc = .ok (.irem, 1)) (hne : ¬ y = 0) (k : kX G E cs ws (pc + 1) lv (.int (kr x y) :: stk)) : kX G E cs ws pc lv (.int y :: .int x :: stk) := x_irem C hdg hne k
theorem y_lrem (C : kOk G E cc own n rm) {x y : Int64} (hdg : decode cc pc = .ok (.lrem, 1)) (hne : ¬ y = 0) (k : kX G E cs ws (pc + 1) lv (.long (klr x y) :: stk)) : kX G E cs ws pc lv (.long y :: .long x :: stk) := x_lrem C hdg hne k
theorem y_idiv (C : kOk G E cc own n rm) {x y : Int32} (hdg : decode cc pc = .ok (.idiv, 1)) (hne : ¬ y = 0) (k : kX G E cs ws (pc + 1) lv (.int (x / y) :: stk)) : kX G E cs ws pc lv (.int y :: .int x :: stk) := x_idiv C hdg hne k
theorem y_ldiv (C : kOk G E cc own n rm) {x y : Int64} (hdg : decode cc pc = .ok (.ldiv, 1)) (hne : ¬ y = 0) (k : kX G E cs ws (pc + 1) lv (.long (x / y) :: stk)) : kX G E cs ws pc lv (.long y :: .long x :: stk) := x_ldiv C hdg hne k
theorem y_ishl (C : kOk G E cc own n rm) {x y : Int32} (hdg : decode cc pc = .ok (.ishl, 1)) (k : kX G E cs ws (pc + 1) lv (.int (kshl x y) :: stk)) : kX G E cs ws pc lv (.int y :: .int x :: stk) := x_ishl C hdg k
theorem y_ishr (C : kOk G E cc own n rm) {x y : Int32} (hdg : decode cc pc = .ok (.ishr, 1)) (k : kX G E cs ws (pc + 1) lv (.int (kshr x y) :: stk)) : kX G E cs ws pc lv (.int y :: .int x :: stk) := x_ishr C hdg k
theorem y_iushr (C : kOk G E cc own n rm) {x y : Int32} (hdg : decode cc pc = .ok (.iushr, 1)) (k : kX G E cs ws (pc + 1) lv (.int (kushr x y) :: stk)) : kX G E cs ws pc lv (.int y :: .int x :: stk) := x_iushr C hdg k
theorem y_lshl (C : kOk G E cc own n rm) {x : Int64} {y : Int32} (hdg : decode cc pc = .ok (.lshl, 1)) (k : kX G E cs ws (pc + 1) lv (.long (klshl x y) :: stk)) : kX G E cs ws pc lv (.int y :: .long x :: stk) := x_lshl C hdg k
theorem y_lshr (C : kOk G E cc own n rm) {x : Int64} {y : Int32} (hdg : decode cc pc = .ok (.lshr, 1)) (k : kX G E cs ws (pc + 1) lv (.long (klshr x y) :: stk)) : kX G E cs ws pc lv (.int y :: .long x :: stk) := x_lshr C hdg k
theorem y_lushr (C : kOk G E cc own n rm) {x : Int64} {y : Int32} (hdg : decode cc pc = .ok (.lushr, 1)) (k : kX G E cs ws (pc + 1) lv (.long (klushr x y) :: stk)) : kX G E cs ws pc lv (.int y :: .long x :: stk) := x_lushr C hdg k
theorem y_mmax (C : kOk G E cc own n rm) {index : Nat} (h1 : Cond.methodLink own index Lib.Math.max.name ∈ wsL_law) (h2 : Cond.static Lib.Math.max.name ∈ wsL_law) (h3 : Cond.initialized "java/lang/Math" ∈ wsL_law) (h4 : Cond.code Lib.Math.max.name Lib.Math.max.code 2 (some .int) ∈ wsL_law) (hR : 1 ≤ rm.frames ∧ 21 ≤ rm.locals) (hcs : cs.1 ≤ rm.cells ∧ cs.2 ≤ rm.slots) (hW : (stk.map fun v => v.category).sum ≤ 8) {x y : Int32} (hdg : decode cc pc = .ok (.invokestatic index, 3)) (kk : kX G E cs ws (pc + 3) lv (.int (kmax x y) :: stk)) : kX G E cs ws pc lv (.int y :: .int x :: stk) := x_mmax C h1 h2 h3 h4 hR hcs hW hdg kk
theorem y_mmin (C : kOk G E cc own n rm) {index : Nat} (h1 : Cond.methodLink own index Lib.Math.min.name ∈ wsL_law) (h2 : Cond.static Lib.Math.min.name ∈ wsL_law) (h3 : Cond.initialized "java/lang/Math" ∈ wsL_law) (h4 : Cond.code Lib.Math.min.name Lib.Math.min.code 2 (some .int) ∈ wsL_law) (hR : 1 ≤ rm.frames ∧ 21 ≤ rm.locals) (hcs : cs.1 ≤ rm.cells ∧ cs.2 ≤ rm.slots) (hW : (stk.map fun v => v.category).sum ≤ 8) {x y : Int32} (hdg : decode cc pc = .ok (.invokestatic index, 3)) (kk : kX G E cs ws (pc + 3) lv (.int (kmin x y) :: stk)) : kX G E cs ws pc lv (.int y :: .int x :: stk) := x_mmin C h1 h2 h3 h4 hR hcs hW hdg kk
theorem y_mabs (C : kOk G E cc own n rm) {index : Nat} (h1 : Cond.methodLink own index Lib.Math.abs.name ∈ wsL_law) (h2 : Cond.static Lib.Math.abs.name ∈ wsL_law) (h3 : Cond.initialized "java/lang/Math" ∈ wsL_law) (h4 : Cond.code Lib.Math.abs.name Lib.Math.abs.code 1 (some .int) ∈ wsL_law) (hR : 1 ≤ rm.frames ∧ 21 ≤ rm.locals) (hcs : cs.1 ≤ rm.cells ∧ cs.2 ≤ rm.slots) (hW : (stk.map fun v => v.category).sum ≤ 8) {x : Int32} (hdg : decode cc pc = .ok (.invokestatic index, 3)) (kk : kX G E cs ws (pc + 3) lv (.int (kabs x) :: stk)) : kX G E cs ws pc lv (.int x :: stk) := x_mabs C h1 h2 h3 h4 hR hcs hW hdg kk
theorem y_iald (C : kOk G E cc own n rm) (q0 : Nat) {a N : Nat} {f : Nat → Int32} (ha : ws[q0]? = some (a, .inl (G.2.1, N, .inl f))) {i x : Int32} (hin : vp_in i N) (hv : f i.toNatClampNeg = x) (hdg : decode cc pc = .ok (.iaload, 1)) (kk : kX G E cs ws (pc + 1) lv (.int x :: stk)) : kX G E cs ws pc lv (.int i :: .ref a :: stk) := by
  subst hv
  exact x_iald C q0 ha hin hdg kk
theorem y_lald (C : kOk G E cc own n rm) (q0 : Nat) {a N : Nat} {f : Nat → Int64} (ha : ws[q0]? = some (a, .inl (G.2.2.1, N, .inr (.inl f)))) {i : Int32} {x : Int64} (hin : vp_in i N) (hv : f i.toNatClampNeg = x) (hdg : decode cc pc = .ok (.laload, 1)) (kk : kX G E cs ws (pc + 1) lv (.long x :: stk)) : kX G E cs ws pc lv (.int i :: .ref a :: stk) := by
  subst hv
  exact x_lald C q0 ha hin hdg kk
end KR
abbrev rmN : Room := { frames := 0, cells := 0, slots := 0, locals := 0 }
theorem k_setself {ws : va_W} {q0 : Nat} {x : Nat × va_E} (h : ws[q0]? = some x) : ws.set q0 x = ws := by
  obtain ⟨h1, h2⟩ := List.getElem?_eq_some_iff.mp h
  rw [← h2]
  exact List.set_getElem_self h1
theorem mX0_get (G : kG) {ws : va_W} {a N : Nat} {f : Nat → Int32} (q0 : Nat) (hq : ws[q0]? = some (a, .inl (G.2.1, N, .inl f))) (hN : N < 2 ^ 31) (i : Int32) : kMet G yX0_get cX0_get 2 (some .int) rmN (0, 0) [.ref a, .int i] ws (some (.int (kg N f i))) ws := kMet.mk (by decide +kernel) (Nat.le_of_ble_eq_true rfl) (fun E C Zd => by
  show kX G E (0, 0) ws 0 [(0, .ref a), (1, .int i)] []
  refine x_iload_n (pc := 0) C 1 dX0_get_0 rfl rfl ?_
  refine x_if_lt (pc := 1) C 16 dX0_get_1 (by decide) (fun c1 => ?_) (fun c1 => ?_)
  · have e : kg N f i = 0 := if_pos (Or.inl c1)
    rw [e] at Zd
    refine x_iconst (pc := 16) C 0 dX0_get_16 (by decide) ?_
    exact x_iret (pc := 17) C Zd dX0_get_17
  · refine x_iload_n (pc := 4) C 1 dX0_get_4 rfl rfl ?_
    refine x_aload_n (pc := 5) C 0 dX0_get_5 rfl rfl ?_
    refine x_alenI (pc := 6) C q0 hq dX0_get_6 ?_
    refine x_icmp_ge (pc := 7) C 16 dX0_get_7 (by decide) (fun c2 => ?_) (fun c2 => ?_)
    · have e : kg N f i = 0 := if_pos (Or.inr ((k_len c1 hN).mp c2))
      rw [e] at Zd
      refine x_iconst (pc := 16) C 0 dX0_get_16 (by decide) ?_
      exact x_iret (pc := 17) C Zd dX0_get_17
    · have hin : vp_in i N := fun q => q.elim c1 (fun q => c2 ((k_len c1 hN).mpr q))
      have e : kg N f i = f i.toNatClampNeg := if_neg hin
      rw [e] at Zd
      refine x_aload_n (pc := 10) C 0 dX0_get_10 rfl rfl ?_
      refine x_iload_n (pc := 11) C 1 dX0_get_11 rfl rfl ?_
      refine x_iald (pc := 12) C q0 hq hin dX0_get_12 ?_
      refine x_goto (pc := 13) C 17 dX0_get_13 (by decide) ?_
      exact x_iret (pc := 17) C Zd dX0_get_17)
theorem mX0_get_ (G : kG) {ws : va_W} {a N : Nat} {f : Nat → Int64} (q0 : Nat) (hq : ws[q0]? = some (a, .inl (G.2.2.1, N, .inr (.inl f)))) (hN : N < 2 ^ 31) (i : Int32) : kMet G yX0_get_ cX0_get_ 2 (some .long) rmN (0, 0) [.ref a, .int i] ws (some (.long (kgl N f i))) ws := kMet.mk (by decide +kernel) (Nat.le_of_ble_eq_true rfl) (fun E C Zd => by
  show kX G E (0, 0) ws 0 [(0, .ref a), (1, .int i)] []
  refine x_iload_n (pc := 0) C 1 dX0_get__0 rfl rfl ?_
  refine x_if_lt (pc := 1) C 16 dX0_get__1 (by decide) (fun c1 => ?_) (fun c1 => ?_)
  · have e : kgl N f i = 0 := if_pos (Or.inl c1)
    rw [e] at Zd
    refine x_lconst (pc := 16) C 0 dX0_get__16 (by decide) ?_
    exact x_lret (pc := 17) C Zd dX0_get__17
  · refine x_iload_n (pc := 4) C 1 dX0_get__4 rfl rfl ?_
    refine x_aload_n (pc := 5) C 0 dX0_get__5 rfl rfl ?_
    refine x_alenL (pc := 6) C q0 hq dX0_get__6 ?_
    refine x_icmp_ge (pc := 7) C 16 dX0_get__7 (by decide) (fun c2 => ?_) (fun c2 => ?_)
    · have e : kgl N f i = 0 := if_pos (Or.inr ((k_len c1 hN).mp c2))
      rw [e] at Zd
      refine x_lconst (pc := 16) C 0 dX0_get__16 (by decide) ?_
      exact x_lret (pc := 17) C Zd dX0_get__17
    · have hin : vp_in i N := fun q => q.elim c1 (fun q => c2 ((k_len c1 hN).mpr q))
      have e : kgl N f i = f i.toNatClampNeg := if_neg hin
      rw [e] at Zd
      refine x_aload_n (pc := 10) C 0 dX0_get__10 rfl rfl ?_
      refine x_iload_n (pc := 11) C 1 dX0_get__11 rfl rfl ?_
      refine x_lald (pc := 12) C q0 hq hin dX0_get__12 ?_
      refine x_goto (pc := 13) C 17 dX0_get__13 (by decide) ?_
      exact x_lret (pc := 17) C Zd dX0_get__17)
theorem mX0_put (G : kG) {ws ws' : va_W} {a N : Nat} {f : Nat → Int32} (q0 : Nat) (hq : ws[q0]? = some (a, .inl (G.2.1, N, .inl f))) (hN : N < 2 ^ 31) (i v : Int32) (hset : ws.set q0 (a, .inl (G.2.1, N, .inl (kp N f i v))) = ws') : kMet G yX0_put cX0_put 3 none rmN (0, 0) [.ref a, .int i, .int v] ws none ws' := kMet.mk (by decide +kernel) (Nat.le_of_ble_eq_true rfl) (fun E C Zd => by
  show kX G E (0, 0) ws 0 [(0, .ref a), (1, .int i), (2, .int v)] []
  refine x_iload_n (pc := 0) C 1 dX0_put_0 rfl rfl ?_
  refine x_if_lt (pc := 1) C 14 dX0_put_1 (by decide) (fun c1 => ?_) (fun c1 => ?_)
  · rw [show kp N f i v = f from if_pos (Or.inl c1), k_setself hq] at hset
    subst hset
    exact x_vret (pc := 14) C Zd dX0_put_14
  · refine x_iload_n (pc := 4) C 1 dX0_put_4 rfl rfl ?_
    refine x_aload_n (pc := 5) C 0 dX0_put_5 rfl rfl ?_
    refine x_alenI (pc := 6) C q0 hq dX0_put_6 ?_
    refine x_icmp_ge (pc := 7) C 14 dX0_put_7 (by decide) (fun c2 => ?_) (fun c2 => ?_)
    · rw [show kp N f i v = f from if_pos (Or.inr ((k_len c1 hN).mp c2)), k_setself hq] at hset
      subst hset
      exact x_vret (pc := 14) C Zd dX0_put_14
    · have hin : vp_in i N := fun q => q.elim c1 (fun q => c2 ((k_len c1 hN).mpr q))
      rw [show kp N f i v = upd f i.toNatClampNeg v from if_neg hin] at hset
      refine x_aload_n (pc := 10) C 0 dX0_put_10 rfl rfl ?_
      refine x_iload_n (pc := 11) C 1 dX0_put_11 rfl rfl ?_
      refine x_iload_n (pc := 12) C 2 dX0_put_12 rfl rfl ?_
      refine x_iast (pc := 13) C q0 hq hin hset dX0_put_13 ?_
      exact x_vret (pc := 14) C Zd dX0_put_14)
theorem mX0_put_ (G : kG) {ws ws' : va_W} {a N : Nat} {f : Nat → Int64} (q0 : Nat) (hq : ws[q0]? = some (a, .inl (G.2.2.1, N, .inr (.inl f)))) (hN : N < 2 ^ 31) (i : Int32) (v : Int64) (hset : ws.set q0 (a, .inl (G.2.2.1, N, .inr (.inl (kpl N f i v)))) = ws') : kMet G yX0_put_ cX0_put_ 4 none rmN (0, 0) [.ref a, .int i, .long v] ws none ws' := kMet.mk (by decide +kernel) (Nat.le_of_ble_eq_true rfl) (fun E C Zd => by
  show kX G E (0, 0) ws 0 [(0, .ref a), (1, .int i), (2, .long v)] []
  refine x_iload_n (pc := 0) C 1 dX0_put__0 rfl rfl ?_
  refine x_if_lt (pc := 1) C 14 dX0_put__1 (by decide) (fun c1 => ?_) (fun c1 => ?_)
  · rw [show kpl N f i v = f from if_pos (Or.inl c1), k_setself hq] at hset
    subst hset
    exact x_vret (pc := 14) C Zd dX0_put__14
  · refine x_iload_n (pc := 4) C 1 dX0_put__4 rfl rfl ?_
    refine x_aload_n (pc := 5) C 0 dX0_put__5 rfl rfl ?_
    refine x_alenL (pc := 6) C q0 hq dX0_put__6 ?_
    refine x_icmp_ge (pc := 7) C 14 dX0_put__7 (by decide) (fun c2 => ?_) (fun c2 => ?_)
    · rw [show kpl N f i v = f from if_pos (Or.inr ((k_len c1 hN).mp c2)), k_setself hq] at hset
      subst hset
      exact x_vret (pc := 14) C Zd dX0_put__14
    · have hin : vp_in i N := fun q => q.elim c1 (fun q => c2 ((k_len c1 hN).mpr q))
      rw [show kpl N f i v = vp_updL f i.toNatClampNeg v from if_neg hin] at hset
      refine x_aload_n (pc := 10) C 0 dX0_put__10 rfl rfl ?_
      refine x_iload_n (pc := 11) C 1 dX0_put__11 rfl rfl ?_
      refine x_lload_n (pc := 12) C 2 dX0_put__12 rfl rfl ?_
      refine x_last (pc := 13) C q0 hq hin hset dX0_put__13 ?_
      exact x_vret (pc := 14) C Zd dX0_put__14)
theorem mJ9_floorMod_7cf53 (G : kG) {ws : va_W} (x y : Int32) (hy : ¬ y = 0) : kMet G yJ9_floorMod_7cf53 cJ9_floorMod_7cf53 3 (some .int) rmN (0, 0) [.int x, .int y] ws (some (.int (kfm x y))) ws := kMet.mkF (by decide +kernel) (Nat.le_of_ble_eq_true rfl) (fun E C Zd => by
  show kX G E (0, 0) ws 0 [(0, .int x), (1, .int y)] []
  refine x_iload_n (pc := 0) C 0 dJ9_floorMod_7cf53_0 rfl rfl ?_
  refine x_iload_n (pc := 1) C 1 dJ9_floorMod_7cf53_1 rfl rfl ?_
  refine y_irem (pc := 2) C dJ9_floorMod_7cf53_2 hy ?_
  refine x_istore_n (pc := 3) C (lv' := [(2, .int (kr x y)), (0, .int x), (1, .int y)]) dJ9_floorMod_7cf53_3 rfl (by decide) rfl ?_
  refine x_iload_n (pc := 4) C 1 dJ9_floorMod_7cf53_4 rfl rfl ?_
  refine x_iload_n (pc := 5) C 2 dJ9_floorMod_7cf53_5 rfl rfl ?_
  refine x_ixor (pc := 6) C dJ9_floorMod_7cf53_6 ?_
  refine x_if_ge (pc := 7) C 18 dJ9_floorMod_7cf53_7 (by decide) (fun c1 => ?_) (fun c1 => ?_)
  · rw [show kfm x y = kr x y from if_pos c1] at Zd
    refine x_iload_n (pc := 18) C 0 dJ9_floorMod_7cf53_18 rfl rfl ?_
    exact x_iret (pc := 19) C Zd dJ9_floorMod_7cf53_19
  · refine x_iload_n (pc := 10) C 0 dJ9_floorMod_7cf53_10 rfl rfl ?_
    refine x_if_eq (pc := 11) C 18 dJ9_floorMod_7cf53_11 (by decide) (fun c2 => ?_) (fun c2 => ?_)
    · rw [show kfm x y = kr x y from (if_neg c1).trans (if_pos c2)] at Zd
      refine x_iload_n (pc := 18) C 0 dJ9_floorMod_7cf53_18 rfl rfl ?_
      exact x_iret (pc := 19) C Zd dJ9_floorMod_7cf53_19
    · rw [show kfm x y = kr x y + y from (if_neg c1).trans (if_neg c2)] at Zd
      refine x_iload_n (pc := 14) C 0 dJ9_floorMod_7cf53_14 rfl rfl ?_
      refine x_iload_n (pc := 15) C 2 dJ9_floorMod_7cf53_15 rfl rfl ?_
      refine x_iadd (pc := 16) C dJ9_floorMod_7cf53_16 ?_
      exact x_iret (pc := 17) C Zd dJ9_floorMod_7cf53_17)
/-- a row filled up to a place -/
def kfup {α : Type} (c : Nat) (f : Nat → α) (v : α) : Nat → α := fun j => if j < c then v else f j
theorem kfup_0 {α : Type} (f : Nat → α) (v : α) : kfup 0 f v = f := funext fun j => if_neg (Nat.not_lt_zero j)
theorem kfup_s (c : Nat) (f : Nat → Int32) (v : Int32) : upd (kfup c f v) c v = kfup (c + 1) f v := funext fun j => by
  unfold upd kfup
  by_cases h : j = c
  · rw [if_pos h, if_pos (by omega)]
  · rw [if_neg h]
    by_cases h2 : j < c
    · rw [if_pos h2, if_pos (by omega)]
    · rw [if_neg h2, if_neg (by omega)]
theorem kfup_sL (c : Nat) (f : Nat → Int64) (v : Int64) : vp_updL (kfup c f v) c v = kfup (c + 1) f v := funext fun j => by
  unfold vp_updL kfup
  by_cases h : j = c
  · rw [if_pos h, if_pos (by omega)]
  · rw [if_neg h]
    by_cases h2 : j < c
    · rw [if_pos h2, if_pos (by omega)]
    · rw [if_neg h2, if_neg (by omega)]
theorem k_getset {ws : va_W} {q0 : Nat} {x y : Nat × va_E} (h : ws[q0]? = some x) : (ws.set q0 y)[q0]? = some y := by
  obtain ⟨h1, h2⟩ := List.getElem?_eq_some_iff.mp h
  rw [List.getElem?_set_self h1]
theorem mJ7_fill_53178_L {G : kG} {E : kE} {ws ws' : va_W} {a N : Nat} {f : Nat → Int32} (q0 : Nat) (hq : ws[q0]? = some (a, .inl (G.2.1, N, .inl f))) (hN : N < 2 ^ 31) (v : Int32) (hset : ws.set q0 (a, .inl (G.2.1, N, .inl (kfill N f v))) = ws') (C : kOk G E cJ7_fill_53178 RJ7 4 rmN) (Zd : kEnd G E (0, 0) none none ws') :
    ∀ (d c : Nat), c + d = N → kX G E (0, 0) (ws.set q0 (a, .inl (G.2.1, N, .inl (kfup c f v)))) 5 [(0, .ref a), (1, .int v), (2, .int (nI c)), (3, .int (nI N))] [] := by
  intro d
  induction d with
  | zero =>
    intro c hc
    obtain rfl : c = N := by omega
    refine x_iload_n (pc := 5) C 2 dJ7_fill_53178_5 rfl rfl ?_
    refine x_iload_n (pc := 6) C 3 dJ7_fill_53178_6 rfl rfl ?_
    refine x_icmp_ge (pc := 7) C 20 dJ7_fill_53178_7 (by decide) (fun c1 => ?_) (fun c1 => ?_)
    · have e : ws.set q0 (a, .inl (G.2.1, c, .inl (kfup c f v))) = ws' := hset
      rw [e]
      exact x_vret (pc := 20) C Zd dJ7_fill_53178_20
    · exact absurd (nI_le (Nat.le_refl c) hN) c1
  | succ d ih =>
    intro c hc
    refine x_iload_n (pc := 5) C 2 dJ7_fill_53178_5 rfl rfl ?_
    refine x_iload_n (pc := 6) C 3 dJ7_fill_53178_6 rfl rfl ?_
    refine x_icmp_ge (pc := 7) C 20 dJ7_fill_53178_7 (by decide) (fun c1 => ?_) (fun c1 => ?_)
    · exact absurd c1 (nI_ge (by omega) hN)
    · refine x_aload_n (pc := 10) C 0 dJ7_fill_53178_10 rfl rfl ?_
      refine x_iload_n (pc := 11) C 2 dJ7_fill_53178_11 rfl rfl ?_
      refine x_iload_n (pc := 12) C 1 dJ7_fill_53178_12 rfl rfl ?_
      refine x_iast (pc := 13) C q0 (k_getset hq) (vp_in_nI (by omega) hN) (ws' := ws.set q0 (a, .inl (G.2.1, N, .inl (kfup (c + 1) f v)))) (by rw [nI_clamp (by omega), List.set_set, kfup_s]) dJ7_fill_53178_13 ?_
      refine x_iinc (pc := 14) C 2 (v := nI (c + 1)) (lv' := [(2, .int (nI (c + 1))), (0, .ref a), (1, .int v), (3, .int (nI N))]) dJ7_fill_53178_14 rfl (nI_1 c) (by decide) rfl ?_
      refine x_goto (pc := 17) C 5 dJ7_fill_53178_17 (by decide) ?_
      refine kX.pick [1, 2, 0, 3] (lv' := [(0, .ref a), (1, .int v), (2, .int (nI (c + 1))), (3, .int (nI N))]) rfl ?_
      exact ih (c + 1) (by omega)
theorem mJ7_fill_53178 (G : kG) {ws ws' : va_W} {a N : Nat} {f : Nat → Int32} (q0 : Nat) (hq : ws[q0]? = some (a, .inl (G.2.1, N, .inl f))) (hN : N < 2 ^ 31) (v : Int32) (hset : ws.set q0 (a, .inl (G.2.1, N, .inl (kfill N f v))) = ws') : kMet G yJ7_fill_53178 cJ7_fill_53178 4 none rmN (0, 0) [.ref a, .int v] ws none ws' := kMet.mk (by decide +kernel) (Nat.le_of_ble_eq_true rfl) (fun E C Zd => by
  show kX G E (0, 0) ws 0 [(0, .ref a), (1, .int v)] []
  refine x_iconst (pc := 0) C 0 dJ7_fill_53178_0 (by decide) ?_
  refine x_istore_n (pc := 1) C (lv' := [(2, .int 0), (0, .ref a), (1, .int v)]) dJ7_fill_53178_1 rfl (by decide) rfl ?_
  refine x_aload_n (pc := 2) C 1 dJ7_fill_53178_2 rfl rfl ?_
  refine x_alenI (pc := 3) C q0 hq dJ7_fill_53178_3 ?_
  refine x_istore_n (pc := 4) C (lv' := [(3, .int (nI N)), (2, .int 0), (0, .ref a), (1, .int v)]) dJ7_fill_53178_4 rfl (by decide) rfl ?_
  refine kX.pick [2, 3, 1, 0] (lv' := [(0, .ref a), (1, .int v), (2, .int (nI 0)), (3, .int (nI N))]) rfl ?_
  have h := mJ7_fill_53178_L q0 hq hN v hset C Zd N 0 (Nat.zero_add N)
  rw [kfup_0, k_setself hq] at h
  exact h)
theorem mJ7_fill_d0a16_L {G : kG} {E : kE} {ws ws' : va_W} {a N : Nat} {f : Nat → Int64} (q0 : Nat) (hq : ws[q0]? = some (a, .inl (G.2.2.1, N, .inr (.inl f)))) (hN : N < 2 ^ 31) (v : Int64) (hset : ws.set q0 (a, .inl (G.2.2.1, N, .inr (.inl (kfillL N f v)))) = ws') (C : kOk G E cJ7_fill_d0a16 RJ7 5 rmN) (Zd : kEnd G E (0, 0) none none ws') :
    ∀ (d c : Nat), c + d = N → kX G E (0, 0) (ws.set q0 (a, .inl (G.2.2.1, N, .inr (.inl (kfup c f v))))) 6 [(0, .ref a), (1, .long v), (3, .int (nI c)), (4, .int (nI N))] [] := by
  intro d
  induction d with
  | zero =>
    intro c hc
    obtain rfl : c = N := by omega
    refine x_iload_n (pc := 6) C 2 dJ7_fill_d0a16_6 rfl rfl ?_
    refine x_iload (pc := 7) C 3 dJ7_fill_d0a16_7 rfl ?_
    refine x_icmp_ge (pc := 9) C 22 dJ7_fill_d0a16_9 (by decide) (fun c1 => ?_) (fun c1 => ?_)
    · have e : ws.set q0 (a, .inl (G.2.2.1, c, .inr (.inl (kfup c f v)))) = ws' := hset
      rw [e]
      exact x_vret (pc := 22) C Zd dJ7_fill_d0a16_22
    · exact absurd (nI_le (Nat.le_refl c) hN) c1
  | succ d ih =>
    intro c hc
    refine x_iload_n (pc := 6) C 2 dJ7_fill_d0a16_6 rfl rfl ?_
    refine x_iload (pc := 7) C 3 dJ7_fill_d0a16_7 rfl ?_
    refine x_icmp_ge (pc := 9) C 22 dJ7_fill_d0a16_9 (by decide) (fun c1 => ?_) (fun c1 => ?_)
    · exact absurd c1 (nI_ge (by omega) hN)
    · refine x_aload_n (pc := 12) C 0 dJ7_fill_d0a16_12 rfl rfl ?_
      refine x_iload_n (pc := 13) C 2 dJ7_fill_d0a16_13 rfl rfl ?_
      refine x_lload_n (pc := 14) C 1 dJ7_fill_d0a16_14 rfl rfl ?_
      refine x_last (pc := 15) C q0 (k_getset hq) (vp_in_nI (by omega) hN) (ws' := ws.set q0 (a, .inl (G.2.2.1, N, .inr (.inl (kfup (c + 1) f v))))) (by rw [nI_clamp (by omega), List.set_set, kfup_sL]) dJ7_fill_d0a16_15 ?_
      refine x_iinc (pc := 16) C 2 (v := nI (c + 1)) (lv' := [(3, .int (nI (c + 1))), (0, .ref a), (1, .long v), (4, .int (nI N))]) dJ7_fill_d0a16_16 rfl (nI_1 c) (by decide) rfl ?_
      refine x_goto (pc := 19) C 6 dJ7_fill_d0a16_19 (by decide) ?_
      refine kX.pick [1, 2, 0, 3] (lv' := [(0, .ref a), (1, .long v), (3, .int (nI (c + 1))), (4, .int (nI N))]) rfl ?_
      exact ih (c + 1) (by omega)
theorem mJ7_fill_d0a16 (G : kG) {ws ws' : va_W} {a N : Nat} {f : Nat → Int64} (q0 : Nat) (hq : ws[q0]? = some (a, .inl (G.2.2.1, N, .inr (.inl f)))) (hN : N < 2 ^ 31) (v : Int64) (hset : ws.set q0 (a, .inl (G.2.2.1, N, .inr (.inl (kfillL N f v)))) = ws') : kMet G yJ7_fill_d0a16 cJ7_fill_d0a16 5 none rmN (0, 0) [.ref a, .long v] ws none ws' := kMet.mk (by decide +kernel) (Nat.le_of_ble_eq_true rfl) (fun E C Zd => by
  show kX G E (0, 0) ws 0 [(0, .ref a), (1, .long v)] []
  refine x_iconst (pc := 0) C 0 dJ7_fill_d0a16_0 (by decide) ?_
  refine x_istore_n (pc := 1) C (lv' := [(3, .int 0), (0, .ref a), (1, .long v)]) dJ7_fill_d0a16_1 rfl (by decide) rfl ?_
  refine x_aload_n (pc := 2) C 1 dJ7_fill_d0a16_2 rfl rfl ?_
  refine x_alenL (pc := 3) C q0 hq dJ7_fill_d0a16_3 ?_
  refine x_istore (pc := 4) C (lv' := [(4, .int (nI N)), (3, .int 0), (0, .ref a), (1, .long v)]) dJ7_fill_d0a16_4 (by decide) rfl ?_
  refine kX.pick [2, 3, 1, 0] (lv' := [(0, .ref a), (1, .long v), (3, .int (nI 0)), (4, .int (nI N))]) rfl ?_
  have h := mJ7_fill_d0a16_L q0 hq hN v hset C Zd N 0 (Nat.zero_add N)
  rw [kfup_0, k_setself hq] at h
  exact h)
