/-! CALLS OF THE LAW: a contract of a method that reads the script; the class's calls beside the law's two rows; the law's end -/
def kPreS (G : kG) (b L : Nat) (xs : Nat → Int32) (ws : va_W) (sz : Nat) : State → Prop := fun U => kPre G ws sz U ∧ va_X b L xs U U.heap ∧ b < U.heap.size ∧ ¬ va_A ws sz b
def kMetS (G : kG) (y : MethodName) (bytes : ByteArray) (n : Nat) (ret : Option FieldType) (rm : Room) (cs : Nat × Nat) (av : List Value) (b L : Nat) (xs : Nat → Int32) (ws : va_W) (res : Option Value) (ws' : va_W) : Prop :=
  ∀ (l : Launch) (sz : Nat), Met l y (.code y bytes n ret :: wsL_law) rm (va_Pc av (kPreS G b L xs ws sz)) (kQ G (va_A ws sz) res ws') cs.1 cs.2 (va_A ws sz)
theorem kMetS.mk {G : kG} {y : MethodName} {bytes : ByteArray} {n : Nat} {ret : Option FieldType} {rm : Room} {cs : Nat × Nat} {av : List Value} {b L : Nat} {xs : Nat → Int32} {ws : va_W} {res : Option Value} {ws' : va_W}
    (hy : plainName y.cls = true) (hsl : (lg_sl av).length ≤ n)
    (body : ∀ E : kE, kOk G E bytes y.cls n rm → kEnd G E cs ret res ws' → kScr E b L xs → kX G E (0, 0) ws 0 (lv_args 0 av) []) : kMetS G y bytes n ret rm cs av b L xs ws res ws' := by
  intro l sz
  refine Met.ofW (cc := bytes) (maxL := n) (ret := ret) hy rfl ?_
  intro p e s m args below meth c s₁ B hml hv
  obtain ⟨rfl, ⟨hsz, hP, hK, hD0, hNw⟩, hX, hbl, hbA⟩ := hv
  subst hsz
  have hts := atoms_spec (ws := .code y bytes n ret :: wsL_law) B.pre
  have hD := hD0.self (sz := s.heap.size)
  have hE := body (p, l, e, rm, s, m, av.toArray, below, meth, c, va_A ws s.heap.size, MQ below (kQ G (va_A ws s.heap.size) res ws') av.toArray s cs.1 cs.2 (va_A ws s.heap.size), n)
    ⟨B.exec, B.bytes, hml, findClass_of_methodNamed B.named, fun w h => hts w (List.mem_cons_of_mem _ h), B.notSynchronized, hK, fun q h => Or.inr h, rfl, rfl, hNw⟩ ⟨B.returns, rfl⟩ ⟨hX, hbl, hbA⟩
  rw [lg_entry_eq]
  exact hE s.heap [] _ hP hD va_S.rf (lv_entry av hsl)
section KR
variable {G : kG} {E : kE} {cs : Nat × Nat} {cc : ByteArray} {own : String} {n : Nat} {rm : Room} {ws : va_W} {pc : Nat} {lv : List (Nat × Value)} {stk : List Value}
theorem y_sld (C : kOk G E cc own n rm) {b L : Nat} {xs : Nat → Int32} (X : kScr E b L xs) {i x : Int32} (hin : vp_in i L) (hv : xs i.toNatClampNeg = x) (hdg : decode cc pc = .ok (.iaload, 1)) (kk : kX G E cs ws (pc + 1) lv (.int x :: stk)) : kX G E cs ws pc lv (.int i :: .ref b :: stk) := by
  subst hv
  exact x_sld C X hin hdg kk
theorem kblindS (av : List Value) (b L : Nat) (xs : Nat → Int32) (sz : Nat) : FrameBlind (va_Pc av (kPreS G b L xs ws sz)) := fun a U g mk q => by
  obtain ⟨q0, ⟨q1, qP, qK, qD, qN⟩, qX, qb, qA⟩ := q
  exact ⟨q0, ⟨q1, qP, va_K.moved (u := U) (U := U.calling g mk a) (Vm.Alike.refl U.vm) qK, qD, fun w hw => va_Nw.same (u := U) (U := U.calling g mk a) (kNest_on w hw) rfl (qN w hw)⟩, va_X.moved (u := U) (U := U.calling g mk a) (Vm.Alike.refl U.vm) qX, qb, qA⟩
theorem x_callSS (C : kOk G E cc own n rm) {b L : Nat} {xs : Nat → Int32} (X : kScr E b L xs) {y : MethodName} {bytes : ByteArray} {maxL np index : Nat} {ret : Option FieldType} {rmc : Room} {rest stk' : List Value} {res : Option Value} {ws1 : va_W}
    (As : List Value) (M : kMetS G y bytes maxL ret rmc (0, 0) As b L xs ws res ws1) (Y : kYS y bytes maxL ret np) (hL : Cond.methodLink own index y ∈ wsL_law)
    (hR : rmc.frames + 1 ≤ rm.frames ∧ 8 + (maxL + 11) + rmc.locals ≤ rm.locals ∧ rmc.cells = 0 ∧ rmc.slots = 0) (hcs : cs.1 ≤ rm.cells ∧ cs.2 ≤ rm.slots) (hst : stk = As.reverse ++ rest) (hn : As.length = np) (hW : (rest.map fun v => v.category).sum ≤ 8) (hst' : res.toList ++ rest = stk') (hdg : decode cc pc = .ok (.invokestatic index, 3))
    (k : kX G E cs ws1 (pc + 3) lv stk') : kX G E cs ws pc lv stk := by
  obtain ⟨p, l, e, R, s, m, args, below, meth, c, A, Q, nL⟩ := E
  obtain ⟨hx, hb, hml, hown, hts, -, hK, hA, -, rfl, hNw⟩ := C
  obtain ⟨y1, y3, y4, y5⟩ := Y
  obtain ⟨X1, X2, X3⟩ := X
  subst hst'
  intro H locs ls hP hD hS hl
  have hG : GoodIn wsL_law (Cond.code y bytes maxL ret :: wsL_law) := kGI (fun w hw => by
    rcases List.mem_cons.mp hw with h | h
    · rw [h]; exact y4
    · exact h)
  have hbH : b < H.size := Nat.lt_of_lt_of_le X2 hS.1
  have hbA : ¬ va_A ws H.size b := fun q => by
    rcases q with ⟨k, e, hk⟩ | q
    · exact X3 (hD.2 k (b, e) hk)
    · exact absurd hbH (Nat.not_lt.mpr q)
  exact kX.call (va_runS (As := As) (rest := rest) ⟨hx, hb, hml, hown, hts⟩ (M l H.size) ⟨callB_of np hts hG rfl hR.2.2.1 hR.2.2.2 (hts _ y3) (hts _ hL) y5 ⟨hR.1, hR.2.1⟩, hts _ y1⟩
    ⟨kblindS _ _ _ _ _, fun U hU hW => ⟨rfl, ⟨by rw [hU], by rw [hU]; exact hP, va_K.moved hW.alike hK, hD.weaken (fun _ _ _ _ => trivial), kNest_warm hW hNw⟩, va_X.moved hW.alike (by rw [hU]; exact X1.kept (hS.2.1 b X2 X3)), by rw [hU]; exact hbH, hbA⟩⟩ rfl hn hl.1 hst (lv_room hW) hdg hcs) hD hS hl hA k
section VL
variable {a : Nat → Nat}
set_option maxRecDepth 100000 in
theorem kX.toL (st st1 : kS) (k : kX G E cs (wL G a (kJ st st1)) pc lv stk) : kX G E cs ([cL31 G a st, cL32 G a st] ++ wX G a st1) pc lv stk := kX.reord [2, 3, 4, 5, 6, 7, 8, 9, 10, 11, 12, 13, 14, 15, 16, 17, 18, 19, 20, 21, 22, 23, 24, 25, 26, 27, 28, 29, 30, 31, 32, 0, 1] (by decide) rfl rfl k
set_option maxRecDepth 100000 in
theorem kX.toL0 (st : kS) (k : kX G E cs (wL G a st) pc lv stk) : kX G E cs ([cL31 G a st, cL32 G a st] ++ wX G a st) pc lv stk := kX.reord [2, 3, 4, 5, 6, 7, 8, 9, 10, 11, 12, 13, 14, 15, 16, 17, 18, 19, 20, 21, 22, 23, 24, 25, 26, 27, 28, 29, 30, 31, 32, 0, 1] (by decide) rfl rfl k
set_option maxRecDepth 100000 in
theorem kX.fromL (st : kS) (k : kX G E cs ([cL31 G a st, cL32 G a st] ++ wX G a st) pc lv stk) : kX G E cs (wL G a st) pc lv stk := kX.reord [31, 32, 0, 1, 2, 3, 4, 5, 6, 7, 8, 9, 10, 11, 12, 13, 14, 15, 16, 17, 18, 19, 20, 21, 22, 23, 24, 25, 26, 27, 28, 29, 30] (by decide) rfl rfl k
/-- a call of the class that changes it -/
theorem x_callVL (C : kOk G E cc own n rm) {y : MethodName} {bytes : ByteArray} {maxL np index : Nat} {ret : Option FieldType} {rmc : Room} {rest stk' : List Value} {res : Option Value} (st : kS) {st1 : kS}
    (As : List Value) (M : kMet G y bytes maxL ret rmc (0, 0) (.ref (a 0) :: As) (wX G a st) res (wX G a st1)) (Y : kYV y RX9 bytes maxL ret np) (hL : Cond.methodLink own index y ∈ wsL_law)
    (hR : rmc.frames + 1 ≤ rm.frames ∧ 8 + (maxL + 11) + rmc.locals ≤ rm.locals ∧ rmc.cells = 0 ∧ rmc.slots = 0) (hcs : cs.1 ≤ rm.cells ∧ cs.2 ≤ rm.slots) (hst : stk = As.reverse ++ .ref (a 0) :: rest) (hn : As.length = np) (hW : (rest.map fun v => v.category).sum ≤ 8) (hst' : res.toList ++ rest = stk') (hdg : decode cc pc = .ok (.invokevirtual index, 3))
    (k : kX G E cs (wL G a (kJ st st1)) (pc + 3) lv stk') : kX G E cs (wL G a st) pc lv stk := by
  refine kX.fromL st ?_
  exact x_callVF C [cL31 G a st, cL32 G a st] 0 As rfl rfl rfl M Y hL hR hcs hst hn hW hst' hdg (kX.toL st st1 k)
/-- a call of the class that leaves it as it was -/
theorem x_callVL0 (C : kOk G E cc own n rm) {y : MethodName} {bytes : ByteArray} {maxL np index : Nat} {ret : Option FieldType} {rmc : Room} {rest stk' : List Value} {res : Option Value} (st : kS)
    (As : List Value) (M : kMet G y bytes maxL ret rmc (0, 0) (.ref (a 0) :: As) (wX G a st) res (wX G a st)) (Y : kYV y RX9 bytes maxL ret np) (hL : Cond.methodLink own index y ∈ wsL_law)
    (hR : rmc.frames + 1 ≤ rm.frames ∧ 8 + (maxL + 11) + rmc.locals ≤ rm.locals ∧ rmc.cells = 0 ∧ rmc.slots = 0) (hcs : cs.1 ≤ rm.cells ∧ cs.2 ≤ rm.slots) (hst : stk = As.reverse ++ .ref (a 0) :: rest) (hn : As.length = np) (hW : (rest.map fun v => v.category).sum ≤ 8) (hst' : res.toList ++ rest = stk') (hdg : decode cc pc = .ok (.invokevirtual index, 3))
    (k : kX G E cs (wL G a st) (pc + 3) lv stk') : kX G E cs (wL G a st) pc lv stk := by
  refine kX.fromL st ?_
  exact x_callVF C [cL31 G a st, cL32 G a st] 0 As rfl rfl rfl M Y hL hR hcs hst hn hW hst' hdg (kX.toL0 st k)
end VL
/-- the law's surroundings -/
def kLaw (E : kE) (b : Nat) : Prop :=
  match E with
  | (p, l, e, R, s, m, args, below, meth, c, A, Q, nL) => meth.sig.returnType = ret ∧ args = #[Value.ref b] ∧ Q = lw_Z below #[Value.ref b] s ∧ ∀ q : Nat, A q → s.heap.size ≤ q
def kLawZ (E : kE) (b : Nat) (cs : Nat × Nat) (z : Int32) : Prop := kLaw E b ∧ (cs.1 ≤ room_1.cells ∧ cs.2 ≤ room_1.slots) ∧ z = 1
theorem x_lawretZ {b : Nat} {z : Int32} (C : kOk G E cL_law RL 36 room_1) (Z : kLawZ E b cs z) (hdg : decode cL_law pc = .ok (.ireturn, 1)) : kX G E cs ws pc lv [.int z] := by
  obtain ⟨p, l, e, R, s, m, args, below, meth, c, A, Q, nL⟩ := E
  obtain ⟨hx, hb, -, -, -, hlocks, hK, -, -, rfl, -⟩ := C
  obtain ⟨⟨hr, rfl, rfl, hA⟩, hcs, rfl⟩ := Z
  intro H locs ls hP hD hS h
  refine va_forget (fun q hq => hA _ (hS.2.2 q hq)) ?_
  refine W.widen (k := 33) (n := 13147) hcs.1 hcs.2 ?_
  exact lw_ret hx hb hr hlocks hdg
end KR
