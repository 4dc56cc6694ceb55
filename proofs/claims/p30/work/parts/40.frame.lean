/-! FRAMES AND MAKERS: a contract over more cells; constructors; the script -/
def kQP (G : kG) (A : Nat → Prop) (P : Option Value → va_W → Prop) : Array Value → State → Outcome → State → Prop := fun _ st oc t =>
  (∃ (res : Option Value) (ws' : va_W), oc = .returned res ∧ P res ws' ∧ va_P (kD G) vwCl ws' t.heap ∧ va_K (kD G) vwCl (kT G) t ∧ va_D A ws') ∧ va_F A st t
def kMetP (G : kG) (y : MethodName) (bytes : ByteArray) (n : Nat) (ret : Option FieldType) (rm : Room) (cs : Nat × Nat) (av : List Value) (ws : va_W) (P : Option Value → va_W → Prop) : Prop :=
  ∀ (l : Launch) (sz : Nat), Met l y (.code y bytes n ret :: wsL_law) rm (va_Pc av (kPre G ws sz)) (kQP G (va_A ws sz) P) cs.1 cs.2 (va_A ws sz)
theorem kMet.toP {G : kG} {y : MethodName} {bytes : ByteArray} {n : Nat} {ret : Option FieldType} {rm : Room} {cs : Nat × Nat} {av : List Value} {ws ws' : va_W} {res : Option Value} (M : kMet G y bytes n ret rm cs av ws res ws') : kMetP G y bytes n ret rm cs av ws (fun r w => r = res ∧ w = ws') := by
  intro l sz
  refine MetFree.mono (M l sz) (fun _ _ h => h) (fun _ _ _ _ _ h => h) ?_
  intro a s o t _ h
  obtain ⟨⟨⟨h1, h2, h3, h4⟩, h5⟩, h6⟩ := h
  exact ⟨⟨⟨res, ws', h1, ⟨rfl, rfl⟩, h2, h3, h4⟩, h5⟩, h6⟩
theorem va_at_lt {D : va_G} {cl : List vw_C} {q : Nat × va_E} {H : Heap} {ws : va_W} (hP : va_P D cl ws H) {k : Nat} (h : ws[k]? = some q) : q.1 < H.size := (hP k q h).lt
/-- THE FRAME RULE, of a contract -/
theorem kMetP.frame {G : kG} {y : MethodName} {bytes : ByteArray} {n : Nat} {ret : Option FieldType} {rm : Room} {cs : Nat × Nat} {av : List Value} {ws : va_W} {P : Option Value → va_W → Prop} (wr : va_W) (M : kMetP G y bytes n ret rm cs av ws P) : kMetP G y bytes n ret rm cs av (wr ++ ws) (fun r w => ∃ w1, P r w1 ∧ w = wr ++ w1) := by
  intro l sz
  have sub : ∀ (k : Nat) (q : Nat × va_E), ws[k]? = some q → (wr ++ ws)[wr.length + k]? = some q := fun k q h => by
    rw [List.getElem?_append_right (Nat.le_add_right _ _), Nat.add_sub_cancel_left]
    exact h
  have subr : ∀ (k : Nat) (q : Nat × va_E), wr[k]? = some q → k < wr.length ∧ (wr ++ ws)[k]? = some q := fun k q h => by
    have hk := (List.getElem?_eq_some_iff.mp h).1
    exact ⟨hk, by rw [List.getElem?_append_left hk]; exact h⟩
  have wide : ∀ q : Nat, va_A ws sz q → va_A (wr ++ ws) sz q := fun q h => by
    rcases h with ⟨k, e, h⟩ | h
    · exact Or.inl ⟨wr.length + k, e, sub k _ h⟩
    · exact Or.inr h
  refine MetFree.mono (M l sz) ?_ (fun _ _ _ _ _ h => h) ?_
  · intro a s h
    obtain ⟨h1, h2, h3, h4, h5, h6⟩ := h
    refine ⟨h1, h2, fun k q hk => h3 _ q (sub k q hk), h4, ⟨fun i j p q hi hj e => ?_, fun _ _ _ => trivial⟩, h6⟩
    have := h5.1 _ _ p q (sub i p hi) (sub j q hj) e
    omega
  · intro a s o t h hq
    obtain ⟨-, h2, h3, h4, h5, h6⟩ := h
    obtain ⟨⟨⟨res, w1, g1, g2, g3, g4, g5⟩, g6⟩, L, g7, g8⟩ := hq
    have out : ∀ (k : Nat) (q : Nat × va_E), wr[k]? = some q → q.1 < s.heap.size ∧ ¬ va_A ws sz q.1 := fun k q hk => by
      have hlt := va_at_lt h3 (subr k q hk).2
      refine ⟨hlt, fun hA => ?_⟩
      rcases hA with ⟨j, e, hj⟩ | hA
      · have := h5.1 _ _ q (q.1, e) (subr k q hk).2 (sub j _ hj) rfl
        have := (subr k q hk).1
        omega
      · omega
    refine ⟨⟨⟨res, wr ++ w1, g1, ⟨w1, g2, rfl⟩, ?_, g4, ?_⟩, g6.1, fun q h1 h2 => g6.2 q h1 (fun z => h2 (wide q z))⟩, L, g7, fun q hq => wide _ (g8 q hq)⟩
    · have hr : va_P (kD G) vwCl wr t.heap := by
        have h0 : va_P (kD G) vwCl wr s.heap := fun k q hk => h3 k q (subr k q hk).2
        exact h0.kept (fun k q hk => g6.2 q.1 (out k q hk).1 (out k q hk).2)
      intro k q hk
      by_cases hl : k < wr.length
      · rw [List.getElem?_append_left hl] at hk
        exact hr k q hk
      · rw [List.getElem?_append_right (by omega)] at hk
        exact g3 _ q hk
    · refine ⟨fun i j p q hi hj e => ?_, fun k q hk => ?_⟩
      · by_cases hi' : i < wr.length
        · rw [List.getElem?_append_left hi'] at hi
          by_cases hj' : j < wr.length
          · rw [List.getElem?_append_left hj'] at hj
            exact h5.1 _ _ p q (subr i p hi).2 (subr j q hj).2 e
          · rw [List.getElem?_append_right (by omega)] at hj
            exact absurd (by rw [e]; exact g5.2 _ q hj) (out i p hi).2
        · rw [List.getElem?_append_right (by omega)] at hi
          by_cases hj' : j < wr.length
          · rw [List.getElem?_append_left hj'] at hj
            exact absurd (by rw [← e]; exact g5.2 _ p hi) (out j q hj).2
          · rw [List.getElem?_append_right (by omega)] at hj
            have := g5.1 _ _ p q hi hj e
            omega
      · by_cases hl : k < wr.length
        · rw [List.getElem?_append_left hl] at hk
          exact Or.inl ⟨k, q.2, (subr k q hk).2⟩
        · rw [List.getElem?_append_right (by omega)] at hk
          exact wide _ (g5.2 _ q hk)
/-- a constructor's end -/
def kEndP (G : kG) (E : kE) (cs : Nat × Nat) (ret : Option FieldType) (P : Option Value → va_W → Prop) : Prop :=
  match E with
  | (p, l, e, R, s, m, args, below, meth, c, A, Q, nL) => meth.sig.returnType = ret ∧ Q = MQ below (kQP G A P) args s cs.1 cs.2 A ∧ meth.name = "<init>"
theorem kMetP.mk {G : kG} {y : MethodName} {bytes : ByteArray} {n : Nat} {ret : Option FieldType} {rm : Room} {cs : Nat × Nat} {av : List Value} {ws : va_W} {P : Option Value → va_W → Prop}
    (hy : plainName y.cls = true) (hi : y.name = "<init>") (hsl : (lg_sl av).length ≤ n)
    (body : ∀ E : kE, kOk G E bytes y.cls n rm → kEndP G E cs ret P → kX G E (0, 0) ws 0 (lv_args 0 av) []) : kMetP G y bytes n ret rm cs av ws P := by
  intro l sz
  refine Met.ofW (cc := bytes) (maxL := n) (ret := ret) hy rfl ?_
  intro p e s m args below meth c s₁ B hml hv
  obtain ⟨rfl, hsz, hP, hK, hD0, hNw⟩ := hv
  subst hsz
  have hts := atoms_spec (ws := .code y bytes n ret :: wsL_law) B.pre
  have hD := hD0.self (sz := s.heap.size)
  have hE := body (p, l, e, rm, s, m, av.toArray, below, meth, c, va_A ws s.heap.size, MQ below (kQP G (va_A ws s.heap.size) P) av.toArray s cs.1 cs.2 (va_A ws s.heap.size), n)
    ⟨B.exec, B.bytes, hml, findClass_of_methodNamed B.named, fun w h => hts w (List.mem_cons_of_mem _ h), B.notSynchronized, hK, fun q h => Or.inr h, rfl, rfl, hNw⟩ ⟨B.returns, rfl, (name_of_methodNamed B.named B.method).1.trans hi⟩
  rw [lg_entry_eq]
  exact hE s.heap [] _ hP hD va_S.rf (lv_entry av hsl)
section KR
variable {G : kG} {E : kE} {cs : Nat × Nat} {cc : ByteArray} {own : String} {n : Nat} {rm : Room} {ws : va_W} {pc : Nat} {lv : List (Nat × Value)} {stk : List Value}
theorem x_vretP (C : kOk G E cc own n rm) {P : Option Value → va_W → Prop} (Z : kEndP G E cs none P) (hP0 : P none ws) (hdg : decode cc pc = .ok (.return_, 1)) : kX G E cs ws pc lv [] := by
  obtain ⟨p, l, e, R, s, m, args, below, meth, c, A, Q, nL⟩ := E
  obtain ⟨hx, hb, -, -, -, hlocks, hK, -⟩ := C
  obtain ⟨hr, rfl, -⟩ := Z
  exact fun H locs ls hP hD hS h => W.vret hx hb hr (fun t ht hW => ⟨⟨none, ws, rfl, hP0, by rw [ht]; exact hP, va_K.moved hW.alike hK, hD⟩, hS.F ht⟩) hS.2.2 hdg hlocks
/-- the cells in another order -/
theorem kX.reord {ws' : va_W} (is : List Nat) (hn : va_nd is = true) (h1 : is.filterMap (fun i => ws[i]?) = ws') (h2 : is.map (fun i => ws[i]?) = ws'.map some) (k : kX G E cs ws' pc lv stk) : kX G E cs ws pc lv stk := by
  obtain ⟨p, l, e, R, s, m, args, below, meth, c, A, Q, nL⟩ := E
  exact fun H locs ls hP hD hS h => k H locs ls (hP.sub is h1) (hD.sub is hn h2) hS h
theorem x_objInit (C : kOk G E cc own n rm) {idx a : Nat} (h1 : Cond.methodLink own idx Lib.objectInit ∈ wsL_law) (h2 : Cond.instanceMethod Lib.objectInit ∈ wsL_law) (h3 : Cond.code Lib.objectInit ⟨#[0xb1]⟩ 1 none ∈ wsL_law) (hR : 1 ≤ rm.frames ∧ 20 ≤ rm.locals) (hW : (stk.map fun v => v.category).sum ≤ 8) (hdg : decode cc pc = .ok (.invokespecial idx, 3)) (k : kX G E cs ws (pc + 3) lv stk) : kX G E cs ws pc lv (.ref a :: stk) := by
  obtain ⟨p, l, e, R, s, m, args, below, meth, c, A, Q, nL⟩ := E
  obtain ⟨hx, hb, hml, hown, hts, -, -, -, -, rfl, -⟩ := C
  intro H locs ls hP hD hS h
  refine W.objInit hx hb hown (hts _ h1) (hts _ h2) (hts _ h3) rfl (by rw [hml]; exact h.1) rfl hdg hR.1 ?_ ?_
  · show 2 * 0 + _ + 12 ≤ _
    omega
  · exact W.eq (g2 := F0 m (pc + 3) ls stk) rfl (k H locs ls hP hD hS h)
theorem x_new (C : kOk G E cc own n rm) {C0 : String} {T : u_T} {N ci index : Nat} (hin : ∀ w ∈ u_ws C0 T N, w ∈ wsL_law) (ty : Nat → FieldType) (hty : ∀ k, k < N → parseFieldDescriptor (T k).2.2.1 = some (ty k)) (hcl : Cond.classLink own index C0 ∈ wsL_law) (hinst : Cond.instantiable C0 N ∈ wsL_law) (hini : Cond.initialized C0 ∈ wsL_law) (hc : vwCl[ci]? = some (C0, T, N)) {fs : List Value} (hfs : ∀ j, j < N → defaultValue (ty j) = vp_V fs j) (hr : cs.1 + 1 ≤ rm.cells ∧ cs.2 + N ≤ rm.slots) (hdg : decode cc pc = .ok (.new index, 3)) (kk : ∀ q : Nat, kX G E (cs.1 + 1, cs.2 + N) (ws ++ [(q, .inr (ci, fs))]) (pc + 3) lv (.ref q :: stk)) : kX G E cs ws pc lv stk := by
  obtain ⟨p, l, e, R, s, m, args, below, meth, c, A, Q, nL⟩ := E
  obtain ⟨hx, hb, -, hown, hts, -, hK, hA, -, rfl, -⟩ := C
  exact fun H locs ls hP hD hS h => va_new hx hb hts hin ty hty hown (hts _ hcl) (hts _ hinst) (hts _ hini) hK hP hD hS hA hc hfs hr.1 hr.2 hdg (fun q H1 hP1 hD1 hS1 => kk q H1 locs ls hP1 hD1 hS1 h)
theorem x_newa (C : kOk G E cc own n rm) (atype : ArrayType) (harr : Cond.arrayClass (newarray.typeOf atype) ∈ wsL_law) (ty : FieldType) (hty : newarray.typeOf atype = ty) (t0 : Nat) {cA : ClassId} (hT : (kT G)[t0]? = some (cA, ty)) (hRA : ∀ (U : State) (c : ClassId), va_RA U c ty = (U.vm.findClass ("[" ++ ty.toString) = some c)) {k : Int32} (N' : Nat) (a0 : vp_A) (ha : ∀ cA : ClassId, vp_cell cA a0 = arrV cA N' (fun _ => defaultValue ty)) (hn : ¬ k < 0) (hN : k.toNatClampNeg = N') (hbytes : N' * componentBytes ty ≤ 536870912) (hr : cs.1 + 1 ≤ rm.cells ∧ cs.2 + N' ≤ rm.slots) (hdg : decode cc pc = .ok (.newarray atype, 2))
    (kk : ∀ q : Nat, kX G E (cs.1 + 1, cs.2 + N') (ws ++ [(q, .inl (cA, a0))]) (pc + 2) lv (.ref q :: stk)) : kX G E cs ws pc lv (.int k :: stk) := by
  obtain ⟨p, l, e, R, s, m, args, below, meth, c, A, Q, nL⟩ := E
  obtain ⟨hx, hb, -, hown, hts, -, hK, hA, -, rfl, -⟩ := C
  refine fun H locs ls hP hD hS h => va_newa hx hb (hts _ harr) hty hK hP hD hS hA ha hn hN hbytes hr.1 hr.2 hdg (fun q cA' H1 hK1 hP1 hD1 hS1 => ?_)
  have e1 := (hK1.2 (kT G).length (cA', ty) (by rw [List.getElem?_append_right (Nat.le_refl _), Nat.sub_self]; rfl)).2
  have e2 := (hK.2 t0 _ hT).2
  rw [hRA] at e1 e2
  have e3 : cA' = cA := Option.some.inj (e1.symm.trans e2)
  subst e3
  exact kk q H1 locs ls hP1 hD1 hS1 h
theorem x_putF (C : kOk G E cc own n rm) {P : Option Value → va_W → Prop} {cs0 : Nat × Nat} {rt : Option FieldType} (Z : kEndP G E cs0 rt P) {C0 : String} {T : u_T} {N ci index a : Nat} (hin : ∀ w ∈ u_ws C0 T N, w ∈ wsL_law) (ty0 : Nat → FieldType) (hty : ∀ k, k < N → parseFieldDescriptor (T k).2.2.1 = some (ty0 k)) (hnm : ∀ a, a < N → ∀ b, b < N → a ≠ b → (T a).2.1 ≠ (T b).2.1) (q0 : Nat) {fs : List Value} (he : ws[q0]? = some (a, .inr (ci, fs))) (hc : vwCl[ci]? = some (C0, T, N)) (k : Nat) (hk : k < N) (hlink : Cond.fieldLink own index (T k).1 (T k).2.1 (T k).2.2.1 ∈ wsL_law) (hfin : (T k).2.2.2 = true) (hdecl : (T k).1 = own) (ty : FieldType) {v : Value} (hd : parseFieldDescriptor (T k).2.2.1 = some ty) (hn : narrow ty v = v) (hfit : fits ty v = true) (hl : k < fs.length) {ws' : va_W} (hset : ws.set q0 (a, .inr (ci, fs.set k v)) = ws') (hdg : decode cc pc = .ok (.putfield index, 3)) (kk : kX G E cs ws' (pc + 3) lv stk) : kX G E cs ws pc lv (v :: .ref a :: stk) := by
  obtain ⟨p, l, e, R, s, m, args, below, meth, c, A, Q, nL⟩ := E
  obtain ⟨hx, hb, -, hown, hts, -, hK, -⟩ := C
  obtain ⟨-, -, hnm2⟩ := Z
  subst hset
  exact fun H locs ls hP hD hS h => va_putF hx hb hts hin ty0 hty hnm hown hK hP hD hS q0 he hc k hk (hts _ hlink) (fun _ h => h) hfin hnm2 hdecl hd hn hfit hl hdg (fun H1 locs1 hP1 hD1 hS1 => kk H1 locs1 ls hP1 hD1 hS1 h)
theorem kX.callP {p : Program} {l : Launch} {e : Env} {R : Room} {s : State} {m : MethodId} {args : Array Value} {below : List Frame} {meth : Method} {c : Code} {A : Nat → Prop} {Q : State → Prop} {nL : Nat} {H : Heap} {locs : List Loc} {ls : Array Slot} {rest : List Value} {P : Option Value → va_W → Prop} {a : Array Value} {mc ms : Nat}
    (run : va_Run p l e R s m args below meth c H locs cs.1 cs.2 mc ms (F0 m pc ls stk) rest (kQP G (va_A ws H.size) P a) (va_A ws H.size)) (hD : va_D A ws) (hS : va_S A s.heap H locs) (hl : lv_has ls nL lv) (hA : ∀ q : Nat, s.heap.size ≤ q → A q)
    (k : ∀ (res : Option Value) (ws1 : va_W), P res ws1 → kX G (p, l, e, R, s, m, args, below, meth, c, A, Q, nL) (cs.1 + mc, cs.2 + ms) ws1 (pc + 3) lv (res.toList ++ rest)) : W p l e R s m args below meth c H locs cs.1 cs.2 Q (F0 m pc ls stk) := by
  intro T hT X
  obtain ⟨v, st₀, t, T', L, h0, X', hL, e1, e2, ⟨⟨res, ws1, hv, hp, hP1, hK1, hD1⟩, hz, hk⟩, st⟩ := run T hT X
  cases hv
  rw [h0] at hz hk
  have hF : ∀ q, va_A ws H.size q → A q := by
    intro q hq
    rcases hq with ⟨k, e, hk⟩ | hq
    · exact hD.2 k (q, e) hk
    · exact hA q (Nat.le_trans hS.1 hq)
  obtain ⟨t2, a1, b1⟩ := k _ ws1 hp T'.heap (locs ++ L) ls (by rw [e1]; exact hP1) ⟨hD1.1, fun k q h => hF _ (hD1.2 k q h)⟩
    ⟨Nat.le_trans hS.1 (by rw [e1]; exact hz), fun q h1 h2 => by rw [e1, hk q (Nat.lt_of_lt_of_le h1 hS.1) (fun z => h2 (hF q z))]; exact hS.2.1 q h1 h2, fun q hq => by
      rcases List.mem_append.mp hq with h | h
      · exact hS.2.2 q h
      · exact hF _ (hL q h)⟩ hl T' rfl X'
  exact ⟨t2, st t2 a1, b1⟩
def kYI (y : MethodName) (bytes : ByteArray) (maxL : Nat) (np : Nat) : Prop :=
  y.name = "<init>" ∧ Cond.instanceMethod y ∈ wsL_law ∧ Cond.initialized y.cls ∈ wsL_law ∧ Cond.code y bytes maxL none ∈ wsL_law ∧ (y.cls ≠ "java/lang/invoke/MethodHandle" ∧ y.cls ≠ "java/lang/invoke/VarHandle" ∧ (parseMethodDescriptor y.desc).map (fun d => d.parameters.length) = some np)
theorem kGIc {y : MethodName} {bytes : ByteArray} {maxL : Nat} {ret : Option FieldType} (y4 : Cond.code y bytes maxL ret ∈ wsL_law) : GoodIn wsL_law (Cond.code y bytes maxL ret :: wsL_law) := kGI (fun w hw => by
  rcases List.mem_cons.mp hw with h | h
  · rw [h]; exact y4
  · exact h)
theorem x_callI (C : kOk G E cc own n rm) {y : MethodName} {bytes : ByteArray} {maxL np index : Nat} {rmc : Room} {b mc ms : Nat} {rest : List Value} {wc : va_W} {P : Option Value → va_W → Prop}
    (wr : va_W) (As : List Value) (hws : ws = wr ++ wc) (M : kMetP G y bytes maxL none rmc (mc, ms) (.ref b :: As) wc P) (Y : kYI y bytes maxL np) (hL : Cond.methodLink own index y ∈ wsL_law)
    (hR : rmc.frames + 1 ≤ rm.frames ∧ 8 + (maxL + 11) + rmc.locals ≤ rm.locals ∧ rmc.cells = mc ∧ rmc.slots = ms) (hcs : cs.1 + mc ≤ rm.cells ∧ cs.2 + ms ≤ rm.slots) (hst : stk = As.reverse ++ .ref b :: rest) (hn : As.length = np) (hW : (rest.map fun v => v.category).sum ≤ 8) (hdg : decode cc pc = .ok (.invokespecial index, 3))
    (k : ∀ (res : Option Value) (w1 : va_W), P res w1 → kX G E (cs.1 + mc, cs.2 + ms) (wr ++ w1) (pc + 3) lv (res.toList ++ rest)) : kX G E cs ws pc lv stk := by
  obtain ⟨p, l, e, R, s, m, args, below, meth, c, A, Q, nL⟩ := E
  obtain ⟨hx, hb, hml, hown, hts, -, hK, hA, -, rfl, hNw⟩ := C
  obtain ⟨y0, y1, y3, y4, y5⟩ := Y
  subst hws
  intro H locs ls hP hD hS hl
  exact kX.callP (va_runI (As := As) (rest := rest) ⟨hx, hb, hml, hown, hts⟩ (kMetP.frame wr M l H.size) ⟨callB_of np hts (kGIc y4) rfl hR.2.2.1 hR.2.2.2 (hts _ y3) (hts _ hL) y5 ⟨hR.1, hR.2.1⟩, y0, hts _ y1⟩
    ⟨kblind _ _, fun U hU hW => ⟨rfl, by rw [hU], by rw [hU]; exact hP, va_K.moved hW.alike hK, hD.weaken (fun _ _ _ _ => trivial), kNest_warm hW hNw⟩⟩ rfl hn hl.1 hst (lv_room hW) hdg hcs) hD hS hl hA
    (fun res ws1 h => by obtain ⟨w1, h1, rfl⟩ := h; exact k res w1 h1)
theorem x_callIN (C : kOk G E cc own n rm) {y : MethodName} {host : String} {bytes : ByteArray} {maxL np index : Nat} {rmc : Room} {b mc ms : Nat} {rest : List Value} {wc : va_W} {P : Option Value → va_W → Prop}
    (wr : va_W) (As : List Value) (hws : ws = wr ++ wc) (M : kMetP G y bytes maxL none rmc (mc, ms) (.ref b :: As) wc P) (Y : kYI y bytes maxL np) (hL : Cond.methodLinkNest own index y host ∈ kNest)
    (hR : rmc.frames + 1 ≤ rm.frames ∧ 8 + (maxL + 11) + rmc.locals ≤ rm.locals ∧ rmc.cells = mc ∧ rmc.slots = ms) (hcs : cs.1 + mc ≤ rm.cells ∧ cs.2 + ms ≤ rm.slots) (hst : stk = As.reverse ++ .ref b :: rest) (hn : As.length = np) (hW : (rest.map fun v => v.category).sum ≤ 8) (hdg : decode cc pc = .ok (.invokespecial index, 3))
    (k : ∀ (res : Option Value) (w1 : va_W), P res w1 → kX G E (cs.1 + mc, cs.2 + ms) (wr ++ w1) (pc + 3) lv (res.toList ++ rest)) : kX G E cs ws pc lv stk := by
  obtain ⟨p, l, e, R, s, m, args, below, meth, c, A, Q, nL⟩ := E
  obtain ⟨hx, hb, hml, hown, hts, -, hK, hA, -, rfl, hNw⟩ := C
  obtain ⟨y0, y1, y3, y4, y5⟩ := Y
  subst hws
  intro H locs ls hP hD hS hl
  exact kX.callP (va_runIN (As := As) (rest := rest) ⟨hx, hb, hml, hown, hts⟩ (kMetP.frame wr M l H.size) ⟨va_cnB np hts (kGIc y4) rfl hR.2.2.1 hR.2.2.2 (hNw _ hL) (hts _ y3) y5 ⟨hR.1, hR.2.1⟩, y0, hts _ y1⟩
    ⟨kblind _ _, fun U hU hW => ⟨rfl, by rw [hU], by rw [hU]; exact hP, va_K.moved hW.alike hK, hD.weaken (fun _ _ _ _ => trivial), kNest_warm hW hNw⟩⟩ rfl hn hl.1 hst (lv_room hW) hdg hcs) hD hS hl hA
    (fun res ws1 h => by obtain ⟨w1, h1, rfl⟩ := h; exact k res w1 h1)
/-- a call over part of the cells, which stand last -/
theorem x_callVF (C : kOk G E cc own n rm) {y : MethodName} {bytes : ByteArray} {maxL np index : Nat} {ret : Option FieldType} {rmc : Room} {b ci : Nat} {fs : List Value} {q : vw_C} {rest stk' : List Value} {res : Option Value} {wc wc1 : va_W}
    (wr : va_W) (q0 : Nat) (As : List Value) (hws : ws = wr ++ wc) (he : wc[q0]? = some (b, .inr (ci, fs))) (hc : vwCl[ci]? = some q) (M : kMet G y bytes maxL ret rmc (0, 0) (.ref b :: As) wc res wc1) (Y : kYV y q.1 bytes maxL ret np) (hL : Cond.methodLink own index y ∈ wsL_law)
    (hR : rmc.frames + 1 ≤ rm.frames ∧ 8 + (maxL + 11) + rmc.locals ≤ rm.locals ∧ rmc.cells = 0 ∧ rmc.slots = 0) (hcs : cs.1 ≤ rm.cells ∧ cs.2 ≤ rm.slots) (hst : stk = As.reverse ++ .ref b :: rest) (hn : As.length = np) (hW : (rest.map fun v => v.category).sum ≤ 8) (hst' : res.toList ++ rest = stk') (hdg : decode cc pc = .ok (.invokevirtual index, 3))
    (k : kX G E cs (wr ++ wc1) (pc + 3) lv stk') : kX G E cs ws pc lv stk := by
  obtain ⟨p, l, e, R, s, m, args, below, meth, c, A, Q, nL⟩ := E
  obtain ⟨hx, hb, hml, hown, hts, -, hK, hA, -, rfl, hNw⟩ := C
  obtain ⟨y1, y2, y3, y4, y5⟩ := Y
  subst hst' hws
  intro H locs ls hP hD hS hl
  have he' : (wr ++ wc)[wr.length + q0]? = some (b, .inr (ci, fs)) := by
    rw [List.getElem?_append_right (Nat.le_add_right _ _), Nat.add_sub_cancel_left]
    exact he
  exact kX.callP (va_runV (As := As) (rest := rest) ⟨hx, hb, hml, hown, hts⟩ (kMetP.frame wr M.toP l H.size) ⟨callB_of np hts (kGIc y4) rfl hR.2.2.1 hR.2.2.2 (hts _ y3) (hts _ hL) y5 ⟨hR.1, hR.2.1⟩, hts _ y1, hts _ y2⟩
    ⟨kblind _ _, va_recv hK hP hc he', fun U hU hW => ⟨rfl, by rw [hU], by rw [hU]; exact hP, va_K.moved hW.alike hK, hD.weaken (fun _ _ _ _ => trivial), kNest_warm hW hNw⟩⟩ rfl hn hl.1 hst (lv_room hW) hdg hcs) hD hS hl hA
    (fun r ws1 h => by
      obtain ⟨w1, ⟨rfl, rfl⟩, rfl⟩ := h
      exact k)
/-- the law's own script -/
def kScr (E : kE) (b L : Nat) (xs : Nat → Int32) : Prop :=
  match E with
  | (p, l, e, R, s, m, args, below, meth, c, A, Q, nL) => va_X b L xs s s.heap ∧ b < s.heap.size ∧ ¬ A b
theorem x_sld (C : kOk G E cc own n rm) {b L : Nat} {xs : Nat → Int32} (X : kScr E b L xs) {i : Int32} (hin : vp_in i L) (hdg : decode cc pc = .ok (.iaload, 1)) (kk : kX G E cs ws (pc + 1) lv (.int (xs i.toNatClampNeg) :: stk)) : kX G E cs ws pc lv (.int i :: .ref b :: stk) := by
  obtain ⟨p, l, e, R, s, m, args, below, meth, c, A, Q, nL⟩ := E
  obtain ⟨hx, hb, -⟩ := C
  exact fun H locs ls hP hD hS h => va_sld hx hb X.1 X.2.1 X.2.2 hS hin hdg (kk H locs ls hP hD hS h)
theorem x_slen (C : kOk G E cc own n rm) {b L : Nat} {xs : Nat → Int32} (X : kScr E b L xs) (hdg : decode cc pc = .ok (.arraylength, 1)) (kk : kX G E cs ws (pc + 1) lv (.int (nI L) :: stk)) : kX G E cs ws pc lv (.ref b :: stk) := by
  obtain ⟨p, l, e, R, s, m, args, below, meth, c, A, Q, nL⟩ := E
  obtain ⟨hx, hb, -⟩ := C
  exact fun H locs ls hP hD hS h => va_slen hx hb X.1 X.2.1 X.2.2 hS hdg (kk H locs ls hP hD hS h)
end KR
