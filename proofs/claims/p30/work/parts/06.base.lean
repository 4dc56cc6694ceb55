/-! BASE: a walk's surroundings in one tuple; the world is one list of cells; a rule an instruction -/
def kE : Type := Program × Launch × Env × Room × State × MethodId × Array Value × List Frame × Method × Code × (Nat → Prop) × (State → Prop) × Nat
def kG : Type := va_G × ClassId × ClassId × ClassId × ClassId
def kD (G : kG) : va_G := G.1
def kT (G : kG) : List (ClassId × FieldType) := [(G.2.1, .int), (G.2.2.1, .long)]
/-- at pc, in the world ws, with these locals and this stack, the machine comes to its end as the surroundings want it -/
def kX (G : kG) (E : kE) (cs : Nat × Nat) (ws : va_W) (pc : Nat) (lv : List (Nat × Value)) (stk : List Value) : Prop :=
  match E with
  | (p, l, e, R, s, m, args, below, meth, c, A, Q, nL) =>
    ∀ (H : Heap) (locs : List Loc) (ls : Array Slot), va_P (kD G) vwCl ws H → va_D A ws → va_S A s.heap H locs → lv_has ls nL lv → W p l e R s m args below meth c H locs cs.1 cs.2 Q (F0 m pc ls stk)
def kOk (G : kG) (E : kE) (cc : ByteArray) (own : String) (n : Nat) (rm : Room) : Prop :=
  match E with
  | (p, l, e, R, s, m, args, below, meth, c, A, Q, nL) =>
    p.tables.exec = Jvm.exec ∧ c.code = cc ∧ c.maxLocals = nL ∧ s.vm.findClass own = some m.cls ∧ (∀ w ∈ wsL_law, w.before args s = true) ∧ meth.locks = false ∧ va_K (kD G) vwCl (kT G) s ∧ (∀ q : Nat, s.heap.size ≤ q → A q) ∧ nL = n ∧ R = rm ∧ (∀ w ∈ kNest, va_Nw w s)
/-- what a method leaves: its answer, its world -/
def kQ (G : kG) (A : Nat → Prop) (res : Option Value) (ws' : va_W) : Array Value → State → Outcome → State → Prop := fun _ st oc t =>
  (oc = .returned res ∧ va_P (kD G) vwCl ws' t.heap ∧ va_K (kD G) vwCl (kT G) t ∧ va_D A ws') ∧ va_F A st t
def kEnd (G : kG) (E : kE) (cs : Nat × Nat) (ret : Option FieldType) (res : Option Value) (ws' : va_W) : Prop :=
  match E with
  | (p, l, e, R, s, m, args, below, meth, c, A, Q, nL) => meth.sig.returnType = ret ∧ Q = MQ below (kQ G A res ws') args s cs.1 cs.2 A
def kPre (G : kG) (ws : va_W) (sz : Nat) : State → Prop := fun U => U.heap.size = sz ∧ va_P (kD G) vwCl ws U.heap ∧ va_K (kD G) vwCl (kT G) U ∧ va_D (fun _ => True) ws ∧ (∀ w ∈ kNest, va_Nw w U)
/-- a method's contract: from the world ws to the world ws' with this answer -/
def kMet (G : kG) (y : MethodName) (bytes : ByteArray) (n : Nat) (ret : Option FieldType) (rm : Room) (cs : Nat × Nat) (av : List Value) (ws : va_W) (res : Option Value) (ws' : va_W) : Prop :=
  ∀ (l : Launch) (sz : Nat), Met l y (.code y bytes n ret :: wsL_law) rm (va_Pc av (kPre G ws sz)) (kQ G (va_A ws sz) res ws') cs.1 cs.2 (va_A ws sz)
theorem kMet.mk {G : kG} {y : MethodName} {bytes : ByteArray} {n : Nat} {ret : Option FieldType} {rm : Room} {cs : Nat × Nat} {av : List Value} {ws : va_W} {res : Option Value} {ws' : va_W}
    (hy : plainName y.cls = true) (hsl : (lg_sl av).length ≤ n)
    (body : ∀ E : kE, kOk G E bytes y.cls n rm → kEnd G E cs ret res ws' → kX G E (0, 0) ws 0 (lv_args 0 av) []) : kMet G y bytes n ret rm cs av ws res ws' := by
  intro l sz
  refine Met.ofW (cc := bytes) (maxL := n) (ret := ret) hy rfl ?_
  intro p e s m args below meth c s₁ B hml hv
  obtain ⟨rfl, hsz, hP, hK, hD0, hNw⟩ := hv
  subst hsz
  have hts := atoms_spec (ws := .code y bytes n ret :: wsL_law) B.pre
  have hD := hD0.self (sz := s.heap.size)
  have hE := body (p, l, e, rm, s, m, av.toArray, below, meth, c, va_A ws s.heap.size, MQ below (kQ G (va_A ws s.heap.size) res ws') av.toArray s cs.1 cs.2 (va_A ws s.heap.size), n)
    ⟨B.exec, B.bytes, hml, findClass_of_methodNamed B.named, fun w h => hts w (List.mem_cons_of_mem _ h), B.notSynchronized, hK, fun q h => Or.inr h, rfl, rfl, hNw⟩ ⟨B.returns, rfl⟩
  rw [lg_entry_eq]
  exact hE s.heap [] _ hP hD va_S.rf (lv_entry av hsl)
theorem Met.ofWF {l : Launch} {y : MethodName} {ws ws' : List Cond} {rm : Room} {Pc : Array Value → State → Prop} {Qc : Array Value → State → Outcome → State → Prop} {mc ms : Nat} {free : Addr → Prop} {cc : ByteArray} {maxL : Nat} {ret : Option FieldType}
    (hy : plainFor y = true) (hw : ws = Cond.code y cc maxL ret :: ws')
    (body : ∀ p e s m args below meth c s₁, BodyLoose p l y (headSpec ws rm) cc maxL ret e s m args below meth c s₁ → c.maxLocals = maxL → Pc args s →
      W p l e (headSpec ws rm).room s m args below meth c s.heap [] 0 0 (MQ below Qc args s mc ms free) (entryFrame m args maxL)) : Met l y ws rm Pc Qc mc ms free := by
  refine MetFree.of_bodySF (code := cc) (maxLocals := maxL) (ret := ret) hy ?_ ?_
  · intro args s m h hn
    obtain ⟨meth, c, h1, h2, h3, h4, h5, h6, -, -⟩ := Cond.code_spec hn (atoms_spec (ws := ws) h _ (by rw [hw]; exact List.mem_cons_self))
    exact ⟨meth, c, h1, h2, h3, h4, h5, h6⟩
  · intro p e s m args below meth c s₁ B hml hP _
    have hh0 : s₁.heap = s.heap := by rw [B.state]; rfl
    obtain ⟨t, a1, o, b1, b2, b3⟩ := body p e s m args below meth c s₁ B hml hP s₁ hh0 (Stand.of_body B)
    exact ⟨t, o, a1, b1, b2, ⟨b3.1, b3.2⟩⟩
theorem kMet.mkF {G : kG} {y : MethodName} {bytes : ByteArray} {n : Nat} {ret : Option FieldType} {rm : Room} {cs : Nat × Nat} {av : List Value} {ws : va_W} {res : Option Value} {ws' : va_W}
    (hy : plainFor y = true) (hsl : (lg_sl av).length ≤ n)
    (body : ∀ E : kE, kOk G E bytes y.cls n rm → kEnd G E cs ret res ws' → kX G E (0, 0) ws 0 (lv_args 0 av) []) : kMet G y bytes n ret rm cs av ws res ws' := by
  intro l sz
  refine Met.ofWF (cc := bytes) (maxL := n) (ret := ret) hy rfl ?_
  intro p e s m args below meth c s₁ B hml hv
  obtain ⟨rfl, hsz, hP, hK, hD0, hNw⟩ := hv
  subst hsz
  have hts := atoms_spec (ws := .code y bytes n ret :: wsL_law) B.pre
  have hD := hD0.self (sz := s.heap.size)
  have hE := body (p, l, e, rm, s, m, av.toArray, below, meth, c, va_A ws s.heap.size, MQ below (kQ G (va_A ws s.heap.size) res ws') av.toArray s cs.1 cs.2 (va_A ws s.heap.size), n)
    ⟨B.exec, B.bytes, hml, findClass_of_methodNamed B.named, fun w h => hts w (List.mem_cons_of_mem _ h), B.notSynchronized, hK, fun q h => Or.inr h, rfl, rfl, hNw⟩ ⟨B.returns, rfl⟩
  rw [lg_entry_eq]
  exact hE s.heap [] _ hP hD va_S.rf (lv_entry av hsl)
section KR
variable {G : kG} {E : kE} {cs : Nat × Nat} {cc : ByteArray} {own : String} {n : Nat} {rm : Room} {ws : va_W} {pc : Nat} {lv : List (Nat × Value)} {stk : List Value}
theorem kX.pick (ks : List Nat) {lv' : List (Nat × Value)} (hl : lv_pick lv ks = lv') (k : kX G E cs ws pc lv' stk) : kX G E cs ws pc lv stk := by
  obtain ⟨p, l, e, R, s, m, args, below, meth, c, A, Q, nL⟩ := E
  exact fun H locs ls hP hD hS h => k H locs ls hP hD hS (lv_sub h ks hl)
theorem kX.eqs {stk' : List Value} (h : stk = stk') (k : kX G E cs ws pc lv stk') : kX G E cs ws pc lv stk := h ▸ k
theorem kX.eqw {ws' : va_W} (h : ws = ws') (k : kX G E cs ws' pc lv stk) : kX G E cs ws pc lv stk := h ▸ k
theorem x_iload_n (C : kOk G E cc own n rm) (pl : Nat) {k : Fin 4} {i : Nat} {x : Int32} (hdg : decode cc pc = .ok (.iload_n k, 1)) (hi : (k : Nat) = i) (hl : lv[pl]? = some (i, .int x)) (k : kX G E cs ws (pc + 1) lv (.int x :: stk)) : kX G E cs ws pc lv stk := by
  obtain ⟨p, l, e, R, s, m, args, below, meth, c, A, Q, nL⟩ := E
  obtain ⟨hx, hb, -⟩ := C
  exact fun H locs ls hP hD hS h => lv_iload_n hx hb hdg hi (lv_at h pl hl) (k H locs ls hP hD hS h)
theorem x_iload (C : kOk G E cc own n rm) (pl : Nat) {i : Nat} {x : Int32} (hdg : decode cc pc = .ok (.iload i, 2)) (hl : lv[pl]? = some (i, .int x)) (k : kX G E cs ws (pc + 2) lv (.int x :: stk)) : kX G E cs ws pc lv stk := by
  obtain ⟨p, l, e, R, s, m, args, below, meth, c, A, Q, nL⟩ := E
  obtain ⟨hx, hb, -⟩ := C
  exact fun H locs ls hP hD hS h => lv_iload hx hb hdg (lv_at h pl hl) (k H locs ls hP hD hS h)
theorem x_aload_n (C : kOk G E cc own n rm) (pl : Nat) {k : Fin 4} {i : Nat} {x : Nat} (hdg : decode cc pc = .ok (.aload_n k, 1)) (hi : (k : Nat) = i) (hl : lv[pl]? = some (i, .ref x)) (k : kX G E cs ws (pc + 1) lv (.ref x :: stk)) : kX G E cs ws pc lv stk := by
  obtain ⟨p, l, e, R, s, m, args, below, meth, c, A, Q, nL⟩ := E
  obtain ⟨hx, hb, -⟩ := C
  exact fun H locs ls hP hD hS h => lv_aload_n hx hb hdg hi (lv_at h pl hl) (k H locs ls hP hD hS h)
theorem x_aload (C : kOk G E cc own n rm) (pl : Nat) {i : Nat} {x : Nat} (hdg : decode cc pc = .ok (.aload i, 2)) (hl : lv[pl]? = some (i, .ref x)) (k : kX G E cs ws (pc + 2) lv (.ref x :: stk)) : kX G E cs ws pc lv stk := by
  obtain ⟨p, l, e, R, s, m, args, below, meth, c, A, Q, nL⟩ := E
  obtain ⟨hx, hb, -⟩ := C
  exact fun H locs ls hP hD hS h => lv_aload hx hb hdg (lv_at h pl hl) (k H locs ls hP hD hS h)
theorem x_lload_n (C : kOk G E cc own n rm) (pl : Nat) {k : Fin 4} {i : Nat} {x : Int64} (hdg : decode cc pc = .ok (.lload_n k, 1)) (hi : (k : Nat) = i) (hl : lv[pl]? = some (i, .long x)) (k : kX G E cs ws (pc + 1) lv (.long x :: stk)) : kX G E cs ws pc lv stk := by
  obtain ⟨p, l, e, R, s, m, args, below, meth, c, A, Q, nL⟩ := E
  obtain ⟨hx, hb, -⟩ := C
  exact fun H locs ls hP hD hS h => lv_lload_n hx hb hdg hi (lv_at h pl hl) (k H locs ls hP hD hS h)
theorem x_lload (C : kOk G E cc own n rm) (pl : Nat) {i : Nat} {x : Int64} (hdg : decode cc pc = .ok (.lload i, 2)) (hl : lv[pl]? = some (i, .long x)) (k : kX G E cs ws (pc + 2) lv (.long x :: stk)) : kX G E cs ws pc lv stk := by
  obtain ⟨p, l, e, R, s, m, args, below, meth, c, A, Q, nL⟩ := E
  obtain ⟨hx, hb, -⟩ := C
  exact fun H locs ls hP hD hS h => lv_lload hx hb hdg (lv_at h pl hl) (k H locs ls hP hD hS h)
theorem x_istore_n (C : kOk G E cc own n rm) {k : Fin 4} {i : Nat} {x : Int32} {lv' : List (Nat × Value)} (hdg : decode cc pc = .ok (.istore_n k, 1)) (hi : (k : Nat) = i) (hn : i < n) (hl : (i, Value.int x) :: lv.filter (fun q => !(q.1 == i) && !(q.1 + 1 == i && q.2.category == 2)) = lv') (k : kX G E cs ws (pc + 1) lv' stk) : kX G E cs ws pc lv (.int x :: stk) := by
  obtain ⟨p, l, e, R, s, m, args, below, meth, c, A, Q, nL⟩ := E
  obtain ⟨hx, hb, -, -, -, -, -, -, rfl, -⟩ := C
  exact fun H locs ls hP hD hS h => lv_istore_n hx hb hdg hi h hn hl (fun ls' h' => k H locs ls' hP hD hS h')
theorem x_istore (C : kOk G E cc own n rm) {i : Nat} {x : Int32} {lv' : List (Nat × Value)} (hdg : decode cc pc = .ok (.istore i, 2)) (hn : i < n) (hl : (i, Value.int x) :: lv.filter (fun q => !(q.1 == i) && !(q.1 + 1 == i && q.2.category == 2)) = lv') (k : kX G E cs ws (pc + 2) lv' stk) : kX G E cs ws pc lv (.int x :: stk) := by
  obtain ⟨p, l, e, R, s, m, args, below, meth, c, A, Q, nL⟩ := E
  obtain ⟨hx, hb, -, -, -, -, -, -, rfl, -⟩ := C
  exact fun H locs ls hP hD hS h => lv_istore hx hb hdg h hn hl (fun ls' h' => k H locs ls' hP hD hS h')
theorem x_astore_n (C : kOk G E cc own n rm) {k : Fin 4} {i : Nat} {x : Nat} {lv' : List (Nat × Value)} (hdg : decode cc pc = .ok (.astore_n k, 1)) (hi : (k : Nat) = i) (hn : i < n) (hl : (i, Value.ref x) :: lv.filter (fun q => !(q.1 == i) && !(q.1 + 1 == i && q.2.category == 2)) = lv') (k : kX G E cs ws (pc + 1) lv' stk) : kX G E cs ws pc lv (.ref x :: stk) := by
  obtain ⟨p, l, e, R, s, m, args, below, meth, c, A, Q, nL⟩ := E
  obtain ⟨hx, hb, -, -, -, -, -, -, rfl, -⟩ := C
  exact fun H locs ls hP hD hS h => lv_astore_n hx hb hdg hi h hn hl (fun ls' h' => k H locs ls' hP hD hS h')
theorem x_lstore_n (C : kOk G E cc own n rm) {k : Fin 4} {i : Nat} {x : Int64} {lv' : List (Nat × Value)} (hdg : decode cc pc = .ok (.lstore_n k, 1)) (hi : (k : Nat) = i) (hn : i + 1 < n) (hl : (i, Value.long x) :: lv.filter (fun q => !(q.1 == i) && (!(q.1 == i + 1) && !(q.1 + 1 == i && q.2.category == 2))) = lv') (k : kX G E cs ws (pc + 1) lv' stk) : kX G E cs ws pc lv (.long x :: stk) := by
  obtain ⟨p, l, e, R, s, m, args, below, meth, c, A, Q, nL⟩ := E
  obtain ⟨hx, hb, -, -, -, -, -, -, rfl, -⟩ := C
  exact fun H locs ls hP hD hS h => lv_lstore_n hx hb hdg hi h hn hl (fun ls' h' => k H locs ls' hP hD hS h')
theorem x_lstore (C : kOk G E cc own n rm) {i : Nat} {x : Int64} {lv' : List (Nat × Value)} (hdg : decode cc pc = .ok (.lstore i, 2)) (hn : i + 1 < n) (hl : (i, Value.long x) :: lv.filter (fun q => !(q.1 == i) && (!(q.1 == i + 1) && !(q.1 + 1 == i && q.2.category == 2))) = lv') (k : kX G E cs ws (pc + 2) lv' stk) : kX G E cs ws pc lv (.long x :: stk) := by
  obtain ⟨p, l, e, R, s, m, args, below, meth, c, A, Q, nL⟩ := E
  obtain ⟨hx, hb, -, -, -, -, -, -, rfl, -⟩ := C
  exact fun H locs ls hP hD hS h => lv_lstore hx hb hdg h hn hl (fun ls' h' => k H locs ls' hP hD hS h')
theorem x_iinc (C : kOk G E cc own n rm) (pl : Nat) {i : Nat} {d : Int} {x v : Int32} {lv' : List (Nat × Value)} (hdg : decode cc pc = .ok (.iinc i d, 3)) (hk : lv[pl]? = some (i, .int x)) (hv : x + Int32.ofInt d = v) (hn : i < n) (hl : (i, Value.int v) :: lv.filter (fun q => !(q.1 == i) && !(q.1 + 1 == i && q.2.category == 2)) = lv') (k : kX G E cs ws (pc + 3) lv' stk) : kX G E cs ws pc lv stk := by
  obtain ⟨p, l, e, R, s, m, args, below, meth, c, A, Q, nL⟩ := E
  obtain ⟨hx, hb, -, -, -, -, -, -, rfl, -⟩ := C
  exact fun H locs ls hP hD hS h => lv_iinc hx hb hdg h hk hv hn hl (fun ls' h' => k H locs ls' hP hD hS h')
theorem x_goto (C : kOk G E cc own n rm) {off : Int} (tgt : Nat) (hdg : decode cc pc = .ok (.goto off, 3)) (ht : (pc : Int) + off = (tgt : Int)) (k : kX G E cs ws tgt lv stk) : kX G E cs ws pc lv stk := by
  obtain ⟨p, l, e, R, s, m, args, below, meth, c, A, Q, nL⟩ := E
  obtain ⟨hx, hb, -⟩ := C
  exact fun H locs ls hP hD hS h => lv_goto hx hb hdg ht (k H locs ls hP hD hS h)
theorem x_iconst (C : kOk G E cc own n rm) {d : Int} (v : Int32) (hdg : decode cc pc = .ok (.iconst d, 1)) (hv : Int32.ofInt d = v) (k : kX G E cs ws (pc + 1) lv (.int v :: stk)) : kX G E cs ws pc lv stk := by
  obtain ⟨p, l, e, R, s, m, args, below, meth, c, A, Q, nL⟩ := E
  obtain ⟨hx, hb, -⟩ := C
  exact fun H locs ls hP hD hS h => lv_iconst hx hb hdg hv (k H locs ls hP hD hS h)
theorem x_bipush (C : kOk G E cc own n rm) {d : Int} (v : Int32) (hdg : decode cc pc = .ok (.bipush d, 2)) (hv : (Int8.ofInt d).toInt32 = v) (k : kX G E cs ws (pc + 2) lv (.int v :: stk)) : kX G E cs ws pc lv stk := by
  obtain ⟨p, l, e, R, s, m, args, below, meth, c, A, Q, nL⟩ := E
  obtain ⟨hx, hb, -⟩ := C
  exact fun H locs ls hP hD hS h => lv_bipush hx hb hdg hv (k H locs ls hP hD hS h)
theorem x_sipush (C : kOk G E cc own n rm) {d : Int} (v : Int32) (hdg : decode cc pc = .ok (.sipush d, 3)) (hv : (Int16.ofInt d).toInt32 = v) (k : kX G E cs ws (pc + 3) lv (.int v :: stk)) : kX G E cs ws pc lv stk := by
  obtain ⟨p, l, e, R, s, m, args, below, meth, c, A, Q, nL⟩ := E
  obtain ⟨hx, hb, -⟩ := C
  exact fun H locs ls hP hD hS h => lv_sipush hx hb hdg hv (k H locs ls hP hD hS h)
theorem x_lconst (C : kOk G E cc own n rm) {d : Fin 2} (v : Int64) (hdg : decode cc pc = .ok (.lconst d, 1)) (hv : Int64.ofNat (d : Nat) = v) (k : kX G E cs ws (pc + 1) lv (.long v :: stk)) : kX G E cs ws pc lv stk := by
  obtain ⟨p, l, e, R, s, m, args, below, meth, c, A, Q, nL⟩ := E
  obtain ⟨hx, hb, -⟩ := C
  exact fun H locs ls hP hD hS h => lv_lconst hx hb hdg hv (k H locs ls hP hD hS h)
theorem x_ldc (C : kOk G E cc own n rm) {i : Nat} {v : Int32} (hw : Cond.constant own i v ∈ wsL_law) (hdg : decode cc pc = .ok (.ldc i, 2)) (k : kX G E cs ws (pc + 2) lv (.int v :: stk)) : kX G E cs ws pc lv stk := by
  obtain ⟨p, l, e, R, s, m, args, below, meth, c, A, Q, nL⟩ := E
  obtain ⟨hx, hb, -, hown, hts, -⟩ := C
  exact fun H locs ls hP hD hS h => lv_ldc hx hb hown (hts _ hw) hdg (k H locs ls hP hD hS h)
theorem x_ldc2 (C : kOk G E cc own n rm) {i : Nat} {v : Int64} (hw : Cond.constantLong own i v ∈ wsL_law) (hdg : decode cc pc = .ok (.ldc2_w i, 3)) (k : kX G E cs ws (pc + 3) lv (.long v :: stk)) : kX G E cs ws pc lv stk := by
  obtain ⟨p, l, e, R, s, m, args, below, meth, c, A, Q, nL⟩ := E
  obtain ⟨hx, hb, -, hown, hts, -⟩ := C
  exact fun H locs ls hP hD hS h => lv_ldc2 hx hb hown (hts _ hw) hdg (k H locs ls hP hD hS h)
theorem x_dup (C : kOk G E cc own n rm) {va : Value} (hdg : decode cc pc = .ok (.dup, 1)) (hva : va.category = 1) (k : kX G E cs ws (pc + 1) lv (va :: va :: stk)) : kX G E cs ws pc lv (va :: stk) := by
  obtain ⟨p, l, e, R, s, m, args, below, meth, c, A, Q, nL⟩ := E
  obtain ⟨hx, hb, -⟩ := C
  exact fun H locs ls hP hD hS h => lv_dup hx hb hdg hva (k H locs ls hP hD hS h)
theorem x_dup2 (C : kOk G E cc own n rm) {va vb : Value} (hdg : decode cc pc = .ok (.dup2, 1)) (hva : va.category = 1) (hvb : vb.category = 1) (k : kX G E cs ws (pc + 1) lv (va :: vb :: va :: vb :: stk)) : kX G E cs ws pc lv (va :: vb :: stk) := by
  obtain ⟨p, l, e, R, s, m, args, below, meth, c, A, Q, nL⟩ := E
  obtain ⟨hx, hb, -⟩ := C
  exact fun H locs ls hP hD hS h => lv_dup2_11 hx hb hdg hva hvb (k H locs ls hP hD hS h)
theorem x_pop (C : kOk G E cc own n rm) {va : Value} (hdg : decode cc pc = .ok (.pop, 1)) (hva : va.category = 1) (k : kX G E cs ws (pc + 1) lv stk) : kX G E cs ws pc lv (va :: stk) := by
  obtain ⟨p, l, e, R, s, m, args, below, meth, c, A, Q, nL⟩ := E
  obtain ⟨hx, hb, -⟩ := C
  exact fun H locs ls hP hD hS h => lv_pop hx hb hdg hva (k H locs ls hP hD hS h)
theorem x_iadd (C : kOk G E cc own n rm) {x y : Int32} (hdg : decode cc pc = .ok (.iadd, 1)) (k : kX G E cs ws (pc + 1) lv (.int (x + y) :: stk)) : kX G E cs ws pc lv (.int y :: .int x :: stk) := by
  obtain ⟨p, l, e, R, s, m, args, below, meth, c, A, Q, nL⟩ := E
  obtain ⟨hx, hb, -⟩ := C
  exact fun H locs ls hP hD hS h => lv_iadd hx hb hdg (k H locs ls hP hD hS h)
theorem x_isub (C : kOk G E cc own n rm) {x y : Int32} (hdg : decode cc pc = .ok (.isub, 1)) (k : kX G E cs ws (pc + 1) lv (.int (x - y) :: stk)) : kX G E cs ws pc lv (.int y :: .int x :: stk) := by
  obtain ⟨p, l, e, R, s, m, args, below, meth, c, A, Q, nL⟩ := E
  obtain ⟨hx, hb, -⟩ := C
  exact fun H locs ls hP hD hS h => lv_isub hx hb hdg (k H locs ls hP hD hS h)
theorem x_imul (C : kOk G E cc own n rm) {x y : Int32} (hdg : decode cc pc = .ok (.imul, 1)) (k : kX G E cs ws (pc + 1) lv (.int (x * y) :: stk)) : kX G E cs ws pc lv (.int y :: .int x :: stk) := by
  obtain ⟨p, l, e, R, s, m, args, below, meth, c, A, Q, nL⟩ := E
  obtain ⟨hx, hb, -⟩ := C
  exact fun H locs ls hP hD hS h => lv_imul hx hb hdg (k H locs ls hP hD hS h)
theorem x_iand (C : kOk G E cc own n rm) {x y : Int32} (hdg : decode cc pc = .ok (.iand, 1)) (k : kX G E cs ws (pc + 1) lv (.int (x &&& y) :: stk)) : kX G E cs ws pc lv (.int y :: .int x :: stk) := by
  obtain ⟨p, l, e, R, s, m, args, below, meth, c, A, Q, nL⟩ := E
  obtain ⟨hx, hb, -⟩ := C
  exact fun H locs ls hP hD hS h => lv_iand hx hb hdg (k H locs ls hP hD hS h)
theorem x_ior (C : kOk G E cc own n rm) {x y : Int32} (hdg : decode cc pc = .ok (.ior, 1)) (k : kX G E cs ws (pc + 1) lv (.int (x ||| y) :: stk)) : kX G E cs ws pc lv (.int y :: .int x :: stk) := by
  obtain ⟨p, l, e, R, s, m, args, below, meth, c, A, Q, nL⟩ := E
  obtain ⟨hx, hb, -⟩ := C
  exact fun H locs ls hP hD hS h => lv_ior hx hb hdg (k H locs ls hP hD hS h)
theorem x_ixor (C : kOk G E cc own n rm) {x y : Int32} (hdg : decode cc pc = .ok (.ixor, 1)) (k : kX G E cs ws (pc + 1) lv (.int (x ^^^ y) :: stk)) : kX G E cs ws pc lv (.int y :: .int x :: stk) := by
  obtain ⟨p, l, e, R, s, m, args, below, meth, c, A, Q, nL⟩ := E
  obtain ⟨hx, hb, -⟩ := C
  exact fun H locs ls hP hD hS h => lv_ixor hx hb hdg (k H locs ls hP hD hS h)
theorem x_ishl (C : kOk G E cc own n rm) {x y : Int32} (hdg : decode cc pc = .ok (.ishl, 1)) (k : kX G E cs ws (pc + 1) lv (.int (x <<< (y &&& 31)) :: stk)) : kX G E cs ws pc lv (.int y :: .int x :: stk) := by
  obtain ⟨p, l, e, R, s, m, args, below, meth, c, A, Q, nL⟩ := E
  obtain ⟨hx, hb, -⟩ := C
  exact fun H locs ls hP hD hS h => lv_ishl hx hb hdg (k H locs ls hP hD hS h)
theorem x_ishr (C : kOk G E cc own n rm) {x y : Int32} (hdg : decode cc pc = .ok (.ishr, 1)) (k : kX G E cs ws (pc + 1) lv (.int (x >>> (y &&& 31)) :: stk)) : kX G E cs ws pc lv (.int y :: .int x :: stk) := by
  obtain ⟨p, l, e, R, s, m, args, below, meth, c, A, Q, nL⟩ := E
  obtain ⟨hx, hb, -⟩ := C
  exact fun H locs ls hP hD hS h => lv_ishr hx hb hdg (k H locs ls hP hD hS h)
theorem x_ladd (C : kOk G E cc own n rm) {x y : Int64} (hdg : decode cc pc = .ok (.ladd, 1)) (k : kX G E cs ws (pc + 1) lv (.long (x + y) :: stk)) : kX G E cs ws pc lv (.long y :: .long x :: stk) := by
  obtain ⟨p, l, e, R, s, m, args, below, meth, c, A, Q, nL⟩ := E
  obtain ⟨hx, hb, -⟩ := C
  exact fun H locs ls hP hD hS h => lv_ladd hx hb hdg (k H locs ls hP hD hS h)
theorem x_lsub (C : kOk G E cc own n rm) {x y : Int64} (hdg : decode cc pc = .ok (.lsub, 1)) (k : kX G E cs ws (pc + 1) lv (.long (x - y) :: stk)) : kX G E cs ws pc lv (.long y :: .long x :: stk) := by
  obtain ⟨p, l, e, R, s, m, args, below, meth, c, A, Q, nL⟩ := E
  obtain ⟨hx, hb, -⟩ := C
  exact fun H locs ls hP hD hS h => lv_lsub hx hb hdg (k H locs ls hP hD hS h)
theorem x_lmul (C : kOk G E cc own n rm) {x y : Int64} (hdg : decode cc pc = .ok (.lmul, 1)) (k : kX G E cs ws (pc + 1) lv (.long (x * y) :: stk)) : kX G E cs ws pc lv (.long y :: .long x :: stk) := by
  obtain ⟨p, l, e, R, s, m, args, below, meth, c, A, Q, nL⟩ := E
  obtain ⟨hx, hb, -⟩ := C
  exact fun H locs ls hP hD hS h => lv_lmul hx hb hdg (k H locs ls hP hD hS h)
theorem x_land (C : kOk G E cc own n rm) {x y : Int64} (hdg : decode cc pc = .ok (.land, 1)) (k : kX G E cs ws (pc + 1) lv (.long (x &&& y) :: stk)) : kX G E cs ws pc lv (.long y :: .long x :: stk) := by
  obtain ⟨p, l, e, R, s, m, args, below, meth, c, A, Q, nL⟩ := E
  obtain ⟨hx, hb, -⟩ := C
  exact fun H locs ls hP hD hS h => lv_land hx hb hdg (k H locs ls hP hD hS h)
theorem x_lor (C : kOk G E cc own n rm) {x y : Int64} (hdg : decode cc pc = .ok (.lor, 1)) (k : kX G E cs ws (pc + 1) lv (.long (x ||| y) :: stk)) : kX G E cs ws pc lv (.long y :: .long x :: stk) := by
  obtain ⟨p, l, e, R, s, m, args, below, meth, c, A, Q, nL⟩ := E
  obtain ⟨hx, hb, -⟩ := C
  exact fun H locs ls hP hD hS h => lv_lor hx hb hdg (k H locs ls hP hD hS h)
theorem x_idiv (C : kOk G E cc own n rm) {x y : Int32} (hdg : decode cc pc = .ok (.idiv, 1)) (hne : ¬ y = 0) (k : kX G E cs ws (pc + 1) lv (.int (x / y) :: stk)) : kX G E cs ws pc lv (.int y :: .int x :: stk) := by
  obtain ⟨p, l, e, R, s, m, args, below, meth, c, A, Q, nL⟩ := E
  obtain ⟨hx, hb, -⟩ := C
  exact fun H locs ls hP hD hS h => lv_idiv hx hb hdg hne (k H locs ls hP hD hS h)
theorem x_irem (C : kOk G E cc own n rm) {x y : Int32} (hdg : decode cc pc = .ok (.irem, 1)) (hne : ¬ y = 0) (k : kX G E cs ws (pc + 1) lv (.int (x - x / y * y) :: stk)) : kX G E cs ws pc lv (.int y :: .int x :: stk) := by
  obtain ⟨p, l, e, R, s, m, args, below, meth, c, A, Q, nL⟩ := E
  obtain ⟨hx, hb, -⟩ := C
  exact fun H locs ls hP hD hS h => lv_irem hx hb hdg hne (k H locs ls hP hD hS h)
theorem x_ldiv (C : kOk G E cc own n rm) {x y : Int64} (hdg : decode cc pc = .ok (.ldiv, 1)) (hne : ¬ y = 0) (k : kX G E cs ws (pc + 1) lv (.long (x / y) :: stk)) : kX G E cs ws pc lv (.long y :: .long x :: stk) := by
  obtain ⟨p, l, e, R, s, m, args, below, meth, c, A, Q, nL⟩ := E
  obtain ⟨hx, hb, -⟩ := C
  exact fun H locs ls hP hD hS h => lv_ldiv hx hb hdg hne (k H locs ls hP hD hS h)
theorem x_lrem (C : kOk G E cc own n rm) {x y : Int64} (hdg : decode cc pc = .ok (.lrem, 1)) (hne : ¬ y = 0) (k : kX G E cs ws (pc + 1) lv (.long (x - x / y * y) :: stk)) : kX G E cs ws pc lv (.long y :: .long x :: stk) := by
  obtain ⟨p, l, e, R, s, m, args, below, meth, c, A, Q, nL⟩ := E
  obtain ⟨hx, hb, -⟩ := C
  exact fun H locs ls hP hD hS h => lv_lrem hx hb hdg hne (k H locs ls hP hD hS h)
theorem x_iushr (C : kOk G E cc own n rm) {x y : Int32} (hdg : decode cc pc = .ok (.iushr, 1)) (k : kX G E cs ws (pc + 1) lv (.int ((x.toUInt32 >>> (y.toUInt32 &&& Int32.toUInt32 31)).toInt32) :: stk)) : kX G E cs ws pc lv (.int y :: .int x :: stk) := by
  obtain ⟨p, l, e, R, s, m, args, below, meth, c, A, Q, nL⟩ := E
  obtain ⟨hx, hb, -⟩ := C
  exact fun H locs ls hP hD hS h => lv_iushr hx hb hdg rfl (k H locs ls hP hD hS h)
theorem x_lshr (C : kOk G E cc own n rm) {x : Int64} {y : Int32} (hdg : decode cc pc = .ok (.lshr, 1)) (k : kX G E cs ws (pc + 1) lv (.long (x >>> (y.toInt64 &&& 63)) :: stk)) : kX G E cs ws pc lv (.int y :: .long x :: stk) := by
  obtain ⟨p, l, e, R, s, m, args, below, meth, c, A, Q, nL⟩ := E
  obtain ⟨hx, hb, -⟩ := C
  exact fun H locs ls hP hD hS h => lv_lshr hx hb hdg rfl (k H locs ls hP hD hS h)
theorem x_lushr (C : kOk G E cc own n rm) {x : Int64} {y : Int32} (hdg : decode cc pc = .ok (.lushr, 1)) (k : kX G E cs ws (pc + 1) lv (.long ((x.toUInt64 >>> (y.toInt64.toUInt64 &&& Int64.toUInt64 63)).toInt64) :: stk)) : kX G E cs ws pc lv (.int y :: .long x :: stk) := by
  obtain ⟨p, l, e, R, s, m, args, below, meth, c, A, Q, nL⟩ := E
  obtain ⟨hx, hb, -⟩ := C
  exact fun H locs ls hP hD hS h => lv_lushr hx hb hdg rfl (k H locs ls hP hD hS h)
theorem x_lshl (C : kOk G E cc own n rm) {x : Int64} {y : Int32} (hdg : decode cc pc = .ok (.lshl, 1)) (k : kX G E cs ws (pc + 1) lv (.long (x <<< (y.toInt64 &&& 63)) :: stk)) : kX G E cs ws pc lv (.int y :: .long x :: stk) := by
  obtain ⟨p, l, e, R, s, m, args, below, meth, c, A, Q, nL⟩ := E
  obtain ⟨hx, hb, -⟩ := C
  exact fun H locs ls hP hD hS h => lv_lshl hx hb hdg rfl (k H locs ls hP hD hS h)
theorem x_i2l (C : kOk G E cc own n rm) {x : Int32} (hdg : decode cc pc = .ok (.i2l, 1)) (k : kX G E cs ws (pc + 1) lv (.long (x.toInt64) :: stk)) : kX G E cs ws pc lv (.int x :: stk) := by
  obtain ⟨p, l, e, R, s, m, args, below, meth, c, A, Q, nL⟩ := E
  obtain ⟨hx, hb, -⟩ := C
  exact fun H locs ls hP hD hS h => lv_i2l hx hb hdg rfl (k H locs ls hP hD hS h)
theorem x_l2i (C : kOk G E cc own n rm) {x : Int64} (hdg : decode cc pc = .ok (.l2i, 1)) (k : kX G E cs ws (pc + 1) lv (.int (x.toInt32) :: stk)) : kX G E cs ws pc lv (.long x :: stk) := by
  obtain ⟨p, l, e, R, s, m, args, below, meth, c, A, Q, nL⟩ := E
  obtain ⟨hx, hb, -⟩ := C
  exact fun H locs ls hP hD hS h => lv_l2i hx hb hdg rfl (k H locs ls hP hD hS h)
theorem x_i2b (C : kOk G E cc own n rm) {x : Int32} (hdg : decode cc pc = .ok (.i2b, 1)) (k : kX G E cs ws (pc + 1) lv (.int (x.toInt8.toInt32) :: stk)) : kX G E cs ws pc lv (.int x :: stk) := by
  obtain ⟨p, l, e, R, s, m, args, below, meth, c, A, Q, nL⟩ := E
  obtain ⟨hx, hb, -⟩ := C
  exact fun H locs ls hP hD hS h => lv_i2b hx hb hdg rfl (k H locs ls hP hD hS h)
theorem x_ineg (C : kOk G E cc own n rm) {x : Int32} (hdg : decode cc pc = .ok (.ineg, 1)) (k : kX G E cs ws (pc + 1) lv (.int (-x) :: stk)) : kX G E cs ws pc lv (.int x :: stk) := by
  obtain ⟨p, l, e, R, s, m, args, below, meth, c, A, Q, nL⟩ := E
  obtain ⟨hx, hb, -⟩ := C
  exact fun H locs ls hP hD hS h => lv_ineg hx hb hdg (k H locs ls hP hD hS h)
theorem x_lcmp (C : kOk G E cc own n rm) {x y : Int64} (hdg : decode cc pc = .ok (.lcmp, 1)) (k : kX G E cs ws (pc + 1) lv (.int (lg_cmp x y) :: stk)) : kX G E cs ws pc lv (.long y :: .long x :: stk) := by
  obtain ⟨p, l, e, R, s, m, args, below, meth, c, A, Q, nL⟩ := E
  obtain ⟨hx, hb, -⟩ := C
  exact fun H locs ls hP hD hS h => W.lcmp hx hb hdg (k H locs ls hP hD hS h)
theorem x_icmp_eq (C : kOk G E cc own n rm) {x y : Int32} {off : Int} (tgt : Nat) (hdg : decode cc pc = .ok (.if_icmp .eq off, 3)) (ht : (pc : Int) + off = (tgt : Int)) (kt : x = y → kX G E cs ws tgt lv stk) (kf : ¬ x = y → kX G E cs ws (pc + 3) lv stk) : kX G E cs ws pc lv (.int y :: .int x :: stk) := by
  obtain ⟨p, l, e, R, s, m, args, below, meth, c, A, Q, nL⟩ := E
  obtain ⟨hx, hb, -⟩ := C
  exact fun H locs ls hP hD hS h => lv_icmp_eq hx hb hdg ht (fun q => kt q H locs ls hP hD hS h) (fun q => kf q H locs ls hP hD hS h)
theorem x_if_eq (C : kOk G E cc own n rm) {x : Int32} {off : Int} (tgt : Nat) (hdg : decode cc pc = .ok (.ifCond .eq off, 3)) (ht : (pc : Int) + off = (tgt : Int)) (kt : x = 0 → kX G E cs ws tgt lv stk) (kf : ¬ x = 0 → kX G E cs ws (pc + 3) lv stk) : kX G E cs ws pc lv (.int x :: stk) := by
  obtain ⟨p, l, e, R, s, m, args, below, meth, c, A, Q, nL⟩ := E
  obtain ⟨hx, hb, -⟩ := C
  exact fun H locs ls hP hD hS h => lv_if_eq hx hb hdg ht (fun q => kt q H locs ls hP hD hS h) (fun q => kf q H locs ls hP hD hS h)
theorem x_icmp_ne (C : kOk G E cc own n rm) {x y : Int32} {off : Int} (tgt : Nat) (hdg : decode cc pc = .ok (.if_icmp .ne off, 3)) (ht : (pc : Int) + off = (tgt : Int)) (kt : ¬ x = y → kX G E cs ws tgt lv stk) (kf : x = y → kX G E cs ws (pc + 3) lv stk) : kX G E cs ws pc lv (.int y :: .int x :: stk) := by
  obtain ⟨p, l, e, R, s, m, args, below, meth, c, A, Q, nL⟩ := E
  obtain ⟨hx, hb, -⟩ := C
  exact fun H locs ls hP hD hS h => lv_icmp_ne hx hb hdg ht (fun q => kt q H locs ls hP hD hS h) (fun q => kf q H locs ls hP hD hS h)
theorem x_if_ne (C : kOk G E cc own n rm) {x : Int32} {off : Int} (tgt : Nat) (hdg : decode cc pc = .ok (.ifCond .ne off, 3)) (ht : (pc : Int) + off = (tgt : Int)) (kt : ¬ x = 0 → kX G E cs ws tgt lv stk) (kf : x = 0 → kX G E cs ws (pc + 3) lv stk) : kX G E cs ws pc lv (.int x :: stk) := by
  obtain ⟨p, l, e, R, s, m, args, below, meth, c, A, Q, nL⟩ := E
  obtain ⟨hx, hb, -⟩ := C
  exact fun H locs ls hP hD hS h => lv_if_ne hx hb hdg ht (fun q => kt q H locs ls hP hD hS h) (fun q => kf q H locs ls hP hD hS h)
theorem x_icmp_ge (C : kOk G E cc own n rm) {x y : Int32} {off : Int} (tgt : Nat) (hdg : decode cc pc = .ok (.if_icmp .ge off, 3)) (ht : (pc : Int) + off = (tgt : Int)) (kt : y ≤ x → kX G E cs ws tgt lv stk) (kf : ¬ y ≤ x → kX G E cs ws (pc + 3) lv stk) : kX G E cs ws pc lv (.int y :: .int x :: stk) := by
  obtain ⟨p, l, e, R, s, m, args, below, meth, c, A, Q, nL⟩ := E
  obtain ⟨hx, hb, -⟩ := C
  exact fun H locs ls hP hD hS h => lv_icmp_ge hx hb hdg ht (fun q => kt q H locs ls hP hD hS h) (fun q => kf q H locs ls hP hD hS h)
theorem x_if_ge (C : kOk G E cc own n rm) {x : Int32} {off : Int} (tgt : Nat) (hdg : decode cc pc = .ok (.ifCond .ge off, 3)) (ht : (pc : Int) + off = (tgt : Int)) (kt : 0 ≤ x → kX G E cs ws tgt lv stk) (kf : ¬ 0 ≤ x → kX G E cs ws (pc + 3) lv stk) : kX G E cs ws pc lv (.int x :: stk) := by
  obtain ⟨p, l, e, R, s, m, args, below, meth, c, A, Q, nL⟩ := E
  obtain ⟨hx, hb, -⟩ := C
  exact fun H locs ls hP hD hS h => lv_if_ge hx hb hdg ht (fun q => kt q H locs ls hP hD hS h) (fun q => kf q H locs ls hP hD hS h)
theorem x_icmp_gt (C : kOk G E cc own n rm) {x y : Int32} {off : Int} (tgt : Nat) (hdg : decode cc pc = .ok (.if_icmp .gt off, 3)) (ht : (pc : Int) + off = (tgt : Int)) (kt : y < x → kX G E cs ws tgt lv stk) (kf : ¬ y < x → kX G E cs ws (pc + 3) lv stk) : kX G E cs ws pc lv (.int y :: .int x :: stk) := by
  obtain ⟨p, l, e, R, s, m, args, below, meth, c, A, Q, nL⟩ := E
  obtain ⟨hx, hb, -⟩ := C
  exact fun H locs ls hP hD hS h => lv_icmp_gt hx hb hdg ht (fun q => kt q H locs ls hP hD hS h) (fun q => kf q H locs ls hP hD hS h)
theorem x_if_gt (C : kOk G E cc own n rm) {x : Int32} {off : Int} (tgt : Nat) (hdg : decode cc pc = .ok (.ifCond .gt off, 3)) (ht : (pc : Int) + off = (tgt : Int)) (kt : 0 < x → kX G E cs ws tgt lv stk) (kf : ¬ 0 < x → kX G E cs ws (pc + 3) lv stk) : kX G E cs ws pc lv (.int x :: stk) := by
  obtain ⟨p, l, e, R, s, m, args, below, meth, c, A, Q, nL⟩ := E
  obtain ⟨hx, hb, -⟩ := C
  exact fun H locs ls hP hD hS h => lv_if_gt hx hb hdg ht (fun q => kt q H locs ls hP hD hS h) (fun q => kf q H locs ls hP hD hS h)
theorem x_icmp_le (C : kOk G E cc own n rm) {x y : Int32} {off : Int} (tgt : Nat) (hdg : decode cc pc = .ok (.if_icmp .le off, 3)) (ht : (pc : Int) + off = (tgt : Int)) (kt : x ≤ y → kX G E cs ws tgt lv stk) (kf : ¬ x ≤ y → kX G E cs ws (pc + 3) lv stk) : kX G E cs ws pc lv (.int y :: .int x :: stk) := by
  obtain ⟨p, l, e, R, s, m, args, below, meth, c, A, Q, nL⟩ := E
  obtain ⟨hx, hb, -⟩ := C
  exact fun H locs ls hP hD hS h => lv_icmp_le hx hb hdg ht (fun q => kt q H locs ls hP hD hS h) (fun q => kf q H locs ls hP hD hS h)
theorem x_if_le (C : kOk G E cc own n rm) {x : Int32} {off : Int} (tgt : Nat) (hdg : decode cc pc = .ok (.ifCond .le off, 3)) (ht : (pc : Int) + off = (tgt : Int)) (kt : x ≤ 0 → kX G E cs ws tgt lv stk) (kf : ¬ x ≤ 0 → kX G E cs ws (pc + 3) lv stk) : kX G E cs ws pc lv (.int x :: stk) := by
  obtain ⟨p, l, e, R, s, m, args, below, meth, c, A, Q, nL⟩ := E
  obtain ⟨hx, hb, -⟩ := C
  exact fun H locs ls hP hD hS h => lv_if_le hx hb hdg ht (fun q => kt q H locs ls hP hD hS h) (fun q => kf q H locs ls hP hD hS h)
theorem x_icmp_lt (C : kOk G E cc own n rm) {x y : Int32} {off : Int} (tgt : Nat) (hdg : decode cc pc = .ok (.if_icmp .lt off, 3)) (ht : (pc : Int) + off = (tgt : Int)) (kt : x < y → kX G E cs ws tgt lv stk) (kf : ¬ x < y → kX G E cs ws (pc + 3) lv stk) : kX G E cs ws pc lv (.int y :: .int x :: stk) := by
  obtain ⟨p, l, e, R, s, m, args, below, meth, c, A, Q, nL⟩ := E
  obtain ⟨hx, hb, -⟩ := C
  exact fun H locs ls hP hD hS h => lv_icmp_lt hx hb hdg ht (fun q => kt q H locs ls hP hD hS h) (fun q => kf q H locs ls hP hD hS h)
theorem x_if_lt (C : kOk G E cc own n rm) {x : Int32} {off : Int} (tgt : Nat) (hdg : decode cc pc = .ok (.ifCond .lt off, 3)) (ht : (pc : Int) + off = (tgt : Int)) (kt : x < 0 → kX G E cs ws tgt lv stk) (kf : ¬ x < 0 → kX G E cs ws (pc + 3) lv stk) : kX G E cs ws pc lv (.int x :: stk) := by
  obtain ⟨p, l, e, R, s, m, args, below, meth, c, A, Q, nL⟩ := E
  obtain ⟨hx, hb, -⟩ := C
  exact fun H locs ls hP hD hS h => lv_if_lt hx hb hdg ht (fun q => kt q H locs ls hP hD hS h) (fun q => kf q H locs ls hP hD hS h)
end KR
