/-! BASE 2: fields, arrays, calls, ends -/
/-- the links to nest mates: kept by what warms -/
def kisNest : Cond → Bool
  | .fieldLinkNest .. => true
  | .methodLinkNest .. => true
  | _ => false
theorem kNest_is : kNest.all kisNest = true := by decide +kernel
theorem kNest_on : ∀ w ∈ kNest, w.onTables = true := fun w hw => by
  have h := List.all_eq_true.mp kNest_is w hw
  cases w <;> first | rfl | (simp [kisNest] at h)
theorem kNest_warm {s U : State} (hW : s.WarmedH U.vm) (h : ∀ w ∈ kNest, va_Nw w s) : ∀ w ∈ kNest, va_Nw w U := fun w hw => by
  have h1 := List.all_eq_true.mp kNest_is w hw
  have h2 := h w hw
  cases w <;> first | exact va_Nw.warmF hW h2 | exact va_Nw.warmM hW h2 | (simp [kisNest] at h1)
section KR
variable {G : kG} {E : kE} {cs : Nat × Nat} {cc : ByteArray} {own : String} {n : Nat} {rm : Room} {ws : va_W} {pc : Nat} {lv : List (Nat × Value)} {stk : List Value}
theorem x_get (C : kOk G E cc own n rm) {C0 : String} {T : u_T} {N ci index a : Nat} (hin : ∀ w ∈ u_ws C0 T N, w ∈ wsL_law) (q0 : Nat) {fs : List Value} (he : ws[q0]? = some (a, .inr (ci, fs))) (hc : vwCl[ci]? = some (C0, T, N)) (k : Nat) (hk : k < N) (hlink : Cond.fieldLink own index (T k).1 (T k).2.1 (T k).2.2.1 ∈ wsL_law) {v : Value} (hv : fs[k]? = some v) (hdg : decode cc pc = .ok (.getfield index, 3)) (kk : kX G E cs ws (pc + 3) lv (v :: stk)) : kX G E cs ws pc lv (.ref a :: stk) := by
  obtain ⟨p, l, e, R, s, m, args, below, meth, c, A, Q, nL⟩ := E
  obtain ⟨hx, hb, -, hown, hts, -, hK, -⟩ := C
  exact fun H locs ls hP hD hS h => va_get hx hb hts hin hown hK hP q0 he hc k hk (hts _ hlink) (fun _ h => h) hv hdg (kk H locs ls hP hD hS h)
theorem x_put (C : kOk G E cc own n rm) {C0 : String} {T : u_T} {N ci index a : Nat} (hin : ∀ w ∈ u_ws C0 T N, w ∈ wsL_law) (ty0 : Nat → FieldType) (hty : ∀ k, k < N → parseFieldDescriptor (T k).2.2.1 = some (ty0 k)) (hnm : ∀ a, a < N → ∀ b, b < N → a ≠ b → (T a).2.1 ≠ (T b).2.1) (q0 : Nat) {fs : List Value} (he : ws[q0]? = some (a, .inr (ci, fs))) (hc : vwCl[ci]? = some (C0, T, N)) (k : Nat) (hk : k < N) (hlink : Cond.fieldLink own index (T k).1 (T k).2.1 (T k).2.2.1 ∈ wsL_law) (hfin : (T k).2.2.2 = false) (ty : FieldType) {v : Value} (hd : parseFieldDescriptor (T k).2.2.1 = some ty) (hn : narrow ty v = v) (hfit : fits ty v = true) (hl : k < fs.length) {ws' : va_W} (hset : ws.set q0 (a, .inr (ci, fs.set k v)) = ws') (hdg : decode cc pc = .ok (.putfield index, 3)) (kk : kX G E cs ws' (pc + 3) lv stk) : kX G E cs ws pc lv (v :: .ref a :: stk) := by
  obtain ⟨p, l, e, R, s, m, args, below, meth, c, A, Q, nL⟩ := E
  obtain ⟨hx, hb, -, hown, hts, -, hK, -⟩ := C
  subst hset
  exact fun H locs ls hP hD hS h => va_put hx hb hts hin ty0 hty hnm hown hK hP hD hS q0 he hc k hk (hts _ hlink) (fun _ h => h) hfin hd hn hfit hl hdg (fun H1 locs1 hP1 hD1 hS1 => kk H1 locs1 ls hP1 hD1 hS1 h)
theorem x_getN (C : kOk G E cc own n rm) {C0 host : String} {T : u_T} {N ci index a : Nat} (hin : ∀ w ∈ u_ws C0 T N, w ∈ wsL_law) (q0 : Nat) {fs : List Value} (he : ws[q0]? = some (a, .inr (ci, fs))) (hc : vwCl[ci]? = some (C0, T, N)) (k : Nat) (hk : k < N) (hlink : Cond.fieldLinkNest own index (T k).1 (T k).2.1 (T k).2.2.1 host ∈ kNest) {v : Value} (hv : fs[k]? = some v) (hdg : decode cc pc = .ok (.getfield index, 3)) (kk : kX G E cs ws (pc + 3) lv (v :: stk)) : kX G E cs ws pc lv (.ref a :: stk) := by
  obtain ⟨p, l, e, R, s, m, args, below, meth, c, A, Q, nL⟩ := E
  obtain ⟨hx, hb, -, hown, hts, -, hK, -, -, -, hNw⟩ := C
  exact fun H locs ls hP hD hS h => va_getN hx hb hts hin hown hK hP q0 he hc k hk (va_Nw.use rfl (hNw _ hlink)) (fun _ h => h) hv hdg (kk H locs ls hP hD hS h)
theorem x_putN (C : kOk G E cc own n rm) {C0 host : String} {T : u_T} {N ci index a : Nat} (hin : ∀ w ∈ u_ws C0 T N, w ∈ wsL_law) (ty0 : Nat → FieldType) (hty : ∀ k, k < N → parseFieldDescriptor (T k).2.2.1 = some (ty0 k)) (hnm : ∀ a, a < N → ∀ b, b < N → a ≠ b → (T a).2.1 ≠ (T b).2.1) (q0 : Nat) {fs : List Value} (he : ws[q0]? = some (a, .inr (ci, fs))) (hc : vwCl[ci]? = some (C0, T, N)) (k : Nat) (hk : k < N) (hlink : Cond.fieldLinkNest own index (T k).1 (T k).2.1 (T k).2.2.1 host ∈ kNest) (hfin : (T k).2.2.2 = false) (ty : FieldType) {v : Value} (hd : parseFieldDescriptor (T k).2.2.1 = some ty) (hn : narrow ty v = v) (hfit : fits ty v = true) (hl : k < fs.length) {ws' : va_W} (hset : ws.set q0 (a, .inr (ci, fs.set k v)) = ws') (hdg : decode cc pc = .ok (.putfield index, 3)) (kk : kX G E cs ws' (pc + 3) lv stk) : kX G E cs ws pc lv (v :: .ref a :: stk) := by
  obtain ⟨p, l, e, R, s, m, args, below, meth, c, A, Q, nL⟩ := E
  obtain ⟨hx, hb, -, hown, hts, -, hK, -, -, -, hNw⟩ := C
  subst hset
  exact fun H locs ls hP hD hS h => va_putN hx hb hts hin ty0 hty hnm hown hK hP hD hS q0 he hc k hk (va_Nw.use rfl (hNw _ hlink)) (fun _ h => h) hfin hd hn hfit hl hdg (fun H1 locs1 hP1 hD1 hS1 => kk H1 locs1 ls hP1 hD1 hS1 h)
theorem x_iald (C : kOk G E cc own n rm) (q0 : Nat) {a N : Nat} {f : Nat → Int32} (ha : ws[q0]? = some (a, .inl (G.2.1, N, .inl f))) {i : Int32} (hin : vp_in i N) (hdg : decode cc pc = .ok (.iaload, 1)) (kk : kX G E cs ws (pc + 1) lv (.int (f i.toNatClampNeg) :: stk)) : kX G E cs ws pc lv (.int i :: .ref a :: stk) := by
  obtain ⟨p, l, e, R, s, m, args, below, meth, c, A, Q, nL⟩ := E
  obtain ⟨hx, hb, -, hown, hts, -, hK, -⟩ := C
  exact fun H locs ls hP hD hS h => va_iald hx hb hK hP q0 0 ha rfl hin hdg (kk H locs ls hP hD hS h)
theorem x_lald (C : kOk G E cc own n rm) (q0 : Nat) {a N : Nat} {f : Nat → Int64} (ha : ws[q0]? = some (a, .inl (G.2.2.1, N, .inr (.inl f)))) {i : Int32} (hin : vp_in i N) (hdg : decode cc pc = .ok (.laload, 1)) (kk : kX G E cs ws (pc + 1) lv (.long (f i.toNatClampNeg) :: stk)) : kX G E cs ws pc lv (.int i :: .ref a :: stk) := by
  obtain ⟨p, l, e, R, s, m, args, below, meth, c, A, Q, nL⟩ := E
  obtain ⟨hx, hb, -, hown, hts, -, hK, -⟩ := C
  exact fun H locs ls hP hD hS h => va_lald hx hb hK hP q0 1 ha rfl hin hdg (kk H locs ls hP hD hS h)
theorem x_iast (C : kOk G E cc own n rm) (q0 : Nat) {a N : Nat} {f : Nat → Int32} (ha : ws[q0]? = some (a, .inl (G.2.1, N, .inl f))) {i x : Int32} (hin : vp_in i N) {ws' : va_W} (hset : ws.set q0 (a, .inl (G.2.1, N, .inl (upd f i.toNatClampNeg x))) = ws') (hdg : decode cc pc = .ok (.iastore, 1)) (kk : kX G E cs ws' (pc + 1) lv stk) : kX G E cs ws pc lv (.int x :: .int i :: .ref a :: stk) := by
  obtain ⟨p, l, e, R, s, m, args, below, meth, c, A, Q, nL⟩ := E
  obtain ⟨hx, hb, -, hown, hts, -, hK, -⟩ := C
  subst hset
  exact fun H locs ls hP hD hS h => va_iast hx hb hK hP hD hS q0 0 ha rfl hin hdg (fun H1 locs1 hP1 hD1 hS1 => kk H1 locs1 ls hP1 hD1 hS1 h)
theorem x_last (C : kOk G E cc own n rm) (q0 : Nat) {a N : Nat} {f : Nat → Int64} (ha : ws[q0]? = some (a, .inl (G.2.2.1, N, .inr (.inl f)))) {i : Int32} {x : Int64} (hin : vp_in i N) {ws' : va_W} (hset : ws.set q0 (a, .inl (G.2.2.1, N, .inr (.inl (vp_updL f i.toNatClampNeg x)))) = ws') (hdg : decode cc pc = .ok (.lastore, 1)) (kk : kX G E cs ws' (pc + 1) lv stk) : kX G E cs ws pc lv (.long x :: .int i :: .ref a :: stk) := by
  obtain ⟨p, l, e, R, s, m, args, below, meth, c, A, Q, nL⟩ := E
  obtain ⟨hx, hb, -, hown, hts, -, hK, -⟩ := C
  subst hset
  exact fun H locs ls hP hD hS h => va_last hx hb hK hP hD hS q0 1 ha rfl hin hdg (fun H1 locs1 hP1 hD1 hS1 => kk H1 locs1 ls hP1 hD1 hS1 h)
theorem x_alenI (C : kOk G E cc own n rm) (q0 : Nat) {a N : Nat} {f : Nat → Int32} (ha : ws[q0]? = some (a, .inl (G.2.1, N, .inl f))) (hdg : decode cc pc = .ok (.arraylength, 1)) (kk : kX G E cs ws (pc + 1) lv (.int (nI N) :: stk)) : kX G E cs ws pc lv (.ref a :: stk) := by
  obtain ⟨p, l, e, R, s, m, args, below, meth, c, A, Q, nL⟩ := E
  obtain ⟨hx, hb, -, hown, hts, -, hK, -⟩ := C
  exact fun H locs ls hP hD hS h => va_alen hx hb hK hP q0 0 ha (ty := .int) rfl rfl hdg (kk H locs ls hP hD hS h)
theorem x_alenL (C : kOk G E cc own n rm) (q0 : Nat) {a N : Nat} {f : Nat → Int64} (ha : ws[q0]? = some (a, .inl (G.2.2.1, N, .inr (.inl f)))) (hdg : decode cc pc = .ok (.arraylength, 1)) (kk : kX G E cs ws (pc + 1) lv (.int (nI N) :: stk)) : kX G E cs ws pc lv (.ref a :: stk) := by
  obtain ⟨p, l, e, R, s, m, args, below, meth, c, A, Q, nL⟩ := E
  obtain ⟨hx, hb, -, hown, hts, -, hK, -⟩ := C
  exact fun H locs ls hP hD hS h => va_alen hx hb hK hP q0 1 ha (ty := .long) rfl rfl hdg (kk H locs ls hP hD hS h)
theorem x_mmax (C : kOk G E cc own n rm) {index : Nat} (h1 : Cond.methodLink own index Lib.Math.max.name ∈ wsL_law) (h2 : Cond.static Lib.Math.max.name ∈ wsL_law) (h3 : Cond.initialized "java/lang/Math" ∈ wsL_law) (h4 : Cond.code Lib.Math.max.name Lib.Math.max.code 2 (some .int) ∈ wsL_law) (hR : 1 ≤ rm.frames ∧ 21 ≤ rm.locals) (hcs : cs.1 ≤ rm.cells ∧ cs.2 ≤ rm.slots) (hW : (stk.map fun v => v.category).sum ≤ 8) {x y : Int32} (hdg : decode cc pc = .ok (.invokestatic index, 3)) (kk : kX G E cs ws (pc + 3) lv (.int (if x < y then y else x) :: stk)) : kX G E cs ws pc lv (.int y :: .int x :: stk) := by
  obtain ⟨p, l, e, R, s, m, args, below, meth, c, A, Q, nL⟩ := E
  obtain ⟨hx, hb, hml, hown, hts, -, hK, -, -, rfl, -⟩ := C
  exact fun H locs ls hP hD hS h => va_mmax hx hb (hml.trans h.1.symm) hown (hts _ h1) (hts _ h2) (hts _ h3) (hts _ h4) hR.1 (by omega) hcs.1 hcs.2 hdg (kk H locs ls hP hD hS h)
theorem x_mmin (C : kOk G E cc own n rm) {index : Nat} (h1 : Cond.methodLink own index Lib.Math.min.name ∈ wsL_law) (h2 : Cond.static Lib.Math.min.name ∈ wsL_law) (h3 : Cond.initialized "java/lang/Math" ∈ wsL_law) (h4 : Cond.code Lib.Math.min.name Lib.Math.min.code 2 (some .int) ∈ wsL_law) (hR : 1 ≤ rm.frames ∧ 21 ≤ rm.locals) (hcs : cs.1 ≤ rm.cells ∧ cs.2 ≤ rm.slots) (hW : (stk.map fun v => v.category).sum ≤ 8) {x y : Int32} (hdg : decode cc pc = .ok (.invokestatic index, 3)) (kk : kX G E cs ws (pc + 3) lv (.int (if y < x then y else x) :: stk)) : kX G E cs ws pc lv (.int y :: .int x :: stk) := by
  obtain ⟨p, l, e, R, s, m, args, below, meth, c, A, Q, nL⟩ := E
  obtain ⟨hx, hb, hml, hown, hts, -, hK, -, -, rfl, -⟩ := C
  exact fun H locs ls hP hD hS h => va_mmin hx hb (hml.trans h.1.symm) hown (hts _ h1) (hts _ h2) (hts _ h3) (hts _ h4) hR.1 (by omega) hcs.1 hcs.2 hdg (kk H locs ls hP hD hS h)
theorem x_mabs (C : kOk G E cc own n rm) {index : Nat} (h1 : Cond.methodLink own index Lib.Math.abs.name ∈ wsL_law) (h2 : Cond.static Lib.Math.abs.name ∈ wsL_law) (h3 : Cond.initialized "java/lang/Math" ∈ wsL_law) (h4 : Cond.code Lib.Math.abs.name Lib.Math.abs.code 1 (some .int) ∈ wsL_law) (hR : 1 ≤ rm.frames ∧ 21 ≤ rm.locals) (hcs : cs.1 ≤ rm.cells ∧ cs.2 ≤ rm.slots) (hW : (stk.map fun v => v.category).sum ≤ 8) {x : Int32} (hdg : decode cc pc = .ok (.invokestatic index, 3)) (kk : kX G E cs ws (pc + 3) lv (.int (if 0 ≤ x then x else 0 - x) :: stk)) : kX G E cs ws pc lv (.int x :: stk) := by
  obtain ⟨p, l, e, R, s, m, args, below, meth, c, A, Q, nL⟩ := E
  obtain ⟨hx, hb, hml, hown, hts, -, hK, -, -, rfl, -⟩ := C
  exact fun H locs ls hP hD hS h => va_mabs hx hb (hml.trans h.1.symm) hown (hts _ h1) (hts _ h2) (hts _ h3) (hts _ h4) hR.1 (by omega) hcs.1 hcs.2 hdg (kk H locs ls hP hD hS h)
theorem x_iret (C : kOk G E cc own n rm) {v : Int32} (Z : kEnd G E cs (some .int) (some (.int v)) ws) (hdg : decode cc pc = .ok (.ireturn, 1)) : kX G E cs ws pc lv [.int v] := by
  obtain ⟨p, l, e, R, s, m, args, below, meth, c, A, Q, nL⟩ := E
  obtain ⟨hx, hb, -, -, -, hlocks, hK, -⟩ := C
  obtain ⟨hr, rfl⟩ := Z
  exact fun H locs ls hP hD hS h => W.iret hx hb hr (fun t ht hW => ⟨⟨rfl, by rw [ht]; exact hP, va_K.moved hW.alike hK, hD⟩, hS.F ht⟩) hS.2.2 hdg hlocks
theorem x_zret (C : kOk G E cc own n rm) {v : Int32} (hn : narrow .boolean (.int v) = .int v) (Z : kEnd G E cs (some .boolean) (some (.int v)) ws) (hdg : decode cc pc = .ok (.ireturn, 1)) : kX G E cs ws pc lv [.int v] := by
  obtain ⟨p, l, e, R, s, m, args, below, meth, c, A, Q, nL⟩ := E
  obtain ⟨hx, hb, -, -, -, hlocks, hK, -⟩ := C
  obtain ⟨hr, rfl⟩ := Z
  exact fun H locs ls hP hD hS h => W.zret hx hb hr hn (fun t ht hW => ⟨⟨rfl, by rw [ht]; exact hP, va_K.moved hW.alike hK, hD⟩, hS.F ht⟩) hS.2.2 hdg hlocks
theorem x_lret (C : kOk G E cc own n rm) {v : Int64} (Z : kEnd G E cs (some .long) (some (.long v)) ws) (hdg : decode cc pc = .ok (.lreturn, 1)) : kX G E cs ws pc lv [.long v] := by
  obtain ⟨p, l, e, R, s, m, args, below, meth, c, A, Q, nL⟩ := E
  obtain ⟨hx, hb, -, -, -, hlocks, hK, -⟩ := C
  obtain ⟨hr, rfl⟩ := Z
  exact fun H locs ls hP hD hS h => W.lret hx hb hr (fun t ht hW => ⟨⟨rfl, by rw [ht]; exact hP, va_K.moved hW.alike hK, hD⟩, hS.F ht⟩) hS.2.2 hdg hlocks
theorem x_aret (C : kOk G E cc own n rm) {a : Nat} (Z : kEnd G E cs (some (.array .int)) (some (.ref a)) ws) (hdg : decode cc pc = .ok (.areturn, 1)) : kX G E cs ws pc lv [.ref a] := by
  obtain ⟨p, l, e, R, s, m, args, below, meth, c, A, Q, nL⟩ := E
  obtain ⟨hx, hb, -, -, -, hlocks, hK, -⟩ := C
  obtain ⟨hr, rfl⟩ := Z
  exact fun H locs ls hP hD hS h => W.aret hx hb hr (Or.inr ⟨_, rfl⟩) (Or.inr ⟨_, rfl⟩) (fun t ht hW => ⟨⟨rfl, by rw [ht]; exact hP, va_K.moved hW.alike hK, hD⟩, hS.F ht⟩) hS.2.2 hdg hlocks
theorem x_vret (C : kOk G E cc own n rm) (Z : kEnd G E cs none none ws) (hdg : decode cc pc = .ok (.return_, 1)) : kX G E cs ws pc lv [] := by
  obtain ⟨p, l, e, R, s, m, args, below, meth, c, A, Q, nL⟩ := E
  obtain ⟨hx, hb, -, -, -, hlocks, hK, -⟩ := C
  obtain ⟨hr, rfl⟩ := Z
  exact fun H locs ls hP hD hS h => W.vret hx hb hr (fun t ht hW => ⟨⟨rfl, by rw [ht]; exact hP, va_K.moved hW.alike hK, hD⟩, hS.F ht⟩) hS.2.2 hdg hlocks
theorem x_tsIn (C : kOk G E cc own n rm) {dflt lo hi : Int} {offs : Array Int} {len : Nat} {x : Int32} {off : Int} (tgt : Nat) (hdg : decode cc pc = .ok (.tableswitch dflt lo hi offs, len)) (h1 : ¬ x.toInt < lo) (h2 : ¬ hi < x.toInt) (ho : offs[(x.toInt - lo).toNat]? = some off) (ht : (pc : Int) + off = (tgt : Int)) (k : kX G E cs ws tgt lv stk) : kX G E cs ws pc lv (.int x :: stk) := by
  obtain ⟨p, l, e, R, s, m, args, below, meth, c, A, Q, nL⟩ := E
  obtain ⟨hx, hb, -⟩ := C
  exact fun H locs ls hP hD hS h => lv_tableIn hx hb hdg h1 h2 ho ht (k H locs ls hP hD hS h)
theorem x_tsOut (C : kOk G E cc own n rm) {dflt lo hi : Int} {offs : Array Int} {len : Nat} {x : Int32} (tgt : Nat) (hdg : decode cc pc = .ok (.tableswitch dflt lo hi offs, len)) (h1 : x.toInt < lo ∨ hi < x.toInt) (ht : (pc : Int) + dflt = (tgt : Int)) (k : kX G E cs ws tgt lv stk) : kX G E cs ws pc lv (.int x :: stk) := by
  obtain ⟨p, l, e, R, s, m, args, below, meth, c, A, Q, nL⟩ := E
  obtain ⟨hx, hb, -⟩ := C
  exact fun H locs ls hP hD hS h => lv_tableOut hx hb hdg h1 ht (k H locs ls hP hD hS h)
theorem x_ls (C : kOk G E cc own n rm) {dflt : Int} {ps : Array (Int × Int)} {len : Nat} {x : Int32} {off : Int} (tgt : Nat) (hdg : decode cc pc = .ok (.lookupswitch dflt ps, len)) (hp : (ps.toList.zip (ps.toList.drop 1)).all (fun (a, next) => a.1 < next.1) = true) (ho : Op.lookupswitch.offset ps.toList dflt x.toInt = off) (ht : (pc : Int) + off = (tgt : Int)) (k : kX G E cs ws tgt lv stk) : kX G E cs ws pc lv (.int x :: stk) := by
  obtain ⟨p, l, e, R, s, m, args, below, meth, c, A, Q, nL⟩ := E
  obtain ⟨hx, hb, -⟩ := C
  exact fun H locs ls hP hD hS h => lv_lookup hx hb hdg hp ho ht (k H locs ls hP hD hS h)
/-- a place of a table is left when the number is none of them -/
theorem k_out {x : Int32} {lo hi : Int} (h : ∀ i : Int, lo ≤ i → i ≤ hi → x.toInt ≠ i) : x.toInt < lo ∨ hi < x.toInt := by
  rcases Int.lt_or_le x.toInt lo with q | q
  · exact Or.inl q
  · rcases Int.lt_or_le hi x.toInt with r | r
    · exact Or.inr r
    · exact absurd rfl (h _ q r)
theorem k_ne {x y : Int32} (h : ¬ x = y) : x.toInt ≠ y.toInt := fun e => h (Int32.toInt_inj.mp e)
/-- calls -/
theorem kGI {ws' : List Cond} (h : ∀ w ∈ ws', w ∈ wsL_law) : GoodIn wsL_law ws' := fun w hw => ⟨h w hw, good_of_word (List.all_eq_true.mp kgood w (h w hw))⟩
def kYV (y : MethodName) (C : String) (bytes : ByteArray) (maxL : Nat) (ret : Option FieldType) (np : Nat) : Prop :=
  Cond.instanceMethod y ∈ wsL_law ∧ Cond.selects C y y ∈ wsL_law ∧ Cond.initialized y.cls ∈ wsL_law ∧ Cond.code y bytes maxL ret ∈ wsL_law ∧ (y.cls ≠ "java/lang/invoke/MethodHandle" ∧ y.cls ≠ "java/lang/invoke/VarHandle" ∧ (parseMethodDescriptor y.desc).map (fun d => d.parameters.length) = some np)
def kYS (y : MethodName) (bytes : ByteArray) (maxL : Nat) (ret : Option FieldType) (np : Nat) : Prop :=
  Cond.static y ∈ wsL_law ∧ Cond.initialized y.cls ∈ wsL_law ∧ Cond.code y bytes maxL ret ∈ wsL_law ∧ (y.cls ≠ "java/lang/invoke/MethodHandle" ∧ y.cls ≠ "java/lang/invoke/VarHandle" ∧ (parseMethodDescriptor y.desc).map (fun d => d.parameters.length) = some np)
theorem kblind (av : List Value) (sz : Nat) : FrameBlind (va_Pc av (kPre G ws sz)) := fun a U g mk q => by
  obtain ⟨q0, q1, qP, qK, qD, qN⟩ := q
  exact ⟨q0, q1, qP, va_K.moved (u := U) (U := U.calling g mk a) (Vm.Alike.refl U.vm) qK, qD, fun w hw => va_Nw.same (u := U) (U := U.calling g mk a) (kNest_on w hw) rfl (qN w hw)⟩
theorem kX.call {p : Program} {l : Launch} {e : Env} {R : Room} {s : State} {m : MethodId} {args : Array Value} {below : List Frame} {meth : Method} {c : Code} {A : Nat → Prop} {Q : State → Prop} {nL : Nat} {H : Heap} {locs : List Loc} {ls : Array Slot} {rest : List Value} {res : Option Value} {ws1 : va_W} {a : Array Value} {mc ms : Nat}
    (run : va_Run p l e R s m args below meth c H locs cs.1 cs.2 mc ms (F0 m pc ls stk) rest (kQ G (va_A ws H.size) res ws1 a) (va_A ws H.size)) (hD : va_D A ws) (hS : va_S A s.heap H locs) (hl : lv_has ls nL lv) (hA : ∀ q : Nat, s.heap.size ≤ q → A q)
    (k : kX G (p, l, e, R, s, m, args, below, meth, c, A, Q, nL) (cs.1 + mc, cs.2 + ms) ws1 (pc + 3) lv (res.toList ++ rest)) : W p l e R s m args below meth c H locs cs.1 cs.2 Q (F0 m pc ls stk) := by
  intro T hT X
  obtain ⟨v, st₀, t, T', L, h0, X', hL, e1, e2, ⟨⟨hv, hP1, hK1, hD1⟩, hz, hk⟩, st⟩ := run T hT X
  cases hv
  rw [h0] at hz hk
  have hF : ∀ q, va_A ws H.size q → A q := by
    intro q hq
    rcases hq with ⟨k, e, hk⟩ | hq
    · exact hD.2 k (q, e) hk
    · exact hA q (Nat.le_trans hS.1 hq)
  obtain ⟨t2, a1, b1⟩ := k T'.heap (locs ++ L) ls (by rw [e1]; exact hP1) ⟨hD1.1, fun k q h => hF _ (hD1.2 k q h)⟩
    ⟨Nat.le_trans hS.1 (by rw [e1]; exact hz), fun q h1 h2 => by rw [e1, hk q (Nat.lt_of_lt_of_le h1 hS.1) (fun z => h2 (hF q z))]; exact hS.2.1 q h1 h2, fun q hq => by
      rcases List.mem_append.mp hq with h | h
      · exact hS.2.2 q h
      · exact hF _ (hL q h)⟩ hl T' rfl X'
  exact ⟨t2, st t2 a1, b1⟩
theorem x_callV (C : kOk G E cc own n rm) {y : MethodName} {bytes : ByteArray} {maxL np index : Nat} {ret : Option FieldType} {rmc : Room} {b ci : Nat} {fs : List Value} {q : vw_C} {rest stk' : List Value} {res : Option Value} {ws1 : va_W}
    (q0 : Nat) (As : List Value) (he : ws[q0]? = some (b, .inr (ci, fs))) (hc : vwCl[ci]? = some q) (M : kMet G y bytes maxL ret rmc (0, 0) (.ref b :: As) ws res ws1) (Y : kYV y q.1 bytes maxL ret np) (hL : Cond.methodLink own index y ∈ wsL_law)
    (hR : rmc.frames + 1 ≤ rm.frames ∧ 8 + (maxL + 11) + rmc.locals ≤ rm.locals ∧ rmc.cells = 0 ∧ rmc.slots = 0) (hcs : cs.1 ≤ rm.cells ∧ cs.2 ≤ rm.slots) (hst : stk = As.reverse ++ .ref b :: rest) (hn : As.length = np) (hW : (rest.map fun v => v.category).sum ≤ 8) (hst' : res.toList ++ rest = stk') (hdg : decode cc pc = .ok (.invokevirtual index, 3))
    (k : kX G E cs ws1 (pc + 3) lv stk') : kX G E cs ws pc lv stk := by
  obtain ⟨p, l, e, R, s, m, args, below, meth, c, A, Q, nL⟩ := E
  obtain ⟨hx, hb, hml, hown, hts, -, hK, hA, -, rfl, hNw⟩ := C
  obtain ⟨y1, y2, y3, y4, y5⟩ := Y
  subst hst'
  intro H locs ls hP hD hS hl
  have hG : GoodIn wsL_law (Cond.code y bytes maxL ret :: wsL_law) := kGI (fun w hw => by
    rcases List.mem_cons.mp hw with h | h
    · rw [h]; exact y4
    · exact h)
  exact kX.call (va_runV (As := As) (rest := rest) ⟨hx, hb, hml, hown, hts⟩ (M l H.size) ⟨callB_of np hts hG rfl hR.2.2.1 hR.2.2.2 (hts _ y3) (hts _ hL) y5 ⟨hR.1, hR.2.1⟩, hts _ y1, hts _ y2⟩
    ⟨kblind _ _, va_recv hK hP hc he, fun U hU hW => ⟨rfl, by rw [hU], by rw [hU]; exact hP, va_K.moved hW.alike hK, hD.weaken (fun _ _ _ _ => trivial), kNest_warm hW hNw⟩⟩ rfl hn hl.1 hst (lv_room hW) hdg hcs) hD hS hl hA k
theorem x_callS (C : kOk G E cc own n rm) {y : MethodName} {bytes : ByteArray} {maxL np index : Nat} {ret : Option FieldType} {rmc : Room} {rest stk' : List Value} {res : Option Value} {ws1 : va_W}
    (As : List Value) (M : kMet G y bytes maxL ret rmc (0, 0) As ws res ws1) (Y : kYS y bytes maxL ret np) (hL : Cond.methodLink own index y ∈ wsL_law)
    (hR : rmc.frames + 1 ≤ rm.frames ∧ 8 + (maxL + 11) + rmc.locals ≤ rm.locals ∧ rmc.cells = 0 ∧ rmc.slots = 0) (hcs : cs.1 ≤ rm.cells ∧ cs.2 ≤ rm.slots) (hst : stk = As.reverse ++ rest) (hn : As.length = np) (hW : (rest.map fun v => v.category).sum ≤ 8) (hst' : res.toList ++ rest = stk') (hdg : decode cc pc = .ok (.invokestatic index, 3))
    (k : kX G E cs ws1 (pc + 3) lv stk') : kX G E cs ws pc lv stk := by
  obtain ⟨p, l, e, R, s, m, args, below, meth, c, A, Q, nL⟩ := E
  obtain ⟨hx, hb, hml, hown, hts, -, hK, hA, -, rfl, hNw⟩ := C
  obtain ⟨y1, y3, y4, y5⟩ := Y
  subst hst'
  intro H locs ls hP hD hS hl
  have hG : GoodIn wsL_law (Cond.code y bytes maxL ret :: wsL_law) := kGI (fun w hw => by
    rcases List.mem_cons.mp hw with h | h
    · rw [h]; exact y4
    · exact h)
  exact kX.call (va_runS (As := As) (rest := rest) ⟨hx, hb, hml, hown, hts⟩ (M l H.size) ⟨callB_of np hts hG rfl hR.2.2.1 hR.2.2.2 (hts _ y3) (hts _ hL) y5 ⟨hR.1, hR.2.1⟩, hts _ y1⟩
    ⟨kblind _ _, fun U hU hW => ⟨rfl, by rw [hU], by rw [hU]; exact hP, va_K.moved hW.alike hK, hD.weaken (fun _ _ _ _ => trivial), kNest_warm hW hNw⟩⟩ rfl hn hl.1 hst (lv_room hW) hdg hcs) hD hS hl hA k
end KR
