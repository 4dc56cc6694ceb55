/-- the cells of HousesThatChange by its numbers: 0=HousesThatChange; 1=HousesThatChange$Page; 2=HousesThatChange$Town; 3=HousesThatChange$Moment; 4=HousesThatChange$Moment; 5=HousesThatChange$Orders; 6=HousesThatChange$Mayor; 7=HousesThatChange$Goal; 8=HousesThatChange$Past; 9=HousesThatChange$Stroll; 10=Page1.codes; 11=Town2.kinds; 12=Town2.feuds; 13=Moment3.order; 14=Moment3.ahead; 15=Moment4.order; 16=Moment4.ahead; 17=Orders5.changed; 18=Orders5.row; 19=Mayor6.rolls; 20=Mayor6.left; 21=Goal7.order; 22=Goal7.few; 23=Goal7.sure; 24=Goal7.line; 25=Past8.rows; 26=Past8.rowsThen; 27=Past8.shared; 28=Past8.sharedThen; 29=Stroll9.rolls; 30=Stroll9.rollsThen; I0=HousesThatChange0.keeps; I1=HousesThatChange0.readings; I2=Page1.size; I3=Town2.houses; I4=Town2.pairs; I5=Town2.bars; I6=Moment3.seed; I7=Moment3.nights; I8=Moment4.seed; I9=Moment4.nights; I10=Orders5.places; I11=Orders5.size; I12=Mayor6.known; I13=Goal7.told; I14=Goal7.fewCounted; I15=Goal7.sureCounted -/
def wX (G : kG) (a : Nat → Nat) (st : kS) : va_W := [(a 0, .inr (8, [.ref (a 1), .ref (a 2), .ref (a 3), .ref (a 4), .ref (a 5), .ref (a 6), .ref (a 7), .ref (a 8), .ref (a 9), .int (gI st 0), .int (gI st 1)])), (a 1, .inr (4, [.ref (a 10), .int (gI st 2)])), (a 2, .inr (7, [.ref (a 11), .ref (a 12), .int (gI st 3), .int (gI st 4), .int (gI st 5)])), (a 3, .inr (2, [.ref (a 13), .ref (a 14), .int (gI st 6), .int (gI st 7)])), (a 4, .inr (2, [.ref (a 15), .ref (a 16), .int (gI st 8), .int (gI st 9)])), (a 5, .inr (3, [.ref (a 17), .ref (a 18), .int (gI st 10), .int (gI st 11)])), (a 6, .inr (1, [.ref (a 2), .ref (a 5), .ref (a 19), .ref (a 20), .int (gI st 12)])), (a 7, .inr (0, [.ref (a 2), .ref (a 5), .ref (a 21), .ref (a 22), .ref (a 23), .ref (a 24), .int (gI st 13), .int (gI st 14), .int (gI st 15)])), (a 8, .inr (5, [.ref (a 2), .ref (a 5), .ref (a 25), .ref (a 26), .ref (a 27), .ref (a 28)])), (a 9, .inr (6, [.ref (a 2), .ref (a 29), .ref (a 30)])), (a 10, .inl (G.2.1, 26, .inl (gA st 10))), (a 11, .inl (G.2.1, 6, .inl (gA st 11))), (a 12, .inl (G.2.1, 36, .inl (gA st 12))), (a 13, .inl (G.2.1, 6, .inl (gA st 13))), (a 14, .inl (G.2.1, 6, .inl (gA st 14))), (a 15, .inl (G.2.1, 6, .inl (gA st 15))), (a 16, .inl (G.2.1, 6, .inl (gA st 16))), (a 17, .inl (G.2.1, 4320, .inl (gA st 17))), (a 18, .inl (G.2.1, 6, .inl (gA st 18))), (a 19, .inl (G.2.1, 3600, .inl (gA st 19))), (a 20, .inl (G.2.1, 6, .inl (gA st 20))), (a 21, .inl (G.2.1, 6, .inl (gA st 21))), (a 22, .inl (G.2.1, 720, .inl (gA st 22))), (a 23, .inl (G.2.1, 720, .inl (gA st 23))), (a 24, .inl (G.2.1, 720, .inl (gA st 24))), (a 25, .inl (G.2.2.1, 720, .inr (.inl (gL st 25)))), (a 26, .inl (G.2.2.1, 720, .inr (.inl (gL st 26)))), (a 27, .inl (G.2.1, 720, .inl (gA st 27))), (a 28, .inl (G.2.1, 720, .inl (gA st 28))), (a 29, .inl (G.2.1, 6, .inl (gA st 29))), (a 30, .inl (G.2.1, 6, .inl (gA st 30)))]
theorem swX_I0 (G : kG) (a : Nat → Nat) (st : kS) (v : Int32) : (wX G a st).set 0 (a 0, .inr (8, [.ref (a 1), .ref (a 2), .ref (a 3), .ref (a 4), .ref (a 5), .ref (a 6), .ref (a 7), .ref (a 8), .ref (a 9), .int v, .int (gI st 1)])) = wX G a (sI st 0 v) := rfl
theorem swX_I1 (G : kG) (a : Nat → Nat) (st : kS) (v : Int32) : (wX G a st).set 0 (a 0, .inr (8, [.ref (a 1), .ref (a 2), .ref (a 3), .ref (a 4), .ref (a 5), .ref (a 6), .ref (a 7), .ref (a 8), .ref (a 9), .int (gI st 0), .int v])) = wX G a (sI st 1 v) := rfl
theorem swX_I2 (G : kG) (a : Nat → Nat) (st : kS) (v : Int32) : (wX G a st).set 1 (a 1, .inr (4, [.ref (a 10), .int v])) = wX G a (sI st 2 v) := rfl
theorem swX_I3 (G : kG) (a : Nat → Nat) (st : kS) (v : Int32) : (wX G a st).set 2 (a 2, .inr (7, [.ref (a 11), .ref (a 12), .int v, .int (gI st 4), .int (gI st 5)])) = wX G a (sI st 3 v) := rfl
theorem swX_I4 (G : kG) (a : Nat → Nat) (st : kS) (v : Int32) : (wX G a st).set 2 (a 2, .inr (7, [.ref (a 11), .ref (a 12), .int (gI st 3), .int v, .int (gI st 5)])) = wX G a (sI st 4 v) := rfl
theorem swX_I5 (G : kG) (a : Nat → Nat) (st : kS) (v : Int32) : (wX G a st).set 2 (a 2, .inr (7, [.ref (a 11), .ref (a 12), .int (gI st 3), .int (gI st 4), .int v])) = wX G a (sI st 5 v) := rfl
theorem swX_I6 (G : kG) (a : Nat → Nat) (st : kS) (v : Int32) : (wX G a st).set 3 (a 3, .inr (2, [.ref (a 13), .ref (a 14), .int v, .int (gI st 7)])) = wX G a (sI st 6 v) := rfl
theorem swX_I7 (G : kG) (a : Nat → Nat) (st : kS) (v : Int32) : (wX G a st).set 3 (a 3, .inr (2, [.ref (a 13), .ref (a 14), .int (gI st 6), .int v])) = wX G a (sI st 7 v) := rfl
theorem swX_I8 (G : kG) (a : Nat → Nat) (st : kS) (v : Int32) : (wX G a st).set 4 (a 4, .inr (2, [.ref (a 15), .ref (a 16), .int v, .int (gI st 9)])) = wX G a (sI st 8 v) := rfl
theorem swX_I9 (G : kG) (a : Nat → Nat) (st : kS) (v : Int32) : (wX G a st).set 4 (a 4, .inr (2, [.ref (a 15), .ref (a 16), .int (gI st 8), .int v])) = wX G a (sI st 9 v) := rfl
theorem swX_I10 (G : kG) (a : Nat → Nat) (st : kS) (v : Int32) : (wX G a st).set 5 (a 5, .inr (3, [.ref (a 17), .ref (a 18), .int v, .int (gI st 11)])) = wX G a (sI st 10 v) := rfl
theorem swX_I11 (G : kG) (a : Nat → Nat) (st : kS) (v : Int32) : (wX G a st).set 5 (a 5, .inr (3, [.ref (a 17), .ref (a 18), .int (gI st 10), .int v])) = wX G a (sI st 11 v) := rfl
theorem swX_I12 (G : kG) (a : Nat → Nat) (st : kS) (v : Int32) : (wX G a st).set 6 (a 6, .inr (1, [.ref (a 2), .ref (a 5), .ref (a 19), .ref (a 20), .int v])) = wX G a (sI st 12 v) := rfl
theorem swX_I13 (G : kG) (a : Nat → Nat) (st : kS) (v : Int32) : (wX G a st).set 7 (a 7, .inr (0, [.ref (a 2), .ref (a 5), .ref (a 21), .ref (a 22), .ref (a 23), .ref (a 24), .int v, .int (gI st 14), .int (gI st 15)])) = wX G a (sI st 13 v) := rfl
theorem swX_I14 (G : kG) (a : Nat → Nat) (st : kS) (v : Int32) : (wX G a st).set 7 (a 7, .inr (0, [.ref (a 2), .ref (a 5), .ref (a 21), .ref (a 22), .ref (a 23), .ref (a 24), .int (gI st 13), .int v, .int (gI st 15)])) = wX G a (sI st 14 v) := rfl
theorem swX_I15 (G : kG) (a : Nat → Nat) (st : kS) (v : Int32) : (wX G a st).set 7 (a 7, .inr (0, [.ref (a 2), .ref (a 5), .ref (a 21), .ref (a 22), .ref (a 23), .ref (a 24), .int (gI st 13), .int (gI st 14), .int v])) = wX G a (sI st 15 v) := rfl
theorem swX_A10 (G : kG) (a : Nat → Nat) (st : kS) (v : Nat → Int32) : (wX G a st).set 10 (a 10, .inl (G.2.1, 26, .inl v)) = wX G a (sA st 10 v) := rfl
theorem swX_A11 (G : kG) (a : Nat → Nat) (st : kS) (v : Nat → Int32) : (wX G a st).set 11 (a 11, .inl (G.2.1, 6, .inl v)) = wX G a (sA st 11 v) := rfl
theorem swX_A12 (G : kG) (a : Nat → Nat) (st : kS) (v : Nat → Int32) : (wX G a st).set 12 (a 12, .inl (G.2.1, 36, .inl v)) = wX G a (sA st 12 v) := rfl
theorem swX_A13 (G : kG) (a : Nat → Nat) (st : kS) (v : Nat → Int32) : (wX G a st).set 13 (a 13, .inl (G.2.1, 6, .inl v)) = wX G a (sA st 13 v) := rfl
theorem swX_A14 (G : kG) (a : Nat → Nat) (st : kS) (v : Nat → Int32) : (wX G a st).set 14 (a 14, .inl (G.2.1, 6, .inl v)) = wX G a (sA st 14 v) := rfl
theorem swX_A15 (G : kG) (a : Nat → Nat) (st : kS) (v : Nat → Int32) : (wX G a st).set 15 (a 15, .inl (G.2.1, 6, .inl v)) = wX G a (sA st 15 v) := rfl
theorem swX_A16 (G : kG) (a : Nat → Nat) (st : kS) (v : Nat → Int32) : (wX G a st).set 16 (a 16, .inl (G.2.1, 6, .inl v)) = wX G a (sA st 16 v) := rfl
theorem swX_A17 (G : kG) (a : Nat → Nat) (st : kS) (v : Nat → Int32) : (wX G a st).set 17 (a 17, .inl (G.2.1, 4320, .inl v)) = wX G a (sA st 17 v) := rfl
theorem swX_A18 (G : kG) (a : Nat → Nat) (st : kS) (v : Nat → Int32) : (wX G a st).set 18 (a 18, .inl (G.2.1, 6, .inl v)) = wX G a (sA st 18 v) := rfl
theorem swX_A19 (G : kG) (a : Nat → Nat) (st : kS) (v : Nat → Int32) : (wX G a st).set 19 (a 19, .inl (G.2.1, 3600, .inl v)) = wX G a (sA st 19 v) := rfl
theorem swX_A20 (G : kG) (a : Nat → Nat) (st : kS) (v : Nat → Int32) : (wX G a st).set 20 (a 20, .inl (G.2.1, 6, .inl v)) = wX G a (sA st 20 v) := rfl
theorem swX_A21 (G : kG) (a : Nat → Nat) (st : kS) (v : Nat → Int32) : (wX G a st).set 21 (a 21, .inl (G.2.1, 6, .inl v)) = wX G a (sA st 21 v) := rfl
theorem swX_A22 (G : kG) (a : Nat → Nat) (st : kS) (v : Nat → Int32) : (wX G a st).set 22 (a 22, .inl (G.2.1, 720, .inl v)) = wX G a (sA st 22 v) := rfl
theorem swX_A23 (G : kG) (a : Nat → Nat) (st : kS) (v : Nat → Int32) : (wX G a st).set 23 (a 23, .inl (G.2.1, 720, .inl v)) = wX G a (sA st 23 v) := rfl
theorem swX_A24 (G : kG) (a : Nat → Nat) (st : kS) (v : Nat → Int32) : (wX G a st).set 24 (a 24, .inl (G.2.1, 720, .inl v)) = wX G a (sA st 24 v) := rfl
theorem swX_A25 (G : kG) (a : Nat → Nat) (st : kS) (v : Nat → Int64) : (wX G a st).set 25 (a 25, .inl (G.2.2.1, 720, .inr (.inl v))) = wX G a (sL st 25 v) := rfl
theorem swX_A26 (G : kG) (a : Nat → Nat) (st : kS) (v : Nat → Int64) : (wX G a st).set 26 (a 26, .inl (G.2.2.1, 720, .inr (.inl v))) = wX G a (sL st 26 v) := rfl
theorem swX_A27 (G : kG) (a : Nat → Nat) (st : kS) (v : Nat → Int32) : (wX G a st).set 27 (a 27, .inl (G.2.1, 720, .inl v)) = wX G a (sA st 27 v) := rfl
theorem swX_A28 (G : kG) (a : Nat → Nat) (st : kS) (v : Nat → Int32) : (wX G a st).set 28 (a 28, .inl (G.2.1, 720, .inl v)) = wX G a (sA st 28 v) := rfl
theorem swX_A29 (G : kG) (a : Nat → Nat) (st : kS) (v : Nat → Int32) : (wX G a st).set 29 (a 29, .inl (G.2.1, 6, .inl v)) = wX G a (sA st 29 v) := rfl
theorem swX_A30 (G : kG) (a : Nat → Nat) (st : kS) (v : Nat → Int32) : (wX G a st).set 30 (a 30, .inl (G.2.1, 6, .inl v)) = wX G a (sA st 30 v) := rfl
theorem lwX_A10 (G : kG) (a : Nat → Nat) {st : kS} {f : Nat → Int32} (e : gA st 10 = f) : (wX G a st)[10]? = some (a 10, .inl (G.2.1, 26, .inl f)) := by
  rw [← e]
  rfl
theorem lwX_A11 (G : kG) (a : Nat → Nat) {st : kS} {f : Nat → Int32} (e : gA st 11 = f) : (wX G a st)[11]? = some (a 11, .inl (G.2.1, 6, .inl f)) := by
  rw [← e]
  rfl
theorem lwX_A12 (G : kG) (a : Nat → Nat) {st : kS} {f : Nat → Int32} (e : gA st 12 = f) : (wX G a st)[12]? = some (a 12, .inl (G.2.1, 36, .inl f)) := by
  rw [← e]
  rfl
theorem lwX_A13 (G : kG) (a : Nat → Nat) {st : kS} {f : Nat → Int32} (e : gA st 13 = f) : (wX G a st)[13]? = some (a 13, .inl (G.2.1, 6, .inl f)) := by
  rw [← e]
  rfl
theorem lwX_A14 (G : kG) (a : Nat → Nat) {st : kS} {f : Nat → Int32} (e : gA st 14 = f) : (wX G a st)[14]? = some (a 14, .inl (G.2.1, 6, .inl f)) := by
  rw [← e]
  rfl
theorem lwX_A15 (G : kG) (a : Nat → Nat) {st : kS} {f : Nat → Int32} (e : gA st 15 = f) : (wX G a st)[15]? = some (a 15, .inl (G.2.1, 6, .inl f)) := by
  rw [← e]
  rfl
theorem lwX_A16 (G : kG) (a : Nat → Nat) {st : kS} {f : Nat → Int32} (e : gA st 16 = f) : (wX G a st)[16]? = some (a 16, .inl (G.2.1, 6, .inl f)) := by
  rw [← e]
  rfl
theorem lwX_A17 (G : kG) (a : Nat → Nat) {st : kS} {f : Nat → Int32} (e : gA st 17 = f) : (wX G a st)[17]? = some (a 17, .inl (G.2.1, 4320, .inl f)) := by
  rw [← e]
  rfl
theorem lwX_A18 (G : kG) (a : Nat → Nat) {st : kS} {f : Nat → Int32} (e : gA st 18 = f) : (wX G a st)[18]? = some (a 18, .inl (G.2.1, 6, .inl f)) := by
  rw [← e]
  rfl
theorem lwX_A19 (G : kG) (a : Nat → Nat) {st : kS} {f : Nat → Int32} (e : gA st 19 = f) : (wX G a st)[19]? = some (a 19, .inl (G.2.1, 3600, .inl f)) := by
  rw [← e]
  rfl
theorem lwX_A20 (G : kG) (a : Nat → Nat) {st : kS} {f : Nat → Int32} (e : gA st 20 = f) : (wX G a st)[20]? = some (a 20, .inl (G.2.1, 6, .inl f)) := by
  rw [← e]
  rfl
theorem lwX_A21 (G : kG) (a : Nat → Nat) {st : kS} {f : Nat → Int32} (e : gA st 21 = f) : (wX G a st)[21]? = some (a 21, .inl (G.2.1, 6, .inl f)) := by
  rw [← e]
  rfl
theorem lwX_A22 (G : kG) (a : Nat → Nat) {st : kS} {f : Nat → Int32} (e : gA st 22 = f) : (wX G a st)[22]? = some (a 22, .inl (G.2.1, 720, .inl f)) := by
  rw [← e]
  rfl
theorem lwX_A23 (G : kG) (a : Nat → Nat) {st : kS} {f : Nat → Int32} (e : gA st 23 = f) : (wX G a st)[23]? = some (a 23, .inl (G.2.1, 720, .inl f)) := by
  rw [← e]
  rfl
theorem lwX_A24 (G : kG) (a : Nat → Nat) {st : kS} {f : Nat → Int32} (e : gA st 24 = f) : (wX G a st)[24]? = some (a 24, .inl (G.2.1, 720, .inl f)) := by
  rw [← e]
  rfl
theorem lwX_A25 (G : kG) (a : Nat → Nat) {st : kS} {f : Nat → Int64} (e : gL st 25 = f) : (wX G a st)[25]? = some (a 25, .inl (G.2.2.1, 720, .inr (.inl f))) := by
  rw [← e]
  rfl
theorem lwX_A26 (G : kG) (a : Nat → Nat) {st : kS} {f : Nat → Int64} (e : gL st 26 = f) : (wX G a st)[26]? = some (a 26, .inl (G.2.2.1, 720, .inr (.inl f))) := by
  rw [← e]
  rfl
theorem lwX_A27 (G : kG) (a : Nat → Nat) {st : kS} {f : Nat → Int32} (e : gA st 27 = f) : (wX G a st)[27]? = some (a 27, .inl (G.2.1, 720, .inl f)) := by
  rw [← e]
  rfl
theorem lwX_A28 (G : kG) (a : Nat → Nat) {st : kS} {f : Nat → Int32} (e : gA st 28 = f) : (wX G a st)[28]? = some (a 28, .inl (G.2.1, 720, .inl f)) := by
  rw [← e]
  rfl
theorem lwX_A29 (G : kG) (a : Nat → Nat) {st : kS} {f : Nat → Int32} (e : gA st 29 = f) : (wX G a st)[29]? = some (a 29, .inl (G.2.1, 6, .inl f)) := by
  rw [← e]
  rfl
theorem lwX_A30 (G : kG) (a : Nat → Nat) {st : kS} {f : Nat → Int32} (e : gA st 30 = f) : (wX G a st)[30]? = some (a 30, .inl (G.2.1, 6, .inl f)) := by
  rw [← e]
  rfl
/-- the cells of the class, and the law's two rows: 31=kind; 32=feud -/
def cL31 (G : kG) (a : Nat → Nat) (st : kS) : Nat × va_E := (a 31, .inl (G.2.1, 6, .inl (gA st 31)))
def cL32 (G : kG) (a : Nat → Nat) (st : kS) : Nat × va_E := (a 32, .inl (G.2.1, 6, .inl (gA st 32)))
def wL (G : kG) (a : Nat → Nat) (st : kS) : va_W := [(a 0, .inr (8, [.ref (a 1), .ref (a 2), .ref (a 3), .ref (a 4), .ref (a 5), .ref (a 6), .ref (a 7), .ref (a 8), .ref (a 9), .int (gI st 0), .int (gI st 1)])), (a 1, .inr (4, [.ref (a 10), .int (gI st 2)])), (a 2, .inr (7, [.ref (a 11), .ref (a 12), .int (gI st 3), .int (gI st 4), .int (gI st 5)])), (a 3, .inr (2, [.ref (a 13), .ref (a 14), .int (gI st 6), .int (gI st 7)])), (a 4, .inr (2, [.ref (a 15), .ref (a 16), .int (gI st 8), .int (gI st 9)])), (a 5, .inr (3, [.ref (a 17), .ref (a 18), .int (gI st 10), .int (gI st 11)])), (a 6, .inr (1, [.ref (a 2), .ref (a 5), .ref (a 19), .ref (a 20), .int (gI st 12)])), (a 7, .inr (0, [.ref (a 2), .ref (a 5), .ref (a 21), .ref (a 22), .ref (a 23), .ref (a 24), .int (gI st 13), .int (gI st 14), .int (gI st 15)])), (a 8, .inr (5, [.ref (a 2), .ref (a 5), .ref (a 25), .ref (a 26), .ref (a 27), .ref (a 28)])), (a 9, .inr (6, [.ref (a 2), .ref (a 29), .ref (a 30)])), (a 10, .inl (G.2.1, 26, .inl (gA st 10))), (a 11, .inl (G.2.1, 6, .inl (gA st 11))), (a 12, .inl (G.2.1, 36, .inl (gA st 12))), (a 13, .inl (G.2.1, 6, .inl (gA st 13))), (a 14, .inl (G.2.1, 6, .inl (gA st 14))), (a 15, .inl (G.2.1, 6, .inl (gA st 15))), (a 16, .inl (G.2.1, 6, .inl (gA st 16))), (a 17, .inl (G.2.1, 4320, .inl (gA st 17))), (a 18, .inl (G.2.1, 6, .inl (gA st 18))), (a 19, .inl (G.2.1, 3600, .inl (gA st 19))), (a 20, .inl (G.2.1, 6, .inl (gA st 20))), (a 21, .inl (G.2.1, 6, .inl (gA st 21))), (a 22, .inl (G.2.1, 720, .inl (gA st 22))), (a 23, .inl (G.2.1, 720, .inl (gA st 23))), (a 24, .inl (G.2.1, 720, .inl (gA st 24))), (a 25, .inl (G.2.2.1, 720, .inr (.inl (gL st 25)))), (a 26, .inl (G.2.2.1, 720, .inr (.inl (gL st 26)))), (a 27, .inl (G.2.1, 720, .inl (gA st 27))), (a 28, .inl (G.2.1, 720, .inl (gA st 28))), (a 29, .inl (G.2.1, 6, .inl (gA st 29))), (a 30, .inl (G.2.1, 6, .inl (gA st 30))), (a 31, .inl (G.2.1, 6, .inl (gA st 31))), (a 32, .inl (G.2.1, 6, .inl (gA st 32)))]
theorem swL_A31 (G : kG) (a : Nat → Nat) (st : kS) (v : Nat → Int32) : (wL G a st).set 31 (a 31, .inl (G.2.1, 6, .inl v)) = wL G a (sA st 31 v) := rfl
theorem lwL_A31 (G : kG) (a : Nat → Nat) {st : kS} {f : Nat → Int32} (e : gA st 31 = f) : (wL G a st)[31]? = some (a 31, .inl (G.2.1, 6, .inl f)) := by
  rw [← e]
  rfl
theorem swL_A32 (G : kG) (a : Nat → Nat) (st : kS) (v : Nat → Int32) : (wL G a st).set 32 (a 32, .inl (G.2.1, 6, .inl v)) = wL G a (sA st 32 v) := rfl
theorem lwL_A32 (G : kG) (a : Nat → Nat) {st : kS} {f : Nat → Int32} (e : gA st 32 = f) : (wL G a st)[32]? = some (a 32, .inl (G.2.1, 6, .inl f)) := by
  rw [← e]
  rfl
/-- the class's new state, the law's rows as they were -/
def kJ (st z : kS) : kS := sA (sA z 31 (gA st 31)) 32 (gA st 32)
theorem ysX0_get : kYS yX0_get cX0_get 2 (some .int) 2 := ⟨q7_3, q6_8, q7_4, by decide +kernel⟩
theorem ysX0_get_ : kYS yX0_get_ cX0_get_ 2 (some .long) 2 := ⟨q19_14, q6_8, q19_15, by decide +kernel⟩
theorem ysX0_put : kYS yX0_put cX0_put 3 none 3 := ⟨q6_7, q6_8, q6_9, by decide +kernel⟩
theorem ysX0_put_ : kYS yX0_put_ cX0_put_ 4 none 3 := ⟨q19_10, q6_8, q19_11, by decide +kernel⟩
theorem ysJ7_fill_53178 : kYS yJ7_fill_53178 cJ7_fill_53178 4 none 2 := ⟨q9_20, q9_21, q9_22, by decide +kernel⟩
theorem ysJ7_fill_d0a16 : kYS yJ7_fill_d0a16 cJ7_fill_d0a16 5 none 2 := ⟨q19_7, q9_21, q19_8, by decide +kernel⟩
theorem ysJ9_floorMod_7cf53 : kYS yJ9_floorMod_7cf53 cJ9_floorMod_7cf53 3 (some .int) 2 := ⟨q13_8, q13_9, q13_10, by decide +kernel⟩
