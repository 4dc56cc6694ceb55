/-- the cells of HousesThatChange by its numbers: 0=HousesThatChange; 1=HousesThatChange$Page; 2=HousesThatChange$Town; 3=HousesThatChange$Moment; 4=HousesThatChange$Moment; 5=HousesThatChange$Orders; 6=HousesThatChange$Mayor; 7=HousesThatChange$Goal; 8=HousesThatChange$Past; 9=HousesThatChange$Stroll; 10=Page1.codes; 11=Town2.kinds; 12=Town2.feuds; 13=Moment3.order; 14=Moment3.ahead; 15=Moment4.order; 16=Moment4.ahead; 17=Orders5.changed; 18=Orders5.row; 19=Mayor6.rolls; 20=Mayor6.left; 21=Goal7.order; 22=Goal7.few; 23=Goal7.sure; 24=Goal7.line; 25=Past8.rows; 26=Past8.rowsThen; 27=Past8.shared; 28=Past8.sharedThen; 29=Stroll9.rolls; 30=Stroll9.rollsThen; I0=HousesThatChange0.keeps; I1=HousesThatChange0.readings; I2=Page1.size; I3=Town2.houses; I4=Town2.pairs; I5=Town2.bars; I6=Moment3.seed; I7=Moment3.nights; I8=Moment4.seed; I9=Moment4.nights; I10=Orders5.places; I11=Orders5.size; I12=Mayor6.known; I13=Goal7.told; I14=Goal7.fewCounted; I15=Goal7.sureCounted -/
def wX (G : kG) (a : Nat → Nat) (st : kS) : va_W := [(a 0, .inr (8, [.ref (a 1), .ref (a 2), .ref (a 3), .ref (a 4), .ref (a 5), .ref (a 6), .ref (a 7), .ref (a 8), .ref (a 9), .int (gI st 0), .int (gI st 1)])), (a 1, .inr (4, [.ref (a 10), .int (gI st 2)])), (a 2, .inr (7, [.ref (a 11), .ref (a 12), .int (gI st 3), .int (gI st 4), .int (gI st 5)])), (a 3, .inr (2, [.ref (a 13), .ref (a 14), .int (gI st 6), .int (gI st 7)])), (a 4, .inr (2, [.ref (a 15), .ref (a 16), .int (gI st 8), .int (gI st 9)])), (a 5, .inr (3, [.ref (a 17), .ref (a 18), .int (gI st 10), .int (gI st 11)])), (a 6, .inr (1, [.ref (a 2), .ref (a 5), .ref (a 19), .ref (a 20), .int (gI st 12)])), (a 7, .inr (0, [.ref (a 2), .ref (a 5), .ref (a 21), .ref (a 22), .ref (a 23), .ref (a 24), .int (gI st 13), .int (gI st 14), .int (gI st 15)])), (a 8, .inr (5, [.ref (a 2), .ref (a 5), .ref (a 25), .ref (a 26), .ref (a 27), .ref (a 28)])), (a 9, .inr (6, [.ref (a 2), .ref (a 29), .ref (a 30)])), (a 10, .inl (G.2.1, 26, .inl (gA st 10))), (a 11, .inl (G.2.1, 6, .inl (gA st 11))), (a 12, .inl (G.2.1, 36, .inl (gA st 12))), (a 13, .inl (G.2.1, 6, .inl (gA st 13))), (a 14, .inl (G.2.1, 6, .inl (gA st 14))), (a 15, .inl (G.2.1, 6, .inl (gA st 15))), (a 16, .inl (G.2.1, 6, .inl (gA st 16))), (a 17, .inl (G.2.1, 4320, .inl (gA st 17))), (a 18, .inl (G.2.1, 6, .inl (gA st 18))), (a 19, .inl (G.2.1, 3600, .inl (gA st 19))), (a 20, .inl (G.2.1, 6, .inl (gA st 20))), (a 21, .inl (G.2.1, 6, .inl (gA st 21))), (a 22, .inl (G.2.1, 720, .inl (gA st 22))), (a 23, .inl (G.2.1, 720, .inl (gA st 23))), (a 24, .inl (G.2.1, 720, .inl (gA st 24))), (a 25, .inl (G.2.2.1, 720, .inr (.inl (gL st 25)))), (a 26, .inl (G.2.2.1, 720, .inr (.inl (gL st 26)))), (a 27, .inl (G.2.1, 720, .inl (gA st 27))), (a 28, .inl (G.2.1, 720, .inl (gA st 28))), (a 29, .inl (G.2.1, 6, .inl (gA st 29))), (a 30, .inl (G.2.1, 6, .inl (gA st 30)))]
theorem swX_I0 (G : kG) (a : Nat → Nat) (st : kS) (v : Int32) : (wX G a st).set 0 (a 0, .inr (8, [.ref (a 1), .ref (a 2), .ref (a 3), .ref (a 4), .ref (a 5), .ref (a 6), .ref (a 7), .ref (a 8), .ref (a 9), .int v, .int (gI st 1)])) = wX G a (sI st 0 v) := rfl
theorem swX_I1 (G : kG) (a : Nat → Nat) (st : kS) (v : Int32) : (wX G a st).set 0 (a 0, .inr (8, [.ref (a 1), .ref (a 2), .ref (a 3), .ref (a 4), .ref (a 5), .ref (a 6), .ref (a 7), .ref (a 8), .ref (a 9), .int (gI st 0), .int v])) = wX G a (sI st 1 v) := rfl
theorem swX_I2 (G : kG) (a : Nat → Nat) (st : kS) (v : Int32) : (wX G a st).set 1 (a 1, .inr (4, [.ref (a 10), .int v])) = wX G a (sI st 2 v) := rfl
theorem swX_I3 (G : kG) (a : Nat → Nat) (st : kS) (v : Int32) : (wX G a st).set 2 (a 2, .inr (7, [.ref (a 11), .ref (a 12), .int v, .int (gI st 4), .int (gI st 5)])) = wX G a (sI st 3 v) := rfl
theorem swX_I4 (G : kG) (a : Nat → Nat) (st : kS) (v : Int32) : (wX G a st).set 2 (a 2, .inr (7, [.ref (a 11), .ref (a 12), .int (gI st 3), .int v, .int (gI st 5)])) = wX G a (sI st 4 v) := rfl
theorem swX_I5 (G : kG) (a : Nat → Nat) (st : kS) (v : Int32) : (wX G a st).set 2 (a 2, .inr (7, [.ref (a 11), .ref (a 12), .int (gI st 3), .int (gI st 4), .int v])) = wX G a (sI st 5 v) := rfl
theorem swX_I6 (G : kG) (a : Nat → Nat) (st : kS) (v : Int32) : (wX G a st).set 3 (a 3, .inr (2, [.ref (a 13), .ref (a 14), .int v, .int (gI st 7)])) = wX G a (sI st 6 v) := rfl
theorem swX_I7 (G : kG) (a : Nat → Nat) (st : kS) (v : Int32) : (wX G a st).set 3 (a 3, .inr (2, [.ref (a 13), .ref (a 14), .int (gI st 6), .int v])) = wX G a (sI st 7 v) := rfl
theorem swX_I8 (G : kG) (a : Nat → Nat) (st : kS) (v : Int32) : (wX G a st).set 4 (a 4, .inr (2, [.ref (a 15), .ref (a 16), .int v, .int (gI st 9)])) = wX G a (sI st 8 v) := rfl
theorem swX_I9 (G : kG) (a : Nat → Nat) (st : kS) (v : Int32) : (wX G a st).set 4 (a 4, .inr (2, [.ref (a 15), .ref (a 16), .int (gI st 8), .int v])) = wX G a (sI st 9 v) := rfl
theorem swX_I10 (G : kG) (a : Nat → Nat) (st : kS) (v : Int32) : (wX G a st).set 5 (a 5, .inr (3, [.ref (a 17), .ref (a 18), .int v, .int (gI st 11)])) = wX G a (sI st 10 v) := rfl
theorem swX_I11 (G : kG) (a : Nat → Nat) (st : kS) (v : Int32) : (wX G a st).set 5 (a 5, .inr (3, [.ref (a 17), .ref (a 18), .int (gI st 10), .int v])) = wX G a (sI st 11 v) := rfl
theorem swX_I12 (G : kG) (a : Nat → Nat) (st : kS) (v : Int32) : (wX G a st).set 6 (a 6, .inr (1, [.ref (a 2), .ref (a 5), .ref (a 19), .ref (a 20), .int v])) = wX G a (sI st 12 v) := rfl
theorem swX_I13 (G : kG) (a : Nat → Nat) (st : kS) (v : Int32) : (wX G a st).set 7 (a 7, .inr (0, [.ref (a 2), .ref (a 5), .ref (a 21), .ref (a 22), .ref (a 23), .ref (a 24), .int v, .int (gI st 14), .int (gI st 15)])) = wX G a (sI st 13 v) := rfl
theorem swX_I14 (G : kG) (a : Nat → Nat) (st : kS) (v : Int32) : (wX G a st).set 7 (a 7, .inr (0, [.ref (a 2), .ref (a 5), .ref (a 21), .ref (a 22), .ref (a 23), .ref (a 24), .int (gI st 13), .int v, .int (gI st 15)])) = wX G a (sI st 14 v) := rfl
theorem swX_I15 (G : kG) (a : Nat → Nat) (st : kS) (v : Int32) : (wX G a st).set 7 (a 7, .inr (0, [.ref (a 2), .ref (a 5), .ref (a 21), .ref (a 22), .ref (a 23), .ref (a 24), .int (gI st 13), .int (gI st 14), .int v])) = wX G a (sI st 15 v) := rfl
theorem swX_A10 (G : kG) (a : Nat → Nat) (st : kS) (v : Nat → Int32) : (wX G a st).set 10 (a 10, .inl (G.2.1, 26, .inl v)) = wX G a (sA st 10 v) := rfl
theorem swX_A11 (G : kG) (a : Nat → Nat) (st : kS) (v : Nat → Int32) : (wX G a st).set 11 (a 11, .inl (G.2.1, 6, .inl v)) = wX G a (sA st 11 v) := rfl
theorem swX_A12 (G : kG) (a : Nat → Nat) (st : kS) (v : Nat → Int32) : (wX G a st).set 12 (a 12, .inl (G.2.1, 36, .inl v)) = wX G a (sA st 12 v) := rfl
theorem swX_A13 (G : kG) (a : Nat → Nat) (st : kS) (v : Nat → Int32) : (wX G a st).set 13 (a 13, .inl (G.2.1, 6, .inl v)) = wX G a (sA st 13 v) := rfl
theorem swX_A14 (G : kG) (a : Nat → Nat) (st : kS) (v : Nat → Int32) : (wX G a st).set 14 (a 14, .inl (G.2.1, 6, .inl v)) = wX G a (sA st 14 v) := rfl
theorem swX_A15 (G : kG) (a : Nat → Nat) (st : kS) (v : Nat → Int32) : (wX G a st).set 15 (a 15, .inl (G.2.1, 6, .inl v)) = wX G a (sA st 15 v) := rfl
theorem swX_A16 (G : kG) (a : Nat → Nat) (st : kS) (v : Nat → Int32) : (wX G a st).set 16 (a 16, .inl (G.2.1, 6, .inl v)) = wX G a (sA st 16 v) := rfl
theorem swX_A17 (G : kG) (a : Nat → Nat) (st : kS) (v : Nat → Int32) : (wX G a st).set 17 (a 17, .inl (G.2.1, 4320, .inl v)) = wX G a (sA st 17 v) := rfl
theorem swX_A18 (G : kG) (a : Nat → Nat) (st : kS) (v : Nat → Int32) : (wX G a st).set 18 (a 18, .inl (G.2.1, 6, .inl v)) = wX G a (sA st 18 v) := rfl
theorem swX_A19 (G : kG) (a : Nat → Nat) (st : kS) (v : Nat → Int32) : (wX G a st).set 19 (a 19, .inl (G.2.1, 3600, .inl v)) = wX G a (sA st 19 v) := rfl
theorem swX_A20 (G : kG) (a : Nat → Nat) (st : kS) (v : Nat → Int32) : (wX G a st).set 20 (a 20, .inl (G.2.1, 6, .inl v)) = wX G a (sA st 20 v) := rfl
theorem swX_A21 (G : kG) (a : Nat → Nat) (st : kS) (v : Nat → Int32) : (wX G a st).set 21 (a 21, .inl (G.2.1, 6, .inl v)) = wX G a (sA st 21 v) := rfl
theorem swX_A22 (G : kG) (a : Nat → Nat) (st : kS) (v : Nat → Int32) : (wX G a st).set 22 (a 22, .inl (G.2.1, 720, .inl v)) = wX G a (sA st 22 v) := rfl
theorem swX_A23 (G : kG) (a : Nat → Nat) (st : kS) (v : Nat → Int32) : (wX G a st).set 23 (a 23, .inl (G.2.1, 720, .inl v)) = wX G a (sA st 23 v) := rfl
theorem swX_A24 (G : kG) (a : Nat → Nat) (st : kS) (v : Nat → Int32) : (wX G a st).set 24 (a 24, .inl (G.2.1, 720, .inl v)) = wX G a (sA st 24 v) := rfl
theorem swX_A25 (G : kG) (a : Nat → Nat) (st : kS) (v : Nat → Int64) : (wX G a st).set 25 (a 25, .inl (G.2.2.1, 720, .inr (.inl v))) = wX G a (sL st 25 v) := rfl
theorem swX_A26 (G : kG) (a : Nat → Nat) (st : kS) (v : Nat → Int64) : (wX G a st).set 26 (a 26, .inl (G.2.2.1, 720, .inr (.inl v))) = wX G a (sL st 26 v) := rfl
theorem swX_A27 (G : kG) (a : Nat → Nat) (st : kS) (v : Nat → Int32) : (wX G a st).set 27 (a 27, .inl (G.2.1, 720, .inl v)) = wX G a (sA st 27 v) := rfl
theorem swX_A28 (G : kG) (a : Nat → Nat) (st : kS) (v : Nat → Int32) : (wX G a st).set 28 (a 28, .inl (G.2.1, 720, .inl v)) = wX G a (sA st 28 v) := rfl
theorem swX_A29 (G : kG) (a : Nat → Nat) (st : kS) (v : Nat → Int32) : (wX G a st).set 29 (a 29, .inl (G.2.1, 6, .inl v)) = wX G a (sA st 29 v) := rfl
theorem swX_A30 (G : kG) (a : Nat → Nat) (st : kS) (v : Nat → Int32) : (wX G a st).set 30 (a 30, .inl (G.2.1, 6, .inl v)) = wX G a (sA st 30 v) := rfl
theorem lwX_A10 (G : kG) (a : Nat → Nat) {st : kS} {f : Nat → Int32} (e : gA st 10 = f) : (wX G a st)[10]? = some (a 10, .inl (G.2.1, 26, .inl f)) := by
  rw [← e]
  rfl
theorem lwX_A11 (G : kG) (a : Nat → Nat) {st : kS} {f : Nat → Int32} (e : gA st 11 = f) : (wX G a st)[11]? = some (a 11, .inl (G.2.1, 6, .inl f)) := by
  rw [← e]
  rfl
theorem lwX_A12 (G : kG) (a : Nat → Nat) {st : kS} {f : Nat → Int32} (e : gA st 12 = f) : (wX G a st)[12]? = some (a 12, .inl (G.2.1, 36, .inl f)) := by
  rw [← e]
  rfl
theorem lwX_A13 (G : kG) (a : Nat → Nat) {st : kS} {f : Nat → Int32} (e : gA st 13 = f) : (wX G a st)[13]? = some (a 13, .inl (G.2.1, 6, .inl f)) := by
  rw [← e]
  rfl
theorem lwX_A14 (G : kG) (a : Nat → Nat) {st : kS} {f : Nat → Int32} (e : gA st 14 = f) : (wX G a st)[14]? = some (a 14, .inl (G.2.1, 6, .inl f)) := by
  rw [← e]
  rfl
theorem lwX_A15 (G : kG) (a : Nat → Nat) {st : kS} {f : Nat → Int32} (e : gA st 15 = f) : (wX G a st)[15]? = some (a 15, .inl (G.2.1, 6, .inl f)) := by
  rw [← e]
  rfl
theorem lwX_A16 (G : kG) (a : Nat → Nat) {st : kS} {f : Nat → Int32} (e : gA st 16 = f) : (wX G a st)[16]? = some (a 16, .inl (G.2.1, 6, .inl f)) := by
  rw [← e]
  rfl
theorem lwX_A17 (G : kG) (a : Nat → Nat) {st : kS} {f : Nat → Int32} (e : gA st 17 = f) : (wX G a st)[17]? = some (a 17, .inl (G.2.1, 4320, .inl f)) := by
  rw [← e]
  rfl
theorem lwX_A18 (G : kG) (a : Nat → Nat) {st : kS} {f : Nat → Int32} (e : gA st 18 = f) : (wX G a st)[18]? = some (a 18, .inl (G.2.1, 6, .inl f)) := by
  rw [← e]
  rfl
theorem lwX_A19 (G : kG) (a : Nat → Nat) {st : kS} {f : Nat → Int32} (e : gA st 19 = f) : (wX G a st)[19]? = some (a 19, .inl (G.2.1, 3600, .inl f)) := by
  rw [← e]
  rfl
theorem lwX_A20 (G : kG) (a : Nat → Nat) {st : kS} {f : Nat → Int32} (e : gA st 20 = f) : (wX G a st)[20]? = some (a 20, .inl (G.2.1, 6, .inl f)) := by
  rw [← e]
  rfl
theorem lwX_A21 (G : kG) (a : Nat → Nat) {st : kS} {f : Nat → Int32} (e : gA st 21 = f) : (wX G a st)[21]? = some (a 21, .inl (G.2.1, 6, .inl f)) := by
  rw [← e]
  rfl
theorem lwX_A22 (G : kG) (a : Nat → Nat) {st : kS} {f : Nat → Int32} (e : gA st 22 = f) : (wX G a st)[22]? = some (a 22, .inl (G.2.1, 720, .inl f)) := by
  rw [← e]
  rfl
theorem lwX_A23 (G : kG) (a : Nat → Nat) {st : kS} {f : Nat → Int32} (e : gA st 23 = f) : (wX G a st)[23]? = some (a 23, .inl (G.2.1, 720, .inl f)) := by
  rw [← e]
  rfl
theorem lwX_A24 (G : kG) (a : Nat → Nat) {st : kS} {f : Nat → Int32} (e : gA st 24 = f) : (wX G a st)[24]? = some (a 24, .inl (G.2.1, 720, .inl f)) := by
  rw [← e]
  rfl
theorem lwX_A25 (G : kG) (a : Nat → Nat) {st : kS} {f : Nat → Int64} (e : gL st 25 = f) : (wX G a st)[25]? = some (a 25, .inl (G.2.2.1, 720, .inr (.inl f))) := by
  rw [← e]
  rfl
theorem lwX_A26 (G : kG) (a : Nat → Nat) {st : kS} {f : Nat → Int64} (e : gL st 26 = f) : (wX G a st)[26]? = some (a 26, .inl (G.2.2.1, 720, .inr (.inl f))) := by
  rw [← e]
  rfl
theorem lwX_A27 (G : kG) (a : Nat → Nat) {st : kS} {f : Nat → Int32} (e : gA st 27 = f) : (wX G a st)[27]? = some (a 27, .inl (G.2.1, 720, .inl f)) := by
  rw [← e]
  rfl
theorem lwX_A28 (G : kG) (a : Nat → Nat) {st : kS} {f : Nat → Int32} (e : gA st 28 = f) : (wX G a st)[28]? = some (a 28, .inl (G.2.1, 720, .inl f)) := by
  rw [← e]
  rfl
theorem lwX_A29 (G : kG) (a : Nat → Nat) {st : kS} {f : Nat → Int32} (e : gA st 29 = f) : (wX G a st)[29]? = some (a 29, .inl (G.2.1, 6, .inl f)) := by
  rw [← e]
  rfl
theorem lwX_A30 (G : kG) (a : Nat → Nat) {st : kS} {f : Nat → Int32} (e : gA st 30 = f) : (wX G a st)[30]? = some (a 30, .inl (G.2.1, 6, .inl f)) := by
  rw [← e]
  rfl
/-- the cells of HousesThatChangeModel by its numbers: 0=HousesThatChangeModel; 1=HousesThatChangeModel0.kindOf; 2=HousesThatChangeModel0.isFeud; 3=HousesThatChangeModel0.order; 4=HousesThatChangeModel0.ahead; 5=HousesThatChangeModel0.aimed; 6=HousesThatChangeModel0.page; 7=HousesThatChangeModel0.keptOrder; 8=HousesThatChangeModel0.keptAhead; 9=HousesThatChangeModel0.newKind; 10=HousesThatChangeModel0.newA; 11=HousesThatChangeModel0.newB; 12=HousesThatChangeModel0.codeOf; 13=HousesThatChangeModel0.indexOf; 14=HousesThatChangeModel0.nextOf; 15=HousesThatChangeModel0.thought; 16=HousesThatChangeModel0.apartNow; 17=HousesThatChangeModel0.apartThen; 18=HousesThatChangeModel0.far; 19=HousesThatChangeModel0.queue; 20=HousesThatChangeModel0.chanceNow; 21=HousesThatChangeModel0.chanceThen; 22=HousesThatChangeModel0.waysNow; 23=HousesThatChangeModel0.waysThen; I0=HousesThatChangeModel0.n; I1=HousesThatChangeModel0.rings; I2=HousesThatChangeModel0.nightMany; I3=HousesThatChangeModel0.hasAim; I4=HousesThatChangeModel0.pageLength; I5=HousesThatChangeModel0.isKept; I6=HousesThatChangeModel0.keptRing; I7=HousesThatChangeModel0.keptNights; I8=HousesThatChangeModel0.faultAt; I9=HousesThatChangeModel0.isWhole; I10=HousesThatChangeModel0.newMany; I11=HousesThatChangeModel0.newFeuds; I12=HousesThatChangeModel0.newSort; I13=HousesThatChangeModel0.newSteps; I14=HousesThatChangeModel0.newOne; I15=HousesThatChangeModel0.newOther; I16=HousesThatChangeModel0.orders; J0=seedNow; J1=keptSeed; J2=h -/
def wM (G : kG) (a : Nat → Nat) (st : kS) : va_W := [(a 0, .inr (9, [.int (gI st 0), .int (gI st 1), .ref (a 1), .ref (a 2), .ref (a 3), .ref (a 4), .int (gI st 2), .ref (a 5), .int (gI st 3), .long (gJ st 0), .int (gI st 4), .ref (a 6), .int (gI st 5), .int (gI st 6), .int (gI st 7), .long (gJ st 1), .ref (a 7), .ref (a 8), .int (gI st 8), .int (gI st 9), .int (gI st 10), .int (gI st 11), .ref (a 9), .ref (a 10), .ref (a 11), .int (gI st 12), .int (gI st 13), .int (gI st 14), .int (gI st 15), .int (gI st 16), .ref (a 12), .ref (a 13), .ref (a 14), .ref (a 15), .ref (a 16), .ref (a 17), .ref (a 18), .ref (a 19), .ref (a 20), .ref (a 21), .ref (a 22), .ref (a 23), .long (gJ st 2)])), (a 1, .inl (G.2.1, 6, .inl (gA st 1))), (a 2, .inl (G.2.2.2.2, 36, .inl (gA st 2))), (a 3, .inl (G.2.1, 6, .inl (gA st 3))), (a 4, .inl (G.2.1, 6, .inl (gA st 4))), (a 5, .inl (G.2.1, 6, .inl (gA st 5))), (a 6, .inl (G.2.2.2.1, 26, .inl (gA st 6))), (a 7, .inl (G.2.1, 6, .inl (gA st 7))), (a 8, .inl (G.2.1, 6, .inl (gA st 8))), (a 9, .inl (G.2.1, 6, .inl (gA st 9))), (a 10, .inl (G.2.1, 6, .inl (gA st 10))), (a 11, .inl (G.2.1, 6, .inl (gA st 11))), (a 12, .inl (G.2.1, 720, .inl (gA st 12))), (a 13, .inl (G.2.1, 46656, .inl (gA st 13))), (a 14, .inl (G.2.1, 4320, .inl (gA st 14))), (a 15, .inl (G.2.1, 6, .inl (gA st 15))), (a 16, .inl (G.2.1, 720, .inl (gA st 16))), (a 17, .inl (G.2.1, 720, .inl (gA st 17))), (a 18, .inl (G.2.1, 720, .inl (gA st 18))), (a 19, .inl (G.2.1, 720, .inl (gA st 19))), (a 20, .inl (G.2.1, 6, .inl (gA st 20))), (a 21, .inl (G.2.1, 6, .inl (gA st 21))), (a 22, .inl (G.2.2.1, 720, .inr (.inl (gL st 22)))), (a 23, .inl (G.2.2.1, 720, .inr (.inl (gL st 23))))]
theorem swM_I0 (G : kG) (a : Nat → Nat) (st : kS) (v : Int32) : (wM G a st).set 0 (a 0, .inr (9, [.int v, .int (gI st 1), .ref (a 1), .ref (a 2), .ref (a 3), .ref (a 4), .int (gI st 2), .ref (a 5), .int (gI st 3), .long (gJ st 0), .int (gI st 4), .ref (a 6), .int (gI st 5), .int (gI st 6), .int (gI st 7), .long (gJ st 1), .ref (a 7), .ref (a 8), .int (gI st 8), .int (gI st 9), .int (gI st 10), .int (gI st 11), .ref (a 9), .ref (a 10), .ref (a 11), .int (gI st 12), .int (gI st 13), .int (gI st 14), .int (gI st 15), .int (gI st 16), .ref (a 12), .ref (a 13), .ref (a 14), .ref (a 15), .ref (a 16), .ref (a 17), .ref (a 18), .ref (a 19), .ref (a 20), .ref (a 21), .ref (a 22), .ref (a 23), .long (gJ st 2)])) = wM G a (sI st 0 v) := rfl
theorem swM_I1 (G : kG) (a : Nat → Nat) (st : kS) (v : Int32) : (wM G a st).set 0 (a 0, .inr (9, [.int (gI st 0), .int v, .ref (a 1), .ref (a 2), .ref (a 3), .ref (a 4), .int (gI st 2), .ref (a 5), .int (gI st 3), .long (gJ st 0), .int (gI st 4), .ref (a 6), .int (gI st 5), .int (gI st 6), .int (gI st 7), .long (gJ st 1), .ref (a 7), .ref (a 8), .int (gI st 8), .int (gI st 9), .int (gI st 10), .int (gI st 11), .ref (a 9), .ref (a 10), .ref (a 11), .int (gI st 12), .int (gI st 13), .int (gI st 14), .int (gI st 15), .int (gI st 16), .ref (a 12), .ref (a 13), .ref (a 14), .ref (a 15), .ref (a 16), .ref (a 17), .ref (a 18), .ref (a 19), .ref (a 20), .ref (a 21), .ref (a 22), .ref (a 23), .long (gJ st 2)])) = wM G a (sI st 1 v) := rfl
theorem swM_I2 (G : kG) (a : Nat → Nat) (st : kS) (v : Int32) : (wM G a st).set 0 (a 0, .inr (9, [.int (gI st 0), .int (gI st 1), .ref (a 1), .ref (a 2), .ref (a 3), .ref (a 4), .int v, .ref (a 5), .int (gI st 3), .long (gJ st 0), .int (gI st 4), .ref (a 6), .int (gI st 5), .int (gI st 6), .int (gI st 7), .long (gJ st 1), .ref (a 7), .ref (a 8), .int (gI st 8), .int (gI st 9), .int (gI st 10), .int (gI st 11), .ref (a 9), .ref (a 10), .ref (a 11), .int (gI st 12), .int (gI st 13), .int (gI st 14), .int (gI st 15), .int (gI st 16), .ref (a 12), .ref (a 13), .ref (a 14), .ref (a 15), .ref (a 16), .ref (a 17), .ref (a 18), .ref (a 19), .ref (a 20), .ref (a 21), .ref (a 22), .ref (a 23), .long (gJ st 2)])) = wM G a (sI st 2 v) := rfl
theorem swM_I3 (G : kG) (a : Nat → Nat) (st : kS) (v : Int32) : (wM G a st).set 0 (a 0, .inr (9, [.int (gI st 0), .int (gI st 1), .ref (a 1), .ref (a 2), .ref (a 3), .ref (a 4), .int (gI st 2), .ref (a 5), .int v, .long (gJ st 0), .int (gI st 4), .ref (a 6), .int (gI st 5), .int (gI st 6), .int (gI st 7), .long (gJ st 1), .ref (a 7), .ref (a 8), .int (gI st 8), .int (gI st 9), .int (gI st 10), .int (gI st 11), .ref (a 9), .ref (a 10), .ref (a 11), .int (gI st 12), .int (gI st 13), .int (gI st 14), .int (gI st 15), .int (gI st 16), .ref (a 12), .ref (a 13), .ref (a 14), .ref (a 15), .ref (a 16), .ref (a 17), .ref (a 18), .ref (a 19), .ref (a 20), .ref (a 21), .ref (a 22), .ref (a 23), .long (gJ st 2)])) = wM G a (sI st 3 v) := rfl
theorem swM_J0 (G : kG) (a : Nat → Nat) (st : kS) (v : Int64) : (wM G a st).set 0 (a 0, .inr (9, [.int (gI st 0), .int (gI st 1), .ref (a 1), .ref (a 2), .ref (a 3), .ref (a 4), .int (gI st 2), .ref (a 5), .int (gI st 3), .long v, .int (gI st 4), .ref (a 6), .int (gI st 5), .int (gI st 6), .int (gI st 7), .long (gJ st 1), .ref (a 7), .ref (a 8), .int (gI st 8), .int (gI st 9), .int (gI st 10), .int (gI st 11), .ref (a 9), .ref (a 10), .ref (a 11), .int (gI st 12), .int (gI st 13), .int (gI st 14), .int (gI st 15), .int (gI st 16), .ref (a 12), .ref (a 13), .ref (a 14), .ref (a 15), .ref (a 16), .ref (a 17), .ref (a 18), .ref (a 19), .ref (a 20), .ref (a 21), .ref (a 22), .ref (a 23), .long (gJ st 2)])) = wM G a (sJ st 0 v) := rfl
theorem swM_I4 (G : kG) (a : Nat → Nat) (st : kS) (v : Int32) : (wM G a st).set 0 (a 0, .inr (9, [.int (gI st 0), .int (gI st 1), .ref (a 1), .ref (a 2), .ref (a 3), .ref (a 4), .int (gI st 2), .ref (a 5), .int (gI st 3), .long (gJ st 0), .int v, .ref (a 6), .int (gI st 5), .int (gI st 6), .int (gI st 7), .long (gJ st 1), .ref (a 7), .ref (a 8), .int (gI st 8), .int (gI st 9), .int (gI st 10), .int (gI st 11), .ref (a 9), .ref (a 10), .ref (a 11), .int (gI st 12), .int (gI st 13), .int (gI st 14), .int (gI st 15), .int (gI st 16), .ref (a 12), .ref (a 13), .ref (a 14), .ref (a 15), .ref (a 16), .ref (a 17), .ref (a 18), .ref (a 19), .ref (a 20), .ref (a 21), .ref (a 22), .ref (a 23), .long (gJ st 2)])) = wM G a (sI st 4 v) := rfl
theorem swM_I5 (G : kG) (a : Nat → Nat) (st : kS) (v : Int32) : (wM G a st).set 0 (a 0, .inr (9, [.int (gI st 0), .int (gI st 1), .ref (a 1), .ref (a 2), .ref (a 3), .ref (a 4), .int (gI st 2), .ref (a 5), .int (gI st 3), .long (gJ st 0), .int (gI st 4), .ref (a 6), .int v, .int (gI st 6), .int (gI st 7), .long (gJ st 1), .ref (a 7), .ref (a 8), .int (gI st 8), .int (gI st 9), .int (gI st 10), .int (gI st 11), .ref (a 9), .ref (a 10), .ref (a 11), .int (gI st 12), .int (gI st 13), .int (gI st 14), .int (gI st 15), .int (gI st 16), .ref (a 12), .ref (a 13), .ref (a 14), .ref (a 15), .ref (a 16), .ref (a 17), .ref (a 18), .ref (a 19), .ref (a 20), .ref (a 21), .ref (a 22), .ref (a 23), .long (gJ st 2)])) = wM G a (sI st 5 v) := rfl
theorem swM_I6 (G : kG) (a : Nat → Nat) (st : kS) (v : Int32) : (wM G a st).set 0 (a 0, .inr (9, [.int (gI st 0), .int (gI st 1), .ref (a 1), .ref (a 2), .ref (a 3), .ref (a 4), .int (gI st 2), .ref (a 5), .int (gI st 3), .long (gJ st 0), .int (gI st 4), .ref (a 6), .int (gI st 5), .int v, .int (gI st 7), .long (gJ st 1), .ref (a 7), .ref (a 8), .int (gI st 8), .int (gI st 9), .int (gI st 10), .int (gI st 11), .ref (a 9), .ref (a 10), .ref (a 11), .int (gI st 12), .int (gI st 13), .int (gI st 14), .int (gI st 15), .int (gI st 16), .ref (a 12), .ref (a 13), .ref (a 14), .ref (a 15), .ref (a 16), .ref (a 17), .ref (a 18), .ref (a 19), .ref (a 20), .ref (a 21), .ref (a 22), .ref (a 23), .long (gJ st 2)])) = wM G a (sI st 6 v) := rfl
theorem swM_I7 (G : kG) (a : Nat → Nat) (st : kS) (v : Int32) : (wM G a st).set 0 (a 0, .inr (9, [.int (gI st 0), .int (gI st 1), .ref (a 1), .ref (a 2), .ref (a 3), .ref (a 4), .int (gI st 2), .ref (a 5), .int (gI st 3), .long (gJ st 0), .int (gI st 4), .ref (a 6), .int (gI st 5), .int (gI st 6), .int v, .long (gJ st 1), .ref (a 7), .ref (a 8), .int (gI st 8), .int (gI st 9), .int (gI st 10), .int (gI st 11), .ref (a 9), .ref (a 10), .ref (a 11), .int (gI st 12), .int (gI st 13), .int (gI st 14), .int (gI st 15), .int (gI st 16), .ref (a 12), .ref (a 13), .ref (a 14), .ref (a 15), .ref (a 16), .ref (a 17), .ref (a 18), .ref (a 19), .ref (a 20), .ref (a 21), .ref (a 22), .ref (a 23), .long (gJ st 2)])) = wM G a (sI st 7 v) := rfl
theorem swM_J1 (G : kG) (a : Nat → Nat) (st : kS) (v : Int64) : (wM G a st).set 0 (a 0, .inr (9, [.int (gI st 0), .int (gI st 1), .ref (a 1), .ref (a 2), .ref (a 3), .ref (a 4), .int (gI st 2), .ref (a 5), .int (gI st 3), .long (gJ st 0), .int (gI st 4), .ref (a 6), .int (gI st 5), .int (gI st 6), .int (gI st 7), .long v, .ref (a 7), .ref (a 8), .int (gI st 8), .int (gI st 9), .int (gI st 10), .int (gI st 11), .ref (a 9), .ref (a 10), .ref (a 11), .int (gI st 12), .int (gI st 13), .int (gI st 14), .int (gI st 15), .int (gI st 16), .ref (a 12), .ref (a 13), .ref (a 14), .ref (a 15), .ref (a 16), .ref (a 17), .ref (a 18), .ref (a 19), .ref (a 20), .ref (a 21), .ref (a 22), .ref (a 23), .long (gJ st 2)])) = wM G a (sJ st 1 v) := rfl
theorem swM_I8 (G : kG) (a : Nat → Nat) (st : kS) (v : Int32) : (wM G a st).set 0 (a 0, .inr (9, [.int (gI st 0), .int (gI st 1), .ref (a 1), .ref (a 2), .ref (a 3), .ref (a 4), .int (gI st 2), .ref (a 5), .int (gI st 3), .long (gJ st 0), .int (gI st 4), .ref (a 6), .int (gI st 5), .int (gI st 6), .int (gI st 7), .long (gJ st 1), .ref (a 7), .ref (a 8), .int v, .int (gI st 9), .int (gI st 10), .int (gI st 11), .ref (a 9), .ref (a 10), .ref (a 11), .int (gI st 12), .int (gI st 13), .int (gI st 14), .int (gI st 15), .int (gI st 16), .ref (a 12), .ref (a 13), .ref (a 14), .ref (a 15), .ref (a 16), .ref (a 17), .ref (a 18), .ref (a 19), .ref (a 20), .ref (a 21), .ref (a 22), .ref (a 23), .long (gJ st 2)])) = wM G a (sI st 8 v) := rfl
theorem swM_I9 (G : kG) (a : Nat → Nat) (st : kS) (v : Int32) : (wM G a st).set 0 (a 0, .inr (9, [.int (gI st 0), .int (gI st 1), .ref (a 1), .ref (a 2), .ref (a 3), .ref (a 4), .int (gI st 2), .ref (a 5), .int (gI st 3), .long (gJ st 0), .int (gI st 4), .ref (a 6), .int (gI st 5), .int (gI st 6), .int (gI st 7), .long (gJ st 1), .ref (a 7), .ref (a 8), .int (gI st 8), .int v, .int (gI st 10), .int (gI st 11), .ref (a 9), .ref (a 10), .ref (a 11), .int (gI st 12), .int (gI st 13), .int (gI st 14), .int (gI st 15), .int (gI st 16), .ref (a 12), .ref (a 13), .ref (a 14), .ref (a 15), .ref (a 16), .ref (a 17), .ref (a 18), .ref (a 19), .ref (a 20), .ref (a 21), .ref (a 22), .ref (a 23), .long (gJ st 2)])) = wM G a (sI st 9 v) := rfl
theorem swM_I10 (G : kG) (a : Nat → Nat) (st : kS) (v : Int32) : (wM G a st).set 0 (a 0, .inr (9, [.int (gI st 0), .int (gI st 1), .ref (a 1), .ref (a 2), .ref (a 3), .ref (a 4), .int (gI st 2), .ref (a 5), .int (gI st 3), .long (gJ st 0), .int (gI st 4), .ref (a 6), .int (gI st 5), .int (gI st 6), .int (gI st 7), .long (gJ st 1), .ref (a 7), .ref (a 8), .int (gI st 8), .int (gI st 9), .int v, .int (gI st 11), .ref (a 9), .ref (a 10), .ref (a 11), .int (gI st 12), .int (gI st 13), .int (gI st 14), .int (gI st 15), .int (gI st 16), .ref (a 12), .ref (a 13), .ref (a 14), .ref (a 15), .ref (a 16), .ref (a 17), .ref (a 18), .ref (a 19), .ref (a 20), .ref (a 21), .ref (a 22), .ref (a 23), .long (gJ st 2)])) = wM G a (sI st 10 v) := rfl
theorem swM_I11 (G : kG) (a : Nat → Nat) (st : kS) (v : Int32) : (wM G a st).set 0 (a 0, .inr (9, [.int (gI st 0), .int (gI st 1), .ref (a 1), .ref (a 2), .ref (a 3), .ref (a 4), .int (gI st 2), .ref (a 5), .int (gI st 3), .long (gJ st 0), .int (gI st 4), .ref (a 6), .int (gI st 5), .int (gI st 6), .int (gI st 7), .long (gJ st 1), .ref (a 7), .ref (a 8), .int (gI st 8), .int (gI st 9), .int (gI st 10), .int v, .ref (a 9), .ref (a 10), .ref (a 11), .int (gI st 12), .int (gI st 13), .int (gI st 14), .int (gI st 15), .int (gI st 16), .ref (a 12), .ref (a 13), .ref (a 14), .ref (a 15), .ref (a 16), .ref (a 17), .ref (a 18), .ref (a 19), .ref (a 20), .ref (a 21), .ref (a 22), .ref (a 23), .long (gJ st 2)])) = wM G a (sI st 11 v) := rfl
theorem swM_I12 (G : kG) (a : Nat → Nat) (st : kS) (v : Int32) : (wM G a st).set 0 (a 0, .inr (9, [.int (gI st 0), .int (gI st 1), .ref (a 1), .ref (a 2), .ref (a 3), .ref (a 4), .int (gI st 2), .ref (a 5), .int (gI st 3), .long (gJ st 0), .int (gI st 4), .ref (a 6), .int (gI st 5), .int (gI st 6), .int (gI st 7), .long (gJ st 1), .ref (a 7), .ref (a 8), .int (gI st 8), .int (gI st 9), .int (gI st 10), .int (gI st 11), .ref (a 9), .ref (a 10), .ref (a 11), .int v, .int (gI st 13), .int (gI st 14), .int (gI st 15), .int (gI st 16), .ref (a 12), .ref (a 13), .ref (a 14), .ref (a 15), .ref (a 16), .ref (a 17), .ref (a 18), .ref (a 19), .ref (a 20), .ref (a 21), .ref (a 22), .ref (a 23), .long (gJ st 2)])) = wM G a (sI st 12 v) := rfl
theorem swM_I13 (G : kG) (a : Nat → Nat) (st : kS) (v : Int32) : (wM G a st).set 0 (a 0, .inr (9, [.int (gI st 0), .int (gI st 1), .ref (a 1), .ref (a 2), .ref (a 3), .ref (a 4), .int (gI st 2), .ref (a 5), .int (gI st 3), .long (gJ st 0), .int (gI st 4), .ref (a 6), .int (gI st 5), .int (gI st 6), .int (gI st 7), .long (gJ st 1), .ref (a 7), .ref (a 8), .int (gI st 8), .int (gI st 9), .int (gI st 10), .int (gI st 11), .ref (a 9), .ref (a 10), .ref (a 11), .int (gI st 12), .int v, .int (gI st 14), .int (gI st 15), .int (gI st 16), .ref (a 12), .ref (a 13), .ref (a 14), .ref (a 15), .ref (a 16), .ref (a 17), .ref (a 18), .ref (a 19), .ref (a 20), .ref (a 21), .ref (a 22), .ref (a 23), .long (gJ st 2)])) = wM G a (sI st 13 v) := rfl
theorem swM_I14 (G : kG) (a : Nat → Nat) (st : kS) (v : Int32) : (wM G a st).set 0 (a 0, .inr (9, [.int (gI st 0), .int (gI st 1), .ref (a 1), .ref (a 2), .ref (a 3), .ref (a 4), .int (gI st 2), .ref (a 5), .int (gI st 3), .long (gJ st 0), .int (gI st 4), .ref (a 6), .int (gI st 5), .int (gI st 6), .int (gI st 7), .long (gJ st 1), .ref (a 7), .ref (a 8), .int (gI st 8), .int (gI st 9), .int (gI st 10), .int (gI st 11), .ref (a 9), .ref (a 10), .ref (a 11), .int (gI st 12), .int (gI st 13), .int v, .int (gI st 15), .int (gI st 16), .ref (a 12), .ref (a 13), .ref (a 14), .ref (a 15), .ref (a 16), .ref (a 17), .ref (a 18), .ref (a 19), .ref (a 20), .ref (a 21), .ref (a 22), .ref (a 23), .long (gJ st 2)])) = wM G a (sI st 14 v) := rfl
theorem swM_I15 (G : kG) (a : Nat → Nat) (st : kS) (v : Int32) : (wM G a st).set 0 (a 0, .inr (9, [.int (gI st 0), .int (gI st 1), .ref (a 1), .ref (a 2), .ref (a 3), .ref (a 4), .int (gI st 2), .ref (a 5), .int (gI st 3), .long (gJ st 0), .int (gI st 4), .ref (a 6), .int (gI st 5), .int (gI st 6), .int (gI st 7), .long (gJ st 1), .ref (a 7), .ref (a 8), .int (gI st 8), .int (gI st 9), .int (gI st 10), .int (gI st 11), .ref (a 9), .ref (a 10), .ref (a 11), .int (gI st 12), .int (gI st 13), .int (gI st 14), .int v, .int (gI st 16), .ref (a 12), .ref (a 13), .ref (a 14), .ref (a 15), .ref (a 16), .ref (a 17), .ref (a 18), .ref (a 19), .ref (a 20), .ref (a 21), .ref (a 22), .ref (a 23), .long (gJ st 2)])) = wM G a (sI st 15 v) := rfl
theorem swM_I16 (G : kG) (a : Nat → Nat) (st : kS) (v : Int32) : (wM G a st).set 0 (a 0, .inr (9, [.int (gI st 0), .int (gI st 1), .ref (a 1), .ref (a 2), .ref (a 3), .ref (a 4), .int (gI st 2), .ref (a 5), .int (gI st 3), .long (gJ st 0), .int (gI st 4), .ref (a 6), .int (gI st 5), .int (gI st 6), .int (gI st 7), .long (gJ st 1), .ref (a 7), .ref (a 8), .int (gI st 8), .int (gI st 9), .int (gI st 10), .int (gI st 11), .ref (a 9), .ref (a 10), .ref (a 11), .int (gI st 12), .int (gI st 13), .int (gI st 14), .int (gI st 15), .int v, .ref (a 12), .ref (a 13), .ref (a 14), .ref (a 15), .ref (a 16), .ref (a 17), .ref (a 18), .ref (a 19), .ref (a 20), .ref (a 21), .ref (a 22), .ref (a 23), .long (gJ st 2)])) = wM G a (sI st 16 v) := rfl
theorem swM_J2 (G : kG) (a : Nat → Nat) (st : kS) (v : Int64) : (wM G a st).set 0 (a 0, .inr (9, [.int (gI st 0), .int (gI st 1), .ref (a 1), .ref (a 2), .ref (a 3), .ref (a 4), .int (gI st 2), .ref (a 5), .int (gI st 3), .long (gJ st 0), .int (gI st 4), .ref (a 6), .int (gI st 5), .int (gI st 6), .int (gI st 7), .long (gJ st 1), .ref (a 7), .ref (a 8), .int (gI st 8), .int (gI st 9), .int (gI st 10), .int (gI st 11), .ref (a 9), .ref (a 10), .ref (a 11), .int (gI st 12), .int (gI st 13), .int (gI st 14), .int (gI st 15), .int (gI st 16), .ref (a 12), .ref (a 13), .ref (a 14), .ref (a 15), .ref (a 16), .ref (a 17), .ref (a 18), .ref (a 19), .ref (a 20), .ref (a 21), .ref (a 22), .ref (a 23), .long v])) = wM G a (sJ st 2 v) := rfl
theorem swM_A1 (G : kG) (a : Nat → Nat) (st : kS) (v : Nat → Int32) : (wM G a st).set 1 (a 1, .inl (G.2.1, 6, .inl v)) = wM G a (sA st 1 v) := rfl
theorem swM_A2 (G : kG) (a : Nat → Nat) (st : kS) (v : Nat → Int32) : (wM G a st).set 2 (a 2, .inl (G.2.2.2.2, 36, .inl v)) = wM G a (sA st 2 v) := rfl
theorem swM_A3 (G : kG) (a : Nat → Nat) (st : kS) (v : Nat → Int32) : (wM G a st).set 3 (a 3, .inl (G.2.1, 6, .inl v)) = wM G a (sA st 3 v) := rfl
theorem swM_A4 (G : kG) (a : Nat → Nat) (st : kS) (v : Nat → Int32) : (wM G a st).set 4 (a 4, .inl (G.2.1, 6, .inl v)) = wM G a (sA st 4 v) := rfl
theorem swM_A5 (G : kG) (a : Nat → Nat) (st : kS) (v : Nat → Int32) : (wM G a st).set 5 (a 5, .inl (G.2.1, 6, .inl v)) = wM G a (sA st 5 v) := rfl
theorem swM_A6 (G : kG) (a : Nat → Nat) (st : kS) (v : Nat → Int32) : (wM G a st).set 6 (a 6, .inl (G.2.2.2.1, 26, .inl v)) = wM G a (sA st 6 v) := rfl
theorem swM_A7 (G : kG) (a : Nat → Nat) (st : kS) (v : Nat → Int32) : (wM G a st).set 7 (a 7, .inl (G.2.1, 6, .inl v)) = wM G a (sA st 7 v) := rfl
theorem swM_A8 (G : kG) (a : Nat → Nat) (st : kS) (v : Nat → Int32) : (wM G a st).set 8 (a 8, .inl (G.2.1, 6, .inl v)) = wM G a (sA st 8 v) := rfl
theorem swM_A9 (G : kG) (a : Nat → Nat) (st : kS) (v : Nat → Int32) : (wM G a st).set 9 (a 9, .inl (G.2.1, 6, .inl v)) = wM G a (sA st 9 v) := rfl
theorem swM_A10 (G : kG) (a : Nat → Nat) (st : kS) (v : Nat → Int32) : (wM G a st).set 10 (a 10, .inl (G.2.1, 6, .inl v)) = wM G a (sA st 10 v) := rfl
theorem swM_A11 (G : kG) (a : Nat → Nat) (st : kS) (v : Nat → Int32) : (wM G a st).set 11 (a 11, .inl (G.2.1, 6, .inl v)) = wM G a (sA st 11 v) := rfl
theorem swM_A12 (G : kG) (a : Nat → Nat) (st : kS) (v : Nat → Int32) : (wM G a st).set 12 (a 12, .inl (G.2.1, 720, .inl v)) = wM G a (sA st 12 v) := rfl
theorem swM_A13 (G : kG) (a : Nat → Nat) (st : kS) (v : Nat → Int32) : (wM G a st).set 13 (a 13, .inl (G.2.1, 46656, .inl v)) = wM G a (sA st 13 v) := rfl
theorem swM_A14 (G : kG) (a : Nat → Nat) (st : kS) (v : Nat → Int32) : (wM G a st).set 14 (a 14, .inl (G.2.1, 4320, .inl v)) = wM G a (sA st 14 v) := rfl
theorem swM_A15 (G : kG) (a : Nat → Nat) (st : kS) (v : Nat → Int32) : (wM G a st).set 15 (a 15, .inl (G.2.1, 6, .inl v)) = wM G a (sA st 15 v) := rfl
theorem swM_A16 (G : kG) (a : Nat → Nat) (st : kS) (v : Nat → Int32) : (wM G a st).set 16 (a 16, .inl (G.2.1, 720, .inl v)) = wM G a (sA st 16 v) := rfl
theorem swM_A17 (G : kG) (a : Nat → Nat) (st : kS) (v : Nat → Int32) : (wM G a st).set 17 (a 17, .inl (G.2.1, 720, .inl v)) = wM G a (sA st 17 v) := rfl
theorem swM_A18 (G : kG) (a : Nat → Nat) (st : kS) (v : Nat → Int32) : (wM G a st).set 18 (a 18, .inl (G.2.1, 720, .inl v)) = wM G a (sA st 18 v) := rfl
theorem swM_A19 (G : kG) (a : Nat → Nat) (st : kS) (v : Nat → Int32) : (wM G a st).set 19 (a 19, .inl (G.2.1, 720, .inl v)) = wM G a (sA st 19 v) := rfl
theorem swM_A20 (G : kG) (a : Nat → Nat) (st : kS) (v : Nat → Int32) : (wM G a st).set 20 (a 20, .inl (G.2.1, 6, .inl v)) = wM G a (sA st 20 v) := rfl
theorem swM_A21 (G : kG) (a : Nat → Nat) (st : kS) (v : Nat → Int32) : (wM G a st).set 21 (a 21, .inl (G.2.1, 6, .inl v)) = wM G a (sA st 21 v) := rfl
theorem swM_A22 (G : kG) (a : Nat → Nat) (st : kS) (v : Nat → Int64) : (wM G a st).set 22 (a 22, .inl (G.2.2.1, 720, .inr (.inl v))) = wM G a (sL st 22 v) := rfl
theorem swM_A23 (G : kG) (a : Nat → Nat) (st : kS) (v : Nat → Int64) : (wM G a st).set 23 (a 23, .inl (G.2.2.1, 720, .inr (.inl v))) = wM G a (sL st 23 v) := rfl
theorem lwM_A1 (G : kG) (a : Nat → Nat) {st : kS} {f : Nat → Int32} (e : gA st 1 = f) : (wM G a st)[1]? = some (a 1, .inl (G.2.1, 6, .inl f)) := by
  rw [← e]
  rfl
theorem lwM_A2 (G : kG) (a : Nat → Nat) {st : kS} {f : Nat → Int32} (e : gA st 2 = f) : (wM G a st)[2]? = some (a 2, .inl (G.2.2.2.2, 36, .inl f)) := by
  rw [← e]
  rfl
theorem lwM_A3 (G : kG) (a : Nat → Nat) {st : kS} {f : Nat → Int32} (e : gA st 3 = f) : (wM G a st)[3]? = some (a 3, .inl (G.2.1, 6, .inl f)) := by
  rw [← e]
  rfl
theorem lwM_A4 (G : kG) (a : Nat → Nat) {st : kS} {f : Nat → Int32} (e : gA st 4 = f) : (wM G a st)[4]? = some (a 4, .inl (G.2.1, 6, .inl f)) := by
  rw [← e]
  rfl
theorem lwM_A5 (G : kG) (a : Nat → Nat) {st : kS} {f : Nat → Int32} (e : gA st 5 = f) : (wM G a st)[5]? = some (a 5, .inl (G.2.1, 6, .inl f)) := by
  rw [← e]
  rfl
theorem lwM_A6 (G : kG) (a : Nat → Nat) {st : kS} {f : Nat → Int32} (e : gA st 6 = f) : (wM G a st)[6]? = some (a 6, .inl (G.2.2.2.1, 26, .inl f)) := by
  rw [← e]
  rfl
theorem lwM_A7 (G : kG) (a : Nat → Nat) {st : kS} {f : Nat → Int32} (e : gA st 7 = f) : (wM G a st)[7]? = some (a 7, .inl (G.2.1, 6, .inl f)) := by
  rw [← e]
  rfl
theorem lwM_A8 (G : kG) (a : Nat → Nat) {st : kS} {f : Nat → Int32} (e : gA st 8 = f) : (wM G a st)[8]? = some (a 8, .inl (G.2.1, 6, .inl f)) := by
  rw [← e]
  rfl
theorem lwM_A9 (G : kG) (a : Nat → Nat) {st : kS} {f : Nat → Int32} (e : gA st 9 = f) : (wM G a st)[9]? = some (a 9, .inl (G.2.1, 6, .inl f)) := by
  rw [← e]
  rfl
theorem lwM_A10 (G : kG) (a : Nat → Nat) {st : kS} {f : Nat → Int32} (e : gA st 10 = f) : (wM G a st)[10]? = some (a 10, .inl (G.2.1, 6, .inl f)) := by
  rw [← e]
  rfl
theorem lwM_A11 (G : kG) (a : Nat → Nat) {st : kS} {f : Nat → Int32} (e : gA st 11 = f) : (wM G a st)[11]? = some (a 11, .inl (G.2.1, 6, .inl f)) := by
  rw [← e]
  rfl
theorem lwM_A12 (G : kG) (a : Nat → Nat) {st : kS} {f : Nat → Int32} (e : gA st 12 = f) : (wM G a st)[12]? = some (a 12, .inl (G.2.1, 720, .inl f)) := by
  rw [← e]
  rfl
theorem lwM_A13 (G : kG) (a : Nat → Nat) {st : kS} {f : Nat → Int32} (e : gA st 13 = f) : (wM G a st)[13]? = some (a 13, .inl (G.2.1, 46656, .inl f)) := by
  rw [← e]
  rfl
theorem lwM_A14 (G : kG) (a : Nat → Nat) {st : kS} {f : Nat → Int32} (e : gA st 14 = f) : (wM G a st)[14]? = some (a 14, .inl (G.2.1, 4320, .inl f)) := by
  rw [← e]
  rfl
theorem lwM_A15 (G : kG) (a : Nat → Nat) {st : kS} {f : Nat → Int32} (e : gA st 15 = f) : (wM G a st)[15]? = some (a 15, .inl (G.2.1, 6, .inl f)) := by
  rw [← e]
  rfl
theorem lwM_A16 (G : kG) (a : Nat → Nat) {st : kS} {f : Nat → Int32} (e : gA st 16 = f) : (wM G a st)[16]? = some (a 16, .inl (G.2.1, 720, .inl f)) := by
  rw [← e]
  rfl
theorem lwM_A17 (G : kG) (a : Nat → Nat) {st : kS} {f : Nat → Int32} (e : gA st 17 = f) : (wM G a st)[17]? = some (a 17, .inl (G.2.1, 720, .inl f)) := by
  rw [← e]
  rfl
theorem lwM_A18 (G : kG) (a : Nat → Nat) {st : kS} {f : Nat → Int32} (e : gA st 18 = f) : (wM G a st)[18]? = some (a 18, .inl (G.2.1, 720, .inl f)) := by
  rw [← e]
  rfl
theorem lwM_A19 (G : kG) (a : Nat → Nat) {st : kS} {f : Nat → Int32} (e : gA st 19 = f) : (wM G a st)[19]? = some (a 19, .inl (G.2.1, 720, .inl f)) := by
  rw [← e]
  rfl
theorem lwM_A20 (G : kG) (a : Nat → Nat) {st : kS} {f : Nat → Int32} (e : gA st 20 = f) : (wM G a st)[20]? = some (a 20, .inl (G.2.1, 6, .inl f)) := by
  rw [← e]
  rfl
theorem lwM_A21 (G : kG) (a : Nat → Nat) {st : kS} {f : Nat → Int32} (e : gA st 21 = f) : (wM G a st)[21]? = some (a 21, .inl (G.2.1, 6, .inl f)) := by
  rw [← e]
  rfl
theorem lwM_A22 (G : kG) (a : Nat → Nat) {st : kS} {f : Nat → Int64} (e : gL st 22 = f) : (wM G a st)[22]? = some (a 22, .inl (G.2.2.1, 720, .inr (.inl f))) := by
  rw [← e]
  rfl
theorem lwM_A23 (G : kG) (a : Nat → Nat) {st : kS} {f : Nat → Int64} (e : gL st 23 = f) : (wM G a st)[23]? = some (a 23, .inl (G.2.2.1, 720, .inr (.inl f))) := by
  rw [← e]
  rfl
theorem ysX0_get : kYS yX0_get cX0_get 2 (some .int) 2 := ⟨q8_20, q7_7, q8_21, by decide +kernel⟩
theorem ysX0_get_ : kYS yX0_get_ cX0_get_ 2 (some .long) 2 := ⟨q35_18, q7_7, q35_19, by decide +kernel⟩
theorem ysX0_put : kYS yX0_put cX0_put 3 none 3 := ⟨q7_6, q7_7, q7_8, by decide +kernel⟩
theorem ysX0_put_ : kYS yX0_put_ cX0_put_ 4 none 3 := ⟨q35_14, q7_7, q35_15, by decide +kernel⟩
theorem ysJ7_fill_53178 : kYS yJ7_fill_53178 cJ7_fill_53178 4 none 2 := ⟨q12_22, q12_23, q13_0, by decide +kernel⟩
theorem ysJ7_fill_d0a16 : kYS yJ7_fill_d0a16 cJ7_fill_d0a16 5 none 2 := ⟨q35_11, q12_23, q35_12, by decide +kernel⟩
theorem ysJ9_floorMod_7cf53 : kYS yJ9_floorMod_7cf53 cJ9_floorMod_7cf53 3 (some .int) 2 := ⟨q18_19, q18_20, q18_21, by decide +kernel⟩
