-- ===== PART A: goes FIRST, ahead of the names: the tables' words, and 'selects' of the private methods out of them =====
/-- a private method of a class that the tables say can be made, by its rows of tables_1 -/
def lw_okq (q : MethodName × Nat) : Prop := (q.1.cls ≠ "java/lang/invoke/MethodHandle" ∧ q.1.cls ≠ "java/lang/invoke/VarHandle") ∧ Cond.instantiable q.1.cls q.2 ∈ tables_1 ∧ Cond.privateMethod q.1 ∈ tables_1 ∧ Cond.instanceMethod q.1 ∈ tables_1
theorem lw_p0 : lw_okq (⟨"HousesThatChange$Page", "fitsFeuds", "(II)Z"⟩, 2) := ⟨⟨by decide +kernel, by decide +kernel⟩, List.mem_of_getElem? (i := 74) (by decide +kernel), List.mem_of_getElem? (i := 291) (by decide +kernel), List.mem_of_getElem? (i := 292) (by decide +kernel)⟩
theorem lw_p1 : lw_okq (⟨"HousesThatChange$Page", "isDigit", "(III)Z"⟩, 2) := ⟨⟨by decide +kernel, by decide +kernel⟩, List.mem_of_getElem? (i := 74) (by decide +kernel), List.mem_of_getElem? (i := 295) (by decide +kernel), List.mem_of_getElem? (i := 296) (by decide +kernel)⟩
theorem lw_p2 : lw_okq (⟨"HousesThatChange$Page", "fitsLetter", "(I)Z"⟩, 2) := ⟨⟨by decide +kernel, by decide +kernel⟩, List.mem_of_getElem? (i := 74) (by decide +kernel), List.mem_of_getElem? (i := 307) (by decide +kernel), List.mem_of_getElem? (i := 308) (by decide +kernel)⟩
theorem lw_p3 : lw_okq (⟨"HousesThatChange$Town", "setBars", "()V"⟩, 5) := ⟨⟨by decide +kernel, by decide +kernel⟩, List.mem_of_getElem? (i := 23) (by decide +kernel), List.mem_of_getElem? (i := 328) (by decide +kernel), List.mem_of_getElem? (i := 329) (by decide +kernel)⟩
theorem lw_p4 : lw_okq (⟨"HousesThatChange$Town", "quarrel", "(II)V"⟩, 5) := ⟨⟨by decide +kernel, by decide +kernel⟩, List.mem_of_getElem? (i := 23) (by decide +kernel), List.mem_of_getElem? (i := 345) (by decide +kernel), List.mem_of_getElem? (i := 346) (by decide +kernel)⟩
theorem lw_p5 : lw_okq (⟨"HousesThatChange$Orders", "change", "(II)V"⟩, 4) := ⟨⟨by decide +kernel, by decide +kernel⟩, List.mem_of_getElem? (i := 52) (by decide +kernel), List.mem_of_getElem? (i := 368) (by decide +kernel), List.mem_of_getElem? (i := 369) (by decide +kernel)⟩
theorem lw_p6 : lw_okq (⟨"HousesThatChange", "receiver", "(III)I"⟩, 11) := ⟨⟨by decide +kernel, by decide +kernel⟩, List.mem_of_getElem? (i := 15) (by decide +kernel), List.mem_of_getElem? (i := 417) (by decide +kernel), List.mem_of_getElem? (i := 418) (by decide +kernel)⟩
theorem lw_p7 : lw_okq (⟨"HousesThatChange", "between", "(II)I"⟩, 11) := ⟨⟨by decide +kernel, by decide +kernel⟩, List.mem_of_getElem? (i := 15) (by decide +kernel), List.mem_of_getElem? (i := 440) (by decide +kernel), List.mem_of_getElem? (i := 441) (by decide +kernel)⟩
theorem lw_p8 : lw_okq (⟨"HousesThatChange", "midnight", "(I)Z"⟩, 11) := ⟨⟨by decide +kernel, by decide +kernel⟩, List.mem_of_getElem? (i := 15) (by decide +kernel), List.mem_of_getElem? (i := 510) (by decide +kernel), List.mem_of_getElem? (i := 511) (by decide +kernel)⟩
theorem lw_p9 : lw_okq (⟨"HousesThatChange", "number", "()I"⟩, 11) := ⟨⟨by decide +kernel, by decide +kernel⟩, List.mem_of_getElem? (i := 15) (by decide +kernel), List.mem_of_getElem? (i := 538) (by decide +kernel), List.mem_of_getElem? (i := 539) (by decide +kernel)⟩
theorem lw_p10 : lw_okq (⟨"HousesThatChange$Mayor", "lookAhead", "(II)V"⟩, 5) := ⟨⟨by decide +kernel, by decide +kernel⟩, List.mem_of_getElem? (i := 111) (by decide +kernel), List.mem_of_getElem? (i := 558) (by decide +kernel), List.mem_of_getElem? (i := 559) (by decide +kernel)⟩
theorem lw_p11 : lw_okq (⟨"HousesThatChange$Mayor", "leftBy", "(I)I"⟩, 5) := ⟨⟨by decide +kernel, by decide +kernel⟩, List.mem_of_getElem? (i := 111) (by decide +kernel), List.mem_of_getElem? (i := 568) (by decide +kernel), List.mem_of_getElem? (i := 569) (by decide +kernel)⟩
theorem lw_p12 : lw_okq (⟨"HousesThatChange$Goal", "countFew", "()V"⟩, 9) := ⟨⟨by decide +kernel, by decide +kernel⟩, List.mem_of_getElem? (i := 133) (by decide +kernel), List.mem_of_getElem? (i := 605) (by decide +kernel), List.mem_of_getElem? (i := 606) (by decide +kernel)⟩
theorem lw_p13 : lw_okq (⟨"HousesThatChange$Goal", "countSure", "()V"⟩, 9) := ⟨⟨by decide +kernel, by decide +kernel⟩, List.mem_of_getElem? (i := 133) (by decide +kernel), List.mem_of_getElem? (i := 622) (by decide +kernel), List.mem_of_getElem? (i := 623) (by decide +kernel)⟩
theorem lw_p14 : lw_okq (⟨"HousesThatChange$Goal", "canForce", "(II)Z"⟩, 9) := ⟨⟨by decide +kernel, by decide +kernel⟩, List.mem_of_getElem? (i := 133) (by decide +kernel), List.mem_of_getElem? (i := 626) (by decide +kernel), List.mem_of_getElem? (i := 627) (by decide +kernel)⟩
theorem lw_p15 : lw_okq (⟨"HousesThatChange$Stroll", "placeAfter", "(II)I"⟩, 3) := ⟨⟨by decide +kernel, by decide +kernel⟩, List.mem_of_getElem? (i := 194) (by decide +kernel), List.mem_of_getElem? (i := 642) (by decide +kernel), List.mem_of_getElem? (i := 643) (by decide +kernel)⟩
def lw_privs_1 : List (MethodName × Nat) := [(⟨"HousesThatChange$Page", "fitsFeuds", "(II)Z"⟩, 2), (⟨"HousesThatChange$Page", "isDigit", "(III)Z"⟩, 2), (⟨"HousesThatChange$Page", "fitsLetter", "(I)Z"⟩, 2), (⟨"HousesThatChange$Town", "setBars", "()V"⟩, 5), (⟨"HousesThatChange$Town", "quarrel", "(II)V"⟩, 5), (⟨"HousesThatChange$Orders", "change", "(II)V"⟩, 4), (⟨"HousesThatChange", "receiver", "(III)I"⟩, 11), (⟨"HousesThatChange", "between", "(II)I"⟩, 11), (⟨"HousesThatChange", "midnight", "(I)Z"⟩, 11), (⟨"HousesThatChange", "number", "()I"⟩, 11), (⟨"HousesThatChange$Mayor", "lookAhead", "(II)V"⟩, 5), (⟨"HousesThatChange$Mayor", "leftBy", "(I)I"⟩, 5), (⟨"HousesThatChange$Goal", "countFew", "()V"⟩, 9), (⟨"HousesThatChange$Goal", "countSure", "()V"⟩, 9), (⟨"HousesThatChange$Goal", "canForce", "(II)Z"⟩, 9), (⟨"HousesThatChange$Stroll", "placeAfter", "(II)I"⟩, 3)]
theorem lw_r1 : ∀ q ∈ lw_privs_1, lw_okq q := List.forall_mem_cons.mpr ⟨lw_p0, List.forall_mem_cons.mpr ⟨lw_p1, List.forall_mem_cons.mpr ⟨lw_p2, List.forall_mem_cons.mpr ⟨lw_p3, List.forall_mem_cons.mpr ⟨lw_p4, List.forall_mem_cons.mpr ⟨lw_p5, List.forall_mem_cons.mpr ⟨lw_p6, List.forall_mem_cons.mpr ⟨lw_p7, List.forall_mem_cons.mpr ⟨lw_p8, List.forall_mem_cons.mpr ⟨lw_p9, List.forall_mem_cons.mpr ⟨lw_p10, List.forall_mem_cons.mpr ⟨lw_p11, List.forall_mem_cons.mpr ⟨lw_p12, List.forall_mem_cons.mpr ⟨lw_p13, List.forall_mem_cons.mpr ⟨lw_p14, List.forall_mem_cons.mpr ⟨lw_p15, fun _ h => absurd h List.not_mem_nil⟩⟩⟩⟩⟩⟩⟩⟩⟩⟩⟩⟩⟩⟩⟩⟩
theorem lw_p16 : lw_okq (⟨"HousesThatChange$Stroll", "add", "(II)V"⟩, 3) := ⟨⟨by decide +kernel, by decide +kernel⟩, List.mem_of_getElem? (i := 194) (by decide +kernel), List.mem_of_getElem? (i := 649) (by decide +kernel), List.mem_of_getElem? (i := 650) (by decide +kernel)⟩
theorem lw_p17 : lw_okq (⟨"HousesThatChange$Past", "spread", "(I)V"⟩, 6) := ⟨⟨by decide +kernel, by decide +kernel⟩, List.mem_of_getElem? (i := 168) (by decide +kernel), List.mem_of_getElem? (i := 673) (by decide +kernel), List.mem_of_getElem? (i := 674) (by decide +kernel)⟩
theorem lw_p18 : lw_okq (⟨"HousesThatChange", "houseInto", "(JI)J"⟩, 11) := ⟨⟨by decide +kernel, by decide +kernel⟩, List.mem_of_getElem? (i := 15) (by decide +kernel), List.mem_of_getElem? (i := 714) (by decide +kernel), List.mem_of_getElem? (i := 715) (by decide +kernel)⟩
theorem lw_p19 : lw_okq (⟨"HousesThatChangeModel", "readRing", "()V"⟩, 43) := ⟨⟨by decide +kernel, by decide +kernel⟩, List.mem_of_getElem? (i := 730) (by decide +kernel), List.mem_of_getElem? (i := 885) (by decide +kernel), List.mem_of_getElem? (i := 886) (by decide +kernel)⟩
theorem lw_p20 : lw_okq (⟨"HousesThatChangeModel", "nextRing", "(II)I"⟩, 43) := ⟨⟨by decide +kernel, by decide +kernel⟩, List.mem_of_getElem? (i := 730) (by decide +kernel), List.mem_of_getElem? (i := 889) (by decide +kernel), List.mem_of_getElem? (i := 890) (by decide +kernel)⟩
theorem lw_p21 : lw_okq (⟨"HousesThatChangeModel", "readLetter", "()V"⟩, 43) := ⟨⟨by decide +kernel, by decide +kernel⟩, List.mem_of_getElem? (i := 730) (by decide +kernel), List.mem_of_getElem? (i := 896) (by decide +kernel), List.mem_of_getElem? (i := 897) (by decide +kernel)⟩
theorem lw_p22 : lw_okq (⟨"HousesThatChangeModel", "nextLetter", "(II)I"⟩, 43) := ⟨⟨by decide +kernel, by decide +kernel⟩, List.mem_of_getElem? (i := 730) (by decide +kernel), List.mem_of_getElem? (i := 900) (by decide +kernel), List.mem_of_getElem? (i := 901) (by decide +kernel)⟩
theorem lw_p23 : lw_okq (⟨"HousesThatChangeModel", "layOrders", "()V"⟩, 43) := ⟨⟨by decide +kernel, by decide +kernel⟩, List.mem_of_getElem? (i := 730) (by decide +kernel), List.mem_of_getElem? (i := 911) (by decide +kernel), List.mem_of_getElem? (i := 912) (by decide +kernel)⟩
theorem lw_p24 : lw_okq (⟨"HousesThatChangeModel", "think", "(I)Z"⟩, 43) := ⟨⟨by decide +kernel, by decide +kernel⟩, List.mem_of_getElem? (i := 730) (by decide +kernel), List.mem_of_getElem? (i := 915) (by decide +kernel), List.mem_of_getElem? (i := 916) (by decide +kernel)⟩
theorem lw_p25 : lw_okq (⟨"HousesThatChangeModel", "layNext", "(I)V"⟩, 43) := ⟨⟨by decide +kernel, by decide +kernel⟩, List.mem_of_getElem? (i := 730) (by decide +kernel), List.mem_of_getElem? (i := 919) (by decide +kernel), List.mem_of_getElem? (i := 920) (by decide +kernel)⟩
theorem lw_p26 : lw_okq (⟨"HousesThatChangeModel", "changes", "(I)Z"⟩, 43) := ⟨⟨by decide +kernel, by decide +kernel⟩, List.mem_of_getElem? (i := 730) (by decide +kernel), List.mem_of_getElem? (i := 923) (by decide +kernel), List.mem_of_getElem? (i := 924) (by decide +kernel)⟩
theorem lw_p27 : lw_okq (⟨"HousesThatChangeModel", "isStill", "(I)Z"⟩, 43) := ⟨⟨by decide +kernel, by decide +kernel⟩, List.mem_of_getElem? (i := 730) (by decide +kernel), List.mem_of_getElem? (i := 927) (by decide +kernel), List.mem_of_getElem? (i := 928) (by decide +kernel)⟩
theorem lw_p28 : lw_okq (⟨"HousesThatChangeModel", "change", "(I)V"⟩, 43) := ⟨⟨by decide +kernel, by decide +kernel⟩, List.mem_of_getElem? (i := 730) (by decide +kernel), List.mem_of_getElem? (i := 931) (by decide +kernel), List.mem_of_getElem? (i := 932) (by decide +kernel)⟩
theorem lw_p29 : lw_okq (⟨"HousesThatChangeModel", "code", "([I)I"⟩, 43) := ⟨⟨by decide +kernel, by decide +kernel⟩, List.mem_of_getElem? (i := 730) (by decide +kernel), List.mem_of_getElem? (i := 935) (by decide +kernel), List.mem_of_getElem? (i := 936) (by decide +kernel)⟩
theorem lw_p30 : lw_okq (⟨"HousesThatChangeModel", "isHouse", "(I)Z"⟩, 43) := ⟨⟨by decide +kernel, by decide +kernel⟩, List.mem_of_getElem? (i := 730) (by decide +kernel), List.mem_of_getElem? (i := 947) (by decide +kernel), List.mem_of_getElem? (i := 948) (by decide +kernel)⟩
theorem lw_p31 : lw_okq (⟨"HousesThatChangeModel", "placeIn", "([II)I"⟩, 43) := ⟨⟨by decide +kernel, by decide +kernel⟩, List.mem_of_getElem? (i := 730) (by decide +kernel), List.mem_of_getElem? (i := 951) (by decide +kernel), List.mem_of_getElem? (i := 952) (by decide +kernel)⟩
def lw_privs_2 : List (MethodName × Nat) := [(⟨"HousesThatChange$Stroll", "add", "(II)V"⟩, 3), (⟨"HousesThatChange$Past", "spread", "(I)V"⟩, 6), (⟨"HousesThatChange", "houseInto", "(JI)J"⟩, 11), (⟨"HousesThatChangeModel", "readRing", "()V"⟩, 43), (⟨"HousesThatChangeModel", "nextRing", "(II)I"⟩, 43), (⟨"HousesThatChangeModel", "readLetter", "()V"⟩, 43), (⟨"HousesThatChangeModel", "nextLetter", "(II)I"⟩, 43), (⟨"HousesThatChangeModel", "layOrders", "()V"⟩, 43), (⟨"HousesThatChangeModel", "think", "(I)Z"⟩, 43), (⟨"HousesThatChangeModel", "layNext", "(I)V"⟩, 43), (⟨"HousesThatChangeModel", "changes", "(I)Z"⟩, 43), (⟨"HousesThatChangeModel", "isStill", "(I)Z"⟩, 43), (⟨"HousesThatChangeModel", "change", "(I)V"⟩, 43), (⟨"HousesThatChangeModel", "code", "([I)I"⟩, 43), (⟨"HousesThatChangeModel", "isHouse", "(I)Z"⟩, 43), (⟨"HousesThatChangeModel", "placeIn", "([II)I"⟩, 43)]
theorem lw_r2 : ∀ q ∈ lw_privs_2, lw_okq q := List.forall_mem_cons.mpr ⟨lw_p16, List.forall_mem_cons.mpr ⟨lw_p17, List.forall_mem_cons.mpr ⟨lw_p18, List.forall_mem_cons.mpr ⟨lw_p19, List.forall_mem_cons.mpr ⟨lw_p20, List.forall_mem_cons.mpr ⟨lw_p21, List.forall_mem_cons.mpr ⟨lw_p22, List.forall_mem_cons.mpr ⟨lw_p23, List.forall_mem_cons.mpr ⟨lw_p24, List.forall_mem_cons.mpr ⟨lw_p25, List.forall_mem_cons.mpr ⟨lw_p26, List.forall_mem_cons.mpr ⟨lw_p27, List.forall_mem_cons.mpr ⟨lw_p28, List.forall_mem_cons.mpr ⟨lw_p29, List.forall_mem_cons.mpr ⟨lw_p30, List.forall_mem_cons.mpr ⟨lw_p31, fun _ h => absurd h List.not_mem_nil⟩⟩⟩⟩⟩⟩⟩⟩⟩⟩⟩⟩⟩⟩⟩⟩
theorem lw_p32 : lw_okq (⟨"HousesThatChangeModel", "betweenBoth", "()I"⟩, 43) := ⟨⟨by decide +kernel, by decide +kernel⟩, List.mem_of_getElem? (i := 730) (by decide +kernel), List.mem_of_getElem? (i := 955) (by decide +kernel), List.mem_of_getElem? (i := 956) (by decide +kernel)⟩
theorem lw_p33 : lw_okq (⟨"HousesThatChangeModel", "areBeside", "([III)Z"⟩, 43) := ⟨⟨by decide +kernel, by decide +kernel⟩, List.mem_of_getElem? (i := 730) (by decide +kernel), List.mem_of_getElem? (i := 959) (by decide +kernel), List.mem_of_getElem? (i := 960) (by decide +kernel)⟩
theorem lw_p34 : lw_okq (⟨"HousesThatChangeModel", "houseNow", "(II)I"⟩, 43) := ⟨⟨by decide +kernel, by decide +kernel⟩, List.mem_of_getElem? (i := 730) (by decide +kernel), List.mem_of_getElem? (i := 967) (by decide +kernel), List.mem_of_getElem? (i := 968) (by decide +kernel)⟩
theorem lw_p35 : lw_okq (⟨"HousesThatChangeModel", "touchIn", "([I)I"⟩, 43) := ⟨⟨by decide +kernel, by decide +kernel⟩, List.mem_of_getElem? (i := 730) (by decide +kernel), List.mem_of_getElem? (i := 987) (by decide +kernel), List.mem_of_getElem? (i := 988) (by decide +kernel)⟩
theorem lw_p36 : lw_okq (⟨"HousesThatChangeModel", "joinsNow", "()I"⟩, 43) := ⟨⟨by decide +kernel, by decide +kernel⟩, List.mem_of_getElem? (i := 730) (by decide +kernel), List.mem_of_getElem? (i := 995) (by decide +kernel), List.mem_of_getElem? (i := 996) (by decide +kernel)⟩
theorem lw_p37 : lw_okq (⟨"HousesThatChangeModel", "walkOf", "(I)I"⟩, 43) := ⟨⟨by decide +kernel, by decide +kernel⟩, List.mem_of_getElem? (i := 730) (by decide +kernel), List.mem_of_getElem? (i := 1003) (by decide +kernel), List.mem_of_getElem? (i := 1004) (by decide +kernel)⟩
theorem lw_p38 : lw_okq (⟨"HousesThatChangeModel", "round", "(II)I"⟩, 43) := ⟨⟨by decide +kernel, by decide +kernel⟩, List.mem_of_getElem? (i := 730) (by decide +kernel), List.mem_of_getElem? (i := 1007) (by decide +kernel), List.mem_of_getElem? (i := 1008) (by decide +kernel)⟩
theorem lw_p39 : lw_okq (⟨"HousesThatChangeModel", "goNight", "(II)I"⟩, 43) := ⟨⟨by decide +kernel, by decide +kernel⟩, List.mem_of_getElem? (i := 730) (by decide +kernel), List.mem_of_getElem? (i := 1015) (by decide +kernel), List.mem_of_getElem? (i := 1016) (by decide +kernel)⟩
theorem lw_p40 : lw_okq (⟨"HousesThatChangeModel", "indexNow", "()I"⟩, 43) := ⟨⟨by decide +kernel, by decide +kernel⟩, List.mem_of_getElem? (i := 730) (by decide +kernel), List.mem_of_getElem? (i := 1019) (by decide +kernel), List.mem_of_getElem? (i := 1020) (by decide +kernel)⟩
theorem lw_p41 : lw_okq (⟨"HousesThatChangeModel", "placeBy", "(II)I"⟩, 43) := ⟨⟨by decide +kernel, by decide +kernel⟩, List.mem_of_getElem? (i := 730) (by decide +kernel), List.mem_of_getElem? (i := 1023) (by decide +kernel), List.mem_of_getElem? (i := 1024) (by decide +kernel)⟩
theorem lw_p42 : lw_okq (⟨"HousesThatChangeModel", "behind", "(II)I"⟩, 43) := ⟨⟨by decide +kernel, by decide +kernel⟩, List.mem_of_getElem? (i := 730) (by decide +kernel), List.mem_of_getElem? (i := 1027) (by decide +kernel), List.mem_of_getElem? (i := 1028) (by decide +kernel)⟩
theorem lw_p43 : lw_okq (⟨"HousesThatChangeModel", "apartOf", "(II)I"⟩, 43) := ⟨⟨by decide +kernel, by decide +kernel⟩, List.mem_of_getElem? (i := 730) (by decide +kernel), List.mem_of_getElem? (i := 1035) (by decide +kernel), List.mem_of_getElem? (i := 1036) (by decide +kernel)⟩
theorem lw_p44 : lw_okq (⟨"HousesThatChangeModel", "layApart", "(I)V"⟩, 43) := ⟨⟨by decide +kernel, by decide +kernel⟩, List.mem_of_getElem? (i := 730) (by decide +kernel), List.mem_of_getElem? (i := 1039) (by decide +kernel), List.mem_of_getElem? (i := 1040) (by decide +kernel)⟩
theorem lw_p45 : lw_okq (⟨"HousesThatChangeModel", "bestFor", "(II)I"⟩, 43) := ⟨⟨by decide +kernel, by decide +kernel⟩, List.mem_of_getElem? (i := 730) (by decide +kernel), List.mem_of_getElem? (i := 1043) (by decide +kernel), List.mem_of_getElem? (i := 1044) (by decide +kernel)⟩
theorem lw_p46 : lw_okq (⟨"HousesThatChangeModel", "whole", "(I)I"⟩, 43) := ⟨⟨by decide +kernel, by decide +kernel⟩, List.mem_of_getElem? (i := 730) (by decide +kernel), List.mem_of_getElem? (i := 1047) (by decide +kernel), List.mem_of_getElem? (i := 1048) (by decide +kernel)⟩
theorem lw_p47 : lw_okq (⟨"HousesThatChangeModel", "chooseOf", "(II)I"⟩, 43) := ⟨⟨by decide +kernel, by decide +kernel⟩, List.mem_of_getElem? (i := 730) (by decide +kernel), List.mem_of_getElem? (i := 1058) (by decide +kernel), List.mem_of_getElem? (i := 1059) (by decide +kernel)⟩
def lw_privs_3 : List (MethodName × Nat) := [(⟨"HousesThatChangeModel", "betweenBoth", "()I"⟩, 43), (⟨"HousesThatChangeModel", "areBeside", "([III)Z"⟩, 43), (⟨"HousesThatChangeModel", "houseNow", "(II)I"⟩, 43), (⟨"HousesThatChangeModel", "touchIn", "([I)I"⟩, 43), (⟨"HousesThatChangeModel", "joinsNow", "()I"⟩, 43), (⟨"HousesThatChangeModel", "walkOf", "(I)I"⟩, 43), (⟨"HousesThatChangeModel", "round", "(II)I"⟩, 43), (⟨"HousesThatChangeModel", "goNight", "(II)I"⟩, 43), (⟨"HousesThatChangeModel", "indexNow", "()I"⟩, 43), (⟨"HousesThatChangeModel", "placeBy", "(II)I"⟩, 43), (⟨"HousesThatChangeModel", "behind", "(II)I"⟩, 43), (⟨"HousesThatChangeModel", "apartOf", "(II)I"⟩, 43), (⟨"HousesThatChangeModel", "layApart", "(I)V"⟩, 43), (⟨"HousesThatChangeModel", "bestFor", "(II)I"⟩, 43), (⟨"HousesThatChangeModel", "whole", "(I)I"⟩, 43), (⟨"HousesThatChangeModel", "chooseOf", "(II)I"⟩, 43)]
theorem lw_r3 : ∀ q ∈ lw_privs_3, lw_okq q := List.forall_mem_cons.mpr ⟨lw_p32, List.forall_mem_cons.mpr ⟨lw_p33, List.forall_mem_cons.mpr ⟨lw_p34, List.forall_mem_cons.mpr ⟨lw_p35, List.forall_mem_cons.mpr ⟨lw_p36, List.forall_mem_cons.mpr ⟨lw_p37, List.forall_mem_cons.mpr ⟨lw_p38, List.forall_mem_cons.mpr ⟨lw_p39, List.forall_mem_cons.mpr ⟨lw_p40, List.forall_mem_cons.mpr ⟨lw_p41, List.forall_mem_cons.mpr ⟨lw_p42, List.forall_mem_cons.mpr ⟨lw_p43, List.forall_mem_cons.mpr ⟨lw_p44, List.forall_mem_cons.mpr ⟨lw_p45, List.forall_mem_cons.mpr ⟨lw_p46, List.forall_mem_cons.mpr ⟨lw_p47, fun _ h => absurd h List.not_mem_nil⟩⟩⟩⟩⟩⟩⟩⟩⟩⟩⟩⟩⟩⟩⟩⟩
theorem lw_p48 : lw_okq (⟨"HousesThatChangeModel", "draw", "()I"⟩, 43) := ⟨⟨by decide +kernel, by decide +kernel⟩, List.mem_of_getElem? (i := 730) (by decide +kernel), List.mem_of_getElem? (i := 1066) (by decide +kernel), List.mem_of_getElem? (i := 1067) (by decide +kernel)⟩
theorem lw_p49 : lw_okq (⟨"HousesThatChangeModel", "fewestNow", "()I"⟩, 43) := ⟨⟨by decide +kernel, by decide +kernel⟩, List.mem_of_getElem? (i := 730) (by decide +kernel), List.mem_of_getElem? (i := 1082) (by decide +kernel), List.mem_of_getElem? (i := 1083) (by decide +kernel)⟩
theorem lw_p50 : lw_okq (⟨"HousesThatChangeModel", "surelyNow", "()I"⟩, 43) := ⟨⟨by decide +kernel, by decide +kernel⟩, List.mem_of_getElem? (i := 730) (by decide +kernel), List.mem_of_getElem? (i := 1091) (by decide +kernel), List.mem_of_getElem? (i := 1092) (by decide +kernel)⟩
theorem lw_p51 : lw_okq (⟨"HousesThatChangeModel", "isSure", "(II)Z"⟩, 43) := ⟨⟨by decide +kernel, by decide +kernel⟩, List.mem_of_getElem? (i := 730) (by decide +kernel), List.mem_of_getElem? (i := 1095) (by decide +kernel), List.mem_of_getElem? (i := 1096) (by decide +kernel)⟩
theorem lw_p52 : lw_okq (⟨"HousesThatChangeModel", "oddsOf", "(III)I"⟩, 43) := ⟨⟨by decide +kernel, by decide +kernel⟩, List.mem_of_getElem? (i := 730) (by decide +kernel), List.mem_of_getElem? (i := 1103) (by decide +kernel), List.mem_of_getElem? (i := 1104) (by decide +kernel)⟩
theorem lw_p53 : lw_okq (⟨"HousesThatChangeModel", "isStillPlace", "(I)Z"⟩, 43) := ⟨⟨by decide +kernel, by decide +kernel⟩, List.mem_of_getElem? (i := 730) (by decide +kernel), List.mem_of_getElem? (i := 1107) (by decide +kernel), List.mem_of_getElem? (i := 1108) (by decide +kernel)⟩
theorem lw_p54 : lw_okq (⟨"HousesThatChangeModel", "waysOf", "(II)J"⟩, 43) := ⟨⟨by decide +kernel, by decide +kernel⟩, List.mem_of_getElem? (i := 730) (by decide +kernel), List.mem_of_getElem? (i := 1116) (by decide +kernel), List.mem_of_getElem? (i := 1117) (by decide +kernel)⟩
theorem lw_p55 : lw_okq (⟨"HousesThatChangeModel", "mustOf", "(I)I"⟩, 43) := ⟨⟨by decide +kernel, by decide +kernel⟩, List.mem_of_getElem? (i := 730) (by decide +kernel), List.mem_of_getElem? (i := 1125) (by decide +kernel), List.mem_of_getElem? (i := 1126) (by decide +kernel)⟩
theorem lw_p56 : lw_okq (⟨"HousesThatChangeModel", "howMany", "(I)I"⟩, 43) := ⟨⟨by decide +kernel, by decide +kernel⟩, List.mem_of_getElem? (i := 730) (by decide +kernel), List.mem_of_getElem? (i := 1141) (by decide +kernel), List.mem_of_getElem? (i := 1142) (by decide +kernel)⟩
theorem lw_p57 : lw_okq (⟨"HousesThatChangeModel", "feudMany", "()I"⟩, 43) := ⟨⟨by decide +kernel, by decide +kernel⟩, List.mem_of_getElem? (i := 730) (by decide +kernel), List.mem_of_getElem? (i := 1145) (by decide +kernel), List.mem_of_getElem? (i := 1146) (by decide +kernel)⟩
theorem lw_p58 : lw_okq (⟨"HousesThatChangeModel", "mixHouse", "(I)V"⟩, 43) := ⟨⟨by decide +kernel, by decide +kernel⟩, List.mem_of_getElem? (i := 730) (by decide +kernel), List.mem_of_getElem? (i := 1154) (by decide +kernel), List.mem_of_getElem? (i := 1155) (by decide +kernel)⟩
theorem lw_p59 : lw_okq (⟨"HousesThatChangeModel", "mix", "(J)V"⟩, 43) := ⟨⟨by decide +kernel, by decide +kernel⟩, List.mem_of_getElem? (i := 730) (by decide +kernel), List.mem_of_getElem? (i := 1158) (by decide +kernel), List.mem_of_getElem? (i := 1159) (by decide +kernel)⟩
def lw_privs_4 : List (MethodName × Nat) := [(⟨"HousesThatChangeModel", "draw", "()I"⟩, 43), (⟨"HousesThatChangeModel", "fewestNow", "()I"⟩, 43), (⟨"HousesThatChangeModel", "surelyNow", "()I"⟩, 43), (⟨"HousesThatChangeModel", "isSure", "(II)Z"⟩, 43), (⟨"HousesThatChangeModel", "oddsOf", "(III)I"⟩, 43), (⟨"HousesThatChangeModel", "isStillPlace", "(I)Z"⟩, 43), (⟨"HousesThatChangeModel", "waysOf", "(II)J"⟩, 43), (⟨"HousesThatChangeModel", "mustOf", "(I)I"⟩, 43), (⟨"HousesThatChangeModel", "howMany", "(I)I"⟩, 43), (⟨"HousesThatChangeModel", "feudMany", "()I"⟩, 43), (⟨"HousesThatChangeModel", "mixHouse", "(I)V"⟩, 43), (⟨"HousesThatChangeModel", "mix", "(J)V"⟩, 43)]
theorem lw_r4 : ∀ q ∈ lw_privs_4, lw_okq q := List.forall_mem_cons.mpr ⟨lw_p48, List.forall_mem_cons.mpr ⟨lw_p49, List.forall_mem_cons.mpr ⟨lw_p50, List.forall_mem_cons.mpr ⟨lw_p51, List.forall_mem_cons.mpr ⟨lw_p52, List.forall_mem_cons.mpr ⟨lw_p53, List.forall_mem_cons.mpr ⟨lw_p54, List.forall_mem_cons.mpr ⟨lw_p55, List.forall_mem_cons.mpr ⟨lw_p56, List.forall_mem_cons.mpr ⟨lw_p57, List.forall_mem_cons.mpr ⟨lw_p58, List.forall_mem_cons.mpr ⟨lw_p59, fun _ h => absurd h List.not_mem_nil⟩⟩⟩⟩⟩⟩⟩⟩⟩⟩⟩⟩
def lw_privs : List (MethodName × Nat) := lw_privs_1 ++ (lw_privs_2 ++ (lw_privs_3 ++ (lw_privs_4)))
def lw_tbl : List Cond := k2_sels lw_privs ++ tables_1
theorem lw_privs_ok : ∀ q ∈ lw_privs, lw_okq q := by
  show ∀ q ∈ lw_privs_1 ++ (lw_privs_2 ++ (lw_privs_3 ++ (lw_privs_4))), lw_okq q
  exact List.forall_mem_append.mpr ⟨lw_r1, List.forall_mem_append.mpr ⟨lw_r2, List.forall_mem_append.mpr ⟨lw_r3, lw_r4⟩⟩⟩
-- ===== end of PART A; then your names; then what follows =====
def RX0 : String := "HousesThatChange$Cells"
def TX0 : u_T := fun k => match k with
  | _ => ("", "", "", false)
def tyX0 : Nat → FieldType := fun k => match k with
  | _ => .int
abbrev wsX00 : List Cond := u_ws RX0 TX0 0
theorem nmX0 : ∀ a, a < 0 → ∀ b, b < 0 → a ≠ b → (TX0 a).2.1 ≠ (TX0 b).2.1 := by decide +kernel
theorem tyX0_ok : ∀ k, k < 0 → parseFieldDescriptor (TX0 k).2.2.1 = some (tyX0 k) := by decide +kernel
abbrev cX0_get : ByteArray := prog_2_method_2_code
def yX0_get : MethodName := ⟨RX0, "get", "([II)I"⟩
abbrev cX0_put : ByteArray := prog_2_method_3_code
def yX0_put : MethodName := ⟨RX0, "put", "([III)V"⟩
abbrev cX0_get_ : ByteArray := prog_2_method_4_code
def yX0_get_ : MethodName := ⟨RX0, "get", "([JI)J"⟩
abbrev cX0_put_ : ByteArray := prog_2_method_5_code
def yX0_put_ : MethodName := ⟨RX0, "put", "([JIJ)V"⟩
def RX1 : String := "HousesThatChange$Goal"
def TX1 : u_T := fun k => match k with
  | 0 => ("HousesThatChange$Goal", "town", "LHousesThatChange$Town;", true)
  | 1 => ("HousesThatChange$Goal", "orders", "LHousesThatChange$Orders;", true)
  | 2 => ("HousesThatChange$Goal", "order", "[I", true)
  | 3 => ("HousesThatChange$Goal", "few", "[I", true)
  | 4 => ("HousesThatChange$Goal", "sure", "[I", true)
  | 5 => ("HousesThatChange$Goal", "line", "[I", true)
  | 6 => ("HousesThatChange$Goal", "told", "Z", false)
  | 7 => ("HousesThatChange$Goal", "fewCounted", "Z", false)
  | _ => ("HousesThatChange$Goal", "sureCounted", "Z", false)
def tyX1 : Nat → FieldType := fun k => match k with
  | 0 => .object "HousesThatChange$Town"
  | 1 => .object "HousesThatChange$Orders"
  | 2 => .array .int
  | 3 => .array .int
  | 4 => .array .int
  | 5 => .array .int
  | 6 => .boolean
  | 7 => .boolean
  | _ => .boolean
abbrev wsX10 : List Cond := u_ws RX1 TX1 9
theorem nmX1 : ∀ a, a < 9 → ∀ b, b < 9 → a ≠ b → (TX1 a).2.1 ≠ (TX1 b).2.1 := by decide +kernel
theorem tyX1_ok : ∀ k, k < 9 → parseFieldDescriptor (TX1 k).2.2.1 = some (tyX1 k) := by decide +kernel
abbrev cX1_init : ByteArray := prog_3_method_1_code
def yX1_init : MethodName := ⟨RX1, "<init>", "(LHousesThatChange$Town;LHousesThatChange$Orders;)V"⟩
abbrev cX1_forget : ByteArray := prog_3_method_2_code
def yX1_forget : MethodName := ⟨RX1, "forget", "()V"⟩
abbrev cX1_read : ByteArray := prog_3_method_3_code
def yX1_read : MethodName := ⟨RX1, "read", "(LHousesThatChange$Page;)V"⟩
abbrev cX1_placeOf : ByteArray := prog_3_method_4_code
def yX1_placeOf : MethodName := ⟨RX1, "placeOf", "(I)I"⟩
abbrev cX1_fewestFrom : ByteArray := prog_3_method_5_code
def yX1_fewestFrom : MethodName := ⟨RX1, "fewestFrom", "(I)I"⟩
abbrev cX1_countFew : ByteArray := prog_3_method_6_code
def yX1_countFew : MethodName := ⟨RX1, "countFew", "()V"⟩
abbrev cX1_surelyFrom : ByteArray := prog_3_method_7_code
def yX1_surelyFrom : MethodName := ⟨RX1, "surelyFrom", "(I)I"⟩
abbrev cX1_countSure : ByteArray := prog_3_method_8_code
def yX1_countSure : MethodName := ⟨RX1, "countSure", "()V"⟩
abbrev cX1_canForce : ByteArray := prog_3_method_9_code
def yX1_canForce : MethodName := ⟨RX1, "canForce", "(II)Z"⟩
def RX2 : String := "HousesThatChange$Mayor"
def TX2 : u_T := fun k => match k with
  | 0 => ("HousesThatChange$Mayor", "town", "LHousesThatChange$Town;", true)
  | 1 => ("HousesThatChange$Mayor", "orders", "LHousesThatChange$Orders;", true)
  | 2 => ("HousesThatChange$Mayor", "rolls", "[I", true)
  | 3 => ("HousesThatChange$Mayor", "left", "[I", true)
  | _ => ("HousesThatChange$Mayor", "known", "I", false)
def tyX2 : Nat → FieldType := fun k => match k with
  | 0 => .object "HousesThatChange$Town"
  | 1 => .object "HousesThatChange$Orders"
  | 2 => .array .int
  | 3 => .array .int
  | _ => .int
abbrev wsX20 : List Cond := u_ws RX2 TX2 5
theorem nmX2 : ∀ a, a < 5 → ∀ b, b < 5 → a ≠ b → (TX2 a).2.1 ≠ (TX2 b).2.1 := by decide +kernel
theorem tyX2_ok : ∀ k, k < 5 → parseFieldDescriptor (TX2 k).2.2.1 = some (tyX2 k) := by decide +kernel
abbrev cX2_init : ByteArray := prog_4_method_1_code
def yX2_init : MethodName := ⟨RX2, "<init>", "(LHousesThatChange$Town;LHousesThatChange$Orders;)V"⟩
abbrev cX2_forget : ByteArray := prog_4_method_2_code
def yX2_forget : MethodName := ⟨RX2, "forget", "()V"⟩
abbrev cX2_learn : ByteArray := prog_4_method_3_code
def yX2_learn : MethodName := ⟨RX2, "learn", "(I)V"⟩
abbrev cX2_rollsFor : ByteArray := prog_4_method_4_code
def yX2_rollsFor : MethodName := ⟨RX2, "rollsFor", "(II)I"⟩
abbrev cX2_choice : ByteArray := prog_4_method_5_code
def yX2_choice : MethodName := ⟨RX2, "choice", "(III)I"⟩
abbrev cX2_lookAhead : ByteArray := prog_4_method_6_code
def yX2_lookAhead : MethodName := ⟨RX2, "lookAhead", "(II)V"⟩
abbrev cX2_leftBy : ByteArray := prog_4_method_7_code
def yX2_leftBy : MethodName := ⟨RX2, "leftBy", "(I)I"⟩
def RX3 : String := "HousesThatChange$Moment"
def TX3 : u_T := fun k => match k with
  | 0 => ("HousesThatChange$Moment", "order", "[I", true)
  | 1 => ("HousesThatChange$Moment", "ahead", "[I", true)
  | 2 => ("HousesThatChange$Moment", "seed", "I", false)
  | _ => ("HousesThatChange$Moment", "nights", "I", false)
def tyX3 : Nat → FieldType := fun k => match k with
  | 0 => .array .int
  | 1 => .array .int
  | 2 => .int
  | _ => .int
abbrev wsX30 : List Cond := u_ws RX3 TX3 4
theorem nmX3 : ∀ a, a < 4 → ∀ b, b < 4 → a ≠ b → (TX3 a).2.1 ≠ (TX3 b).2.1 := by decide +kernel
theorem tyX3_ok : ∀ k, k < 4 → parseFieldDescriptor (TX3 k).2.2.1 = some (tyX3 k) := by decide +kernel
abbrev cX3_init : ByteArray := prog_5_method_1_code
def yX3_init : MethodName := ⟨RX3, "<init>", "()V"⟩
abbrev cX3_begin : ByteArray := prog_5_method_2_code
def yX3_begin : MethodName := ⟨RX3, "begin", "()V"⟩
abbrev cX3_copy : ByteArray := prog_5_method_3_code
def yX3_copy : MethodName := ⟨RX3, "copy", "(LHousesThatChange$Moment;)V"⟩
abbrev cX3_houseIn : ByteArray := prog_5_method_4_code
def yX3_houseIn : MethodName := ⟨RX3, "houseIn", "(I)I"⟩
abbrev cX3_placeOf : ByteArray := prog_5_method_5_code
def yX3_placeOf : MethodName := ⟨RX3, "placeOf", "(II)I"⟩
abbrev cX3_placeAhead : ByteArray := prog_5_method_6_code
def yX3_placeAhead : MethodName := ⟨RX3, "placeAhead", "(II)I"⟩
abbrev cX3_placeIn : ByteArray := prog_5_method_7_code
def yX3_placeIn : MethodName := ⟨RX3, "placeIn", "([III)I"⟩
abbrev cX3_remember : ByteArray := prog_5_method_8_code
def yX3_remember : MethodName := ⟨RX3, "remember", "()V"⟩
abbrev cX3_change : ByteArray := prog_5_method_9_code
def yX3_change : MethodName := ⟨RX3, "change", "(II)V"⟩
abbrev cX3_draw : ByteArray := prog_5_method_10_code
def yX3_draw : MethodName := ⟨RX3, "draw", "(I)I"⟩
def RX4 : String := "HousesThatChange$Orders"
def TX4 : u_T := fun k => match k with
  | 0 => ("HousesThatChange$Orders", "changed", "[I", true)
  | 1 => ("HousesThatChange$Orders", "row", "[I", true)
  | 2 => ("HousesThatChange$Orders", "places", "I", false)
  | _ => ("HousesThatChange$Orders", "size", "I", false)
def tyX4 : Nat → FieldType := fun k => match k with
  | 0 => .array .int
  | 1 => .array .int
  | 2 => .int
  | _ => .int
abbrev wsX40 : List Cond := u_ws RX4 TX4 4
theorem nmX4 : ∀ a, a < 4 → ∀ b, b < 4 → a ≠ b → (TX4 a).2.1 ≠ (TX4 b).2.1 := by decide +kernel
theorem tyX4_ok : ∀ k, k < 4 → parseFieldDescriptor (TX4 k).2.2.1 = some (tyX4 k) := by decide +kernel
abbrev cX4_init : ByteArray := prog_6_method_1_code
def yX4_init : MethodName := ⟨RX4, "<init>", "()V"⟩
abbrev cX4_prepare : ByteArray := prog_6_method_2_code
def yX4_prepare : MethodName := ⟨RX4, "prepare", "(I)V"⟩
abbrev cX4_change : ByteArray := prog_6_method_3_code
def yX4_change : MethodName := ⟨RX4, "change", "(II)V"⟩
abbrev cX4_numberOf : ByteArray := prog_6_method_4_code
def yX4_numberOf : MethodName := ⟨RX4, "numberOf", "([I)I"⟩
abbrev cX4_unfold : ByteArray := prog_6_method_5_code
def yX4_unfold : MethodName := ⟨RX4, "unfold", "(I)[I"⟩
abbrev cX4_after : ByteArray := prog_6_method_6_code
def yX4_after : MethodName := ⟨RX4, "after", "(II)I"⟩
def RX5 : String := "HousesThatChange$Page"
def TX5 : u_T := fun k => match k with
  | 0 => ("HousesThatChange$Page", "codes", "[I", true)
  | _ => ("HousesThatChange$Page", "size", "I", false)
def tyX5 : Nat → FieldType := fun k => match k with
  | 0 => .array .int
  | _ => .int
abbrev wsX50 : List Cond := u_ws RX5 TX5 2
theorem nmX5 : ∀ a, a < 2 → ∀ b, b < 2 → a ≠ b → (TX5 a).2.1 ≠ (TX5 b).2.1 := by decide +kernel
theorem tyX5_ok : ∀ k, k < 2 → parseFieldDescriptor (TX5 k).2.2.1 = some (tyX5 k) := by decide +kernel
abbrev cX5_init : ByteArray := prog_7_method_1_code
def yX5_init : MethodName := ⟨RX5, "<init>", "()V"⟩
abbrev cX5_told : ByteArray := prog_7_method_2_code
def yX5_told : MethodName := ⟨RX5, "told", "(J)I"⟩
abbrev cX5_codeIn : ByteArray := prog_7_method_3_code
def yX5_codeIn : MethodName := ⟨RX5, "codeIn", "(JI)I"⟩
abbrev cX5_append : ByteArray := prog_7_method_4_code
def yX5_append : MethodName := ⟨RX5, "append", "(JI)V"⟩
abbrev cX5_clear : ByteArray := prog_7_method_5_code
def yX5_clear : MethodName := ⟨RX5, "clear", "()I"⟩
abbrev cX5_code : ByteArray := prog_7_method_6_code
def yX5_code : MethodName := ⟨RX5, "code", "(I)I"⟩
abbrev cX5_digit : ByteArray := prog_7_method_7_code
def yX5_digit : MethodName := ⟨RX5, "digit", "(I)I"⟩
abbrev cX5_isDigit : ByteArray := prog_7_method_8_code
def yX5_isDigit : MethodName := ⟨RX5, "isDigit", "(III)Z"⟩
abbrev cX5_kindTold : ByteArray := prog_7_method_9_code
def yX5_kindTold : MethodName := ⟨RX5, "kindTold", "(I)I"⟩
abbrev cX5_housesTold : ByteArray := prog_7_method_10_code
def yX5_housesTold : MethodName := ⟨RX5, "housesTold", "()I"⟩
abbrev cX5_firstNoRing : ByteArray := prog_7_method_11_code
def yX5_firstNoRing : MethodName := ⟨RX5, "firstNoRing", "()I"⟩
abbrev cX5_fitsFeuds : ByteArray := prog_7_method_12_code
def yX5_fitsFeuds : MethodName := ⟨RX5, "fitsFeuds", "(II)Z"⟩
abbrev cX5_isRing : ByteArray := prog_7_method_13_code
def yX5_isRing : MethodName := ⟨RX5, "isRing", "()Z"⟩
abbrev cX5_firstNoLetter : ByteArray := prog_7_method_14_code
def yX5_firstNoLetter : MethodName := ⟨RX5, "firstNoLetter", "()I"⟩
abbrev cX5_fitsLetter : ByteArray := prog_7_method_15_code
def yX5_fitsLetter : MethodName := ⟨RX5, "fitsLetter", "(I)Z"⟩
abbrev cX5_isLetter : ByteArray := prog_7_method_16_code
def yX5_isLetter : MethodName := ⟨RX5, "isLetter", "()Z"⟩
abbrev cX5_isOrder : ByteArray := prog_7_method_17_code
def yX5_isOrder : MethodName := ⟨RX5, "isOrder", "(I)Z"⟩
def RX6 : String := "HousesThatChange$Past"
def TX6 : u_T := fun k => match k with
  | 0 => ("HousesThatChange$Past", "town", "LHousesThatChange$Town;", true)
  | 1 => ("HousesThatChange$Past", "orders", "LHousesThatChange$Orders;", true)
  | 2 => ("HousesThatChange$Past", "rows", "[J", true)
  | 3 => ("HousesThatChange$Past", "rowsThen", "[J", true)
  | 4 => ("HousesThatChange$Past", "shared", "[I", true)
  | _ => ("HousesThatChange$Past", "sharedThen", "[I", true)
def tyX6 : Nat → FieldType := fun k => match k with
  | 0 => .object "HousesThatChange$Town"
  | 1 => .object "HousesThatChange$Orders"
  | 2 => .array .long
  | 3 => .array .long
  | 4 => .array .int
  | _ => .array .int
abbrev wsX60 : List Cond := u_ws RX6 TX6 6
theorem nmX6 : ∀ a, a < 6 → ∀ b, b < 6 → a ≠ b → (TX6 a).2.1 ≠ (TX6 b).2.1 := by decide +kernel
theorem tyX6_ok : ∀ k, k < 6 → parseFieldDescriptor (TX6 k).2.2.1 = some (tyX6 k) := by decide +kernel
abbrev cX6_init : ByteArray := prog_8_method_1_code
def yX6_init : MethodName := ⟨RX6, "<init>", "(LHousesThatChange$Town;LHousesThatChange$Orders;)V"⟩
abbrev cX6_goBy : ByteArray := prog_8_method_2_code
def yX6_goBy : MethodName := ⟨RX6, "goBy", "(I)V"⟩
abbrev cX6_spread : ByteArray := prog_8_method_3_code
def yX6_spread : MethodName := ⟨RX6, "spread", "(I)V"⟩
abbrev cX6_rowsTo : ByteArray := prog_8_method_4_code
def yX6_rowsTo : MethodName := ⟨RX6, "rowsTo", "(I)J"⟩
abbrev cX6_sharedTo : ByteArray := prog_8_method_5_code
def yX6_sharedTo : MethodName := ⟨RX6, "sharedTo", "(I)I"⟩
def RX7 : String := "HousesThatChange$Stroll"
def TX7 : u_T := fun k => match k with
  | 0 => ("HousesThatChange$Stroll", "town", "LHousesThatChange$Town;", true)
  | 1 => ("HousesThatChange$Stroll", "rolls", "[I", true)
  | _ => ("HousesThatChange$Stroll", "rollsThen", "[I", true)
def tyX7 : Nat → FieldType := fun k => match k with
  | 0 => .object "HousesThatChange$Town"
  | 1 => .array .int
  | _ => .array .int
abbrev wsX70 : List Cond := u_ws RX7 TX7 3
theorem nmX7 : ∀ a, a < 3 → ∀ b, b < 3 → a ≠ b → (TX7 a).2.1 ≠ (TX7 b).2.1 := by decide +kernel
theorem tyX7_ok : ∀ k, k < 3 → parseFieldDescriptor (TX7 k).2.2.1 = some (tyX7 k) := by decide +kernel
abbrev cX7_init : ByteArray := prog_9_method_1_code
def yX7_init : MethodName := ⟨RX7, "<init>", "(LHousesThatChange$Town;)V"⟩
abbrev cX7_rolls : ByteArray := prog_9_method_2_code
def yX7_rolls : MethodName := ⟨RX7, "rolls", "(III)I"⟩
abbrev cX7_add : ByteArray := prog_9_method_3_code
def yX7_add : MethodName := ⟨RX7, "add", "(II)V"⟩
abbrev cX7_placeAfter : ByteArray := prog_9_method_4_code
def yX7_placeAfter : MethodName := ⟨RX7, "placeAfter", "(II)I"⟩
def RX8 : String := "HousesThatChange$Town"
def TX8 : u_T := fun k => match k with
  | 0 => ("HousesThatChange$Town", "kinds", "[I", true)
  | 1 => ("HousesThatChange$Town", "feuds", "[I", true)
  | 2 => ("HousesThatChange$Town", "houses", "I", false)
  | 3 => ("HousesThatChange$Town", "pairs", "I", false)
  | _ => ("HousesThatChange$Town", "bars", "I", false)
def tyX8 : Nat → FieldType := fun k => match k with
  | 0 => .array .int
  | 1 => .array .int
  | 2 => .int
  | 3 => .int
  | _ => .int
abbrev wsX80 : List Cond := u_ws RX8 TX8 5
theorem nmX8 : ∀ a, a < 5 → ∀ b, b < 5 → a ≠ b → (TX8 a).2.1 ≠ (TX8 b).2.1 := by decide +kernel
theorem tyX8_ok : ∀ k, k < 5 → parseFieldDescriptor (TX8 k).2.2.1 = some (tyX8 k) := by decide +kernel
abbrev cX8_init : ByteArray := prog_10_method_1_code
def yX8_init : MethodName := ⟨RX8, "<init>", "()V"⟩
abbrev cX8_read : ByteArray := prog_10_method_2_code
def yX8_read : MethodName := ⟨RX8, "read", "(LHousesThatChange$Page;)V"⟩
abbrev cX8_quarrel : ByteArray := prog_10_method_3_code
def yX8_quarrel : MethodName := ⟨RX8, "quarrel", "(II)V"⟩
abbrev cX8_stands : ByteArray := prog_10_method_4_code
def yX8_stands : MethodName := ⟨RX8, "stands", "()Z"⟩
abbrev cX8_has : ByteArray := prog_10_method_5_code
def yX8_has : MethodName := ⟨RX8, "has", "(I)Z"⟩
abbrev cX8_kind : ByteArray := prog_10_method_6_code
def yX8_kind : MethodName := ⟨RX8, "kind", "(I)I"⟩
abbrev cX8_is : ByteArray := prog_10_method_7_code
def yX8_is : MethodName := ⟨RX8, "is", "(II)Z"⟩
abbrev cX8_hate : ByteArray := prog_10_method_8_code
def yX8_hate : MethodName := ⟨RX8, "hate", "(II)Z"⟩
abbrev cX8_next : ByteArray := prog_10_method_9_code
def yX8_next : MethodName := ⟨RX8, "next", "(I)I"⟩
abbrev cX8_around : ByteArray := prog_10_method_10_code
def yX8_around : MethodName := ⟨RX8, "around", "(I)I"⟩
abbrev cX8_beside : ByteArray := prog_10_method_11_code
def yX8_beside : MethodName := ⟨RX8, "beside", "(II)Z"⟩
abbrev cX8_way : ByteArray := prog_10_method_12_code
def yX8_way : MethodName := ⟨RX8, "way", "(II)I"⟩
abbrev cX8_barred : ByteArray := prog_10_method_13_code
def yX8_barred : MethodName := ⟨RX8, "barred", "(I)Z"⟩
abbrev cX8_setBars : ByteArray := prog_10_method_14_code
def yX8_setBars : MethodName := ⟨RX8, "setBars", "()V"⟩
abbrev cX8_touching : ByteArray := prog_10_method_15_code
def yX8_touching : MethodName := ⟨RX8, "touching", "([I)I"⟩
abbrev cX8_rolls : ByteArray := prog_10_method_16_code
def yX8_rolls : MethodName := ⟨RX8, "rolls", "(I)I"⟩
def RX9 : String := "HousesThatChange"
def TX9 : u_T := fun k => match k with
  | 0 => ("HousesThatChange", "page", "LHousesThatChange$Page;", true)
  | 1 => ("HousesThatChange", "town", "LHousesThatChange$Town;", true)
  | 2 => ("HousesThatChange", "now", "LHousesThatChange$Moment;", true)
  | 3 => ("HousesThatChange", "kept", "LHousesThatChange$Moment;", true)
  | 4 => ("HousesThatChange", "orders", "LHousesThatChange$Orders;", true)
  | 5 => ("HousesThatChange", "mayor", "LHousesThatChange$Mayor;", true)
  | 6 => ("HousesThatChange", "goal", "LHousesThatChange$Goal;", true)
  | 7 => ("HousesThatChange", "past", "LHousesThatChange$Past;", true)
  | 8 => ("HousesThatChange", "stroll", "LHousesThatChange$Stroll;", true)
  | 9 => ("HousesThatChange", "keeps", "Z", false)
  | _ => ("HousesThatChange", "readings", "I", false)
def tyX9 : Nat → FieldType := fun k => match k with
  | 0 => .object "HousesThatChange$Page"
  | 1 => .object "HousesThatChange$Town"
  | 2 => .object "HousesThatChange$Moment"
  | 3 => .object "HousesThatChange$Moment"
  | 4 => .object "HousesThatChange$Orders"
  | 5 => .object "HousesThatChange$Mayor"
  | 6 => .object "HousesThatChange$Goal"
  | 7 => .object "HousesThatChange$Past"
  | 8 => .object "HousesThatChange$Stroll"
  | 9 => .boolean
  | _ => .int
abbrev wsX90 : List Cond := u_ws RX9 TX9 11
theorem nmX9 : ∀ a, a < 11 → ∀ b, b < 11 → a ≠ b → (TX9 a).2.1 ≠ (TX9 b).2.1 := by decide +kernel
theorem tyX9_ok : ∀ k, k < 11 → parseFieldDescriptor (TX9 k).2.2.1 = some (tyX9 k) := by decide +kernel
abbrev cX9_init : ByteArray := prog_1_method_1_code
def yX9_init : MethodName := ⟨RX9, "<init>", "()V"⟩
abbrev cX9_letters : ByteArray := prog_1_method_2_code
def yX9_letters : MethodName := ⟨RX9, "letters", "(J)I"⟩
abbrev cX9_blank : ByteArray := prog_1_method_3_code
def yX9_blank : MethodName := ⟨RX9, "blank", "()I"⟩
abbrev cX9_fault : ByteArray := prog_1_method_4_code
def yX9_fault : MethodName := ⟨RX9, "fault", "(I)I"⟩
abbrev cX9_ring : ByteArray := prog_1_method_5_code
def yX9_ring : MethodName := ⟨RX9, "ring", "()I"⟩
abbrev cX9_aim : ByteArray := prog_1_method_6_code
def yX9_aim : MethodName := ⟨RX9, "aim", "()I"⟩
abbrev cX9_letter : ByteArray := prog_1_method_7_code
def yX9_letter : MethodName := ⟨RX9, "letter", "()I"⟩
abbrev cX9_receiver : ByteArray := prog_1_method_8_code
def yX9_receiver : MethodName := ⟨RX9, "receiver", "(III)I"⟩
abbrev cX9_between : ByteArray := prog_1_method_9_code
def yX9_between : MethodName := ⟨RX9, "between", "(II)I"⟩
abbrev cX9_house : ByteArray := prog_1_method_10_code
def yX9_house : MethodName := ⟨RX9, "house", "(II)I"⟩
abbrev cX9_as : ByteArray := prog_1_method_11_code
def yX9_as : MethodName := ⟨RX9, "as", "(II)I"⟩
abbrev cX9_at : ByteArray := prog_1_method_12_code
def yX9_at : MethodName := ⟨RX9, "at", "(I)I"⟩
abbrev cX9_feud : ByteArray := prog_1_method_13_code
def yX9_feud : MethodName := ⟨RX9, "feud", "(II)I"⟩
abbrev cX9_touch : ByteArray := prog_1_method_14_code
def yX9_touch : MethodName := ⟨RX9, "touch", "()I"⟩
abbrev cX9_joins : ByteArray := prog_1_method_15_code
def yX9_joins : MethodName := ⟨RX9, "joins", "()I"⟩
abbrev cX9_walk : ByteArray := prog_1_method_16_code
def yX9_walk : MethodName := ⟨RX9, "walk", "(I)I"⟩
abbrev cX9_night : ByteArray := prog_1_method_17_code
def yX9_night : MethodName := ⟨RX9, "night", "(II)I"⟩
abbrev cX9_midnight : ByteArray := prog_1_method_18_code
def yX9_midnight : MethodName := ⟨RX9, "midnight", "(I)Z"⟩
abbrev cX9_nights : ByteArray := prog_1_method_19_code
def yX9_nights : MethodName := ⟨RX9, "nights", "(II)I"⟩
abbrev cX9_number : ByteArray := prog_1_method_20_code
def yX9_number : MethodName := ⟨RX9, "number", "()I"⟩
abbrev cX9_seed : ByteArray := prog_1_method_21_code
def yX9_seed : MethodName := ⟨RX9, "seed", "(I)I"⟩
abbrev cX9_apart : ByteArray := prog_1_method_22_code
def yX9_apart : MethodName := ⟨RX9, "apart", "(II)I"⟩
abbrev cX9_choose : ByteArray := prog_1_method_23_code
def yX9_choose : MethodName := ⟨RX9, "choose", "(II)I"⟩
abbrev cX9_fewest : ByteArray := prog_1_method_24_code
def yX9_fewest : MethodName := ⟨RX9, "fewest", "()I"⟩
abbrev cX9_surely : ByteArray := prog_1_method_25_code
def yX9_surely : MethodName := ⟨RX9, "surely", "()I"⟩
abbrev cX9_odds : ByteArray := prog_1_method_26_code
def yX9_odds : MethodName := ⟨RX9, "odds", "(IIII)I"⟩
abbrev cX9_ways : ByteArray := prog_1_method_27_code
def yX9_ways : MethodName := ⟨RX9, "ways", "(I)J"⟩
abbrev cX9_must : ByteArray := prog_1_method_28_code
def yX9_must : MethodName := ⟨RX9, "must", "(I)I"⟩
abbrev cX9_lowest : ByteArray := prog_1_method_29_code
def yX9_lowest : MethodName := ⟨RX9, "lowest", "(III)I"⟩
abbrev cX9_image : ByteArray := prog_1_method_30_code
def yX9_image : MethodName := ⟨RX9, "image", "()I"⟩
abbrev cX9_restore : ByteArray := prog_1_method_31_code
def yX9_restore : MethodName := ⟨RX9, "restore", "()I"⟩
abbrev cX9_count : ByteArray := prog_1_method_32_code
def yX9_count : MethodName := ⟨RX9, "count", "(I)I"⟩
abbrev cX9_digest : ByteArray := prog_1_method_33_code
def yX9_digest : MethodName := ⟨RX9, "digest", "()J"⟩
abbrev cX9_houseInto : ByteArray := prog_1_method_34_code
def yX9_houseInto : MethodName := ⟨RX9, "houseInto", "(JI)J"⟩
def RX10 : String := "HousesThatChangeModel"
def TX10 : u_T := fun k => match k with
  | 0 => ("HousesThatChangeModel", "n", "I", false)
  | 1 => ("HousesThatChangeModel", "rings", "I", false)
  | 2 => ("HousesThatChangeModel", "kindOf", "[I", true)
  | 3 => ("HousesThatChangeModel", "isFeud", "[Z", true)
  | 4 => ("HousesThatChangeModel", "order", "[I", true)
  | 5 => ("HousesThatChangeModel", "ahead", "[I", true)
  | 6 => ("HousesThatChangeModel", "nightMany", "I", false)
  | 7 => ("HousesThatChangeModel", "aimed", "[I", true)
  | 8 => ("HousesThatChangeModel", "hasAim", "Z", false)
  | 9 => ("HousesThatChangeModel", "seedNow", "J", false)
  | 10 => ("HousesThatChangeModel", "pageLength", "I", false)
  | 11 => ("HousesThatChangeModel", "page", "[B", true)
  | 12 => ("HousesThatChangeModel", "isKept", "Z", false)
  | 13 => ("HousesThatChangeModel", "keptRing", "I", false)
  | 14 => ("HousesThatChangeModel", "keptNights", "I", false)
  | 15 => ("HousesThatChangeModel", "keptSeed", "J", false)
  | 16 => ("HousesThatChangeModel", "keptOrder", "[I", true)
  | 17 => ("HousesThatChangeModel", "keptAhead", "[I", true)
  | 18 => ("HousesThatChangeModel", "faultAt", "I", false)
  | 19 => ("HousesThatChangeModel", "isWhole", "Z", false)
  | 20 => ("HousesThatChangeModel", "newMany", "I", false)
  | 21 => ("HousesThatChangeModel", "newFeuds", "I", false)
  | 22 => ("HousesThatChangeModel", "newKind", "[I", true)
  | 23 => ("HousesThatChangeModel", "newA", "[I", true)
  | 24 => ("HousesThatChangeModel", "newB", "[I", true)
  | 25 => ("HousesThatChangeModel", "newSort", "I", false)
  | 26 => ("HousesThatChangeModel", "newSteps", "I", false)
  | 27 => ("HousesThatChangeModel", "newOne", "I", false)
  | 28 => ("HousesThatChangeModel", "newOther", "I", false)
  | 29 => ("HousesThatChangeModel", "orders", "I", false)
  | 30 => ("HousesThatChangeModel", "codeOf", "[I", true)
  | 31 => ("HousesThatChangeModel", "indexOf", "[I", true)
  | 32 => ("HousesThatChangeModel", "nextOf", "[I", true)
  | 33 => ("HousesThatChangeModel", "thought", "[I", true)
  | 34 => ("HousesThatChangeModel", "apartNow", "[I", true)
  | 35 => ("HousesThatChangeModel", "apartThen", "[I", true)
  | 36 => ("HousesThatChangeModel", "far", "[I", true)
  | 37 => ("HousesThatChangeModel", "queue", "[I", true)
  | 38 => ("HousesThatChangeModel", "chanceNow", "[I", true)
  | 39 => ("HousesThatChangeModel", "chanceThen", "[I", true)
  | 40 => ("HousesThatChangeModel", "waysNow", "[J", true)
  | 41 => ("HousesThatChangeModel", "waysThen", "[J", true)
  | _ => ("HousesThatChangeModel", "h", "J", false)
def tyX10 : Nat → FieldType := fun k => match k with
  | 0 => .int
  | 1 => .int
  | 2 => .array .int
  | 3 => .array .boolean
  | 4 => .array .int
  | 5 => .array .int
  | 6 => .int
  | 7 => .array .int
  | 8 => .boolean
  | 9 => .long
  | 10 => .int
  | 11 => .array .byte
  | 12 => .boolean
  | 13 => .int
  | 14 => .int
  | 15 => .long
  | 16 => .array .int
  | 17 => .array .int
  | 18 => .int
  | 19 => .boolean
  | 20 => .int
  | 21 => .int
  | 22 => .array .int
  | 23 => .array .int
  | 24 => .array .int
  | 25 => .int
  | 26 => .int
  | 27 => .int
  | 28 => .int
  | 29 => .int
  | 30 => .array .int
  | 31 => .array .int
  | 32 => .array .int
  | 33 => .array .int
  | 34 => .array .int
  | 35 => .array .int
  | 36 => .array .int
  | 37 => .array .int
  | 38 => .array .int
  | 39 => .array .int
  | 40 => .array .long
  | 41 => .array .long
  | _ => .long
abbrev wsX100 : List Cond := u_ws RX10 TX10 43
theorem nmX10 : ∀ a, a < 43 → ∀ b, b < 43 → a ≠ b → (TX10 a).2.1 ≠ (TX10 b).2.1 := by decide +kernel
theorem tyX10_ok : ∀ k, k < 43 → parseFieldDescriptor (TX10 k).2.2.1 = some (tyX10 k) := by decide +kernel
abbrev cX10_init : ByteArray := prog_12_method_1_code
def yX10_init : MethodName := ⟨RX10, "<init>", "()V"⟩
abbrev cX10_within : ByteArray := prog_12_method_3_code
def yX10_within : MethodName := ⟨RX10, "within", "(III)Z"⟩
abbrev cX10_letters : ByteArray := prog_12_method_4_code
def yX10_letters : MethodName := ⟨RX10, "letters", "(J)I"⟩
abbrev cX10_blank : ByteArray := prog_12_method_5_code
def yX10_blank : MethodName := ⟨RX10, "blank", "()I"⟩
abbrev cX10_kindBy : ByteArray := prog_12_method_6_code
def yX10_kindBy : MethodName := ⟨RX10, "kindBy", "(I)I"⟩
abbrev cX10_nextRing : ByteArray := prog_12_method_7_code
def yX10_nextRing : MethodName := ⟨RX10, "nextRing", "(II)I"⟩
abbrev cX10_readRing : ByteArray := prog_12_method_8_code
def yX10_readRing : MethodName := ⟨RX10, "readRing", "()V"⟩
abbrev cX10_sortBy : ByteArray := prog_12_method_9_code
def yX10_sortBy : MethodName := ⟨RX10, "sortBy", "(I)I"⟩
abbrev cX10_nextLetter : ByteArray := prog_12_method_10_code
def yX10_nextLetter : MethodName := ⟨RX10, "nextLetter", "(II)I"⟩
abbrev cX10_readLetter : ByteArray := prog_12_method_11_code
def yX10_readLetter : MethodName := ⟨RX10, "readLetter", "()V"⟩
abbrev cX10_fault : ByteArray := prog_12_method_12_code
def yX10_fault : MethodName := ⟨RX10, "fault", "(I)I"⟩
abbrev cX10_ring : ByteArray := prog_12_method_13_code
def yX10_ring : MethodName := ⟨RX10, "ring", "()I"⟩
abbrev cX10_isHouse : ByteArray := prog_12_method_14_code
def yX10_isHouse : MethodName := ⟨RX10, "isHouse", "(I)Z"⟩
abbrev cX10_aim : ByteArray := prog_12_method_15_code
def yX10_aim : MethodName := ⟨RX10, "aim", "()I"⟩
abbrev cX10_placeIn : ByteArray := prog_12_method_16_code
def yX10_placeIn : MethodName := ⟨RX10, "placeIn", "([II)I"⟩
abbrev cX10_areBeside : ByteArray := prog_12_method_17_code
def yX10_areBeside : MethodName := ⟨RX10, "areBeside", "([III)Z"⟩
abbrev cX10_betweenBoth : ByteArray := prog_12_method_18_code
def yX10_betweenBoth : MethodName := ⟨RX10, "betweenBoth", "()I"⟩
abbrev cX10_letter : ByteArray := prog_12_method_19_code
def yX10_letter : MethodName := ⟨RX10, "letter", "()I"⟩
abbrev cX10_houseNow : ByteArray := prog_12_method_20_code
def yX10_houseNow : MethodName := ⟨RX10, "houseNow", "(II)I"⟩
abbrev cX10_house : ByteArray := prog_12_method_21_code
def yX10_house : MethodName := ⟨RX10, "house", "(II)I"⟩
abbrev cX10_as : ByteArray := prog_12_method_22_code
def yX10_as : MethodName := ⟨RX10, "as", "(II)I"⟩
abbrev cX10_at : ByteArray := prog_12_method_23_code
def yX10_at : MethodName := ⟨RX10, "at", "(I)I"⟩
abbrev cX10_feud : ByteArray := prog_12_method_24_code
def yX10_feud : MethodName := ⟨RX10, "feud", "(II)I"⟩
abbrev cX10_touchIn : ByteArray := prog_12_method_25_code
def yX10_touchIn : MethodName := ⟨RX10, "touchIn", "([I)I"⟩
abbrev cX10_touch : ByteArray := prog_12_method_26_code
def yX10_touch : MethodName := ⟨RX10, "touch", "()I"⟩
abbrev cX10_joinsNow : ByteArray := prog_12_method_27_code
def yX10_joinsNow : MethodName := ⟨RX10, "joinsNow", "()I"⟩
abbrev cX10_joins : ByteArray := prog_12_method_28_code
def yX10_joins : MethodName := ⟨RX10, "joins", "()I"⟩
abbrev cX10_round : ByteArray := prog_12_method_29_code
def yX10_round : MethodName := ⟨RX10, "round", "(II)I"⟩
abbrev cX10_walkOf : ByteArray := prog_12_method_30_code
def yX10_walkOf : MethodName := ⟨RX10, "walkOf", "(I)I"⟩
abbrev cX10_walk : ByteArray := prog_12_method_31_code
def yX10_walk : MethodName := ⟨RX10, "walk", "(I)I"⟩
abbrev cX10_code : ByteArray := prog_12_method_32_code
def yX10_code : MethodName := ⟨RX10, "code", "([I)I"⟩
abbrev cX10_think : ByteArray := prog_12_method_33_code
def yX10_think : MethodName := ⟨RX10, "think", "(I)Z"⟩
abbrev cX10_layOrders : ByteArray := prog_12_method_34_code
def yX10_layOrders : MethodName := ⟨RX10, "layOrders", "()V"⟩
abbrev cX10_isStill : ByteArray := prog_12_method_35_code
def yX10_isStill : MethodName := ⟨RX10, "isStill", "(I)Z"⟩
abbrev cX10_changes : ByteArray := prog_12_method_36_code
def yX10_changes : MethodName := ⟨RX10, "changes", "(I)Z"⟩
abbrev cX10_change : ByteArray := prog_12_method_37_code
def yX10_change : MethodName := ⟨RX10, "change", "(I)V"⟩
abbrev cX10_behind : ByteArray := prog_12_method_38_code
def yX10_behind : MethodName := ⟨RX10, "behind", "(II)I"⟩
abbrev cX10_layNext : ByteArray := prog_12_method_39_code
def yX10_layNext : MethodName := ⟨RX10, "layNext", "(I)V"⟩
abbrev cX10_indexNow : ByteArray := prog_12_method_40_code
def yX10_indexNow : MethodName := ⟨RX10, "indexNow", "()I"⟩
abbrev cX10_placeBy : ByteArray := prog_12_method_41_code
def yX10_placeBy : MethodName := ⟨RX10, "placeBy", "(II)I"⟩
abbrev cX10_goNight : ByteArray := prog_12_method_42_code
def yX10_goNight : MethodName := ⟨RX10, "goNight", "(II)I"⟩
abbrev cX10_night : ByteArray := prog_12_method_43_code
def yX10_night : MethodName := ⟨RX10, "night", "(II)I"⟩
abbrev cX10_bestFor : ByteArray := prog_12_method_44_code
def yX10_bestFor : MethodName := ⟨RX10, "bestFor", "(II)I"⟩
abbrev cX10_layApart : ByteArray := prog_12_method_45_code
def yX10_layApart : MethodName := ⟨RX10, "layApart", "(I)V"⟩
abbrev cX10_lowest : ByteArray := prog_12_method_46_code
def yX10_lowest : MethodName := ⟨RX10, "lowest", "(III)I"⟩
abbrev cX10_whole : ByteArray := prog_12_method_47_code
def yX10_whole : MethodName := ⟨RX10, "whole", "(I)I"⟩
abbrev cX10_apartOf : ByteArray := prog_12_method_48_code
def yX10_apartOf : MethodName := ⟨RX10, "apartOf", "(II)I"⟩
abbrev cX10_apart : ByteArray := prog_12_method_49_code
def yX10_apart : MethodName := ⟨RX10, "apart", "(II)I"⟩
abbrev cX10_chooseOf : ByteArray := prog_12_method_50_code
def yX10_chooseOf : MethodName := ⟨RX10, "chooseOf", "(II)I"⟩
abbrev cX10_choose : ByteArray := prog_12_method_51_code
def yX10_choose : MethodName := ⟨RX10, "choose", "(II)I"⟩
abbrev cX10_draw : ByteArray := prog_12_method_52_code
def yX10_draw : MethodName := ⟨RX10, "draw", "()I"⟩
abbrev cX10_nights : ByteArray := prog_12_method_53_code
def yX10_nights : MethodName := ⟨RX10, "nights", "(II)I"⟩
abbrev cX10_seed : ByteArray := prog_12_method_54_code
def yX10_seed : MethodName := ⟨RX10, "seed", "(I)I"⟩
abbrev cX10_fewestNow : ByteArray := prog_12_method_55_code
def yX10_fewestNow : MethodName := ⟨RX10, "fewestNow", "()I"⟩
abbrev cX10_fewest : ByteArray := prog_12_method_56_code
def yX10_fewest : MethodName := ⟨RX10, "fewest", "()I"⟩
abbrev cX10_isSure : ByteArray := prog_12_method_57_code
def yX10_isSure : MethodName := ⟨RX10, "isSure", "(II)Z"⟩
abbrev cX10_surelyNow : ByteArray := prog_12_method_58_code
def yX10_surelyNow : MethodName := ⟨RX10, "surelyNow", "()I"⟩
abbrev cX10_surely : ByteArray := prog_12_method_59_code
def yX10_surely : MethodName := ⟨RX10, "surely", "()I"⟩
abbrev cX10_isStillPlace : ByteArray := prog_12_method_60_code
def yX10_isStillPlace : MethodName := ⟨RX10, "isStillPlace", "(I)Z"⟩
abbrev cX10_oddsOf : ByteArray := prog_12_method_61_code
def yX10_oddsOf : MethodName := ⟨RX10, "oddsOf", "(III)I"⟩
abbrev cX10_odds : ByteArray := prog_12_method_62_code
def yX10_odds : MethodName := ⟨RX10, "odds", "(IIII)I"⟩
abbrev cX10_waysOf : ByteArray := prog_12_method_63_code
def yX10_waysOf : MethodName := ⟨RX10, "waysOf", "(II)J"⟩
abbrev cX10_ways : ByteArray := prog_12_method_64_code
def yX10_ways : MethodName := ⟨RX10, "ways", "(I)J"⟩
abbrev cX10_mustOf : ByteArray := prog_12_method_65_code
def yX10_mustOf : MethodName := ⟨RX10, "mustOf", "(I)I"⟩
abbrev cX10_must : ByteArray := prog_12_method_66_code
def yX10_must : MethodName := ⟨RX10, "must", "(I)I"⟩
abbrev cX10_image : ByteArray := prog_12_method_67_code
def yX10_image : MethodName := ⟨RX10, "image", "()I"⟩
abbrev cX10_restore : ByteArray := prog_12_method_68_code
def yX10_restore : MethodName := ⟨RX10, "restore", "()I"⟩
abbrev cX10_feudMany : ByteArray := prog_12_method_69_code
def yX10_feudMany : MethodName := ⟨RX10, "feudMany", "()I"⟩
abbrev cX10_howMany : ByteArray := prog_12_method_70_code
def yX10_howMany : MethodName := ⟨RX10, "howMany", "(I)I"⟩
abbrev cX10_count : ByteArray := prog_12_method_71_code
def yX10_count : MethodName := ⟨RX10, "count", "(I)I"⟩
abbrev cX10_mix : ByteArray := prog_12_method_72_code
def yX10_mix : MethodName := ⟨RX10, "mix", "(J)V"⟩
abbrev cX10_mixHouse : ByteArray := prog_12_method_73_code
def yX10_mixHouse : MethodName := ⟨RX10, "mixHouse", "(I)V"⟩
abbrev cX10_digest : ByteArray := prog_12_method_74_code
def yX10_digest : MethodName := ⟨RX10, "digest", "()J"⟩
def RJ9 : String := "java/lang/Math"
def TJ9 : u_T := fun k => match k with
  | _ => ("", "", "", false)
def tyJ9 : Nat → FieldType := fun k => match k with
  | _ => .int
abbrev wsJ90 : List Cond := u_ws RJ9 TJ9 0
theorem nmJ9 : ∀ a, a < 0 → ∀ b, b < 0 → a ≠ b → (TJ9 a).2.1 ≠ (TJ9 b).2.1 := by decide +kernel
theorem tyJ9_ok : ∀ k, k < 0 → parseFieldDescriptor (TJ9 k).2.2.1 = some (tyJ9 k) := by decide +kernel
abbrev cJ9_floorMod_7cf53 : ByteArray := prog_13_method_50_code
def yJ9_floorMod_7cf53 : MethodName := ⟨RJ9, "floorMod", "(II)I"⟩
abbrev cJ9_abs_0f7a4 : ByteArray := prog_13_method_59_code
def yJ9_abs_0f7a4 : MethodName := ⟨RJ9, "abs", "(I)I"⟩
abbrev cJ9_max_7cf53 : ByteArray := prog_13_method_65_code
def yJ9_max_7cf53 : MethodName := ⟨RJ9, "max", "(II)I"⟩
abbrev cJ9_min_7cf53 : ByteArray := prog_13_method_69_code
def yJ9_min_7cf53 : MethodName := ⟨RJ9, "min", "(II)I"⟩
def RJ7 : String := "java/util/Arrays"
def TJ7 : u_T := fun k => match k with
  | _ => ("", "", "", false)
def tyJ7 : Nat → FieldType := fun k => match k with
  | _ => .int
abbrev wsJ70 : List Cond := u_ws RJ7 TJ7 0
theorem nmJ7 : ∀ a, a < 0 → ∀ b, b < 0 → a ≠ b → (TJ7 a).2.1 ≠ (TJ7 b).2.1 := by decide +kernel
theorem tyJ7_ok : ∀ k, k < 0 → parseFieldDescriptor (TJ7 k).2.2.1 = some (tyJ7 k) := by decide +kernel
abbrev cJ7_fill_d0a16 : ByteArray := prog_14_method_101_code
def yJ7_fill_d0a16 : MethodName := ⟨RJ7, "fill", "([JJ)V"⟩
abbrev cJ7_fill_53178 : ByteArray := prog_14_method_103_code
def yJ7_fill_53178 : MethodName := ⟨RJ7, "fill", "([II)V"⟩
def RL : String := "HousesThatChangeLaw"
abbrev cL_law : ByteArray := code
def yL_law : MethodName := ⟨RL, "law", "([I)Z"⟩
def wsL_law_r1 : List Cond := [Cond.classLink RL 7 RX9, Cond.instantiable RX9 11, Cond.initialized RX9, Cond.classLink RL 10 RX10, Cond.instantiable RX10 43, Cond.initialized RX10, Cond.constantLong RL 13 (4294967295), Cond.methodLink RL 9 yX9_init, Cond.instanceMethod yX9_init, Cond.code yX9_init cX9_init 3 none, Cond.methodLink RX9 1 objectInit, Cond.instanceMethod objectInit, Cond.code objectInit ⟨#[0xb1]⟩ 1 none, Cond.classLink RX9 7 RX8, Cond.instantiable RX8 5, Cond.initialized RX8, Cond.classLink RX9 10 RX4, Cond.instantiable RX4 4, Cond.initialized RX4, Cond.classLink RX9 13 RX5, Cond.instantiable RX5 2, Cond.initialized RX5, Cond.fieldLink RX9 16 "HousesThatChange" "page" "LHousesThatChange$Page;", Cond.fieldLink RX9 22 "HousesThatChange" "town" "LHousesThatChange$Town;"]
def wsL_law_r2 : List Cond := [Cond.fieldLink RX9 26 "HousesThatChange" "orders" "LHousesThatChange$Orders;", Cond.classLink RX9 30 RX3, Cond.instantiable RX3 4, Cond.initialized RX3, Cond.fieldLink RX9 33 "HousesThatChange" "now" "LHousesThatChange$Moment;", Cond.fieldLink RX9 37 "HousesThatChange" "kept" "LHousesThatChange$Moment;", Cond.classLink RX9 40 RX2, Cond.instantiable RX2 5, Cond.initialized RX2, Cond.fieldLink RX9 45 "HousesThatChange" "mayor" "LHousesThatChange$Mayor;", Cond.classLink RX9 49 RX1, Cond.instantiable RX1 9, Cond.initialized RX1, Cond.fieldLink RX9 52 "HousesThatChange" "goal" "LHousesThatChange$Goal;", Cond.classLink RX9 56 RX6, Cond.instantiable RX6 6, Cond.initialized RX6, Cond.fieldLink RX9 59 "HousesThatChange" "past" "LHousesThatChange$Past;", Cond.classLink RX9 63 RX7, Cond.instantiable RX7 3, Cond.initialized RX7, Cond.fieldLink RX9 68 "HousesThatChange" "stroll" "LHousesThatChange$Stroll;", Cond.instanceMethod yX8_init, Cond.code yX8_init cX8_init 1 none]
def wsL_law_r3 : List Cond := [Cond.methodLink RX8 3 objectInit, Cond.arrayClass .int, Cond.fieldLink RX8 9 "HousesThatChange$Town" "kinds" "[I", Cond.fieldLink RX8 15 "HousesThatChange$Town" "feuds" "[I", Cond.instanceMethod yX4_init, Cond.code yX4_init cX4_init 1 none, Cond.methodLink RX4 3 objectInit, Cond.fieldLink RX4 9 "HousesThatChange$Orders" "changed" "[I", Cond.fieldLink RX4 15 "HousesThatChange$Orders" "row" "[I", Cond.instanceMethod yX5_init, Cond.code yX5_init cX5_init 1 none, Cond.methodLink RX5 3 objectInit, Cond.fieldLink RX5 9 "HousesThatChange$Page" "codes" "[I", Cond.instanceMethod yX3_init, Cond.code yX3_init cX3_init 1 none, Cond.methodLink RX3 3 objectInit, Cond.fieldLink RX3 9 "HousesThatChange$Moment" "order" "[I", Cond.fieldLink RX3 15 "HousesThatChange$Moment" "ahead" "[I", Cond.fieldLink RX3 18 "HousesThatChange$Moment" "seed" "I", Cond.methodLink RX9 42 yX2_init, Cond.instanceMethod yX2_init, Cond.code yX2_init cX2_init 3 none, Cond.methodLink RX2 3 objectInit, Cond.fieldLink RX2 9 "HousesThatChange$Mayor" "rolls" "[I"]
def wsL_law_r4 : List Cond := [Cond.fieldLink RX2 15 "HousesThatChange$Mayor" "left" "[I", Cond.fieldLink RX2 18 "HousesThatChange$Mayor" "town" "LHousesThatChange$Town;", Cond.fieldLink RX2 22 "HousesThatChange$Mayor" "orders" "LHousesThatChange$Orders;", Cond.methodLink RX9 51 yX1_init, Cond.instanceMethod yX1_init, Cond.code yX1_init cX1_init 3 none, Cond.methodLink RX1 3 objectInit, Cond.fieldLink RX1 9 "HousesThatChange$Goal" "order" "[I", Cond.fieldLink RX1 15 "HousesThatChange$Goal" "few" "[I", Cond.fieldLink RX1 18 "HousesThatChange$Goal" "sure" "[I", Cond.fieldLink RX1 21 "HousesThatChange$Goal" "line" "[I", Cond.fieldLink RX1 24 "HousesThatChange$Goal" "town" "LHousesThatChange$Town;", Cond.fieldLink RX1 28 "HousesThatChange$Goal" "orders" "LHousesThatChange$Orders;", Cond.methodLink RX9 58 yX6_init, Cond.instanceMethod yX6_init, Cond.code yX6_init cX6_init 3 none, Cond.methodLink RX6 3 objectInit, Cond.arrayClass .long, Cond.fieldLink RX6 9 "HousesThatChange$Past" "rows" "[J", Cond.fieldLink RX6 15 "HousesThatChange$Past" "rowsThen" "[J", Cond.fieldLink RX6 18 "HousesThatChange$Past" "shared" "[I", Cond.fieldLink RX6 22 "HousesThatChange$Past" "sharedThen" "[I", Cond.fieldLink RX6 25 "HousesThatChange$Past" "town" "LHousesThatChange$Town;", Cond.fieldLink RX6 29 "HousesThatChange$Past" "orders" "LHousesThatChange$Orders;"]
def wsL_law_r5 : List Cond := [Cond.methodLink RX9 65 yX7_init, Cond.instanceMethod yX7_init, Cond.code yX7_init cX7_init 2 none, Cond.methodLink RX7 3 objectInit, Cond.fieldLink RX7 9 "HousesThatChange$Stroll" "rolls" "[I", Cond.fieldLink RX7 15 "HousesThatChange$Stroll" "rollsThen" "[I", Cond.fieldLink RX7 18 "HousesThatChange$Stroll" "town" "LHousesThatChange$Town;", Cond.methodLink RL 12 yX10_init, Cond.instanceMethod yX10_init, Cond.code yX10_init cX10_init 1 none, Cond.methodLink RX10 1 objectInit, Cond.fieldLink RX10 7 "HousesThatChangeModel" "kindOf" "[I", Cond.arrayClass .boolean, Cond.fieldLink RX10 13 "HousesThatChangeModel" "isFeud" "[Z", Cond.fieldLink RX10 17 "HousesThatChangeModel" "order" "[I", Cond.fieldLink RX10 20 "HousesThatChangeModel" "ahead" "[I", Cond.fieldLink RX10 23 "HousesThatChangeModel" "aimed" "[I", Cond.fieldLink RX10 26 "HousesThatChangeModel" "seedNow" "J", Cond.arrayClass .byte, Cond.fieldLink RX10 30 "HousesThatChangeModel" "page" "[B", Cond.fieldLink RX10 34 "HousesThatChangeModel" "keptOrder" "[I", Cond.fieldLink RX10 37 "HousesThatChangeModel" "keptAhead" "[I", Cond.fieldLink RX10 40 "HousesThatChangeModel" "newKind" "[I", Cond.fieldLink RX10 43 "HousesThatChangeModel" "newA" "[I"]
def wsL_law_r6 : List Cond := [Cond.fieldLink RX10 46 "HousesThatChangeModel" "newB" "[I", Cond.fieldLink RX10 49 "HousesThatChangeModel" "codeOf" "[I", Cond.constant RX10 52 (46656), Cond.fieldLink RX10 53 "HousesThatChangeModel" "indexOf" "[I", Cond.fieldLink RX10 56 "HousesThatChangeModel" "nextOf" "[I", Cond.fieldLink RX10 59 "HousesThatChangeModel" "thought" "[I", Cond.fieldLink RX10 62 "HousesThatChangeModel" "apartNow" "[I", Cond.fieldLink RX10 65 "HousesThatChangeModel" "apartThen" "[I", Cond.fieldLink RX10 68 "HousesThatChangeModel" "far" "[I", Cond.fieldLink RX10 71 "HousesThatChangeModel" "queue" "[I", Cond.fieldLink RX10 74 "HousesThatChangeModel" "chanceNow" "[I", Cond.fieldLink RX10 77 "HousesThatChangeModel" "chanceThen" "[I", Cond.fieldLink RX10 80 "HousesThatChangeModel" "waysNow" "[J", Cond.fieldLink RX10 84 "HousesThatChangeModel" "waysThen" "[J", Cond.methodLink RL 15 yX9_letters, Cond.instanceMethod yX9_letters, Cond.selects RX9 yX9_letters yX9_letters, Cond.code yX9_letters cX9_letters 4 (some .int), Cond.methodLink RX9 72 yX5_told, Cond.static yX5_told, Cond.code yX5_told cX5_told 6 (some .int), Cond.methodLink RX5 15 yX5_codeIn, Cond.static yX5_codeIn, Cond.code yX5_codeIn cX5_codeIn 3 (some .int)]
def wsL_law_r7 : List Cond := [Cond.methodLink RX9 80 yX5_append, Cond.instanceMethod yX5_append, Cond.selects RX5 yX5_append yX5_append, Cond.code yX5_append cX5_append 5 none, Cond.fieldLink RX5 19 "HousesThatChange$Page" "size" "I", Cond.methodLink RX5 23 yX0_put, Cond.static yX0_put, Cond.initialized RX0, Cond.code yX0_put cX0_put 3 none, Cond.methodLink RL 19 yX10_letters, Cond.instanceMethod yX10_letters, Cond.selects RX10 yX10_letters yX10_letters, Cond.code yX10_letters cX10_letters 7 (some .int), Cond.constantLong RX10 87 (255), Cond.fieldLink RX10 89 "HousesThatChangeModel" "pageLength" "I", Cond.methodLink RL 20 yX9_blank, Cond.instanceMethod yX9_blank, Cond.selects RX9 yX9_blank yX9_blank, Cond.code yX9_blank cX9_blank 1 (some .int), Cond.methodLink RX9 84 yX5_clear, Cond.instanceMethod yX5_clear, Cond.selects RX5 yX5_clear yX5_clear, Cond.code yX5_clear cX5_clear 2 (some .int), Cond.methodLink RL 24 yX10_blank]
def wsL_law_r8 : List Cond := [Cond.instanceMethod yX10_blank, Cond.selects RX10 yX10_blank yX10_blank, Cond.code yX10_blank cX10_blank 2 (some .int), Cond.methodLink RL 25 yX9_fault, Cond.instanceMethod yX9_fault, Cond.selects RX9 yX9_fault yX9_fault, Cond.code yX9_fault cX9_fault 2 (some .int), Cond.methodLink RX9 88 yX5_firstNoRing, Cond.instanceMethod yX5_firstNoRing, Cond.selects RX5 yX5_firstNoRing yX5_firstNoRing, Cond.code yX5_firstNoRing cX5_firstNoRing 3 (some .int), Cond.methodLink RX5 43 yX5_housesTold, Cond.instanceMethod yX5_housesTold, Cond.selects RX5 yX5_housesTold yX5_housesTold, Cond.code yX5_housesTold cX5_housesTold 2 (some .int), Cond.methodLink RX5 37 yX5_code, Cond.instanceMethod yX5_code, Cond.selects RX5 yX5_code yX5_code, Cond.code yX5_code cX5_code 2 (some .int), Cond.methodLink RX5 29 yX0_get, Cond.static yX0_get, Cond.code yX0_get cX0_get 2 (some .int), Cond.methodLink RX5 40 yX5_kindTold, Cond.static yX5_kindTold]
def wsL_law_r9 : List Cond := [Cond.code yX5_kindTold cX5_kindTold 1 (some .int), Cond.methodLink RX5 47 yX5_fitsFeuds, Cond.instanceMethod yX5_fitsFeuds, Cond.selects RX5 yX5_fitsFeuds yX5_fitsFeuds, Cond.code yX5_fitsFeuds cX5_fitsFeuds 4 (some .boolean), Cond.methodLink RX5 51 yX5_isDigit, Cond.instanceMethod yX5_isDigit, Cond.selects RX5 yX5_isDigit yX5_isDigit, Cond.code yX5_isDigit cX5_isDigit 4 (some .boolean), Cond.methodLink RX5 33 yX5_digit, Cond.instanceMethod yX5_digit, Cond.selects RX5 yX5_digit yX5_digit, Cond.code yX5_digit cX5_digit 2 (some .int), Cond.methodLink RX9 91 yX5_firstNoLetter, Cond.instanceMethod yX5_firstNoLetter, Cond.selects RX5 yX5_firstNoLetter yX5_firstNoLetter, Cond.code yX5_firstNoLetter cX5_firstNoLetter 2 (some .int), Cond.methodLink RX5 58 yX5_fitsLetter, Cond.instanceMethod yX5_fitsLetter, Cond.selects RX5 yX5_fitsLetter yX5_fitsLetter, Cond.code yX5_fitsLetter cX5_fitsLetter 4 (some .boolean), Cond.methodLink RL 29 yX10_fault, Cond.instanceMethod yX10_fault, Cond.selects RX10 yX10_fault yX10_fault]
def wsL_law_r10 : List Cond := [Cond.code yX10_fault cX10_fault 2 (some .int), Cond.fieldLink RX10 111 "HousesThatChangeModel" "faultAt" "I", Cond.methodLink RX10 96 yX10_within, Cond.static yX10_within, Cond.code yX10_within cX10_within 3 (some .boolean), Cond.methodLink RX10 136 yX10_readRing, Cond.instanceMethod yX10_readRing, Cond.selects RX10 yX10_readRing yX10_readRing, Cond.code yX10_readRing cX10_readRing 5 none, Cond.fieldLink RX10 93 "HousesThatChangeModel" "newMany" "I", Cond.fieldLink RX10 104 "HousesThatChangeModel" "newFeuds" "I", Cond.fieldLink RX10 114 "HousesThatChangeModel" "isWhole" "Z", Cond.methodLink RX10 107 yX10_nextRing, Cond.instanceMethod yX10_nextRing, Cond.selects RX10 yX10_nextRing yX10_nextRing, Cond.code yX10_nextRing cX10_nextRing 5 (some .int), Cond.methodLink RX10 100 yX10_kindBy, Cond.static yX10_kindBy, Cond.code yX10_kindBy cX10_kindBy 1 (some .int), Cond.methodLink RX10 139 yX10_readLetter, Cond.instanceMethod yX10_readLetter, Cond.selects RX10 yX10_readLetter yX10_readLetter, Cond.code yX10_readLetter cX10_readLetter 5 none, Cond.methodLink RX10 133 yX10_nextLetter]
def wsL_law_r11 : List Cond := [Cond.instanceMethod yX10_nextLetter, Cond.selects RX10 yX10_nextLetter yX10_nextLetter, Cond.code yX10_nextLetter cX10_nextLetter 4 (some .int), Cond.fieldLink RX10 121 "HousesThatChangeModel" "newSort" "I", Cond.fieldLink RX10 124 "HousesThatChangeModel" "newSteps" "I", Cond.fieldLink RX10 127 "HousesThatChangeModel" "newOne" "I", Cond.fieldLink RX10 130 "HousesThatChangeModel" "newOther" "I", Cond.methodLink RX10 118 yX10_sortBy, Cond.static yX10_sortBy, Cond.code yX10_sortBy cX10_sortBy 1 (some .int), Cond.methodLink RL 30 yX9_ring, Cond.instanceMethod yX9_ring, Cond.selects RX9 yX9_ring yX9_ring, Cond.code yX9_ring cX9_ring 1 (some .int), Cond.fieldLink RX9 116 "HousesThatChange" "keeps" "Z", Cond.fieldLink RX9 120 "HousesThatChange" "readings" "I", Cond.methodLink RX9 94 yX5_isRing, Cond.instanceMethod yX5_isRing, Cond.selects RX5 yX5_isRing yX5_isRing, Cond.code yX5_isRing cX5_isRing 2 (some .boolean), Cond.methodLink RX5 55 yX5_firstNoRing, Cond.methodLink RX9 98 yX8_read, Cond.instanceMethod yX8_read, Cond.selects RX8 yX8_read yX8_read]
def wsL_law_r12 : List Cond := [Cond.code yX8_read cX8_read 3 none, Cond.fieldLink RX8 24 "HousesThatChange$Town" "houses" "I", Cond.fieldLink RX8 50 "HousesThatChange$Town" "pairs" "I", Cond.methodLink RX8 18 yX5_housesTold, Cond.methodLink RX8 28 yX5_code, Cond.methodLink RX8 32 yX5_kindTold, Cond.methodLink RX8 35 yX0_put, Cond.methodLink RX8 41 yX8_setBars, Cond.instanceMethod yX8_setBars, Cond.selects RX8 yX8_setBars yX8_setBars, Cond.code yX8_setBars cX8_setBars 2 none, Cond.fieldLink RX8 86 "HousesThatChange$Town" "bars" "I", Cond.methodLink RX8 89 yX8_is, Cond.instanceMethod yX8_is, Cond.selects RX8 yX8_is yX8_is, Cond.code yX8_is cX8_is 4 (some .boolean), Cond.methodLink RX8 67 yX0_get, Cond.methodLink RX8 77 yX8_next, Cond.instanceMethod yX8_next, Cond.selects RX8 yX8_next yX8_next, Cond.code yX8_next cX8_next 2 (some .int), Cond.methodLink RX8 44 yJ7_fill_53178, Cond.static yJ7_fill_53178, Cond.initialized RJ7]
def wsL_law_r13 : List Cond := [Cond.code yJ7_fill_53178 cJ7_fill_53178 4 none, Cond.methodLink RX8 56 yX5_digit, Cond.methodLink RX8 59 yX8_quarrel, Cond.instanceMethod yX8_quarrel, Cond.selects RX8 yX8_quarrel yX8_quarrel, Cond.code yX8_quarrel cX8_quarrel 3 none, Cond.methodLink RX8 63 yX8_hate, Cond.instanceMethod yX8_hate, Cond.selects RX8 yX8_hate yX8_hate, Cond.code yX8_hate cX8_hate 3 (some .boolean), Cond.methodLink RX9 102 yX3_begin, Cond.instanceMethod yX3_begin, Cond.selects RX3 yX3_begin yX3_begin, Cond.code yX3_begin cX3_begin 2 none, Cond.fieldLink RX3 28 "HousesThatChange$Moment" "nights" "I", Cond.methodLink RX3 22 yX0_put, Cond.methodLink RX9 108 yX4_prepare, Cond.instanceMethod yX4_prepare, Cond.selects RX4 yX4_prepare yX4_prepare, Cond.code yX4_prepare cX4_prepare 5 none, Cond.fieldLink RX4 18 "HousesThatChange$Orders" "places" "I", Cond.fieldLink RX4 22 "HousesThatChange$Orders" "size" "I", Cond.methodLink RX4 25 yX4_unfold, Cond.instanceMethod yX4_unfold]
def wsL_law_r14 : List Cond := [Cond.selects RX4 yX4_unfold yX4_unfold, Cond.code yX4_unfold cX4_unfold 8 (some (.array .int)), Cond.methodLink RX4 37 yX0_put, Cond.methodLink RX4 43 yX0_get, Cond.methodLink RX4 29 yX4_change, Cond.instanceMethod yX4_change, Cond.selects RX4 yX4_change yX4_change, Cond.code yX4_change cX4_change 4 none, Cond.methodLink RX4 33 yX4_numberOf, Cond.instanceMethod yX4_numberOf, Cond.selects RX4 yX4_numberOf yX4_numberOf, Cond.code yX4_numberOf cX4_numberOf 6 (some .int), Cond.methodLink RX9 112 yX2_forget, Cond.instanceMethod yX2_forget, Cond.selects RX2 yX2_forget yX2_forget, Cond.code yX2_forget cX2_forget 1 none, Cond.fieldLink RX2 26 "HousesThatChange$Mayor" "known" "I", Cond.methodLink RX9 115 yX1_forget, Cond.instanceMethod yX1_forget, Cond.selects RX1 yX1_forget yX1_forget, Cond.code yX1_forget cX1_forget 1 none, Cond.fieldLink RX1 32 "HousesThatChange$Goal" "told" "Z", Cond.methodLink RL 33 yX10_ring, Cond.instanceMethod yX10_ring]
def wsL_law_r15 : List Cond := [Cond.selects RX10 yX10_ring yX10_ring, Cond.code yX10_ring cX10_ring 2 (some .int), Cond.fieldLink RX10 142 "HousesThatChangeModel" "n" "I", Cond.fieldLink RX10 145 "HousesThatChangeModel" "nightMany" "I", Cond.fieldLink RX10 148 "HousesThatChangeModel" "hasAim" "Z", Cond.fieldLink RX10 151 "HousesThatChangeModel" "rings" "I", Cond.methodLink RX10 154 yX10_layOrders, Cond.instanceMethod yX10_layOrders, Cond.selects RX10 yX10_layOrders yX10_layOrders, Cond.code yX10_layOrders cX10_layOrders 3 none, Cond.fieldLink RX10 189 "HousesThatChangeModel" "orders" "I", Cond.methodLink RX10 192 yX10_think, Cond.instanceMethod yX10_think, Cond.selects RX10 yX10_think yX10_think, Cond.code yX10_think cX10_think 5 (some .boolean), Cond.methodLink RX10 195 yX10_layNext, Cond.instanceMethod yX10_layNext, Cond.selects RX10 yX10_layNext yX10_layNext, Cond.code yX10_layNext cX10_layNext 4 none, Cond.methodLink RX10 202 yX10_changes, Cond.instanceMethod yX10_changes, Cond.selects RX10 yX10_changes yX10_changes, Cond.code yX10_changes cX10_changes 2 (some .boolean), Cond.methodLink RX10 199 yX10_isStill]
def wsL_law_r16 : List Cond := [Cond.instanceMethod yX10_isStill, Cond.selects RX10 yX10_isStill yX10_isStill, Cond.code yX10_isStill cX10_isStill 2 (some .boolean), Cond.methodLink RX10 205 yX10_change, Cond.instanceMethod yX10_change, Cond.selects RX10 yX10_change yX10_change, Cond.code yX10_change cX10_change 4 none, Cond.methodLink RX10 208 yX10_code, Cond.instanceMethod yX10_code, Cond.selects RX10 yX10_code yX10_code, Cond.code yX10_code cX10_code 4 (some .int), Cond.methodLink RL 34 yX9_aim, Cond.instanceMethod yX9_aim, Cond.selects RX9 yX9_aim yX9_aim, Cond.code yX9_aim cX9_aim 1 (some .int), Cond.methodLink RX9 123 yX8_stands, Cond.instanceMethod yX8_stands, Cond.selects RX8 yX8_stands yX8_stands, Cond.code yX8_stands cX8_stands 1 (some .boolean), Cond.methodLink RX9 126 yX5_isOrder, Cond.instanceMethod yX5_isOrder, Cond.selects RX5 yX5_isOrder yX5_isOrder, Cond.code yX5_isOrder cX5_isOrder 4 (some .boolean), Cond.methodLink RX9 130 yX1_read]
def wsL_law_r17 : List Cond := [Cond.instanceMethod yX1_read, Cond.selects RX1 yX1_read yX1_read, Cond.code yX1_read cX1_read 3 none, Cond.fieldLink RX1 54 "HousesThatChange$Goal" "fewCounted" "Z", Cond.fieldLink RX1 57 "HousesThatChange$Goal" "sureCounted" "Z", Cond.methodLink RX1 42 yX5_digit, Cond.methodLink RX1 48 yX0_put, Cond.methodLink RL 37 yX10_aim, Cond.instanceMethod yX10_aim, Cond.selects RX10 yX10_aim yX10_aim, Cond.code yX10_aim cX10_aim 3 (some .int), Cond.methodLink RL 38 yX9_letter, Cond.instanceMethod yX9_letter, Cond.selects RX9 yX9_letter yX9_letter, Cond.code yX9_letter cX9_letter 4 (some .int), Cond.methodLink RX9 131 yX5_isLetter, Cond.instanceMethod yX5_isLetter, Cond.selects RX5 yX5_isLetter yX5_isLetter, Cond.code yX5_isLetter cX5_isLetter 1 (some .boolean), Cond.methodLink RX5 62 yX5_firstNoLetter, Cond.methodLink RX9 134 yX5_code, Cond.methodLink RX9 138 yX5_digit, Cond.methodLink RX9 141 yX8_has, Cond.instanceMethod yX8_has]
def wsL_law_r18 : List Cond := [Cond.selects RX8 yX8_has yX8_has, Cond.code yX8_has cX8_has 2 (some .boolean), Cond.methodLink RX9 144 yX9_receiver, Cond.instanceMethod yX9_receiver, Cond.selects RX9 yX9_receiver yX9_receiver, Cond.code yX9_receiver cX9_receiver 5 (some .int), Cond.methodLink RX9 148 yX3_placeOf, Cond.instanceMethod yX3_placeOf, Cond.selects RX3 yX3_placeOf yX3_placeOf, Cond.code yX3_placeOf cX3_placeOf 3 (some .int), Cond.methodLink RX3 35 yX3_placeIn, Cond.static yX3_placeIn, Cond.code yX3_placeIn cX3_placeIn 4 (some .int), Cond.methodLink RX3 31 yX0_get, Cond.methodLink RX9 152 yX8_around, Cond.instanceMethod yX8_around, Cond.selects RX8 yX8_around yX8_around, Cond.code yX8_around cX8_around 2 (some .int), Cond.methodLink RX8 71 yJ9_floorMod_7cf53, Cond.static yJ9_floorMod_7cf53, Cond.initialized RJ9, Cond.code yJ9_floorMod_7cf53 cJ9_floorMod_7cf53 3 (some .int), Cond.methodLink RX9 155 yX3_houseIn, Cond.instanceMethod yX3_houseIn]
def wsL_law_r19 : List Cond := [Cond.selects RX3 yX3_houseIn yX3_houseIn, Cond.code yX3_houseIn cX3_houseIn 2 (some .int), Cond.methodLink RX9 158 yX9_between, Cond.instanceMethod yX9_between, Cond.selects RX9 yX9_between yX9_between, Cond.code yX9_between cX9_between 5 (some .int), Cond.methodLink RX9 161 yX8_beside, Cond.instanceMethod yX8_beside, Cond.selects RX8 yX8_beside yX8_beside, Cond.code yX8_beside cX8_beside 3 (some .boolean), Cond.methodLink RL 41 yX10_letter, Cond.instanceMethod yX10_letter, Cond.selects RX10 yX10_letter yX10_letter, Cond.code yX10_letter cX10_letter 2 (some .int), Cond.methodLink RX10 165 yX10_isHouse, Cond.instanceMethod yX10_isHouse, Cond.selects RX10 yX10_isHouse yX10_isHouse, Cond.code yX10_isHouse cX10_isHouse 2 (some .boolean), Cond.methodLink RX10 157 yX10_placeIn, Cond.instanceMethod yX10_placeIn, Cond.selects RX10 yX10_placeIn yX10_placeIn, Cond.code yX10_placeIn cX10_placeIn 4 (some .int), Cond.methodLink RX10 169 yX10_betweenBoth, Cond.instanceMethod yX10_betweenBoth]
def wsL_law_r20 : List Cond := [Cond.selects RX10 yX10_betweenBoth yX10_betweenBoth, Cond.code yX10_betweenBoth cX10_betweenBoth 4 (some .int), Cond.methodLink RX10 161 yX10_areBeside, Cond.instanceMethod yX10_areBeside, Cond.selects RX10 yX10_areBeside yX10_areBeside, Cond.code yX10_areBeside cX10_areBeside 5 (some .boolean), Cond.methodLink RL 42 yX9_house, Cond.instanceMethod yX9_house, Cond.selects RX9 yX9_house yX9_house, Cond.code yX9_house cX9_house 3 (some .int), Cond.methodLink RX9 165 yX8_kind, Cond.instanceMethod yX8_kind, Cond.selects RX8 yX8_kind yX8_kind, Cond.code yX8_kind cX8_kind 2 (some .int), Cond.methodLink RX9 168 yX3_placeAhead, Cond.instanceMethod yX3_placeAhead, Cond.selects RX3 yX3_placeAhead yX3_placeAhead, Cond.code yX3_placeAhead cX3_placeAhead 3 (some .int), Cond.methodLink RX9 171 yX1_placeOf, Cond.instanceMethod yX1_placeOf, Cond.selects RX1 yX1_placeOf yX1_placeOf, Cond.code yX1_placeOf cX1_placeOf 2 (some .int), Cond.methodLink RX1 60 yX3_placeIn, Cond.methodLink RL 46 yX10_house]
def wsL_law_r21 : List Cond := [Cond.instanceMethod yX10_house, Cond.selects RX10 yX10_house yX10_house, Cond.code yX10_house cX10_house 3 (some .int), Cond.methodLink RX10 173 yX10_houseNow, Cond.instanceMethod yX10_houseNow, Cond.selects RX10 yX10_houseNow yX10_houseNow, Cond.code yX10_houseNow cX10_houseNow 3 (some .int), Cond.methodLink RL 47 yX9_as, Cond.instanceMethod yX9_as, Cond.selects RX9 yX9_as yX9_as, Cond.code yX9_as cX9_as 3 (some .int), Cond.methodLink RX9 173 yX8_is, Cond.methodLink RL 50 yX10_as, Cond.instanceMethod yX10_as, Cond.selects RX10 yX10_as yX10_as, Cond.code yX10_as cX10_as 4 (some .int), Cond.methodLink RL 51 yX9_at, Cond.instanceMethod yX9_at, Cond.selects RX9 yX9_at yX9_at, Cond.code yX9_at cX9_at 2 (some .int), Cond.methodLink RL 54 yX10_at, Cond.instanceMethod yX10_at, Cond.selects RX10 yX10_at yX10_at, Cond.code yX10_at cX10_at 2 (some .int)]
def wsL_law_r22 : List Cond := [Cond.methodLink RL 55 yX9_feud, Cond.instanceMethod yX9_feud, Cond.selects RX9 yX9_feud yX9_feud, Cond.code yX9_feud cX9_feud 3 (some .int), Cond.methodLink RX9 176 yX8_hate, Cond.methodLink RL 58 yX10_feud, Cond.instanceMethod yX10_feud, Cond.selects RX10 yX10_feud yX10_feud, Cond.code yX10_feud cX10_feud 3 (some .int), Cond.methodLink RL 59 yX9_touch, Cond.instanceMethod yX9_touch, Cond.selects RX9 yX9_touch yX9_touch, Cond.code yX9_touch cX9_touch 1 (some .int), Cond.methodLink RX9 183 yX8_touching, Cond.instanceMethod yX8_touching, Cond.selects RX8 yX8_touching yX8_touching, Cond.code yX8_touching cX8_touching 6 (some .int), Cond.methodLink RL 62 yX10_touch, Cond.instanceMethod yX10_touch, Cond.selects RX10 yX10_touch yX10_touch, Cond.code yX10_touch cX10_touch 1 (some .int), Cond.methodLink RX10 176 yX10_touchIn, Cond.instanceMethod yX10_touchIn, Cond.selects RX10 yX10_touchIn yX10_touchIn]
def wsL_law_r23 : List Cond := [Cond.code yX10_touchIn cX10_touchIn 6 (some .int), Cond.methodLink RL 63 yX9_joins, Cond.instanceMethod yX9_joins, Cond.selects RX9 yX9_joins yX9_joins, Cond.code yX9_joins cX9_joins 5 (some .int), Cond.methodLink RX9 187 yX8_next, Cond.methodLink RL 66 yX10_joins, Cond.instanceMethod yX10_joins, Cond.selects RX10 yX10_joins yX10_joins, Cond.code yX10_joins cX10_joins 1 (some .int), Cond.methodLink RX10 180 yX10_joinsNow, Cond.instanceMethod yX10_joinsNow, Cond.selects RX10 yX10_joinsNow yX10_joinsNow, Cond.code yX10_joinsNow cX10_joinsNow 4 (some .int), Cond.methodLink RL 67 yX9_walk, Cond.instanceMethod yX9_walk, Cond.selects RX9 yX9_walk yX9_walk, Cond.code yX9_walk cX9_walk 3 (some .int), Cond.methodLink RX9 190 yX8_way, Cond.instanceMethod yX8_way, Cond.selects RX8 yX8_way yX8_way, Cond.code yX8_way cX8_way 4 (some .int), Cond.methodLink RX8 80 Lib.Math.abs.name, Cond.static Lib.Math.abs.name]
def wsL_law_r24 : List Cond := [Cond.initialized "java/lang/Math", Cond.code Lib.Math.abs.name Lib.Math.abs.code 1 (some .int), Cond.methodLink RX8 83 Lib.Math.min.name, Cond.static Lib.Math.min.name, Cond.code Lib.Math.min.name Lib.Math.min.code 2 (some .int), Cond.methodLink RL 70 yX10_walk, Cond.instanceMethod yX10_walk, Cond.selects RX10 yX10_walk yX10_walk, Cond.code yX10_walk cX10_walk 2 (some .int), Cond.methodLink RX10 186 yX10_walkOf, Cond.instanceMethod yX10_walkOf, Cond.selects RX10 yX10_walkOf yX10_walkOf, Cond.code yX10_walkOf cX10_walkOf 3 (some .int), Cond.methodLink RX10 183 yX10_round, Cond.instanceMethod yX10_round, Cond.selects RX10 yX10_round yX10_round, Cond.code yX10_round cX10_round 4 (some .int), Cond.methodLink RL 71 yX9_night, Cond.instanceMethod yX9_night, Cond.selects RX9 yX9_night yX9_night, Cond.code yX9_night cX9_night 3 (some .int), Cond.methodLink RX9 193 yX9_midnight, Cond.instanceMethod yX9_midnight, Cond.selects RX9 yX9_midnight yX9_midnight]
def wsL_law_r25 : List Cond := [Cond.code yX9_midnight cX9_midnight 2 (some .boolean), Cond.methodLink RX9 196 yX3_remember, Cond.instanceMethod yX3_remember, Cond.selects RX3 yX3_remember yX3_remember, Cond.code yX3_remember cX3_remember 2 none, Cond.methodLink RX9 199 yX8_barred, Cond.instanceMethod yX8_barred, Cond.selects RX8 yX8_barred yX8_barred, Cond.code yX8_barred cX8_barred 2 (some .boolean), Cond.methodLink RX9 202 yX3_change, Cond.instanceMethod yX3_change, Cond.selects RX3 yX3_change yX3_change, Cond.code yX3_change cX3_change 4 none, Cond.methodLink RX3 39 yX3_houseIn, Cond.methodLink RL 74 yX10_night, Cond.instanceMethod yX10_night, Cond.selects RX10 yX10_night yX10_night, Cond.code yX10_night cX10_night 3 (some .int), Cond.methodLink RX10 220 yX10_goNight, Cond.instanceMethod yX10_goNight, Cond.selects RX10 yX10_goNight yX10_goNight, Cond.code yX10_goNight cX10_goNight 6 (some .int), Cond.methodLink RX10 211 yX10_indexNow, Cond.instanceMethod yX10_indexNow]
def wsL_law_r26 : List Cond := [Cond.selects RX10 yX10_indexNow yX10_indexNow, Cond.code yX10_indexNow cX10_indexNow 1 (some .int), Cond.methodLink RX10 214 yX10_placeBy, Cond.instanceMethod yX10_placeBy, Cond.selects RX10 yX10_placeBy yX10_placeBy, Cond.code yX10_placeBy cX10_placeBy 3 (some .int), Cond.methodLink RX10 217 yX10_behind, Cond.instanceMethod yX10_behind, Cond.selects RX10 yX10_behind yX10_behind, Cond.code yX10_behind cX10_behind 3 (some .int), Cond.methodLink RL 75 yX9_nights, Cond.instanceMethod yX9_nights, Cond.selects RX9 yX9_nights yX9_nights, Cond.code yX9_nights cX9_nights 7 (some .int), Cond.methodLink RX9 206 yX3_draw, Cond.instanceMethod yX3_draw, Cond.selects RX3 yX3_draw yX3_draw, Cond.code yX3_draw cX3_draw 4 (some .int), Cond.constantLong RX3 43 (1103515245), Cond.constantLong RX3 45 (12345), Cond.constantLong RX3 47 (2147483647), Cond.methodLink RX9 209 yX9_number, Cond.instanceMethod yX9_number, Cond.selects RX9 yX9_number yX9_number]
def wsL_law_r27 : List Cond := [Cond.code yX9_number cX9_number 1 (some .int), Cond.methodLink RX9 215 yX4_numberOf, Cond.methodLink RX9 212 yX2_choice, Cond.instanceMethod yX2_choice, Cond.selects RX2 yX2_choice yX2_choice, Cond.code yX2_choice cX2_choice 6 (some .int), Cond.methodLink RX2 75 yX2_learn, Cond.instanceMethod yX2_learn, Cond.selects RX2 yX2_learn yX2_learn, Cond.code yX2_learn cX2_learn 3 none, Cond.methodLink RX2 35 yX2_rollsFor, Cond.instanceMethod yX2_rollsFor, Cond.selects RX2 yX2_rollsFor yX2_rollsFor, Cond.code yX2_rollsFor cX2_rollsFor 5 (some .int), Cond.methodLink RX2 70 Lib.Math.max.name, Cond.static Lib.Math.max.name, Cond.code Lib.Math.max.name Lib.Math.max.code 2 (some .int), Cond.methodLink RX2 45 yX4_unfold, Cond.methodLink RX2 49 yX8_touching, Cond.methodLink RX2 55 yX0_get, Cond.methodLink RX2 59 yX2_lookAhead, Cond.instanceMethod yX2_lookAhead, Cond.selects RX2 yX2_lookAhead yX2_lookAhead, Cond.code yX2_lookAhead cX2_lookAhead 5 none]
def wsL_law_r28 : List Cond := [Cond.methodLink RX2 79 yX8_barred, Cond.methodLink RX2 83 yX4_after, Cond.instanceMethod yX4_after, Cond.selects RX4 yX4_after yX4_after, Cond.code yX4_after cX4_after 3 (some .int), Cond.methodLink RX2 39 yX0_put, Cond.methodLink RX2 66 yX2_leftBy, Cond.instanceMethod yX2_leftBy, Cond.selects RX2 yX2_leftBy yX2_leftBy, Cond.code yX2_leftBy cX2_leftBy 2 (some .int), Cond.methodLink RX2 86 yX8_around, Cond.methodLink RL 78 yX10_nights, Cond.instanceMethod yX10_nights, Cond.selects RX10 yX10_nights yX10_nights, Cond.code yX10_nights cX10_nights 6 (some .int), Cond.methodLink RX10 250 yX10_draw, Cond.instanceMethod yX10_draw, Cond.selects RX10 yX10_draw yX10_draw, Cond.code yX10_draw cX10_draw 1 (some .int), Cond.constantLong RX10 242 (1103515245), Cond.constantLong RX10 244 (12345), Cond.constantLong RX10 246 (2147483647), Cond.constantLong RX10 248 (65536), Cond.methodLink RX10 239 yX10_chooseOf]
def wsL_law_r29 : List Cond := [Cond.instanceMethod yX10_chooseOf, Cond.selects RX10 yX10_chooseOf yX10_chooseOf, Cond.code yX10_chooseOf cX10_chooseOf 6 (some .int), Cond.methodLink RX10 226 yX10_layApart, Cond.instanceMethod yX10_layApart, Cond.selects RX10 yX10_layApart yX10_layApart, Cond.code yX10_layApart cX10_layApart 6 none, Cond.methodLink RX10 223 yX10_bestFor, Cond.instanceMethod yX10_bestFor, Cond.selects RX10 yX10_bestFor yX10_bestFor, Cond.code yX10_bestFor cX10_bestFor 6 (some .int), Cond.methodLink RL 79 yX9_seed, Cond.instanceMethod yX9_seed, Cond.selects RX9 yX9_seed yX9_seed, Cond.code yX9_seed cX9_seed 3 (some .int), Cond.methodLink RL 82 yX10_seed, Cond.instanceMethod yX10_seed, Cond.selects RX10 yX10_seed yX10_seed, Cond.code yX10_seed cX10_seed 3 (some .int), Cond.methodLink RL 83 yX9_apart, Cond.instanceMethod yX9_apart, Cond.selects RX9 yX9_apart yX9_apart, Cond.code yX9_apart cX9_apart 3 (some .int), Cond.methodLink RX9 221 yX2_learn]
def wsL_law_r30 : List Cond := [Cond.methodLink RX9 224 yX2_rollsFor, Cond.methodLink RX9 227 yX8_rolls, Cond.instanceMethod yX8_rolls, Cond.selects RX8 yX8_rolls yX8_rolls, Cond.code yX8_rolls cX8_rolls 4 (some .int), Cond.methodLink RX9 230 yX9_lowest, Cond.static yX9_lowest, Cond.code yX9_lowest cX9_lowest 7 (some .int), Cond.methodLink RL 86 yX10_apart, Cond.instanceMethod yX10_apart, Cond.selects RX10 yX10_apart yX10_apart, Cond.code yX10_apart cX10_apart 3 (some .int), Cond.methodLink RX10 236 yX10_apartOf, Cond.instanceMethod yX10_apartOf, Cond.selects RX10 yX10_apartOf yX10_apartOf, Cond.code yX10_apartOf cX10_apartOf 3 (some .int), Cond.methodLink RX10 229 yX10_whole, Cond.instanceMethod yX10_whole, Cond.selects RX10 yX10_whole yX10_whole, Cond.code yX10_whole cX10_whole 4 (some .int), Cond.methodLink RX10 232 yX10_lowest, Cond.static yX10_lowest, Cond.code yX10_lowest cX10_lowest 6 (some .int), Cond.methodLink RL 87 yX9_choose]
def wsL_law_r31 : List Cond := [Cond.instanceMethod yX9_choose, Cond.selects RX9 yX9_choose yX9_choose, Cond.code yX9_choose cX9_choose 3 (some .int), Cond.methodLink RL 90 yX10_choose, Cond.instanceMethod yX10_choose, Cond.selects RX10 yX10_choose yX10_choose, Cond.code yX10_choose cX10_choose 3 (some .int), Cond.methodLink RL 91 yX9_fewest, Cond.instanceMethod yX9_fewest, Cond.selects RX9 yX9_fewest yX9_fewest, Cond.code yX9_fewest cX9_fewest 1 (some .int), Cond.methodLink RX9 235 yX1_fewestFrom, Cond.instanceMethod yX1_fewestFrom, Cond.selects RX1 yX1_fewestFrom yX1_fewestFrom, Cond.code yX1_fewestFrom cX1_fewestFrom 2 (some .int), Cond.methodLink RX1 66 yX1_countFew, Cond.instanceMethod yX1_countFew, Cond.selects RX1 yX1_countFew yX1_countFew, Cond.code yX1_countFew cX1_countFew 7 none, Cond.methodLink RX1 73 yJ7_fill_53178, Cond.methodLink RX1 79 yX4_numberOf, Cond.methodLink RX1 69 yX0_get, Cond.methodLink RX1 85 yX4_after, Cond.methodLink RX1 89 yX8_barred]
def wsL_law_r32 : List Cond := [Cond.methodLink RL 94 yX10_fewest, Cond.instanceMethod yX10_fewest, Cond.selects RX10 yX10_fewest yX10_fewest, Cond.code yX10_fewest cX10_fewest 1 (some .int), Cond.methodLink RX10 254 yX10_fewestNow, Cond.instanceMethod yX10_fewestNow, Cond.selects RX10 yX10_fewestNow yX10_fewestNow, Cond.code yX10_fewestNow cX10_fewestNow 5 (some .int), Cond.constant RX10 253 (268435456), Cond.methodLink RL 95 yX9_surely, Cond.instanceMethod yX9_surely, Cond.selects RX9 yX9_surely yX9_surely, Cond.code yX9_surely cX9_surely 1 (some .int), Cond.methodLink RX9 238 yX1_surelyFrom, Cond.instanceMethod yX1_surelyFrom, Cond.selects RX1 yX1_surelyFrom yX1_surelyFrom, Cond.code yX1_surelyFrom cX1_surelyFrom 2 (some .int), Cond.methodLink RX1 93 yX1_countSure, Cond.instanceMethod yX1_countSure, Cond.selects RX1 yX1_countSure yX1_countSure, Cond.code yX1_countSure cX1_countSure 4 none, Cond.methodLink RX1 99 yX1_canForce, Cond.instanceMethod yX1_canForce, Cond.selects RX1 yX1_canForce yX1_canForce]
def wsL_law_r33 : List Cond := [Cond.code yX1_canForce cX1_canForce 6 (some .boolean), Cond.methodLink RX1 103 yX8_next, Cond.methodLink RX1 106 yX8_around, Cond.methodLink RL 98 yX10_surely, Cond.instanceMethod yX10_surely, Cond.selects RX10 yX10_surely yX10_surely, Cond.code yX10_surely cX10_surely 1 (some .int), Cond.methodLink RX10 261 yX10_surelyNow, Cond.instanceMethod yX10_surelyNow, Cond.selects RX10 yX10_surelyNow yX10_surelyNow, Cond.code yX10_surelyNow cX10_surelyNow 4 (some .int), Cond.methodLink RX10 257 yX10_isSure, Cond.instanceMethod yX10_isSure, Cond.selects RX10 yX10_isSure yX10_isSure, Cond.code yX10_isSure cX10_isSure 7 (some .boolean), Cond.methodLink RL 99 yX9_odds, Cond.instanceMethod yX9_odds, Cond.selects RX9 yX9_odds yX9_odds, Cond.code yX9_odds cX9_odds 6 (some .int), Cond.methodLink RX9 241 yX7_rolls, Cond.instanceMethod yX7_rolls, Cond.selects RX7 yX7_rolls yX7_rolls, Cond.code yX7_rolls cX7_rolls 7 (some .int), Cond.methodLink RX7 22 yJ7_fill_53178]
def wsL_law_r34 : List Cond := [Cond.methodLink RX7 28 yX0_put, Cond.methodLink RX7 40 yX7_placeAfter, Cond.instanceMethod yX7_placeAfter, Cond.selects RX7 yX7_placeAfter yX7_placeAfter, Cond.code yX7_placeAfter cX7_placeAfter 3 (some .int), Cond.methodLink RX7 52 yX8_barred, Cond.methodLink RX7 56 yX8_next, Cond.methodLink RX7 44 yX0_get, Cond.methodLink RX7 48 yX7_add, Cond.instanceMethod yX7_add, Cond.selects RX7 yX7_add yX7_add, Cond.code yX7_add cX7_add 3 none, Cond.methodLink RL 103 yX10_odds, Cond.instanceMethod yX10_odds, Cond.selects RX10 yX10_odds yX10_odds, Cond.code yX10_odds cX10_odds 5 (some .int), Cond.methodLink RX10 267 yX10_oddsOf, Cond.instanceMethod yX10_oddsOf, Cond.selects RX10 yX10_oddsOf yX10_oddsOf, Cond.code yX10_oddsOf cX10_oddsOf 9 (some .int), Cond.methodLink RX10 264 yX10_isStillPlace, Cond.instanceMethod yX10_isStillPlace, Cond.selects RX10 yX10_isStillPlace yX10_isStillPlace, Cond.code yX10_isStillPlace cX10_isStillPlace 2 (some .boolean)]
def wsL_law_r35 : List Cond := [Cond.methodLink RL 104 yX9_ways, Cond.instanceMethod yX9_ways, Cond.selects RX9 yX9_ways yX9_ways, Cond.code yX9_ways cX9_ways 2 (some .long), Cond.constantLong RX9 243 (-103), Cond.constantLong RX9 245 (-102), Cond.methodLink RX9 247 yX6_goBy, Cond.instanceMethod yX6_goBy, Cond.selects RX6 yX6_goBy yX6_goBy, Cond.code yX6_goBy cX6_goBy 4 none, Cond.methodLink RX6 33 yJ7_fill_d0a16, Cond.static yJ7_fill_d0a16, Cond.code yJ7_fill_d0a16 cJ7_fill_d0a16 5 none, Cond.methodLink RX6 39 yX0_put_, Cond.static yX0_put_, Cond.code yX0_put_ cX0_put_ 4 none, Cond.methodLink RX6 45 yX0_put, Cond.methodLink RX6 54 yX0_get_, Cond.static yX0_get_, Cond.code yX0_get_ cX0_get_ 2 (some .long), Cond.methodLink RX6 58 yX6_spread, Cond.instanceMethod yX6_spread, Cond.selects RX6 yX6_spread yX6_spread, Cond.code yX6_spread cX6_spread 6 none]
def wsL_law_r36 : List Cond := [Cond.methodLink RX6 70 yX8_barred, Cond.methodLink RX6 74 yX4_after, Cond.methodLink RX6 62 yX0_get, Cond.methodLink RX9 250 yX6_rowsTo, Cond.instanceMethod yX6_rowsTo, Cond.selects RX6 yX6_rowsTo yX6_rowsTo, Cond.code yX6_rowsTo cX6_rowsTo 2 (some .long), Cond.methodLink RL 108 yX10_ways, Cond.instanceMethod yX10_ways, Cond.selects RX10 yX10_ways yX10_ways, Cond.code yX10_ways cX10_ways 2 (some .long), Cond.constantLong RX10 270 (-103), Cond.constantLong RX10 276 (-102), Cond.methodLink RX10 272 yX10_waysOf, Cond.instanceMethod yX10_waysOf, Cond.selects RX10 yX10_waysOf yX10_waysOf, Cond.code yX10_waysOf cX10_waysOf 7 (some .long), Cond.methodLink RL 109 yX9_must, Cond.instanceMethod yX9_must, Cond.selects RX9 yX9_must yX9_must, Cond.code yX9_must cX9_must 2 (some .int), Cond.methodLink RX9 254 yX6_sharedTo, Cond.instanceMethod yX6_sharedTo, Cond.selects RX6 yX6_sharedTo yX6_sharedTo]
def wsL_law_r37 : List Cond := [Cond.code yX6_sharedTo cX6_sharedTo 2 (some .int), Cond.methodLink RX6 78 yX6_rowsTo, Cond.methodLink RL 112 yX10_must, Cond.instanceMethod yX10_must, Cond.selects RX10 yX10_must yX10_must, Cond.code yX10_must cX10_must 2 (some .int), Cond.methodLink RX10 278 yX10_mustOf, Cond.instanceMethod yX10_mustOf, Cond.selects RX10 yX10_mustOf yX10_mustOf, Cond.code yX10_mustOf cX10_mustOf 5 (some .int), Cond.methodLink RL 113 yX9_image, Cond.instanceMethod yX9_image, Cond.selects RX9 yX9_image yX9_image, Cond.code yX9_image cX9_image 1 (some .int), Cond.methodLink RX9 257 yX3_copy, Cond.instanceMethod yX3_copy, Cond.selects RX3 yX3_copy yX3_copy, Cond.code yX3_copy cX3_copy 3 none, Cond.methodLink RL 116 yX10_image, Cond.instanceMethod yX10_image, Cond.selects RX10 yX10_image yX10_image, Cond.code yX10_image cX10_image 2 (some .int), Cond.fieldLink RX10 281 "HousesThatChangeModel" "isKept" "Z", Cond.fieldLink RX10 284 "HousesThatChangeModel" "keptRing" "I"]
def wsL_law_r38 : List Cond := [Cond.fieldLink RX10 287 "HousesThatChangeModel" "keptNights" "I", Cond.fieldLink RX10 290 "HousesThatChangeModel" "keptSeed" "J", Cond.methodLink RL 117 yX9_restore, Cond.instanceMethod yX9_restore, Cond.selects RX9 yX9_restore yX9_restore, Cond.code yX9_restore cX9_restore 1 (some .int), Cond.methodLink RL 120 yX10_restore, Cond.instanceMethod yX10_restore, Cond.selects RX10 yX10_restore yX10_restore, Cond.code yX10_restore cX10_restore 2 (some .int), Cond.methodLink RL 121 yX9_count, Cond.instanceMethod yX9_count, Cond.selects RX9 yX9_count yX9_count, Cond.code yX9_count cX9_count 2 (some .int), Cond.methodLink RL 124 yX10_count, Cond.instanceMethod yX10_count, Cond.selects RX10 yX10_count yX10_count, Cond.code yX10_count cX10_count 2 (some .int), Cond.methodLink RX10 296 yX10_howMany, Cond.instanceMethod yX10_howMany, Cond.selects RX10 yX10_howMany yX10_howMany, Cond.code yX10_howMany cX10_howMany 2 (some .int), Cond.methodLink RX10 293 yX10_feudMany, Cond.instanceMethod yX10_feudMany]
def wsL_law_r39 : List Cond := [Cond.selects RX10 yX10_feudMany yX10_feudMany, Cond.code yX10_feudMany cX10_feudMany 4 (some .int), Cond.methodLink RL 125 yX9_digest, Cond.instanceMethod yX9_digest, Cond.selects RX9 yX9_digest yX9_digest, Cond.code yX9_digest cX9_digest 4 (some .long), Cond.constantLong RX9 267 (571), Cond.constantLong RX9 273 (31), Cond.methodLink RX9 269 yX9_houseInto, Cond.instanceMethod yX9_houseInto, Cond.selects RX9 yX9_houseInto yX9_houseInto, Cond.code yX9_houseInto cX9_houseInto 7 (some .long), Cond.methodLink RX9 299 yX9_house, Cond.methodLink RX9 302 yX9_feud, Cond.methodLink RX9 305 yX9_walk, Cond.methodLink RX9 275 yX9_touch, Cond.methodLink RX9 278 yX9_joins, Cond.methodLink RX9 281 yX9_apart, Cond.methodLink RX9 284 yX9_ways, Cond.methodLink RX9 287 yX9_must, Cond.methodLink RX9 290 yX9_fewest, Cond.methodLink RX9 293 yX9_surely, Cond.methodLink RX9 296 yX9_count, Cond.methodLink RL 129 yX10_digest]
def wsL_law_r40 : List Cond := [Cond.instanceMethod yX10_digest, Cond.selects RX10 yX10_digest yX10_digest, Cond.code yX10_digest cX10_digest 2 (some .long), Cond.constantLong RX10 308 (571), Cond.fieldLink RX10 301 "HousesThatChangeModel" "h" "J", Cond.methodLink RX10 310 yX10_mixHouse, Cond.instanceMethod yX10_mixHouse, Cond.selects RX10 yX10_mixHouse yX10_mixHouse, Cond.code yX10_mixHouse cX10_mixHouse 3 none, Cond.methodLink RX10 304 yX10_mix, Cond.instanceMethod yX10_mix, Cond.selects RX10 yX10_mix yX10_mix, Cond.code yX10_mix cX10_mix 3 none, Cond.constantLong RX10 299 (31)]
def wsL_law : List Cond := (wsL_law_r1 ++ (wsL_law_r2 ++ (wsL_law_r3 ++ (wsL_law_r4 ++ (wsL_law_r5 ++ (wsL_law_r6 ++ (wsL_law_r7 ++ (wsL_law_r8 ++ (wsL_law_r9 ++ (wsL_law_r10 ++ (wsL_law_r11 ++ (wsL_law_r12 ++ (wsL_law_r13 ++ (wsL_law_r14 ++ (wsL_law_r15 ++ (wsL_law_r16 ++ (wsL_law_r17 ++ (wsL_law_r18 ++ (wsL_law_r19 ++ (wsL_law_r20 ++ (wsL_law_r21 ++ (wsL_law_r22 ++ (wsL_law_r23 ++ (wsL_law_r24 ++ (wsL_law_r25 ++ (wsL_law_r26 ++ (wsL_law_r27 ++ (wsL_law_r28 ++ (wsL_law_r29 ++ (wsL_law_r30 ++ (wsL_law_r31 ++ (wsL_law_r32 ++ (wsL_law_r33 ++ (wsL_law_r34 ++ (wsL_law_r35 ++ (wsL_law_r36 ++ (wsL_law_r37 ++ (wsL_law_r38 ++ (wsL_law_r39 ++ wsL_law_r40))))))))))))))))))))))))))))))))))))))) ++ wsX90 ++ wsX100 ++ wsX80 ++ wsX40 ++ wsX50 ++ wsX30 ++ wsX20 ++ wsX10 ++ wsX60 ++ wsX70 ++ ([] : List Cond)
theorem inlX1 : ∀ w ∈ wsX10, w ∈ wsL_law := fun _ h => List.mem_append_left _ (List.mem_append_left _ (List.mem_append_left _ (List.mem_append_right _ h)))
theorem inlX2 : ∀ w ∈ wsX20, w ∈ wsL_law := fun _ h => List.mem_append_left _ (List.mem_append_left _ (List.mem_append_left _ (List.mem_append_left _ (List.mem_append_right _ h))))
theorem inlX3 : ∀ w ∈ wsX30, w ∈ wsL_law := fun _ h => List.mem_append_left _ (List.mem_append_left _ (List.mem_append_left _ (List.mem_append_left _ (List.mem_append_left _ (List.mem_append_right _ h)))))
theorem inlX4 : ∀ w ∈ wsX40, w ∈ wsL_law := fun _ h => List.mem_append_left _ (List.mem_append_left _ (List.mem_append_left _ (List.mem_append_left _ (List.mem_append_left _ (List.mem_append_left _ (List.mem_append_left _ (List.mem_append_right _ h)))))))
theorem inlX5 : ∀ w ∈ wsX50, w ∈ wsL_law := fun _ h => List.mem_append_left _ (List.mem_append_left _ (List.mem_append_left _ (List.mem_append_left _ (List.mem_append_left _ (List.mem_append_left _ (List.mem_append_right _ h))))))
theorem inlX6 : ∀ w ∈ wsX60, w ∈ wsL_law := fun _ h => List.mem_append_left _ (List.mem_append_left _ (List.mem_append_right _ h))
theorem inlX7 : ∀ w ∈ wsX70, w ∈ wsL_law := fun _ h => List.mem_append_left _ (List.mem_append_right _ h)
theorem inlX8 : ∀ w ∈ wsX80, w ∈ wsL_law := fun _ h => List.mem_append_left _ (List.mem_append_left _ (List.mem_append_left _ (List.mem_append_left _ (List.mem_append_left _ (List.mem_append_left _ (List.mem_append_left _ (List.mem_append_left _ (List.mem_append_right _ h))))))))
theorem inlX9 : ∀ w ∈ wsX90, w ∈ wsL_law := fun _ h => List.mem_append_left _ (List.mem_append_left _ (List.mem_append_left _ (List.mem_append_left _ (List.mem_append_left _ (List.mem_append_left _ (List.mem_append_left _ (List.mem_append_left _ (List.mem_append_left _ (List.mem_append_left _ (List.mem_append_right _ h))))))))))
theorem inlX10 : ∀ w ∈ wsX100, w ∈ wsL_law := fun _ h => List.mem_append_left _ (List.mem_append_left _ (List.mem_append_left _ (List.mem_append_left _ (List.mem_append_left _ (List.mem_append_left _ (List.mem_append_left _ (List.mem_append_left _ (List.mem_append_left _ (List.mem_append_right _ h)))))))))
abbrev vwCl : List vw_C := [(RX1, TX1, 9), (RX2, TX2, 5), (RX3, TX3, 4), (RX4, TX4, 4), (RX5, TX5, 2), (RX6, TX6, 6), (RX7, TX7, 3), (RX8, TX8, 5), (RX9, TX9, 11), (RX10, TX10, 43)]
