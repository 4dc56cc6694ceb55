theorem dX0_get_0 : decode cX0_get 0 = .ok (.iload_n 1, 1) := by decide +kernel
theorem dX0_get_1 : decode cX0_get 1 = .ok (.ifCond .lt 15, 3) := by decide +kernel
theorem dX0_get_4 : decode cX0_get 4 = .ok (.iload_n 1, 1) := by decide +kernel
theorem dX0_get_5 : decode cX0_get 5 = .ok (.aload_n 0, 1) := by decide +kernel
theorem dX0_get_6 : decode cX0_get 6 = .ok (.arraylength, 1) := by decide +kernel
theorem dX0_get_7 : decode cX0_get 7 = .ok (.if_icmp .ge 9, 3) := by decide +kernel
theorem dX0_get_10 : decode cX0_get 10 = .ok (.aload_n 0, 1) := by decide +kernel
theorem dX0_get_11 : decode cX0_get 11 = .ok (.iload_n 1, 1) := by decide +kernel
theorem dX0_get_12 : decode cX0_get 12 = .ok (.iaload, 1) := by decide +kernel
theorem dX0_get_13 : decode cX0_get 13 = .ok (.goto 4, 3) := by decide +kernel
theorem dX0_get_16 : decode cX0_get 16 = .ok (.iconst 0, 1) := by decide +kernel
theorem dX0_get_17 : decode cX0_get 17 = .ok (.ireturn, 1) := by decide +kernel
theorem dX0_put_0 : decode cX0_put 0 = .ok (.iload_n 1, 1) := by decide +kernel
theorem dX0_put_1 : decode cX0_put 1 = .ok (.ifCond .lt 13, 3) := by decide +kernel
theorem dX0_put_4 : decode cX0_put 4 = .ok (.iload_n 1, 1) := by decide +kernel
theorem dX0_put_5 : decode cX0_put 5 = .ok (.aload_n 0, 1) := by decide +kernel
theorem dX0_put_6 : decode cX0_put 6 = .ok (.arraylength, 1) := by decide +kernel
theorem dX0_put_7 : decode cX0_put 7 = .ok (.if_icmp .ge 7, 3) := by decide +kernel
theorem dX0_put_10 : decode cX0_put 10 = .ok (.aload_n 0, 1) := by decide +kernel
theorem dX0_put_11 : decode cX0_put 11 = .ok (.iload_n 1, 1) := by decide +kernel
theorem dX0_put_12 : decode cX0_put 12 = .ok (.iload_n 2, 1) := by decide +kernel
theorem dX0_put_13 : decode cX0_put 13 = .ok (.iastore, 1) := by decide +kernel
theorem dX0_put_14 : decode cX0_put 14 = .ok (.return_, 1) := by decide +kernel
theorem dX0_get__0 : decode cX0_get_ 0 = .ok (.iload_n 1, 1) := by decide +kernel
theorem dX0_get__1 : decode cX0_get_ 1 = .ok (.ifCond .lt 15, 3) := by decide +kernel
theorem dX0_get__4 : decode cX0_get_ 4 = .ok (.iload_n 1, 1) := by decide +kernel
theorem dX0_get__5 : decode cX0_get_ 5 = .ok (.aload_n 0, 1) := by decide +kernel
theorem dX0_get__6 : decode cX0_get_ 6 = .ok (.arraylength, 1) := by decide +kernel
theorem dX0_get__7 : decode cX0_get_ 7 = .ok (.if_icmp .ge 9, 3) := by decide +kernel
theorem dX0_get__10 : decode cX0_get_ 10 = .ok (.aload_n 0, 1) := by decide +kernel
theorem dX0_get__11 : decode cX0_get_ 11 = .ok (.iload_n 1, 1) := by decide +kernel
theorem dX0_get__12 : decode cX0_get_ 12 = .ok (.laload, 1) := by decide +kernel
theorem dX0_get__13 : decode cX0_get_ 13 = .ok (.goto 4, 3) := by decide +kernel
theorem dX0_get__16 : decode cX0_get_ 16 = .ok (.lconst 0, 1) := by decide +kernel
theorem dX0_get__17 : decode cX0_get_ 17 = .ok (.lreturn, 1) := by decide +kernel
theorem dX0_put__0 : decode cX0_put_ 0 = .ok (.iload_n 1, 1) := by decide +kernel
theorem dX0_put__1 : decode cX0_put_ 1 = .ok (.ifCond .lt 13, 3) := by decide +kernel
theorem dX0_put__4 : decode cX0_put_ 4 = .ok (.iload_n 1, 1) := by decide +kernel
theorem dX0_put__5 : decode cX0_put_ 5 = .ok (.aload_n 0, 1) := by decide +kernel
theorem dX0_put__6 : decode cX0_put_ 6 = .ok (.arraylength, 1) := by decide +kernel
theorem dX0_put__7 : decode cX0_put_ 7 = .ok (.if_icmp .ge 7, 3) := by decide +kernel
theorem dX0_put__10 : decode cX0_put_ 10 = .ok (.aload_n 0, 1) := by decide +kernel
theorem dX0_put__11 : decode cX0_put_ 11 = .ok (.iload_n 1, 1) := by decide +kernel
theorem dX0_put__12 : decode cX0_put_ 12 = .ok (.lload_n 2, 1) := by decide +kernel
theorem dX0_put__13 : decode cX0_put_ 13 = .ok (.lastore, 1) := by decide +kernel
theorem dX0_put__14 : decode cX0_put_ 14 = .ok (.return_, 1) := by decide +kernel
theorem dX1_init_0 : decode cX1_init 0 = .ok (.aload_n 0, 1) := by decide +kernel
theorem dX1_init_1 : decode cX1_init 1 = .ok (.invokespecial 3, 3) := by decide +kernel
theorem dX1_init_4 : decode cX1_init 4 = .ok (.aload_n 0, 1) := by decide +kernel
theorem dX1_init_5 : decode cX1_init 5 = .ok (.bipush 6, 2) := by decide +kernel
theorem dX1_init_7 : decode cX1_init 7 = .ok (.newarray .int, 2) := by decide +kernel
theorem dX1_init_9 : decode cX1_init 9 = .ok (.putfield 9, 3) := by decide +kernel
theorem dX1_init_12 : decode cX1_init 12 = .ok (.aload_n 0, 1) := by decide +kernel
theorem dX1_init_13 : decode cX1_init 13 = .ok (.sipush 720, 3) := by decide +kernel
theorem dX1_init_16 : decode cX1_init 16 = .ok (.newarray .int, 2) := by decide +kernel
theorem dX1_init_18 : decode cX1_init 18 = .ok (.putfield 15, 3) := by decide +kernel
theorem dX1_init_21 : decode cX1_init 21 = .ok (.aload_n 0, 1) := by decide +kernel
theorem dX1_init_22 : decode cX1_init 22 = .ok (.sipush 720, 3) := by decide +kernel
theorem dX1_init_25 : decode cX1_init 25 = .ok (.newarray .int, 2) := by decide +kernel
theorem dX1_init_27 : decode cX1_init 27 = .ok (.putfield 18, 3) := by decide +kernel
theorem dX1_init_30 : decode cX1_init 30 = .ok (.aload_n 0, 1) := by decide +kernel
theorem dX1_init_31 : decode cX1_init 31 = .ok (.sipush 720, 3) := by decide +kernel
theorem dX1_init_34 : decode cX1_init 34 = .ok (.newarray .int, 2) := by decide +kernel
theorem dX1_init_36 : decode cX1_init 36 = .ok (.putfield 21, 3) := by decide +kernel
theorem dX1_init_39 : decode cX1_init 39 = .ok (.aload_n 0, 1) := by decide +kernel
theorem dX1_init_40 : decode cX1_init 40 = .ok (.aload_n 1, 1) := by decide +kernel
theorem dX1_init_41 : decode cX1_init 41 = .ok (.putfield 24, 3) := by decide +kernel
theorem dX1_init_44 : decode cX1_init 44 = .ok (.aload_n 0, 1) := by decide +kernel
theorem dX1_init_45 : decode cX1_init 45 = .ok (.aload_n 2, 1) := by decide +kernel
theorem dX1_init_46 : decode cX1_init 46 = .ok (.putfield 28, 3) := by decide +kernel
theorem dX1_init_49 : decode cX1_init 49 = .ok (.return_, 1) := by decide +kernel
theorem dX1_forget_0 : decode cX1_forget 0 = .ok (.aload_n 0, 1) := by decide +kernel
theorem dX1_forget_1 : decode cX1_forget 1 = .ok (.iconst 0, 1) := by decide +kernel
theorem dX1_forget_2 : decode cX1_forget 2 = .ok (.putfield 32, 3) := by decide +kernel
theorem dX1_forget_5 : decode cX1_forget 5 = .ok (.return_, 1) := by decide +kernel
theorem dX1_placeOf_0 : decode cX1_placeOf 0 = .ok (.aload_n 0, 1) := by decide +kernel
theorem dX1_placeOf_1 : decode cX1_placeOf 1 = .ok (.getfield 32, 3) := by decide +kernel
theorem dX1_placeOf_4 : decode cX1_placeOf 4 = .ok (.ifCond .eq 21, 3) := by decide +kernel
theorem dX1_placeOf_7 : decode cX1_placeOf 7 = .ok (.aload_n 0, 1) := by decide +kernel
theorem dX1_placeOf_8 : decode cX1_placeOf 8 = .ok (.getfield 9, 3) := by decide +kernel
theorem dX1_placeOf_11 : decode cX1_placeOf 11 = .ok (.iload_n 1, 1) := by decide +kernel
theorem dX1_placeOf_12 : decode cX1_placeOf 12 = .ok (.aload_n 0, 1) := by decide +kernel
theorem dX1_placeOf_13 : decode cX1_placeOf 13 = .ok (.getfield 24, 3) := by decide +kernel
theorem dX1_placeOf_16 : decode cX1_placeOf 16 = .ok (.getfield 36, 3) := by decide +kernel
theorem dX1_placeOf_19 : decode cX1_placeOf 19 = .ok (.invokestatic 60, 3) := by decide +kernel
theorem dX1_placeOf_22 : decode cX1_placeOf 22 = .ok (.goto 4, 3) := by decide +kernel
theorem dX1_placeOf_25 : decode cX1_placeOf 25 = .ok (.iconst (-1), 1) := by decide +kernel
theorem dX1_placeOf_26 : decode cX1_placeOf 26 = .ok (.ireturn, 1) := by decide +kernel
theorem dX1_fewestFrom_0 : decode cX1_fewestFrom 0 = .ok (.aload_n 0, 1) := by decide +kernel
theorem dX1_fewestFrom_1 : decode cX1_fewestFrom 1 = .ok (.getfield 54, 3) := by decide +kernel
theorem dX1_fewestFrom_4 : decode cX1_fewestFrom 4 = .ok (.ifCond .ne 12, 3) := by decide +kernel
theorem dX1_fewestFrom_7 : decode cX1_fewestFrom 7 = .ok (.aload_n 0, 1) := by decide +kernel
theorem dX1_fewestFrom_8 : decode cX1_fewestFrom 8 = .ok (.invokevirtual 66, 3) := by decide +kernel
theorem dX1_fewestFrom_11 : decode cX1_fewestFrom 11 = .ok (.aload_n 0, 1) := by decide +kernel
theorem dX1_fewestFrom_12 : decode cX1_fewestFrom 12 = .ok (.iconst 1, 1) := by decide +kernel
theorem dX1_fewestFrom_13 : decode cX1_fewestFrom 13 = .ok (.putfield 54, 3) := by decide +kernel
theorem dX1_fewestFrom_16 : decode cX1_fewestFrom 16 = .ok (.aload_n 0, 1) := by decide +kernel
theorem dX1_fewestFrom_17 : decode cX1_fewestFrom 17 = .ok (.getfield 15, 3) := by decide +kernel
theorem dX1_fewestFrom_20 : decode cX1_fewestFrom 20 = .ok (.iload_n 1, 1) := by decide +kernel
theorem dX1_fewestFrom_21 : decode cX1_fewestFrom 21 = .ok (.invokestatic 69, 3) := by decide +kernel
theorem dX1_fewestFrom_24 : decode cX1_fewestFrom 24 = .ok (.ireturn, 1) := by decide +kernel
theorem dX1_countFew_0 : decode cX1_countFew 0 = .ok (.aload_n 0, 1) := by decide +kernel
theorem dX1_countFew_1 : decode cX1_countFew 1 = .ok (.getfield 15, 3) := by decide +kernel
theorem dX1_countFew_4 : decode cX1_countFew 4 = .ok (.iconst (-1), 1) := by decide +kernel
theorem dX1_countFew_5 : decode cX1_countFew 5 = .ok (.invokestatic 73, 3) := by decide +kernel
theorem dX1_countFew_8 : decode cX1_countFew 8 = .ok (.aload_n 0, 1) := by decide +kernel
theorem dX1_countFew_9 : decode cX1_countFew 9 = .ok (.getfield 28, 3) := by decide +kernel
theorem dX1_countFew_12 : decode cX1_countFew 12 = .ok (.aload_n 0, 1) := by decide +kernel
theorem dX1_countFew_13 : decode cX1_countFew 13 = .ok (.getfield 9, 3) := by decide +kernel
theorem dX1_countFew_16 : decode cX1_countFew 16 = .ok (.invokevirtual 79, 3) := by decide +kernel
theorem dX1_countFew_19 : decode cX1_countFew 19 = .ok (.istore_n 1, 1) := by decide +kernel
theorem dX1_countFew_20 : decode cX1_countFew 20 = .ok (.aload_n 0, 1) := by decide +kernel
theorem dX1_countFew_21 : decode cX1_countFew 21 = .ok (.getfield 15, 3) := by decide +kernel
theorem dX1_countFew_24 : decode cX1_countFew 24 = .ok (.iload_n 1, 1) := by decide +kernel
theorem dX1_countFew_25 : decode cX1_countFew 25 = .ok (.iconst 0, 1) := by decide +kernel
theorem dX1_countFew_26 : decode cX1_countFew 26 = .ok (.invokestatic 48, 3) := by decide +kernel
theorem dX1_countFew_29 : decode cX1_countFew 29 = .ok (.aload_n 0, 1) := by decide +kernel
theorem dX1_countFew_30 : decode cX1_countFew 30 = .ok (.getfield 21, 3) := by decide +kernel
theorem dX1_countFew_33 : decode cX1_countFew 33 = .ok (.iconst 0, 1) := by decide +kernel
theorem dX1_countFew_34 : decode cX1_countFew 34 = .ok (.iload_n 1, 1) := by decide +kernel
theorem dX1_countFew_35 : decode cX1_countFew 35 = .ok (.invokestatic 48, 3) := by decide +kernel
theorem dX1_countFew_38 : decode cX1_countFew 38 = .ok (.iconst 1, 1) := by decide +kernel
theorem dX1_countFew_39 : decode cX1_countFew 39 = .ok (.istore_n 2, 1) := by decide +kernel
theorem dX1_countFew_40 : decode cX1_countFew 40 = .ok (.iconst 0, 1) := by decide +kernel
theorem dX1_countFew_41 : decode cX1_countFew 41 = .ok (.istore_n 3, 1) := by decide +kernel
theorem dX1_countFew_42 : decode cX1_countFew 42 = .ok (.iload_n 3, 1) := by decide +kernel
theorem dX1_countFew_43 : decode cX1_countFew 43 = .ok (.iload_n 2, 1) := by decide +kernel
theorem dX1_countFew_44 : decode cX1_countFew 44 = .ok (.if_icmp .ge 118, 3) := by decide +kernel
theorem dX1_countFew_47 : decode cX1_countFew 47 = .ok (.iload_n 3, 1) := by decide +kernel
theorem dX1_countFew_48 : decode cX1_countFew 48 = .ok (.sipush 720, 3) := by decide +kernel
theorem dX1_countFew_51 : decode cX1_countFew 51 = .ok (.if_icmp .ge 111, 3) := by decide +kernel
theorem dX1_countFew_54 : decode cX1_countFew 54 = .ok (.aload_n 0, 1) := by decide +kernel
theorem dX1_countFew_55 : decode cX1_countFew 55 = .ok (.getfield 21, 3) := by decide +kernel
theorem dX1_countFew_58 : decode cX1_countFew 58 = .ok (.iload_n 3, 1) := by decide +kernel
theorem dX1_countFew_59 : decode cX1_countFew 59 = .ok (.invokestatic 69, 3) := by decide +kernel
theorem dX1_countFew_62 : decode cX1_countFew 62 = .ok (.istore 4, 2) := by decide +kernel
theorem dX1_countFew_64 : decode cX1_countFew 64 = .ok (.iconst 0, 1) := by decide +kernel
theorem dX1_countFew_65 : decode cX1_countFew 65 = .ok (.istore 5, 2) := by decide +kernel
theorem dX1_countFew_67 : decode cX1_countFew 67 = .ok (.iload 5, 2) := by decide +kernel
theorem dX1_countFew_69 : decode cX1_countFew 69 = .ok (.aload_n 0, 1) := by decide +kernel
theorem dX1_countFew_70 : decode cX1_countFew 70 = .ok (.getfield 24, 3) := by decide +kernel
theorem dX1_countFew_73 : decode cX1_countFew 73 = .ok (.getfield 36, 3) := by decide +kernel
theorem dX1_countFew_76 : decode cX1_countFew 76 = .ok (.if_icmp .ge 80, 3) := by decide +kernel
theorem dX1_countFew_79 : decode cX1_countFew 79 = .ok (.aload_n 0, 1) := by decide +kernel
theorem dX1_countFew_80 : decode cX1_countFew 80 = .ok (.getfield 28, 3) := by decide +kernel
theorem dX1_countFew_83 : decode cX1_countFew 83 = .ok (.iload 4, 2) := by decide +kernel
theorem dX1_countFew_85 : decode cX1_countFew 85 = .ok (.iload 5, 2) := by decide +kernel
theorem dX1_countFew_87 : decode cX1_countFew 87 = .ok (.invokevirtual 85, 3) := by decide +kernel
theorem dX1_countFew_90 : decode cX1_countFew 90 = .ok (.istore 6, 2) := by decide +kernel
theorem dX1_countFew_92 : decode cX1_countFew 92 = .ok (.aload_n 0, 1) := by decide +kernel
theorem dX1_countFew_93 : decode cX1_countFew 93 = .ok (.getfield 24, 3) := by decide +kernel
theorem dX1_countFew_96 : decode cX1_countFew 96 = .ok (.iload 5, 2) := by decide +kernel
theorem dX1_countFew_98 : decode cX1_countFew 98 = .ok (.invokevirtual 89, 3) := by decide +kernel
theorem dX1_countFew_101 : decode cX1_countFew 101 = .ok (.ifCond .ne 49, 3) := by decide +kernel
theorem dX1_countFew_104 : decode cX1_countFew 104 = .ok (.aload_n 0, 1) := by decide +kernel
theorem dX1_countFew_105 : decode cX1_countFew 105 = .ok (.getfield 15, 3) := by decide +kernel
theorem dX1_countFew_108 : decode cX1_countFew 108 = .ok (.iload 6, 2) := by decide +kernel
theorem dX1_countFew_110 : decode cX1_countFew 110 = .ok (.invokestatic 69, 3) := by decide +kernel
theorem dX1_countFew_113 : decode cX1_countFew 113 = .ok (.iconst (-1), 1) := by decide +kernel
theorem dX1_countFew_114 : decode cX1_countFew 114 = .ok (.if_icmp .ne 36, 3) := by decide +kernel
theorem dX1_countFew_117 : decode cX1_countFew 117 = .ok (.aload_n 0, 1) := by decide +kernel
theorem dX1_countFew_118 : decode cX1_countFew 118 = .ok (.getfield 15, 3) := by decide +kernel
theorem dX1_countFew_121 : decode cX1_countFew 121 = .ok (.iload 6, 2) := by decide +kernel
theorem dX1_countFew_123 : decode cX1_countFew 123 = .ok (.aload_n 0, 1) := by decide +kernel
theorem dX1_countFew_124 : decode cX1_countFew 124 = .ok (.getfield 15, 3) := by decide +kernel
theorem dX1_countFew_127 : decode cX1_countFew 127 = .ok (.iload 4, 2) := by decide +kernel
theorem dX1_countFew_129 : decode cX1_countFew 129 = .ok (.invokestatic 69, 3) := by decide +kernel
theorem dX1_countFew_132 : decode cX1_countFew 132 = .ok (.iconst 1, 1) := by decide +kernel
theorem dX1_countFew_133 : decode cX1_countFew 133 = .ok (.iadd, 1) := by decide +kernel
theorem dX1_countFew_134 : decode cX1_countFew 134 = .ok (.invokestatic 48, 3) := by decide +kernel
theorem dX1_countFew_137 : decode cX1_countFew 137 = .ok (.aload_n 0, 1) := by decide +kernel
theorem dX1_countFew_138 : decode cX1_countFew 138 = .ok (.getfield 21, 3) := by decide +kernel
theorem dX1_countFew_141 : decode cX1_countFew 141 = .ok (.iload_n 2, 1) := by decide +kernel
theorem dX1_countFew_142 : decode cX1_countFew 142 = .ok (.iload 6, 2) := by decide +kernel
theorem dX1_countFew_144 : decode cX1_countFew 144 = .ok (.invokestatic 48, 3) := by decide +kernel
theorem dX1_countFew_147 : decode cX1_countFew 147 = .ok (.iinc 2 1, 3) := by decide +kernel
theorem dX1_countFew_150 : decode cX1_countFew 150 = .ok (.iinc 5 1, 3) := by decide +kernel
theorem dX1_countFew_153 : decode cX1_countFew 153 = .ok (.goto (-86), 3) := by decide +kernel
theorem dX1_countFew_156 : decode cX1_countFew 156 = .ok (.iinc 3 1, 3) := by decide +kernel
theorem dX1_countFew_159 : decode cX1_countFew 159 = .ok (.goto (-117), 3) := by decide +kernel
theorem dX1_countFew_162 : decode cX1_countFew 162 = .ok (.return_, 1) := by decide +kernel
theorem dX1_surelyFrom_0 : decode cX1_surelyFrom 0 = .ok (.aload_n 0, 1) := by decide +kernel
theorem dX1_surelyFrom_1 : decode cX1_surelyFrom 1 = .ok (.getfield 57, 3) := by decide +kernel
theorem dX1_surelyFrom_4 : decode cX1_surelyFrom 4 = .ok (.ifCond .ne 12, 3) := by decide +kernel
theorem dX1_surelyFrom_7 : decode cX1_surelyFrom 7 = .ok (.aload_n 0, 1) := by decide +kernel
theorem dX1_surelyFrom_8 : decode cX1_surelyFrom 8 = .ok (.invokevirtual 93, 3) := by decide +kernel
theorem dX1_surelyFrom_11 : decode cX1_surelyFrom 11 = .ok (.aload_n 0, 1) := by decide +kernel
theorem dX1_surelyFrom_12 : decode cX1_surelyFrom 12 = .ok (.iconst 1, 1) := by decide +kernel
theorem dX1_surelyFrom_13 : decode cX1_surelyFrom 13 = .ok (.putfield 57, 3) := by decide +kernel
theorem dX1_surelyFrom_16 : decode cX1_surelyFrom 16 = .ok (.aload_n 0, 1) := by decide +kernel
theorem dX1_surelyFrom_17 : decode cX1_surelyFrom 17 = .ok (.getfield 18, 3) := by decide +kernel
theorem dX1_surelyFrom_20 : decode cX1_surelyFrom 20 = .ok (.iload_n 1, 1) := by decide +kernel
theorem dX1_surelyFrom_21 : decode cX1_surelyFrom 21 = .ok (.invokestatic 69, 3) := by decide +kernel
theorem dX1_surelyFrom_24 : decode cX1_surelyFrom 24 = .ok (.ireturn, 1) := by decide +kernel
theorem dX1_countSure_0 : decode cX1_countSure 0 = .ok (.aload_n 0, 1) := by decide +kernel
theorem dX1_countSure_1 : decode cX1_countSure 1 = .ok (.getfield 18, 3) := by decide +kernel
theorem dX1_countSure_4 : decode cX1_countSure 4 = .ok (.iconst (-1), 1) := by decide +kernel
theorem dX1_countSure_5 : decode cX1_countSure 5 = .ok (.invokestatic 73, 3) := by decide +kernel
theorem dX1_countSure_8 : decode cX1_countSure 8 = .ok (.aload_n 0, 1) := by decide +kernel
theorem dX1_countSure_9 : decode cX1_countSure 9 = .ok (.getfield 18, 3) := by decide +kernel
theorem dX1_countSure_12 : decode cX1_countSure 12 = .ok (.aload_n 0, 1) := by decide +kernel
theorem dX1_countSure_13 : decode cX1_countSure 13 = .ok (.getfield 28, 3) := by decide +kernel
theorem dX1_countSure_16 : decode cX1_countSure 16 = .ok (.aload_n 0, 1) := by decide +kernel
theorem dX1_countSure_17 : decode cX1_countSure 17 = .ok (.getfield 9, 3) := by decide +kernel
theorem dX1_countSure_20 : decode cX1_countSure 20 = .ok (.invokevirtual 79, 3) := by decide +kernel
theorem dX1_countSure_23 : decode cX1_countSure 23 = .ok (.iconst 0, 1) := by decide +kernel
theorem dX1_countSure_24 : decode cX1_countSure 24 = .ok (.invokestatic 48, 3) := by decide +kernel
theorem dX1_countSure_27 : decode cX1_countSure 27 = .ok (.iconst 1, 1) := by decide +kernel
theorem dX1_countSure_28 : decode cX1_countSure 28 = .ok (.istore_n 1, 1) := by decide +kernel
theorem dX1_countSure_29 : decode cX1_countSure 29 = .ok (.iconst 1, 1) := by decide +kernel
theorem dX1_countSure_30 : decode cX1_countSure 30 = .ok (.istore_n 2, 1) := by decide +kernel
theorem dX1_countSure_31 : decode cX1_countSure 31 = .ok (.iload_n 1, 1) := by decide +kernel
theorem dX1_countSure_32 : decode cX1_countSure 32 = .ok (.ifCond .eq 69, 3) := by decide +kernel
theorem dX1_countSure_35 : decode cX1_countSure 35 = .ok (.iload_n 2, 1) := by decide +kernel
theorem dX1_countSure_36 : decode cX1_countSure 36 = .ok (.sipush 720, 3) := by decide +kernel
theorem dX1_countSure_39 : decode cX1_countSure 39 = .ok (.if_icmp .gt 62, 3) := by decide +kernel
theorem dX1_countSure_42 : decode cX1_countSure 42 = .ok (.iconst 0, 1) := by decide +kernel
theorem dX1_countSure_43 : decode cX1_countSure 43 = .ok (.istore_n 1, 1) := by decide +kernel
theorem dX1_countSure_44 : decode cX1_countSure 44 = .ok (.iconst 0, 1) := by decide +kernel
theorem dX1_countSure_45 : decode cX1_countSure 45 = .ok (.istore_n 3, 1) := by decide +kernel
theorem dX1_countSure_46 : decode cX1_countSure 46 = .ok (.iload_n 3, 1) := by decide +kernel
theorem dX1_countSure_47 : decode cX1_countSure 47 = .ok (.aload_n 0, 1) := by decide +kernel
theorem dX1_countSure_48 : decode cX1_countSure 48 = .ok (.getfield 28, 3) := by decide +kernel
theorem dX1_countSure_51 : decode cX1_countSure 51 = .ok (.getfield 96, 3) := by decide +kernel
theorem dX1_countSure_54 : decode cX1_countSure 54 = .ok (.if_icmp .ge 41, 3) := by decide +kernel
theorem dX1_countSure_57 : decode cX1_countSure 57 = .ok (.aload_n 0, 1) := by decide +kernel
theorem dX1_countSure_58 : decode cX1_countSure 58 = .ok (.getfield 18, 3) := by decide +kernel
theorem dX1_countSure_61 : decode cX1_countSure 61 = .ok (.iload_n 3, 1) := by decide +kernel
theorem dX1_countSure_62 : decode cX1_countSure 62 = .ok (.invokestatic 69, 3) := by decide +kernel
theorem dX1_countSure_65 : decode cX1_countSure 65 = .ok (.iconst (-1), 1) := by decide +kernel
theorem dX1_countSure_66 : decode cX1_countSure 66 = .ok (.if_icmp .ne 23, 3) := by decide +kernel
theorem dX1_countSure_69 : decode cX1_countSure 69 = .ok (.aload_n 0, 1) := by decide +kernel
theorem dX1_countSure_70 : decode cX1_countSure 70 = .ok (.iload_n 3, 1) := by decide +kernel
theorem dX1_countSure_71 : decode cX1_countSure 71 = .ok (.iload_n 2, 1) := by decide +kernel
theorem dX1_countSure_72 : decode cX1_countSure 72 = .ok (.invokevirtual 99, 3) := by decide +kernel
theorem dX1_countSure_75 : decode cX1_countSure 75 = .ok (.ifCond .eq 14, 3) := by decide +kernel
theorem dX1_countSure_78 : decode cX1_countSure 78 = .ok (.aload_n 0, 1) := by decide +kernel
theorem dX1_countSure_79 : decode cX1_countSure 79 = .ok (.getfield 18, 3) := by decide +kernel
theorem dX1_countSure_82 : decode cX1_countSure 82 = .ok (.iload_n 3, 1) := by decide +kernel
theorem dX1_countSure_83 : decode cX1_countSure 83 = .ok (.iload_n 2, 1) := by decide +kernel
theorem dX1_countSure_84 : decode cX1_countSure 84 = .ok (.invokestatic 48, 3) := by decide +kernel
theorem dX1_countSure_87 : decode cX1_countSure 87 = .ok (.iconst 1, 1) := by decide +kernel
theorem dX1_countSure_88 : decode cX1_countSure 88 = .ok (.istore_n 1, 1) := by decide +kernel
theorem dX1_countSure_89 : decode cX1_countSure 89 = .ok (.iinc 3 1, 3) := by decide +kernel
theorem dX1_countSure_92 : decode cX1_countSure 92 = .ok (.goto (-46), 3) := by decide +kernel
theorem dX1_countSure_95 : decode cX1_countSure 95 = .ok (.iinc 2 1, 3) := by decide +kernel
theorem dX1_countSure_98 : decode cX1_countSure 98 = .ok (.goto (-67), 3) := by decide +kernel
theorem dX1_countSure_101 : decode cX1_countSure 101 = .ok (.return_, 1) := by decide +kernel
theorem dX1_canForce_0 : decode cX1_canForce 0 = .ok (.iconst 0, 1) := by decide +kernel
theorem dX1_canForce_1 : decode cX1_canForce 1 = .ok (.istore_n 3, 1) := by decide +kernel
theorem dX1_canForce_2 : decode cX1_canForce 2 = .ok (.iconst 0, 1) := by decide +kernel
theorem dX1_canForce_3 : decode cX1_canForce 3 = .ok (.istore 4, 2) := by decide +kernel
theorem dX1_canForce_5 : decode cX1_canForce 5 = .ok (.iload 4, 2) := by decide +kernel
theorem dX1_canForce_7 : decode cX1_canForce 7 = .ok (.aload_n 0, 1) := by decide +kernel
theorem dX1_canForce_8 : decode cX1_canForce 8 = .ok (.getfield 24, 3) := by decide +kernel
theorem dX1_canForce_11 : decode cX1_canForce 11 = .ok (.getfield 36, 3) := by decide +kernel
theorem dX1_canForce_14 : decode cX1_canForce 14 = .ok (.if_icmp .ge 63, 3) := by decide +kernel
theorem dX1_canForce_17 : decode cX1_canForce 17 = .ok (.aload_n 0, 1) := by decide +kernel
theorem dX1_canForce_18 : decode cX1_canForce 18 = .ok (.getfield 24, 3) := by decide +kernel
theorem dX1_canForce_21 : decode cX1_canForce 21 = .ok (.iload 4, 2) := by decide +kernel
theorem dX1_canForce_23 : decode cX1_canForce 23 = .ok (.invokevirtual 89, 3) := by decide +kernel
theorem dX1_canForce_26 : decode cX1_canForce 26 = .ok (.ifCond .eq 7, 3) := by decide +kernel
theorem dX1_canForce_29 : decode cX1_canForce 29 = .ok (.iconst (-1), 1) := by decide +kernel
theorem dX1_canForce_30 : decode cX1_canForce 30 = .ok (.goto 20, 3) := by decide +kernel
theorem dX1_canForce_33 : decode cX1_canForce 33 = .ok (.aload_n 0, 1) := by decide +kernel
theorem dX1_canForce_34 : decode cX1_canForce 34 = .ok (.getfield 18, 3) := by decide +kernel
theorem dX1_canForce_37 : decode cX1_canForce 37 = .ok (.aload_n 0, 1) := by decide +kernel
theorem dX1_canForce_38 : decode cX1_canForce 38 = .ok (.getfield 28, 3) := by decide +kernel
theorem dX1_canForce_41 : decode cX1_canForce 41 = .ok (.iload_n 1, 1) := by decide +kernel
theorem dX1_canForce_42 : decode cX1_canForce 42 = .ok (.iload 4, 2) := by decide +kernel
theorem dX1_canForce_44 : decode cX1_canForce 44 = .ok (.invokevirtual 85, 3) := by decide +kernel
theorem dX1_canForce_47 : decode cX1_canForce 47 = .ok (.invokestatic 69, 3) := by decide +kernel
theorem dX1_canForce_50 : decode cX1_canForce 50 = .ok (.istore 5, 2) := by decide +kernel
theorem dX1_canForce_52 : decode cX1_canForce 52 = .ok (.iload 5, 2) := by decide +kernel
theorem dX1_canForce_54 : decode cX1_canForce 54 = .ok (.iconst (-1), 1) := by decide +kernel
theorem dX1_canForce_55 : decode cX1_canForce 55 = .ok (.if_icmp .eq 16, 3) := by decide +kernel
theorem dX1_canForce_58 : decode cX1_canForce 58 = .ok (.iload 5, 2) := by decide +kernel
theorem dX1_canForce_60 : decode cX1_canForce 60 = .ok (.iload_n 2, 1) := by decide +kernel
theorem dX1_canForce_61 : decode cX1_canForce 61 = .ok (.if_icmp .ge 10, 3) := by decide +kernel
theorem dX1_canForce_64 : decode cX1_canForce 64 = .ok (.iload_n 3, 1) := by decide +kernel
theorem dX1_canForce_65 : decode cX1_canForce 65 = .ok (.iconst 1, 1) := by decide +kernel
theorem dX1_canForce_66 : decode cX1_canForce 66 = .ok (.iload 4, 2) := by decide +kernel
theorem dX1_canForce_68 : decode cX1_canForce 68 = .ok (.ishl, 1) := by decide +kernel
theorem dX1_canForce_69 : decode cX1_canForce 69 = .ok (.ior, 1) := by decide +kernel
theorem dX1_canForce_70 : decode cX1_canForce 70 = .ok (.istore_n 3, 1) := by decide +kernel
theorem dX1_canForce_71 : decode cX1_canForce 71 = .ok (.iinc 4 1, 3) := by decide +kernel
theorem dX1_canForce_74 : decode cX1_canForce 74 = .ok (.goto (-69), 3) := by decide +kernel
theorem dX1_canForce_77 : decode cX1_canForce 77 = .ok (.iconst 0, 1) := by decide +kernel
theorem dX1_canForce_78 : decode cX1_canForce 78 = .ok (.istore 4, 2) := by decide +kernel
theorem dX1_canForce_80 : decode cX1_canForce 80 = .ok (.iload 4, 2) := by decide +kernel
theorem dX1_canForce_82 : decode cX1_canForce 82 = .ok (.aload_n 0, 1) := by decide +kernel
theorem dX1_canForce_83 : decode cX1_canForce 83 = .ok (.getfield 24, 3) := by decide +kernel
theorem dX1_canForce_86 : decode cX1_canForce 86 = .ok (.getfield 36, 3) := by decide +kernel
theorem dX1_canForce_89 : decode cX1_canForce 89 = .ok (.if_icmp .ge 50, 3) := by decide +kernel
theorem dX1_canForce_92 : decode cX1_canForce 92 = .ok (.iconst 1, 1) := by decide +kernel
theorem dX1_canForce_93 : decode cX1_canForce 93 = .ok (.iload 4, 2) := by decide +kernel
theorem dX1_canForce_95 : decode cX1_canForce 95 = .ok (.ishl, 1) := by decide +kernel
theorem dX1_canForce_96 : decode cX1_canForce 96 = .ok (.iconst 1, 1) := by decide +kernel
theorem dX1_canForce_97 : decode cX1_canForce 97 = .ok (.aload_n 0, 1) := by decide +kernel
theorem dX1_canForce_98 : decode cX1_canForce 98 = .ok (.getfield 24, 3) := by decide +kernel
theorem dX1_canForce_101 : decode cX1_canForce 101 = .ok (.iload 4, 2) := by decide +kernel
theorem dX1_canForce_103 : decode cX1_canForce 103 = .ok (.invokevirtual 103, 3) := by decide +kernel
theorem dX1_canForce_106 : decode cX1_canForce 106 = .ok (.ishl, 1) := by decide +kernel
theorem dX1_canForce_107 : decode cX1_canForce 107 = .ok (.ior, 1) := by decide +kernel
theorem dX1_canForce_108 : decode cX1_canForce 108 = .ok (.iconst 1, 1) := by decide +kernel
theorem dX1_canForce_109 : decode cX1_canForce 109 = .ok (.aload_n 0, 1) := by decide +kernel
theorem dX1_canForce_110 : decode cX1_canForce 110 = .ok (.getfield 24, 3) := by decide +kernel
theorem dX1_canForce_113 : decode cX1_canForce 113 = .ok (.iload 4, 2) := by decide +kernel
theorem dX1_canForce_115 : decode cX1_canForce 115 = .ok (.iconst 1, 1) := by decide +kernel
theorem dX1_canForce_116 : decode cX1_canForce 116 = .ok (.isub, 1) := by decide +kernel
theorem dX1_canForce_117 : decode cX1_canForce 117 = .ok (.invokevirtual 106, 3) := by decide +kernel
theorem dX1_canForce_120 : decode cX1_canForce 120 = .ok (.ishl, 1) := by decide +kernel
theorem dX1_canForce_121 : decode cX1_canForce 121 = .ok (.ior, 1) := by decide +kernel
theorem dX1_canForce_122 : decode cX1_canForce 122 = .ok (.istore 5, 2) := by decide +kernel
theorem dX1_canForce_124 : decode cX1_canForce 124 = .ok (.iload_n 3, 1) := by decide +kernel
theorem dX1_canForce_125 : decode cX1_canForce 125 = .ok (.iload 5, 2) := by decide +kernel
theorem dX1_canForce_127 : decode cX1_canForce 127 = .ok (.iand, 1) := by decide +kernel
theorem dX1_canForce_128 : decode cX1_canForce 128 = .ok (.ifCond .ne 5, 3) := by decide +kernel
theorem dX1_canForce_131 : decode cX1_canForce 131 = .ok (.iconst 0, 1) := by decide +kernel
theorem dX1_canForce_132 : decode cX1_canForce 132 = .ok (.ireturn, 1) := by decide +kernel
theorem dX1_canForce_133 : decode cX1_canForce 133 = .ok (.iinc 4 1, 3) := by decide +kernel
theorem dX1_canForce_136 : decode cX1_canForce 136 = .ok (.goto (-56), 3) := by decide +kernel
theorem dX1_canForce_139 : decode cX1_canForce 139 = .ok (.iconst 1, 1) := by decide +kernel
theorem dX1_canForce_140 : decode cX1_canForce 140 = .ok (.ireturn, 1) := by decide +kernel
theorem dX2_init_0 : decode cX2_init 0 = .ok (.aload_n 0, 1) := by decide +kernel
theorem dX2_init_1 : decode cX2_init 1 = .ok (.invokespecial 3, 3) := by decide +kernel
theorem dX2_init_4 : decode cX2_init 4 = .ok (.aload_n 0, 1) := by decide +kernel
theorem dX2_init_5 : decode cX2_init 5 = .ok (.sipush 3600, 3) := by decide +kernel
theorem dX2_init_8 : decode cX2_init 8 = .ok (.newarray .int, 2) := by decide +kernel
theorem dX2_init_10 : decode cX2_init 10 = .ok (.putfield 9, 3) := by decide +kernel
theorem dX2_init_13 : decode cX2_init 13 = .ok (.aload_n 0, 1) := by decide +kernel
theorem dX2_init_14 : decode cX2_init 14 = .ok (.bipush 6, 2) := by decide +kernel
theorem dX2_init_16 : decode cX2_init 16 = .ok (.newarray .int, 2) := by decide +kernel
theorem dX2_init_18 : decode cX2_init 18 = .ok (.putfield 15, 3) := by decide +kernel
theorem dX2_init_21 : decode cX2_init 21 = .ok (.aload_n 0, 1) := by decide +kernel
theorem dX2_init_22 : decode cX2_init 22 = .ok (.aload_n 1, 1) := by decide +kernel
theorem dX2_init_23 : decode cX2_init 23 = .ok (.putfield 18, 3) := by decide +kernel
theorem dX2_init_26 : decode cX2_init 26 = .ok (.aload_n 0, 1) := by decide +kernel
theorem dX2_init_27 : decode cX2_init 27 = .ok (.aload_n 2, 1) := by decide +kernel
theorem dX2_init_28 : decode cX2_init 28 = .ok (.putfield 22, 3) := by decide +kernel
theorem dX2_init_31 : decode cX2_init 31 = .ok (.return_, 1) := by decide +kernel
theorem dX2_forget_0 : decode cX2_forget 0 = .ok (.aload_n 0, 1) := by decide +kernel
theorem dX2_forget_1 : decode cX2_forget 1 = .ok (.iconst 0, 1) := by decide +kernel
theorem dX2_forget_2 : decode cX2_forget 2 = .ok (.putfield 26, 3) := by decide +kernel
theorem dX2_forget_5 : decode cX2_forget 5 = .ok (.return_, 1) := by decide +kernel
theorem dX2_learn_0 : decode cX2_learn 0 = .ok (.aload_n 0, 1) := by decide +kernel
theorem dX2_learn_1 : decode cX2_learn 1 = .ok (.getfield 26, 3) := by decide +kernel
theorem dX2_learn_4 : decode cX2_learn 4 = .ok (.iload_n 1, 1) := by decide +kernel
theorem dX2_learn_5 : decode cX2_learn 5 = .ok (.if_icmp .ge 69, 3) := by decide +kernel
theorem dX2_learn_8 : decode cX2_learn 8 = .ok (.aload_n 0, 1) := by decide +kernel
theorem dX2_learn_9 : decode cX2_learn 9 = .ok (.getfield 26, 3) := by decide +kernel
theorem dX2_learn_12 : decode cX2_learn 12 = .ok (.iconst 5, 1) := by decide +kernel
theorem dX2_learn_13 : decode cX2_learn 13 = .ok (.if_icmp .ge 61, 3) := by decide +kernel
theorem dX2_learn_16 : decode cX2_learn 16 = .ok (.iconst 0, 1) := by decide +kernel
theorem dX2_learn_17 : decode cX2_learn 17 = .ok (.istore_n 2, 1) := by decide +kernel
theorem dX2_learn_18 : decode cX2_learn 18 = .ok (.iload_n 2, 1) := by decide +kernel
theorem dX2_learn_19 : decode cX2_learn 19 = .ok (.aload_n 0, 1) := by decide +kernel
theorem dX2_learn_20 : decode cX2_learn 20 = .ok (.getfield 22, 3) := by decide +kernel
theorem dX2_learn_23 : decode cX2_learn 23 = .ok (.getfield 30, 3) := by decide +kernel
theorem dX2_learn_26 : decode cX2_learn 26 = .ok (.if_icmp .ge 35, 3) := by decide +kernel
theorem dX2_learn_29 : decode cX2_learn 29 = .ok (.aload_n 0, 1) := by decide +kernel
theorem dX2_learn_30 : decode cX2_learn 30 = .ok (.getfield 9, 3) := by decide +kernel
theorem dX2_learn_33 : decode cX2_learn 33 = .ok (.aload_n 0, 1) := by decide +kernel
theorem dX2_learn_34 : decode cX2_learn 34 = .ok (.getfield 26, 3) := by decide +kernel
theorem dX2_learn_37 : decode cX2_learn 37 = .ok (.sipush 720, 3) := by decide +kernel
theorem dX2_learn_40 : decode cX2_learn 40 = .ok (.imul, 1) := by decide +kernel
theorem dX2_learn_41 : decode cX2_learn 41 = .ok (.iload_n 2, 1) := by decide +kernel
theorem dX2_learn_42 : decode cX2_learn 42 = .ok (.iadd, 1) := by decide +kernel
theorem dX2_learn_43 : decode cX2_learn 43 = .ok (.aload_n 0, 1) := by decide +kernel
theorem dX2_learn_44 : decode cX2_learn 44 = .ok (.iload_n 2, 1) := by decide +kernel
theorem dX2_learn_45 : decode cX2_learn 45 = .ok (.aload_n 0, 1) := by decide +kernel
theorem dX2_learn_46 : decode cX2_learn 46 = .ok (.getfield 26, 3) := by decide +kernel
theorem dX2_learn_49 : decode cX2_learn 49 = .ok (.invokevirtual 35, 3) := by decide +kernel
theorem dX2_learn_52 : decode cX2_learn 52 = .ok (.invokestatic 39, 3) := by decide +kernel
theorem dX2_learn_55 : decode cX2_learn 55 = .ok (.iinc 2 1, 3) := by decide +kernel
theorem dX2_learn_58 : decode cX2_learn 58 = .ok (.goto (-40), 3) := by decide +kernel
theorem dX2_learn_61 : decode cX2_learn 61 = .ok (.aload_n 0, 1) := by decide +kernel
theorem dX2_learn_62 : decode cX2_learn 62 = .ok (.dup, 1) := by decide +kernel
theorem dX2_learn_63 : decode cX2_learn 63 = .ok (.getfield 26, 3) := by decide +kernel
theorem dX2_learn_66 : decode cX2_learn 66 = .ok (.iconst 1, 1) := by decide +kernel
theorem dX2_learn_67 : decode cX2_learn 67 = .ok (.iadd, 1) := by decide +kernel
theorem dX2_learn_68 : decode cX2_learn 68 = .ok (.putfield 26, 3) := by decide +kernel
theorem dX2_learn_71 : decode cX2_learn 71 = .ok (.goto (-71), 3) := by decide +kernel
theorem dX2_learn_74 : decode cX2_learn 74 = .ok (.return_, 1) := by decide +kernel
theorem dX2_rollsFor_0 : decode cX2_rollsFor 0 = .ok (.iload_n 2, 1) := by decide +kernel
theorem dX2_rollsFor_1 : decode cX2_rollsFor 1 = .ok (.ifCond .ne 27, 3) := by decide +kernel
theorem dX2_rollsFor_4 : decode cX2_rollsFor 4 = .ok (.aload_n 0, 1) := by decide +kernel
theorem dX2_rollsFor_5 : decode cX2_rollsFor 5 = .ok (.getfield 18, 3) := by decide +kernel
theorem dX2_rollsFor_8 : decode cX2_rollsFor 8 = .ok (.aload_n 0, 1) := by decide +kernel
theorem dX2_rollsFor_9 : decode cX2_rollsFor 9 = .ok (.getfield 22, 3) := by decide +kernel
theorem dX2_rollsFor_12 : decode cX2_rollsFor 12 = .ok (.iload_n 1, 1) := by decide +kernel
theorem dX2_rollsFor_13 : decode cX2_rollsFor 13 = .ok (.invokevirtual 45, 3) := by decide +kernel
theorem dX2_rollsFor_16 : decode cX2_rollsFor 16 = .ok (.invokevirtual 49, 3) := by decide +kernel
theorem dX2_rollsFor_19 : decode cX2_rollsFor 19 = .ok (.ifCond .ne 7, 3) := by decide +kernel
theorem dX2_rollsFor_22 : decode cX2_rollsFor 22 = .ok (.iconst 1, 1) := by decide +kernel
theorem dX2_rollsFor_23 : decode cX2_rollsFor 23 = .ok (.goto 4, 3) := by decide +kernel
theorem dX2_rollsFor_26 : decode cX2_rollsFor 26 = .ok (.iconst 0, 1) := by decide +kernel
theorem dX2_rollsFor_27 : decode cX2_rollsFor 27 = .ok (.ireturn, 1) := by decide +kernel
theorem dX2_rollsFor_28 : decode cX2_rollsFor 28 = .ok (.aload_n 0, 1) := by decide +kernel
theorem dX2_rollsFor_29 : decode cX2_rollsFor 29 = .ok (.getfield 9, 3) := by decide +kernel
theorem dX2_rollsFor_32 : decode cX2_rollsFor 32 = .ok (.iload_n 1, 1) := by decide +kernel
theorem dX2_rollsFor_33 : decode cX2_rollsFor 33 = .ok (.invokestatic 55, 3) := by decide +kernel
theorem dX2_rollsFor_36 : decode cX2_rollsFor 36 = .ok (.ifCond .ne 5, 3) := by decide +kernel
theorem dX2_rollsFor_39 : decode cX2_rollsFor 39 = .ok (.iconst 0, 1) := by decide +kernel
theorem dX2_rollsFor_40 : decode cX2_rollsFor 40 = .ok (.ireturn, 1) := by decide +kernel
theorem dX2_rollsFor_41 : decode cX2_rollsFor 41 = .ok (.aload_n 0, 1) := by decide +kernel
theorem dX2_rollsFor_42 : decode cX2_rollsFor 42 = .ok (.iload_n 1, 1) := by decide +kernel
theorem dX2_rollsFor_43 : decode cX2_rollsFor 43 = .ok (.iload_n 2, 1) := by decide +kernel
theorem dX2_rollsFor_44 : decode cX2_rollsFor 44 = .ok (.invokevirtual 59, 3) := by decide +kernel
theorem dX2_rollsFor_47 : decode cX2_rollsFor 47 = .ok (.iconst 0, 1) := by decide +kernel
theorem dX2_rollsFor_48 : decode cX2_rollsFor 48 = .ok (.istore_n 3, 1) := by decide +kernel
theorem dX2_rollsFor_49 : decode cX2_rollsFor 49 = .ok (.iconst 0, 1) := by decide +kernel
theorem dX2_rollsFor_50 : decode cX2_rollsFor 50 = .ok (.istore 4, 2) := by decide +kernel
theorem dX2_rollsFor_52 : decode cX2_rollsFor 52 = .ok (.iload 4, 2) := by decide +kernel
theorem dX2_rollsFor_54 : decode cX2_rollsFor 54 = .ok (.aload_n 0, 1) := by decide +kernel
theorem dX2_rollsFor_55 : decode cX2_rollsFor 55 = .ok (.getfield 18, 3) := by decide +kernel
theorem dX2_rollsFor_58 : decode cX2_rollsFor 58 = .ok (.getfield 63, 3) := by decide +kernel
theorem dX2_rollsFor_61 : decode cX2_rollsFor 61 = .ok (.if_icmp .ge 40, 3) := by decide +kernel
theorem dX2_rollsFor_64 : decode cX2_rollsFor 64 = .ok (.iload_n 3, 1) := by decide +kernel
theorem dX2_rollsFor_65 : decode cX2_rollsFor 65 = .ok (.aload_n 0, 1) := by decide +kernel
theorem dX2_rollsFor_66 : decode cX2_rollsFor 66 = .ok (.iload 4, 2) := by decide +kernel
theorem dX2_rollsFor_68 : decode cX2_rollsFor 68 = .ok (.iconst 1, 1) := by decide +kernel
theorem dX2_rollsFor_69 : decode cX2_rollsFor 69 = .ok (.isub, 1) := by decide +kernel
theorem dX2_rollsFor_70 : decode cX2_rollsFor 70 = .ok (.invokevirtual 66, 3) := by decide +kernel
theorem dX2_rollsFor_73 : decode cX2_rollsFor 73 = .ok (.aload_n 0, 1) := by decide +kernel
theorem dX2_rollsFor_74 : decode cX2_rollsFor 74 = .ok (.iload 4, 2) := by decide +kernel
theorem dX2_rollsFor_76 : decode cX2_rollsFor 76 = .ok (.invokevirtual 66, 3) := by decide +kernel
theorem dX2_rollsFor_79 : decode cX2_rollsFor 79 = .ok (.aload_n 0, 1) := by decide +kernel
theorem dX2_rollsFor_80 : decode cX2_rollsFor 80 = .ok (.iload 4, 2) := by decide +kernel
theorem dX2_rollsFor_82 : decode cX2_rollsFor 82 = .ok (.iconst 1, 1) := by decide +kernel
theorem dX2_rollsFor_83 : decode cX2_rollsFor 83 = .ok (.iadd, 1) := by decide +kernel
theorem dX2_rollsFor_84 : decode cX2_rollsFor 84 = .ok (.invokevirtual 66, 3) := by decide +kernel
theorem dX2_rollsFor_87 : decode cX2_rollsFor 87 = .ok (.invokestatic 70, 3) := by decide +kernel
theorem dX2_rollsFor_90 : decode cX2_rollsFor 90 = .ok (.invokestatic 70, 3) := by decide +kernel
theorem dX2_rollsFor_93 : decode cX2_rollsFor 93 = .ok (.iadd, 1) := by decide +kernel
theorem dX2_rollsFor_94 : decode cX2_rollsFor 94 = .ok (.istore_n 3, 1) := by decide +kernel
theorem dX2_rollsFor_95 : decode cX2_rollsFor 95 = .ok (.iinc 4 1, 3) := by decide +kernel
theorem dX2_rollsFor_98 : decode cX2_rollsFor 98 = .ok (.goto (-46), 3) := by decide +kernel
theorem dX2_rollsFor_101 : decode cX2_rollsFor 101 = .ok (.iload_n 3, 1) := by decide +kernel
theorem dX2_rollsFor_102 : decode cX2_rollsFor 102 = .ok (.ireturn, 1) := by decide +kernel
theorem dX2_choice_0 : decode cX2_choice 0 = .ok (.aload_n 0, 1) := by decide +kernel
theorem dX2_choice_1 : decode cX2_choice 1 = .ok (.iload_n 3, 1) := by decide +kernel
theorem dX2_choice_2 : decode cX2_choice 2 = .ok (.invokevirtual 75, 3) := by decide +kernel
theorem dX2_choice_5 : decode cX2_choice 5 = .ok (.aload_n 0, 1) := by decide +kernel
theorem dX2_choice_6 : decode cX2_choice 6 = .ok (.iload_n 1, 1) := by decide +kernel
theorem dX2_choice_7 : decode cX2_choice 7 = .ok (.iload_n 3, 1) := by decide +kernel
theorem dX2_choice_8 : decode cX2_choice 8 = .ok (.invokevirtual 59, 3) := by decide +kernel
theorem dX2_choice_11 : decode cX2_choice 11 = .ok (.iconst (-1), 1) := by decide +kernel
theorem dX2_choice_12 : decode cX2_choice 12 = .ok (.istore 4, 2) := by decide +kernel
theorem dX2_choice_14 : decode cX2_choice 14 = .ok (.iconst 0, 1) := by decide +kernel
theorem dX2_choice_15 : decode cX2_choice 15 = .ok (.istore 5, 2) := by decide +kernel
theorem dX2_choice_17 : decode cX2_choice 17 = .ok (.iload 5, 2) := by decide +kernel
theorem dX2_choice_19 : decode cX2_choice 19 = .ok (.iconst 1, 1) := by decide +kernel
theorem dX2_choice_20 : decode cX2_choice 20 = .ok (.if_icmp .gt 32, 3) := by decide +kernel
theorem dX2_choice_23 : decode cX2_choice 23 = .ok (.aload_n 0, 1) := by decide +kernel
theorem dX2_choice_24 : decode cX2_choice 24 = .ok (.iload_n 2, 1) := by decide +kernel
theorem dX2_choice_25 : decode cX2_choice 25 = .ok (.iload 5, 2) := by decide +kernel
theorem dX2_choice_27 : decode cX2_choice 27 = .ok (.iadd, 1) := by decide +kernel
theorem dX2_choice_28 : decode cX2_choice 28 = .ok (.invokevirtual 66, 3) := by decide +kernel
theorem dX2_choice_31 : decode cX2_choice 31 = .ok (.aload_n 0, 1) := by decide +kernel
theorem dX2_choice_32 : decode cX2_choice 32 = .ok (.iload_n 2, 1) := by decide +kernel
theorem dX2_choice_33 : decode cX2_choice 33 = .ok (.iload 4, 2) := by decide +kernel
theorem dX2_choice_35 : decode cX2_choice 35 = .ok (.iadd, 1) := by decide +kernel
theorem dX2_choice_36 : decode cX2_choice 36 = .ok (.invokevirtual 66, 3) := by decide +kernel
theorem dX2_choice_39 : decode cX2_choice 39 = .ok (.if_icmp .le 7, 3) := by decide +kernel
theorem dX2_choice_42 : decode cX2_choice 42 = .ok (.iload 5, 2) := by decide +kernel
theorem dX2_choice_44 : decode cX2_choice 44 = .ok (.istore 4, 2) := by decide +kernel
theorem dX2_choice_46 : decode cX2_choice 46 = .ok (.iinc 5 1, 3) := by decide +kernel
theorem dX2_choice_49 : decode cX2_choice 49 = .ok (.goto (-32), 3) := by decide +kernel
theorem dX2_choice_52 : decode cX2_choice 52 = .ok (.iload 4, 2) := by decide +kernel
theorem dX2_choice_54 : decode cX2_choice 54 = .ok (.ireturn, 1) := by decide +kernel
theorem dX2_lookAhead_0 : decode cX2_lookAhead 0 = .ok (.iconst 0, 1) := by decide +kernel
theorem dX2_lookAhead_1 : decode cX2_lookAhead 1 = .ok (.istore_n 3, 1) := by decide +kernel
theorem dX2_lookAhead_2 : decode cX2_lookAhead 2 = .ok (.iload_n 3, 1) := by decide +kernel
theorem dX2_lookAhead_3 : decode cX2_lookAhead 3 = .ok (.aload_n 0, 1) := by decide +kernel
theorem dX2_lookAhead_4 : decode cX2_lookAhead 4 = .ok (.getfield 18, 3) := by decide +kernel
theorem dX2_lookAhead_7 : decode cX2_lookAhead 7 = .ok (.getfield 63, 3) := by decide +kernel
theorem dX2_lookAhead_10 : decode cX2_lookAhead 10 = .ok (.if_icmp .ge 60, 3) := by decide +kernel
theorem dX2_lookAhead_13 : decode cX2_lookAhead 13 = .ok (.aload_n 0, 1) := by decide +kernel
theorem dX2_lookAhead_14 : decode cX2_lookAhead 14 = .ok (.getfield 18, 3) := by decide +kernel
theorem dX2_lookAhead_17 : decode cX2_lookAhead 17 = .ok (.iload_n 3, 1) := by decide +kernel
theorem dX2_lookAhead_18 : decode cX2_lookAhead 18 = .ok (.invokevirtual 79, 3) := by decide +kernel
theorem dX2_lookAhead_21 : decode cX2_lookAhead 21 = .ok (.ifCond .eq 7, 3) := by decide +kernel
theorem dX2_lookAhead_24 : decode cX2_lookAhead 24 = .ok (.iload_n 1, 1) := by decide +kernel
theorem dX2_lookAhead_25 : decode cX2_lookAhead 25 = .ok (.goto 12, 3) := by decide +kernel
theorem dX2_lookAhead_28 : decode cX2_lookAhead 28 = .ok (.aload_n 0, 1) := by decide +kernel
theorem dX2_lookAhead_29 : decode cX2_lookAhead 29 = .ok (.getfield 22, 3) := by decide +kernel
theorem dX2_lookAhead_32 : decode cX2_lookAhead 32 = .ok (.iload_n 1, 1) := by decide +kernel
theorem dX2_lookAhead_33 : decode cX2_lookAhead 33 = .ok (.iload_n 3, 1) := by decide +kernel
theorem dX2_lookAhead_34 : decode cX2_lookAhead 34 = .ok (.invokevirtual 83, 3) := by decide +kernel
theorem dX2_lookAhead_37 : decode cX2_lookAhead 37 = .ok (.istore 4, 2) := by decide +kernel
theorem dX2_lookAhead_39 : decode cX2_lookAhead 39 = .ok (.aload_n 0, 1) := by decide +kernel
theorem dX2_lookAhead_40 : decode cX2_lookAhead 40 = .ok (.getfield 15, 3) := by decide +kernel
theorem dX2_lookAhead_43 : decode cX2_lookAhead 43 = .ok (.iload_n 3, 1) := by decide +kernel
theorem dX2_lookAhead_44 : decode cX2_lookAhead 44 = .ok (.aload_n 0, 1) := by decide +kernel
theorem dX2_lookAhead_45 : decode cX2_lookAhead 45 = .ok (.getfield 9, 3) := by decide +kernel
theorem dX2_lookAhead_48 : decode cX2_lookAhead 48 = .ok (.iload_n 2, 1) := by decide +kernel
theorem dX2_lookAhead_49 : decode cX2_lookAhead 49 = .ok (.iconst 1, 1) := by decide +kernel
theorem dX2_lookAhead_50 : decode cX2_lookAhead 50 = .ok (.isub, 1) := by decide +kernel
theorem dX2_lookAhead_51 : decode cX2_lookAhead 51 = .ok (.sipush 720, 3) := by decide +kernel
theorem dX2_lookAhead_54 : decode cX2_lookAhead 54 = .ok (.imul, 1) := by decide +kernel
theorem dX2_lookAhead_55 : decode cX2_lookAhead 55 = .ok (.iload 4, 2) := by decide +kernel
theorem dX2_lookAhead_57 : decode cX2_lookAhead 57 = .ok (.iadd, 1) := by decide +kernel
theorem dX2_lookAhead_58 : decode cX2_lookAhead 58 = .ok (.invokestatic 55, 3) := by decide +kernel
theorem dX2_lookAhead_61 : decode cX2_lookAhead 61 = .ok (.invokestatic 39, 3) := by decide +kernel
theorem dX2_lookAhead_64 : decode cX2_lookAhead 64 = .ok (.iinc 3 1, 3) := by decide +kernel
theorem dX2_lookAhead_67 : decode cX2_lookAhead 67 = .ok (.goto (-65), 3) := by decide +kernel
theorem dX2_lookAhead_70 : decode cX2_lookAhead 70 = .ok (.return_, 1) := by decide +kernel
theorem dX2_leftBy_0 : decode cX2_leftBy 0 = .ok (.aload_n 0, 1) := by decide +kernel
theorem dX2_leftBy_1 : decode cX2_leftBy 1 = .ok (.getfield 15, 3) := by decide +kernel
theorem dX2_leftBy_4 : decode cX2_leftBy 4 = .ok (.aload_n 0, 1) := by decide +kernel
theorem dX2_leftBy_5 : decode cX2_leftBy 5 = .ok (.getfield 18, 3) := by decide +kernel
theorem dX2_leftBy_8 : decode cX2_leftBy 8 = .ok (.iload_n 1, 1) := by decide +kernel
theorem dX2_leftBy_9 : decode cX2_leftBy 9 = .ok (.invokevirtual 86, 3) := by decide +kernel
theorem dX2_leftBy_12 : decode cX2_leftBy 12 = .ok (.invokestatic 55, 3) := by decide +kernel
theorem dX2_leftBy_15 : decode cX2_leftBy 15 = .ok (.ireturn, 1) := by decide +kernel
theorem dX3_init_0 : decode cX3_init 0 = .ok (.aload_n 0, 1) := by decide +kernel
theorem dX3_init_1 : decode cX3_init 1 = .ok (.invokespecial 3, 3) := by decide +kernel
theorem dX3_init_4 : decode cX3_init 4 = .ok (.aload_n 0, 1) := by decide +kernel
theorem dX3_init_5 : decode cX3_init 5 = .ok (.bipush 6, 2) := by decide +kernel
theorem dX3_init_7 : decode cX3_init 7 = .ok (.newarray .int, 2) := by decide +kernel
theorem dX3_init_9 : decode cX3_init 9 = .ok (.putfield 9, 3) := by decide +kernel
theorem dX3_init_12 : decode cX3_init 12 = .ok (.aload_n 0, 1) := by decide +kernel
theorem dX3_init_13 : decode cX3_init 13 = .ok (.bipush 6, 2) := by decide +kernel
theorem dX3_init_15 : decode cX3_init 15 = .ok (.newarray .int, 2) := by decide +kernel
theorem dX3_init_17 : decode cX3_init 17 = .ok (.putfield 15, 3) := by decide +kernel
theorem dX3_init_20 : decode cX3_init 20 = .ok (.aload_n 0, 1) := by decide +kernel
theorem dX3_init_21 : decode cX3_init 21 = .ok (.iconst 1, 1) := by decide +kernel
theorem dX3_init_22 : decode cX3_init 22 = .ok (.putfield 18, 3) := by decide +kernel
theorem dX3_init_25 : decode cX3_init 25 = .ok (.return_, 1) := by decide +kernel
theorem dX3_begin_0 : decode cX3_begin 0 = .ok (.iconst 0, 1) := by decide +kernel
theorem dX3_begin_1 : decode cX3_begin 1 = .ok (.istore_n 1, 1) := by decide +kernel
theorem dX3_begin_2 : decode cX3_begin 2 = .ok (.iload_n 1, 1) := by decide +kernel
theorem dX3_begin_3 : decode cX3_begin 3 = .ok (.bipush 6, 2) := by decide +kernel
theorem dX3_begin_5 : decode cX3_begin 5 = .ok (.if_icmp .ge 27, 3) := by decide +kernel
theorem dX3_begin_8 : decode cX3_begin 8 = .ok (.aload_n 0, 1) := by decide +kernel
theorem dX3_begin_9 : decode cX3_begin 9 = .ok (.getfield 9, 3) := by decide +kernel
theorem dX3_begin_12 : decode cX3_begin 12 = .ok (.iload_n 1, 1) := by decide +kernel
theorem dX3_begin_13 : decode cX3_begin 13 = .ok (.iload_n 1, 1) := by decide +kernel
theorem dX3_begin_14 : decode cX3_begin 14 = .ok (.invokestatic 22, 3) := by decide +kernel
theorem dX3_begin_17 : decode cX3_begin 17 = .ok (.aload_n 0, 1) := by decide +kernel
theorem dX3_begin_18 : decode cX3_begin 18 = .ok (.getfield 15, 3) := by decide +kernel
theorem dX3_begin_21 : decode cX3_begin 21 = .ok (.iload_n 1, 1) := by decide +kernel
theorem dX3_begin_22 : decode cX3_begin 22 = .ok (.iload_n 1, 1) := by decide +kernel
theorem dX3_begin_23 : decode cX3_begin 23 = .ok (.invokestatic 22, 3) := by decide +kernel
theorem dX3_begin_26 : decode cX3_begin 26 = .ok (.iinc 1 1, 3) := by decide +kernel
theorem dX3_begin_29 : decode cX3_begin 29 = .ok (.goto (-27), 3) := by decide +kernel
theorem dX3_begin_32 : decode cX3_begin 32 = .ok (.aload_n 0, 1) := by decide +kernel
theorem dX3_begin_33 : decode cX3_begin 33 = .ok (.iconst 0, 1) := by decide +kernel
theorem dX3_begin_34 : decode cX3_begin 34 = .ok (.putfield 28, 3) := by decide +kernel
theorem dX3_begin_37 : decode cX3_begin 37 = .ok (.return_, 1) := by decide +kernel
theorem dX3_houseIn_0 : decode cX3_houseIn 0 = .ok (.aload_n 0, 1) := by decide +kernel
theorem dX3_houseIn_1 : decode cX3_houseIn 1 = .ok (.getfield 9, 3) := by decide +kernel
theorem dX3_houseIn_4 : decode cX3_houseIn 4 = .ok (.iload_n 1, 1) := by decide +kernel
theorem dX3_houseIn_5 : decode cX3_houseIn 5 = .ok (.invokestatic 31, 3) := by decide +kernel
theorem dX3_houseIn_8 : decode cX3_houseIn 8 = .ok (.ireturn, 1) := by decide +kernel
theorem dX3_placeOf_0 : decode cX3_placeOf 0 = .ok (.aload_n 0, 1) := by decide +kernel
theorem dX3_placeOf_1 : decode cX3_placeOf 1 = .ok (.getfield 9, 3) := by decide +kernel
theorem dX3_placeOf_4 : decode cX3_placeOf 4 = .ok (.iload_n 1, 1) := by decide +kernel
theorem dX3_placeOf_5 : decode cX3_placeOf 5 = .ok (.iload_n 2, 1) := by decide +kernel
theorem dX3_placeOf_6 : decode cX3_placeOf 6 = .ok (.invokestatic 35, 3) := by decide +kernel
theorem dX3_placeOf_9 : decode cX3_placeOf 9 = .ok (.ireturn, 1) := by decide +kernel
theorem dX3_placeAhead_0 : decode cX3_placeAhead 0 = .ok (.aload_n 0, 1) := by decide +kernel
theorem dX3_placeAhead_1 : decode cX3_placeAhead 1 = .ok (.getfield 15, 3) := by decide +kernel
theorem dX3_placeAhead_4 : decode cX3_placeAhead 4 = .ok (.iload_n 1, 1) := by decide +kernel
theorem dX3_placeAhead_5 : decode cX3_placeAhead 5 = .ok (.iload_n 2, 1) := by decide +kernel
theorem dX3_placeAhead_6 : decode cX3_placeAhead 6 = .ok (.invokestatic 35, 3) := by decide +kernel
theorem dX3_placeAhead_9 : decode cX3_placeAhead 9 = .ok (.ireturn, 1) := by decide +kernel
theorem dX3_placeIn_0 : decode cX3_placeIn 0 = .ok (.iconst 0, 1) := by decide +kernel
theorem dX3_placeIn_1 : decode cX3_placeIn 1 = .ok (.istore_n 3, 1) := by decide +kernel
theorem dX3_placeIn_2 : decode cX3_placeIn 2 = .ok (.iload_n 3, 1) := by decide +kernel
theorem dX3_placeIn_3 : decode cX3_placeIn 3 = .ok (.iload_n 2, 1) := by decide +kernel
theorem dX3_placeIn_4 : decode cX3_placeIn 4 = .ok (.if_icmp .ge 20, 3) := by decide +kernel
theorem dX3_placeIn_7 : decode cX3_placeIn 7 = .ok (.aload_n 0, 1) := by decide +kernel
theorem dX3_placeIn_8 : decode cX3_placeIn 8 = .ok (.iload_n 3, 1) := by decide +kernel
theorem dX3_placeIn_9 : decode cX3_placeIn 9 = .ok (.invokestatic 31, 3) := by decide +kernel
theorem dX3_placeIn_12 : decode cX3_placeIn 12 = .ok (.iload_n 1, 1) := by decide +kernel
theorem dX3_placeIn_13 : decode cX3_placeIn 13 = .ok (.if_icmp .ne 5, 3) := by decide +kernel
theorem dX3_placeIn_16 : decode cX3_placeIn 16 = .ok (.iload_n 3, 1) := by decide +kernel
theorem dX3_placeIn_17 : decode cX3_placeIn 17 = .ok (.ireturn, 1) := by decide +kernel
theorem dX3_placeIn_18 : decode cX3_placeIn 18 = .ok (.iinc 3 1, 3) := by decide +kernel
theorem dX3_placeIn_21 : decode cX3_placeIn 21 = .ok (.goto (-19), 3) := by decide +kernel
theorem dX3_placeIn_24 : decode cX3_placeIn 24 = .ok (.iconst (-1), 1) := by decide +kernel
theorem dX3_placeIn_25 : decode cX3_placeIn 25 = .ok (.ireturn, 1) := by decide +kernel
theorem dX3_remember_0 : decode cX3_remember 0 = .ok (.iconst 0, 1) := by decide +kernel
theorem dX3_remember_1 : decode cX3_remember 1 = .ok (.istore_n 1, 1) := by decide +kernel
theorem dX3_remember_2 : decode cX3_remember 2 = .ok (.iload_n 1, 1) := by decide +kernel
theorem dX3_remember_3 : decode cX3_remember 3 = .ok (.bipush 6, 2) := by decide +kernel
theorem dX3_remember_5 : decode cX3_remember 5 = .ok (.if_icmp .ge 25, 3) := by decide +kernel
theorem dX3_remember_8 : decode cX3_remember 8 = .ok (.aload_n 0, 1) := by decide +kernel
theorem dX3_remember_9 : decode cX3_remember 9 = .ok (.getfield 15, 3) := by decide +kernel
theorem dX3_remember_12 : decode cX3_remember 12 = .ok (.iload_n 1, 1) := by decide +kernel
theorem dX3_remember_13 : decode cX3_remember 13 = .ok (.aload_n 0, 1) := by decide +kernel
theorem dX3_remember_14 : decode cX3_remember 14 = .ok (.getfield 9, 3) := by decide +kernel
theorem dX3_remember_17 : decode cX3_remember 17 = .ok (.iload_n 1, 1) := by decide +kernel
theorem dX3_remember_18 : decode cX3_remember 18 = .ok (.invokestatic 31, 3) := by decide +kernel
theorem dX3_remember_21 : decode cX3_remember 21 = .ok (.invokestatic 22, 3) := by decide +kernel
theorem dX3_remember_24 : decode cX3_remember 24 = .ok (.iinc 1 1, 3) := by decide +kernel
theorem dX3_remember_27 : decode cX3_remember 27 = .ok (.goto (-25), 3) := by decide +kernel
theorem dX3_remember_30 : decode cX3_remember 30 = .ok (.aload_n 0, 1) := by decide +kernel
theorem dX3_remember_31 : decode cX3_remember 31 = .ok (.dup, 1) := by decide +kernel
theorem dX3_remember_32 : decode cX3_remember 32 = .ok (.getfield 28, 3) := by decide +kernel
theorem dX3_remember_35 : decode cX3_remember 35 = .ok (.iconst 1, 1) := by decide +kernel
theorem dX3_remember_36 : decode cX3_remember 36 = .ok (.iadd, 1) := by decide +kernel
theorem dX3_remember_37 : decode cX3_remember 37 = .ok (.putfield 28, 3) := by decide +kernel
theorem dX3_remember_40 : decode cX3_remember 40 = .ok (.return_, 1) := by decide +kernel
theorem dX3_change_0 : decode cX3_change 0 = .ok (.aload_n 0, 1) := by decide +kernel
theorem dX3_change_1 : decode cX3_change 1 = .ok (.iload_n 1, 1) := by decide +kernel
theorem dX3_change_2 : decode cX3_change 2 = .ok (.invokevirtual 39, 3) := by decide +kernel
theorem dX3_change_5 : decode cX3_change 5 = .ok (.istore_n 3, 1) := by decide +kernel
theorem dX3_change_6 : decode cX3_change 6 = .ok (.aload_n 0, 1) := by decide +kernel
theorem dX3_change_7 : decode cX3_change 7 = .ok (.getfield 9, 3) := by decide +kernel
theorem dX3_change_10 : decode cX3_change 10 = .ok (.iload_n 1, 1) := by decide +kernel
theorem dX3_change_11 : decode cX3_change 11 = .ok (.aload_n 0, 1) := by decide +kernel
theorem dX3_change_12 : decode cX3_change 12 = .ok (.iload_n 2, 1) := by decide +kernel
theorem dX3_change_13 : decode cX3_change 13 = .ok (.invokevirtual 39, 3) := by decide +kernel
theorem dX3_change_16 : decode cX3_change 16 = .ok (.invokestatic 22, 3) := by decide +kernel
theorem dX3_change_19 : decode cX3_change 19 = .ok (.aload_n 0, 1) := by decide +kernel
theorem dX3_change_20 : decode cX3_change 20 = .ok (.getfield 9, 3) := by decide +kernel
theorem dX3_change_23 : decode cX3_change 23 = .ok (.iload_n 2, 1) := by decide +kernel
theorem dX3_change_24 : decode cX3_change 24 = .ok (.iload_n 3, 1) := by decide +kernel
theorem dX3_change_25 : decode cX3_change 25 = .ok (.invokestatic 22, 3) := by decide +kernel
theorem dX3_change_28 : decode cX3_change 28 = .ok (.return_, 1) := by decide +kernel
theorem dX4_init_0 : decode cX4_init 0 = .ok (.aload_n 0, 1) := by decide +kernel
theorem dX4_init_1 : decode cX4_init 1 = .ok (.invokespecial 3, 3) := by decide +kernel
theorem dX4_init_4 : decode cX4_init 4 = .ok (.aload_n 0, 1) := by decide +kernel
theorem dX4_init_5 : decode cX4_init 5 = .ok (.sipush 4320, 3) := by decide +kernel
theorem dX4_init_8 : decode cX4_init 8 = .ok (.newarray .int, 2) := by decide +kernel
theorem dX4_init_10 : decode cX4_init 10 = .ok (.putfield 9, 3) := by decide +kernel
theorem dX4_init_13 : decode cX4_init 13 = .ok (.aload_n 0, 1) := by decide +kernel
theorem dX4_init_14 : decode cX4_init 14 = .ok (.bipush 6, 2) := by decide +kernel
theorem dX4_init_16 : decode cX4_init 16 = .ok (.newarray .int, 2) := by decide +kernel
theorem dX4_init_18 : decode cX4_init 18 = .ok (.putfield 15, 3) := by decide +kernel
theorem dX4_init_21 : decode cX4_init 21 = .ok (.return_, 1) := by decide +kernel
theorem dX4_prepare_0 : decode cX4_prepare 0 = .ok (.aload_n 0, 1) := by decide +kernel
theorem dX4_prepare_1 : decode cX4_prepare 1 = .ok (.getfield 18, 3) := by decide +kernel
theorem dX4_prepare_4 : decode cX4_prepare 4 = .ok (.iload_n 1, 1) := by decide +kernel
theorem dX4_prepare_5 : decode cX4_prepare 5 = .ok (.if_icmp .ne 4, 3) := by decide +kernel
theorem dX4_prepare_8 : decode cX4_prepare 8 = .ok (.return_, 1) := by decide +kernel
theorem dX4_prepare_9 : decode cX4_prepare 9 = .ok (.aload_n 0, 1) := by decide +kernel
theorem dX4_prepare_10 : decode cX4_prepare 10 = .ok (.iload_n 1, 1) := by decide +kernel
theorem dX4_prepare_11 : decode cX4_prepare 11 = .ok (.putfield 18, 3) := by decide +kernel
theorem dX4_prepare_14 : decode cX4_prepare 14 = .ok (.aload_n 0, 1) := by decide +kernel
theorem dX4_prepare_15 : decode cX4_prepare 15 = .ok (.iconst 1, 1) := by decide +kernel
theorem dX4_prepare_16 : decode cX4_prepare 16 = .ok (.putfield 22, 3) := by decide +kernel
theorem dX4_prepare_19 : decode cX4_prepare 19 = .ok (.iconst 2, 1) := by decide +kernel
theorem dX4_prepare_20 : decode cX4_prepare 20 = .ok (.istore_n 2, 1) := by decide +kernel
theorem dX4_prepare_21 : decode cX4_prepare 21 = .ok (.iload_n 2, 1) := by decide +kernel
theorem dX4_prepare_22 : decode cX4_prepare 22 = .ok (.aload_n 0, 1) := by decide +kernel
theorem dX4_prepare_23 : decode cX4_prepare 23 = .ok (.getfield 18, 3) := by decide +kernel
theorem dX4_prepare_26 : decode cX4_prepare 26 = .ok (.if_icmp .gt 19, 3) := by decide +kernel
theorem dX4_prepare_29 : decode cX4_prepare 29 = .ok (.aload_n 0, 1) := by decide +kernel
theorem dX4_prepare_30 : decode cX4_prepare 30 = .ok (.dup, 1) := by decide +kernel
theorem dX4_prepare_31 : decode cX4_prepare 31 = .ok (.getfield 22, 3) := by decide +kernel
theorem dX4_prepare_34 : decode cX4_prepare 34 = .ok (.iload_n 2, 1) := by decide +kernel
theorem dX4_prepare_35 : decode cX4_prepare 35 = .ok (.imul, 1) := by decide +kernel
theorem dX4_prepare_36 : decode cX4_prepare 36 = .ok (.putfield 22, 3) := by decide +kernel
theorem dX4_prepare_39 : decode cX4_prepare 39 = .ok (.iinc 2 1, 3) := by decide +kernel
theorem dX4_prepare_42 : decode cX4_prepare 42 = .ok (.goto (-21), 3) := by decide +kernel
theorem dX4_prepare_45 : decode cX4_prepare 45 = .ok (.iconst 0, 1) := by decide +kernel
theorem dX4_prepare_46 : decode cX4_prepare 46 = .ok (.istore_n 2, 1) := by decide +kernel
theorem dX4_prepare_47 : decode cX4_prepare 47 = .ok (.iload_n 2, 1) := by decide +kernel
theorem dX4_prepare_48 : decode cX4_prepare 48 = .ok (.aload_n 0, 1) := by decide +kernel
theorem dX4_prepare_49 : decode cX4_prepare 49 = .ok (.getfield 22, 3) := by decide +kernel
theorem dX4_prepare_52 : decode cX4_prepare 52 = .ok (.if_icmp .ge 85, 3) := by decide +kernel
theorem dX4_prepare_55 : decode cX4_prepare 55 = .ok (.aload_n 0, 1) := by decide +kernel
theorem dX4_prepare_56 : decode cX4_prepare 56 = .ok (.iload_n 2, 1) := by decide +kernel
theorem dX4_prepare_57 : decode cX4_prepare 57 = .ok (.invokevirtual 25, 3) := by decide +kernel
theorem dX4_prepare_60 : decode cX4_prepare 60 = .ok (.pop, 1) := by decide +kernel
theorem dX4_prepare_61 : decode cX4_prepare 61 = .ok (.iconst 0, 1) := by decide +kernel
theorem dX4_prepare_62 : decode cX4_prepare 62 = .ok (.istore_n 3, 1) := by decide +kernel
theorem dX4_prepare_63 : decode cX4_prepare 63 = .ok (.iload_n 3, 1) := by decide +kernel
theorem dX4_prepare_64 : decode cX4_prepare 64 = .ok (.aload_n 0, 1) := by decide +kernel
theorem dX4_prepare_65 : decode cX4_prepare 65 = .ok (.getfield 18, 3) := by decide +kernel
theorem dX4_prepare_68 : decode cX4_prepare 68 = .ok (.if_icmp .ge 63, 3) := by decide +kernel
theorem dX4_prepare_71 : decode cX4_prepare 71 = .ok (.iload_n 3, 1) := by decide +kernel
theorem dX4_prepare_72 : decode cX4_prepare 72 = .ok (.iconst 1, 1) := by decide +kernel
theorem dX4_prepare_73 : decode cX4_prepare 73 = .ok (.iadd, 1) := by decide +kernel
theorem dX4_prepare_74 : decode cX4_prepare 74 = .ok (.aload_n 0, 1) := by decide +kernel
theorem dX4_prepare_75 : decode cX4_prepare 75 = .ok (.getfield 18, 3) := by decide +kernel
theorem dX4_prepare_78 : decode cX4_prepare 78 = .ok (.if_icmp .ge 9, 3) := by decide +kernel
theorem dX4_prepare_81 : decode cX4_prepare 81 = .ok (.iload_n 3, 1) := by decide +kernel
theorem dX4_prepare_82 : decode cX4_prepare 82 = .ok (.iconst 1, 1) := by decide +kernel
theorem dX4_prepare_83 : decode cX4_prepare 83 = .ok (.iadd, 1) := by decide +kernel
theorem dX4_prepare_84 : decode cX4_prepare 84 = .ok (.goto 4, 3) := by decide +kernel
theorem dX4_prepare_87 : decode cX4_prepare 87 = .ok (.iconst 0, 1) := by decide +kernel
theorem dX4_prepare_88 : decode cX4_prepare 88 = .ok (.istore 4, 2) := by decide +kernel
theorem dX4_prepare_90 : decode cX4_prepare 90 = .ok (.aload_n 0, 1) := by decide +kernel
theorem dX4_prepare_91 : decode cX4_prepare 91 = .ok (.iload_n 3, 1) := by decide +kernel
theorem dX4_prepare_92 : decode cX4_prepare 92 = .ok (.iload 4, 2) := by decide +kernel
theorem dX4_prepare_94 : decode cX4_prepare 94 = .ok (.invokevirtual 29, 3) := by decide +kernel
theorem dX4_prepare_97 : decode cX4_prepare 97 = .ok (.aload_n 0, 1) := by decide +kernel
theorem dX4_prepare_98 : decode cX4_prepare 98 = .ok (.getfield 9, 3) := by decide +kernel
theorem dX4_prepare_101 : decode cX4_prepare 101 = .ok (.iload_n 2, 1) := by decide +kernel
theorem dX4_prepare_102 : decode cX4_prepare 102 = .ok (.bipush 6, 2) := by decide +kernel
theorem dX4_prepare_104 : decode cX4_prepare 104 = .ok (.imul, 1) := by decide +kernel
theorem dX4_prepare_105 : decode cX4_prepare 105 = .ok (.iload_n 3, 1) := by decide +kernel
theorem dX4_prepare_106 : decode cX4_prepare 106 = .ok (.iadd, 1) := by decide +kernel
theorem dX4_prepare_107 : decode cX4_prepare 107 = .ok (.aload_n 0, 1) := by decide +kernel
theorem dX4_prepare_108 : decode cX4_prepare 108 = .ok (.aload_n 0, 1) := by decide +kernel
theorem dX4_prepare_109 : decode cX4_prepare 109 = .ok (.getfield 15, 3) := by decide +kernel
theorem dX4_prepare_112 : decode cX4_prepare 112 = .ok (.invokevirtual 33, 3) := by decide +kernel
theorem dX4_prepare_115 : decode cX4_prepare 115 = .ok (.invokestatic 37, 3) := by decide +kernel
theorem dX4_prepare_118 : decode cX4_prepare 118 = .ok (.aload_n 0, 1) := by decide +kernel
theorem dX4_prepare_119 : decode cX4_prepare 119 = .ok (.iload_n 3, 1) := by decide +kernel
theorem dX4_prepare_120 : decode cX4_prepare 120 = .ok (.iload 4, 2) := by decide +kernel
theorem dX4_prepare_122 : decode cX4_prepare 122 = .ok (.invokevirtual 29, 3) := by decide +kernel
theorem dX4_prepare_125 : decode cX4_prepare 125 = .ok (.iinc 3 1, 3) := by decide +kernel
theorem dX4_prepare_128 : decode cX4_prepare 128 = .ok (.goto (-65), 3) := by decide +kernel
theorem dX4_prepare_131 : decode cX4_prepare 131 = .ok (.iinc 2 1, 3) := by decide +kernel
theorem dX4_prepare_134 : decode cX4_prepare 134 = .ok (.goto (-87), 3) := by decide +kernel
theorem dX4_prepare_137 : decode cX4_prepare 137 = .ok (.return_, 1) := by decide +kernel
theorem dX4_change_0 : decode cX4_change 0 = .ok (.aload_n 0, 1) := by decide +kernel
theorem dX4_change_1 : decode cX4_change 1 = .ok (.getfield 15, 3) := by decide +kernel
theorem dX4_change_4 : decode cX4_change 4 = .ok (.iload_n 1, 1) := by decide +kernel
theorem dX4_change_5 : decode cX4_change 5 = .ok (.invokestatic 43, 3) := by decide +kernel
theorem dX4_change_8 : decode cX4_change 8 = .ok (.istore_n 3, 1) := by decide +kernel
theorem dX4_change_9 : decode cX4_change 9 = .ok (.aload_n 0, 1) := by decide +kernel
theorem dX4_change_10 : decode cX4_change 10 = .ok (.getfield 15, 3) := by decide +kernel
theorem dX4_change_13 : decode cX4_change 13 = .ok (.iload_n 1, 1) := by decide +kernel
theorem dX4_change_14 : decode cX4_change 14 = .ok (.aload_n 0, 1) := by decide +kernel
theorem dX4_change_15 : decode cX4_change 15 = .ok (.getfield 15, 3) := by decide +kernel
theorem dX4_change_18 : decode cX4_change 18 = .ok (.iload_n 2, 1) := by decide +kernel
theorem dX4_change_19 : decode cX4_change 19 = .ok (.invokestatic 43, 3) := by decide +kernel
theorem dX4_change_22 : decode cX4_change 22 = .ok (.invokestatic 37, 3) := by decide +kernel
theorem dX4_change_25 : decode cX4_change 25 = .ok (.aload_n 0, 1) := by decide +kernel
theorem dX4_change_26 : decode cX4_change 26 = .ok (.getfield 15, 3) := by decide +kernel
theorem dX4_change_29 : decode cX4_change 29 = .ok (.iload_n 2, 1) := by decide +kernel
theorem dX4_change_30 : decode cX4_change 30 = .ok (.iload_n 3, 1) := by decide +kernel
theorem dX4_change_31 : decode cX4_change 31 = .ok (.invokestatic 37, 3) := by decide +kernel
theorem dX4_change_34 : decode cX4_change 34 = .ok (.return_, 1) := by decide +kernel
theorem dX4_numberOf_0 : decode cX4_numberOf 0 = .ok (.iconst 0, 1) := by decide +kernel
theorem dX4_numberOf_1 : decode cX4_numberOf 1 = .ok (.istore_n 2, 1) := by decide +kernel
theorem dX4_numberOf_2 : decode cX4_numberOf 2 = .ok (.iconst 0, 1) := by decide +kernel
theorem dX4_numberOf_3 : decode cX4_numberOf 3 = .ok (.istore_n 3, 1) := by decide +kernel
theorem dX4_numberOf_4 : decode cX4_numberOf 4 = .ok (.iload_n 3, 1) := by decide +kernel
theorem dX4_numberOf_5 : decode cX4_numberOf 5 = .ok (.aload_n 0, 1) := by decide +kernel
theorem dX4_numberOf_6 : decode cX4_numberOf 6 = .ok (.getfield 18, 3) := by decide +kernel
theorem dX4_numberOf_9 : decode cX4_numberOf 9 = .ok (.if_icmp .ge 61, 3) := by decide +kernel
theorem dX4_numberOf_12 : decode cX4_numberOf 12 = .ok (.iconst 0, 1) := by decide +kernel
theorem dX4_numberOf_13 : decode cX4_numberOf 13 = .ok (.istore 4, 2) := by decide +kernel
theorem dX4_numberOf_15 : decode cX4_numberOf 15 = .ok (.iload_n 3, 1) := by decide +kernel
theorem dX4_numberOf_16 : decode cX4_numberOf 16 = .ok (.iconst 1, 1) := by decide +kernel
theorem dX4_numberOf_17 : decode cX4_numberOf 17 = .ok (.iadd, 1) := by decide +kernel
theorem dX4_numberOf_18 : decode cX4_numberOf 18 = .ok (.istore 5, 2) := by decide +kernel
theorem dX4_numberOf_20 : decode cX4_numberOf 20 = .ok (.iload 5, 2) := by decide +kernel
theorem dX4_numberOf_22 : decode cX4_numberOf 22 = .ok (.aload_n 0, 1) := by decide +kernel
theorem dX4_numberOf_23 : decode cX4_numberOf 23 = .ok (.getfield 18, 3) := by decide +kernel
theorem dX4_numberOf_26 : decode cX4_numberOf 26 = .ok (.if_icmp .ge 26, 3) := by decide +kernel
theorem dX4_numberOf_29 : decode cX4_numberOf 29 = .ok (.aload_n 1, 1) := by decide +kernel
theorem dX4_numberOf_30 : decode cX4_numberOf 30 = .ok (.iload 5, 2) := by decide +kernel
theorem dX4_numberOf_32 : decode cX4_numberOf 32 = .ok (.invokestatic 43, 3) := by decide +kernel
theorem dX4_numberOf_35 : decode cX4_numberOf 35 = .ok (.aload_n 1, 1) := by decide +kernel
theorem dX4_numberOf_36 : decode cX4_numberOf 36 = .ok (.iload_n 3, 1) := by decide +kernel
theorem dX4_numberOf_37 : decode cX4_numberOf 37 = .ok (.invokestatic 43, 3) := by decide +kernel
theorem dX4_numberOf_40 : decode cX4_numberOf 40 = .ok (.if_icmp .ge 6, 3) := by decide +kernel
theorem dX4_numberOf_43 : decode cX4_numberOf 43 = .ok (.iinc 4 1, 3) := by decide +kernel
theorem dX4_numberOf_46 : decode cX4_numberOf 46 = .ok (.iinc 5 1, 3) := by decide +kernel
theorem dX4_numberOf_49 : decode cX4_numberOf 49 = .ok (.goto (-29), 3) := by decide +kernel
theorem dX4_numberOf_52 : decode cX4_numberOf 52 = .ok (.iload_n 2, 1) := by decide +kernel
theorem dX4_numberOf_53 : decode cX4_numberOf 53 = .ok (.aload_n 0, 1) := by decide +kernel
theorem dX4_numberOf_54 : decode cX4_numberOf 54 = .ok (.getfield 18, 3) := by decide +kernel
theorem dX4_numberOf_57 : decode cX4_numberOf 57 = .ok (.iload_n 3, 1) := by decide +kernel
theorem dX4_numberOf_58 : decode cX4_numberOf 58 = .ok (.isub, 1) := by decide +kernel
theorem dX4_numberOf_59 : decode cX4_numberOf 59 = .ok (.imul, 1) := by decide +kernel
theorem dX4_numberOf_60 : decode cX4_numberOf 60 = .ok (.iload 4, 2) := by decide +kernel
theorem dX4_numberOf_62 : decode cX4_numberOf 62 = .ok (.iadd, 1) := by decide +kernel
theorem dX4_numberOf_63 : decode cX4_numberOf 63 = .ok (.istore_n 2, 1) := by decide +kernel
theorem dX4_numberOf_64 : decode cX4_numberOf 64 = .ok (.iinc 3 1, 3) := by decide +kernel
theorem dX4_numberOf_67 : decode cX4_numberOf 67 = .ok (.goto (-63), 3) := by decide +kernel
theorem dX4_numberOf_70 : decode cX4_numberOf 70 = .ok (.iload_n 2, 1) := by decide +kernel
theorem dX4_numberOf_71 : decode cX4_numberOf 71 = .ok (.ireturn, 1) := by decide +kernel
theorem dX4_unfold_0 : decode cX4_unfold 0 = .ok (.iload_n 1, 1) := by decide +kernel
theorem dX4_unfold_1 : decode cX4_unfold 1 = .ok (.istore_n 2, 1) := by decide +kernel
theorem dX4_unfold_2 : decode cX4_unfold 2 = .ok (.iconst 1, 1) := by decide +kernel
theorem dX4_unfold_3 : decode cX4_unfold 3 = .ok (.istore_n 3, 1) := by decide +kernel
theorem dX4_unfold_4 : decode cX4_unfold 4 = .ok (.iload_n 3, 1) := by decide +kernel
theorem dX4_unfold_5 : decode cX4_unfold 5 = .ok (.aload_n 0, 1) := by decide +kernel
theorem dX4_unfold_6 : decode cX4_unfold 6 = .ok (.getfield 18, 3) := by decide +kernel
theorem dX4_unfold_9 : decode cX4_unfold 9 = .ok (.if_icmp .gt 94, 3) := by decide +kernel
theorem dX4_unfold_12 : decode cX4_unfold 12 = .ok (.aload_n 0, 1) := by decide +kernel
theorem dX4_unfold_13 : decode cX4_unfold 13 = .ok (.getfield 18, 3) := by decide +kernel
theorem dX4_unfold_16 : decode cX4_unfold 16 = .ok (.iload_n 3, 1) := by decide +kernel
theorem dX4_unfold_17 : decode cX4_unfold 17 = .ok (.isub, 1) := by decide +kernel
theorem dX4_unfold_18 : decode cX4_unfold 18 = .ok (.istore 4, 2) := by decide +kernel
theorem dX4_unfold_20 : decode cX4_unfold 20 = .ok (.iload_n 2, 1) := by decide +kernel
theorem dX4_unfold_21 : decode cX4_unfold 21 = .ok (.iload_n 3, 1) := by decide +kernel
theorem dX4_unfold_22 : decode cX4_unfold 22 = .ok (.irem, 1) := by decide +kernel
theorem dX4_unfold_23 : decode cX4_unfold 23 = .ok (.istore 5, 2) := by decide +kernel
theorem dX4_unfold_25 : decode cX4_unfold 25 = .ok (.iload_n 2, 1) := by decide +kernel
theorem dX4_unfold_26 : decode cX4_unfold 26 = .ok (.iload_n 3, 1) := by decide +kernel
theorem dX4_unfold_27 : decode cX4_unfold 27 = .ok (.idiv, 1) := by decide +kernel
theorem dX4_unfold_28 : decode cX4_unfold 28 = .ok (.istore_n 2, 1) := by decide +kernel
theorem dX4_unfold_29 : decode cX4_unfold 29 = .ok (.aload_n 0, 1) := by decide +kernel
theorem dX4_unfold_30 : decode cX4_unfold 30 = .ok (.getfield 15, 3) := by decide +kernel
theorem dX4_unfold_33 : decode cX4_unfold 33 = .ok (.iload 4, 2) := by decide +kernel
theorem dX4_unfold_35 : decode cX4_unfold 35 = .ok (.iload 5, 2) := by decide +kernel
theorem dX4_unfold_37 : decode cX4_unfold 37 = .ok (.invokestatic 37, 3) := by decide +kernel
theorem dX4_unfold_40 : decode cX4_unfold 40 = .ok (.iload 4, 2) := by decide +kernel
theorem dX4_unfold_42 : decode cX4_unfold 42 = .ok (.iconst 1, 1) := by decide +kernel
theorem dX4_unfold_43 : decode cX4_unfold 43 = .ok (.iadd, 1) := by decide +kernel
theorem dX4_unfold_44 : decode cX4_unfold 44 = .ok (.istore 6, 2) := by decide +kernel
theorem dX4_unfold_46 : decode cX4_unfold 46 = .ok (.iload 6, 2) := by decide +kernel
theorem dX4_unfold_48 : decode cX4_unfold 48 = .ok (.aload_n 0, 1) := by decide +kernel
theorem dX4_unfold_49 : decode cX4_unfold 49 = .ok (.getfield 18, 3) := by decide +kernel
theorem dX4_unfold_52 : decode cX4_unfold 52 = .ok (.if_icmp .ge 45, 3) := by decide +kernel
theorem dX4_unfold_55 : decode cX4_unfold 55 = .ok (.aload_n 0, 1) := by decide +kernel
theorem dX4_unfold_56 : decode cX4_unfold 56 = .ok (.getfield 15, 3) := by decide +kernel
theorem dX4_unfold_59 : decode cX4_unfold 59 = .ok (.iload 6, 2) := by decide +kernel
theorem dX4_unfold_61 : decode cX4_unfold 61 = .ok (.invokestatic 43, 3) := by decide +kernel
theorem dX4_unfold_64 : decode cX4_unfold 64 = .ok (.istore 7, 2) := by decide +kernel
theorem dX4_unfold_66 : decode cX4_unfold 66 = .ok (.aload_n 0, 1) := by decide +kernel
theorem dX4_unfold_67 : decode cX4_unfold 67 = .ok (.getfield 15, 3) := by decide +kernel
theorem dX4_unfold_70 : decode cX4_unfold 70 = .ok (.iload 6, 2) := by decide +kernel
theorem dX4_unfold_72 : decode cX4_unfold 72 = .ok (.iload 7, 2) := by decide +kernel
theorem dX4_unfold_74 : decode cX4_unfold 74 = .ok (.iload 5, 2) := by decide +kernel
theorem dX4_unfold_76 : decode cX4_unfold 76 = .ok (.if_icmp .lt 10, 3) := by decide +kernel
theorem dX4_unfold_79 : decode cX4_unfold 79 = .ok (.iload 7, 2) := by decide +kernel
theorem dX4_unfold_81 : decode cX4_unfold 81 = .ok (.iconst 1, 1) := by decide +kernel
theorem dX4_unfold_82 : decode cX4_unfold 82 = .ok (.iadd, 1) := by decide +kernel
theorem dX4_unfold_83 : decode cX4_unfold 83 = .ok (.goto 5, 3) := by decide +kernel
theorem dX4_unfold_86 : decode cX4_unfold 86 = .ok (.iload 7, 2) := by decide +kernel
theorem dX4_unfold_88 : decode cX4_unfold 88 = .ok (.invokestatic 37, 3) := by decide +kernel
theorem dX4_unfold_91 : decode cX4_unfold 91 = .ok (.iinc 6 1, 3) := by decide +kernel
theorem dX4_unfold_94 : decode cX4_unfold 94 = .ok (.goto (-48), 3) := by decide +kernel
theorem dX4_unfold_97 : decode cX4_unfold 97 = .ok (.iinc 3 1, 3) := by decide +kernel
theorem dX4_unfold_100 : decode cX4_unfold 100 = .ok (.goto (-96), 3) := by decide +kernel
theorem dX4_unfold_103 : decode cX4_unfold 103 = .ok (.aload_n 0, 1) := by decide +kernel
theorem dX4_unfold_104 : decode cX4_unfold 104 = .ok (.getfield 15, 3) := by decide +kernel
theorem dX4_unfold_107 : decode cX4_unfold 107 = .ok (.areturn, 1) := by decide +kernel
theorem dX4_after_0 : decode cX4_after 0 = .ok (.aload_n 0, 1) := by decide +kernel
theorem dX4_after_1 : decode cX4_after 1 = .ok (.getfield 9, 3) := by decide +kernel
theorem dX4_after_4 : decode cX4_after 4 = .ok (.iload_n 1, 1) := by decide +kernel
theorem dX4_after_5 : decode cX4_after 5 = .ok (.bipush 6, 2) := by decide +kernel
theorem dX4_after_7 : decode cX4_after 7 = .ok (.imul, 1) := by decide +kernel
theorem dX4_after_8 : decode cX4_after 8 = .ok (.iload_n 2, 1) := by decide +kernel
theorem dX4_after_9 : decode cX4_after 9 = .ok (.iadd, 1) := by decide +kernel
theorem dX4_after_10 : decode cX4_after 10 = .ok (.invokestatic 43, 3) := by decide +kernel
theorem dX4_after_13 : decode cX4_after 13 = .ok (.ireturn, 1) := by decide +kernel
theorem dX5_init_0 : decode cX5_init 0 = .ok (.aload_n 0, 1) := by decide +kernel
theorem dX5_init_1 : decode cX5_init 1 = .ok (.invokespecial 3, 3) := by decide +kernel
theorem dX5_init_4 : decode cX5_init 4 = .ok (.aload_n 0, 1) := by decide +kernel
theorem dX5_init_5 : decode cX5_init 5 = .ok (.bipush 26, 2) := by decide +kernel
theorem dX5_init_7 : decode cX5_init 7 = .ok (.newarray .int, 2) := by decide +kernel
theorem dX5_init_9 : decode cX5_init 9 = .ok (.putfield 9, 3) := by decide +kernel
theorem dX5_init_12 : decode cX5_init 12 = .ok (.return_, 1) := by decide +kernel
theorem dX5_told_0 : decode cX5_told 0 = .ok (.iconst 0, 1) := by decide +kernel
theorem dX5_told_1 : decode cX5_told 1 = .ok (.istore_n 2, 1) := by decide +kernel
theorem dX5_told_2 : decode cX5_told 2 = .ok (.iconst 0, 1) := by decide +kernel
theorem dX5_told_3 : decode cX5_told 3 = .ok (.istore_n 3, 1) := by decide +kernel
theorem dX5_told_4 : decode cX5_told 4 = .ok (.iconst 0, 1) := by decide +kernel
theorem dX5_told_5 : decode cX5_told 5 = .ok (.istore 4, 2) := by decide +kernel
theorem dX5_told_7 : decode cX5_told 7 = .ok (.iload 4, 2) := by decide +kernel
theorem dX5_told_9 : decode cX5_told 9 = .ok (.bipush 8, 2) := by decide +kernel
theorem dX5_told_11 : decode cX5_told 11 = .ok (.if_icmp .ge 48, 3) := by decide +kernel
theorem dX5_told_14 : decode cX5_told 14 = .ok (.lload_n 0, 1) := by decide +kernel
theorem dX5_told_15 : decode cX5_told 15 = .ok (.iload 4, 2) := by decide +kernel
theorem dX5_told_17 : decode cX5_told 17 = .ok (.invokestatic 15, 3) := by decide +kernel
theorem dX5_told_20 : decode cX5_told 20 = .ok (.istore 5, 2) := by decide +kernel
theorem dX5_told_22 : decode cX5_told 22 = .ok (.iload 5, 2) := by decide +kernel
theorem dX5_told_24 : decode cX5_told 24 = .ok (.bipush 126, 2) := by decide +kernel
theorem dX5_told_26 : decode cX5_told 26 = .ok (.if_icmp .gt 12, 3) := by decide +kernel
theorem dX5_told_29 : decode cX5_told 29 = .ok (.iload_n 3, 1) := by decide +kernel
theorem dX5_told_30 : decode cX5_told 30 = .ok (.ifCond .eq 10, 3) := by decide +kernel
theorem dX5_told_33 : decode cX5_told 33 = .ok (.iload 5, 2) := by decide +kernel
theorem dX5_told_35 : decode cX5_told 35 = .ok (.ifCond .eq 5, 3) := by decide +kernel
theorem dX5_told_38 : decode cX5_told 38 = .ok (.iconst (-1), 1) := by decide +kernel
theorem dX5_told_39 : decode cX5_told 39 = .ok (.ireturn, 1) := by decide +kernel
theorem dX5_told_40 : decode cX5_told 40 = .ok (.iload 5, 2) := by decide +kernel
theorem dX5_told_42 : decode cX5_told 42 = .ok (.ifCond .ne 8, 3) := by decide +kernel
theorem dX5_told_45 : decode cX5_told 45 = .ok (.iconst 1, 1) := by decide +kernel
theorem dX5_told_46 : decode cX5_told 46 = .ok (.istore_n 3, 1) := by decide +kernel
theorem dX5_told_47 : decode cX5_told 47 = .ok (.goto 6, 3) := by decide +kernel
theorem dX5_told_50 : decode cX5_told 50 = .ok (.iinc 2 1, 3) := by decide +kernel
theorem dX5_told_53 : decode cX5_told 53 = .ok (.iinc 4 1, 3) := by decide +kernel
theorem dX5_told_56 : decode cX5_told 56 = .ok (.goto (-49), 3) := by decide +kernel
theorem dX5_told_59 : decode cX5_told 59 = .ok (.iload_n 2, 1) := by decide +kernel
theorem dX5_told_60 : decode cX5_told 60 = .ok (.ireturn, 1) := by decide +kernel
theorem dX5_codeIn_0 : decode cX5_codeIn 0 = .ok (.lload_n 0, 1) := by decide +kernel
theorem dX5_codeIn_1 : decode cX5_codeIn 1 = .ok (.bipush 8, 2) := by decide +kernel
theorem dX5_codeIn_3 : decode cX5_codeIn 3 = .ok (.iload_n 2, 1) := by decide +kernel
theorem dX5_codeIn_4 : decode cX5_codeIn 4 = .ok (.imul, 1) := by decide +kernel
theorem dX5_codeIn_5 : decode cX5_codeIn 5 = .ok (.lushr, 1) := by decide +kernel
theorem dX5_codeIn_6 : decode cX5_codeIn 6 = .ok (.l2i, 1) := by decide +kernel
theorem dX5_codeIn_7 : decode cX5_codeIn 7 = .ok (.sipush 255, 3) := by decide +kernel
theorem dX5_codeIn_10 : decode cX5_codeIn 10 = .ok (.iand, 1) := by decide +kernel
theorem dX5_codeIn_11 : decode cX5_codeIn 11 = .ok (.ireturn, 1) := by decide +kernel
theorem dX5_append_0 : decode cX5_append 0 = .ok (.iconst 0, 1) := by decide +kernel
theorem dX5_append_1 : decode cX5_append 1 = .ok (.istore 4, 2) := by decide +kernel
theorem dX5_append_3 : decode cX5_append 3 = .ok (.iload 4, 2) := by decide +kernel
theorem dX5_append_5 : decode cX5_append 5 = .ok (.iload_n 3, 1) := by decide +kernel
theorem dX5_append_6 : decode cX5_append 6 = .ok (.if_icmp .ge 29, 3) := by decide +kernel
theorem dX5_append_9 : decode cX5_append 9 = .ok (.aload_n 0, 1) := by decide +kernel
theorem dX5_append_10 : decode cX5_append 10 = .ok (.getfield 9, 3) := by decide +kernel
theorem dX5_append_13 : decode cX5_append 13 = .ok (.aload_n 0, 1) := by decide +kernel
theorem dX5_append_14 : decode cX5_append 14 = .ok (.getfield 19, 3) := by decide +kernel
theorem dX5_append_17 : decode cX5_append 17 = .ok (.iload 4, 2) := by decide +kernel
theorem dX5_append_19 : decode cX5_append 19 = .ok (.iadd, 1) := by decide +kernel
theorem dX5_append_20 : decode cX5_append 20 = .ok (.lload_n 1, 1) := by decide +kernel
theorem dX5_append_21 : decode cX5_append 21 = .ok (.iload 4, 2) := by decide +kernel
theorem dX5_append_23 : decode cX5_append 23 = .ok (.invokestatic 15, 3) := by decide +kernel
theorem dX5_append_26 : decode cX5_append 26 = .ok (.invokestatic 23, 3) := by decide +kernel
theorem dX5_append_29 : decode cX5_append 29 = .ok (.iinc 4 1, 3) := by decide +kernel
theorem dX5_append_32 : decode cX5_append 32 = .ok (.goto (-29), 3) := by decide +kernel
theorem dX5_append_35 : decode cX5_append 35 = .ok (.aload_n 0, 1) := by decide +kernel
theorem dX5_append_36 : decode cX5_append 36 = .ok (.dup, 1) := by decide +kernel
theorem dX5_append_37 : decode cX5_append 37 = .ok (.getfield 19, 3) := by decide +kernel
theorem dX5_append_40 : decode cX5_append 40 = .ok (.iload_n 3, 1) := by decide +kernel
theorem dX5_append_41 : decode cX5_append 41 = .ok (.iadd, 1) := by decide +kernel
theorem dX5_append_42 : decode cX5_append 42 = .ok (.putfield 19, 3) := by decide +kernel
theorem dX5_append_45 : decode cX5_append 45 = .ok (.return_, 1) := by decide +kernel
theorem dX5_clear_0 : decode cX5_clear 0 = .ok (.aload_n 0, 1) := by decide +kernel
theorem dX5_clear_1 : decode cX5_clear 1 = .ok (.getfield 19, 3) := by decide +kernel
theorem dX5_clear_4 : decode cX5_clear 4 = .ok (.istore_n 1, 1) := by decide +kernel
theorem dX5_clear_5 : decode cX5_clear 5 = .ok (.aload_n 0, 1) := by decide +kernel
theorem dX5_clear_6 : decode cX5_clear 6 = .ok (.iconst 0, 1) := by decide +kernel
theorem dX5_clear_7 : decode cX5_clear 7 = .ok (.putfield 19, 3) := by decide +kernel
theorem dX5_clear_10 : decode cX5_clear 10 = .ok (.iload_n 1, 1) := by decide +kernel
theorem dX5_clear_11 : decode cX5_clear 11 = .ok (.ireturn, 1) := by decide +kernel
theorem dX5_code_0 : decode cX5_code 0 = .ok (.aload_n 0, 1) := by decide +kernel
theorem dX5_code_1 : decode cX5_code 1 = .ok (.getfield 9, 3) := by decide +kernel
theorem dX5_code_4 : decode cX5_code 4 = .ok (.iload_n 1, 1) := by decide +kernel
theorem dX5_code_5 : decode cX5_code 5 = .ok (.invokestatic 29, 3) := by decide +kernel
theorem dX5_code_8 : decode cX5_code 8 = .ok (.ireturn, 1) := by decide +kernel
theorem dX5_digit_0 : decode cX5_digit 0 = .ok (.aload_n 0, 1) := by decide +kernel
theorem dX5_digit_1 : decode cX5_digit 1 = .ok (.getfield 9, 3) := by decide +kernel
theorem dX5_digit_4 : decode cX5_digit 4 = .ok (.iload_n 1, 1) := by decide +kernel
theorem dX5_digit_5 : decode cX5_digit 5 = .ok (.invokestatic 29, 3) := by decide +kernel
theorem dX5_digit_8 : decode cX5_digit 8 = .ok (.bipush 48, 2) := by decide +kernel
theorem dX5_digit_10 : decode cX5_digit 10 = .ok (.isub, 1) := by decide +kernel
theorem dX5_digit_11 : decode cX5_digit 11 = .ok (.ireturn, 1) := by decide +kernel
theorem dX5_isDigit_0 : decode cX5_isDigit 0 = .ok (.aload_n 0, 1) := by decide +kernel
theorem dX5_isDigit_1 : decode cX5_isDigit 1 = .ok (.iload_n 1, 1) := by decide +kernel
theorem dX5_isDigit_2 : decode cX5_isDigit 2 = .ok (.invokevirtual 33, 3) := by decide +kernel
theorem dX5_isDigit_5 : decode cX5_isDigit 5 = .ok (.iload_n 2, 1) := by decide +kernel
theorem dX5_isDigit_6 : decode cX5_isDigit 6 = .ok (.if_icmp .lt 16, 3) := by decide +kernel
theorem dX5_isDigit_9 : decode cX5_isDigit 9 = .ok (.aload_n 0, 1) := by decide +kernel
theorem dX5_isDigit_10 : decode cX5_isDigit 10 = .ok (.iload_n 1, 1) := by decide +kernel
theorem dX5_isDigit_11 : decode cX5_isDigit 11 = .ok (.invokevirtual 33, 3) := by decide +kernel
theorem dX5_isDigit_14 : decode cX5_isDigit 14 = .ok (.iload_n 3, 1) := by decide +kernel
theorem dX5_isDigit_15 : decode cX5_isDigit 15 = .ok (.if_icmp .gt 7, 3) := by decide +kernel
theorem dX5_isDigit_18 : decode cX5_isDigit 18 = .ok (.iconst 1, 1) := by decide +kernel
theorem dX5_isDigit_19 : decode cX5_isDigit 19 = .ok (.goto 4, 3) := by decide +kernel
theorem dX5_isDigit_22 : decode cX5_isDigit 22 = .ok (.iconst 0, 1) := by decide +kernel
theorem dX5_isDigit_23 : decode cX5_isDigit 23 = .ok (.ireturn, 1) := by decide +kernel
theorem dX5_kindTold_0 : decode cX5_kindTold 0 = .ok (.iload_n 0, 1) := by decide +kernel
theorem dX5_kindTold_1 : decode cX5_kindTold 1 = .ok (.lookupswitch 51 #[(101, 47), (102, 45), (104, 43), (119, 49)], 43) := by decide +kernel
theorem dX5_kindTold_44 : decode cX5_kindTold 44 = .ok (.iconst 0, 1) := by decide +kernel
theorem dX5_kindTold_45 : decode cX5_kindTold 45 = .ok (.ireturn, 1) := by decide +kernel
theorem dX5_kindTold_46 : decode cX5_kindTold 46 = .ok (.iconst 1, 1) := by decide +kernel
theorem dX5_kindTold_47 : decode cX5_kindTold 47 = .ok (.ireturn, 1) := by decide +kernel
theorem dX5_kindTold_48 : decode cX5_kindTold 48 = .ok (.iconst 2, 1) := by decide +kernel
theorem dX5_kindTold_49 : decode cX5_kindTold 49 = .ok (.ireturn, 1) := by decide +kernel
theorem dX5_kindTold_50 : decode cX5_kindTold 50 = .ok (.iconst 3, 1) := by decide +kernel
theorem dX5_kindTold_51 : decode cX5_kindTold 51 = .ok (.ireturn, 1) := by decide +kernel
theorem dX5_kindTold_52 : decode cX5_kindTold 52 = .ok (.iconst (-1), 1) := by decide +kernel
theorem dX5_kindTold_53 : decode cX5_kindTold 53 = .ok (.ireturn, 1) := by decide +kernel
theorem dX5_housesTold_0 : decode cX5_housesTold 0 = .ok (.iconst 0, 1) := by decide +kernel
theorem dX5_housesTold_1 : decode cX5_housesTold 1 = .ok (.istore_n 1, 1) := by decide +kernel
theorem dX5_housesTold_2 : decode cX5_housesTold 2 = .ok (.iload_n 1, 1) := by decide +kernel
theorem dX5_housesTold_3 : decode cX5_housesTold 3 = .ok (.aload_n 0, 1) := by decide +kernel
theorem dX5_housesTold_4 : decode cX5_housesTold 4 = .ok (.getfield 19, 3) := by decide +kernel
theorem dX5_housesTold_7 : decode cX5_housesTold 7 = .ok (.if_icmp .ge 27, 3) := by decide +kernel
theorem dX5_housesTold_10 : decode cX5_housesTold 10 = .ok (.iload_n 1, 1) := by decide +kernel
theorem dX5_housesTold_11 : decode cX5_housesTold 11 = .ok (.bipush 6, 2) := by decide +kernel
theorem dX5_housesTold_13 : decode cX5_housesTold 13 = .ok (.if_icmp .ge 21, 3) := by decide +kernel
theorem dX5_housesTold_16 : decode cX5_housesTold 16 = .ok (.aload_n 0, 1) := by decide +kernel
theorem dX5_housesTold_17 : decode cX5_housesTold 17 = .ok (.iload_n 1, 1) := by decide +kernel
theorem dX5_housesTold_18 : decode cX5_housesTold 18 = .ok (.invokevirtual 37, 3) := by decide +kernel
theorem dX5_housesTold_21 : decode cX5_housesTold 21 = .ok (.invokestatic 40, 3) := by decide +kernel
theorem dX5_housesTold_24 : decode cX5_housesTold 24 = .ok (.iconst (-1), 1) := by decide +kernel
theorem dX5_housesTold_25 : decode cX5_housesTold 25 = .ok (.if_icmp .eq 9, 3) := by decide +kernel
theorem dX5_housesTold_28 : decode cX5_housesTold 28 = .ok (.iinc 1 1, 3) := by decide +kernel
theorem dX5_housesTold_31 : decode cX5_housesTold 31 = .ok (.goto (-29), 3) := by decide +kernel
theorem dX5_housesTold_34 : decode cX5_housesTold 34 = .ok (.iload_n 1, 1) := by decide +kernel
theorem dX5_housesTold_35 : decode cX5_housesTold 35 = .ok (.ireturn, 1) := by decide +kernel
theorem dX5_firstNoRing_0 : decode cX5_firstNoRing 0 = .ok (.aload_n 0, 1) := by decide +kernel
theorem dX5_firstNoRing_1 : decode cX5_firstNoRing 1 = .ok (.invokevirtual 43, 3) := by decide +kernel
theorem dX5_firstNoRing_4 : decode cX5_firstNoRing 4 = .ok (.istore_n 1, 1) := by decide +kernel
theorem dX5_firstNoRing_5 : decode cX5_firstNoRing 5 = .ok (.iload_n 1, 1) := by decide +kernel
theorem dX5_firstNoRing_6 : decode cX5_firstNoRing 6 = .ok (.aload_n 0, 1) := by decide +kernel
theorem dX5_firstNoRing_7 : decode cX5_firstNoRing 7 = .ok (.getfield 19, 3) := by decide +kernel
theorem dX5_firstNoRing_10 : decode cX5_firstNoRing 10 = .ok (.if_icmp .ne 8, 3) := by decide +kernel
theorem dX5_firstNoRing_13 : decode cX5_firstNoRing 13 = .ok (.aload_n 0, 1) := by decide +kernel
theorem dX5_firstNoRing_14 : decode cX5_firstNoRing 14 = .ok (.getfield 19, 3) := by decide +kernel
theorem dX5_firstNoRing_17 : decode cX5_firstNoRing 17 = .ok (.ireturn, 1) := by decide +kernel
theorem dX5_firstNoRing_18 : decode cX5_firstNoRing 18 = .ok (.iload_n 1, 1) := by decide +kernel
theorem dX5_firstNoRing_19 : decode cX5_firstNoRing 19 = .ok (.iconst 3, 1) := by decide +kernel
theorem dX5_firstNoRing_20 : decode cX5_firstNoRing 20 = .ok (.if_icmp .lt 13, 3) := by decide +kernel
theorem dX5_firstNoRing_23 : decode cX5_firstNoRing 23 = .ok (.aload_n 0, 1) := by decide +kernel
theorem dX5_firstNoRing_24 : decode cX5_firstNoRing 24 = .ok (.iload_n 1, 1) := by decide +kernel
theorem dX5_firstNoRing_25 : decode cX5_firstNoRing 25 = .ok (.invokevirtual 37, 3) := by decide +kernel
theorem dX5_firstNoRing_28 : decode cX5_firstNoRing 28 = .ok (.bipush 59, 2) := by decide +kernel
theorem dX5_firstNoRing_30 : decode cX5_firstNoRing 30 = .ok (.if_icmp .eq 5, 3) := by decide +kernel
theorem dX5_firstNoRing_33 : decode cX5_firstNoRing 33 = .ok (.iload_n 1, 1) := by decide +kernel
theorem dX5_firstNoRing_34 : decode cX5_firstNoRing 34 = .ok (.ireturn, 1) := by decide +kernel
theorem dX5_firstNoRing_35 : decode cX5_firstNoRing 35 = .ok (.iload_n 1, 1) := by decide +kernel
theorem dX5_firstNoRing_36 : decode cX5_firstNoRing 36 = .ok (.iconst 1, 1) := by decide +kernel
theorem dX5_firstNoRing_37 : decode cX5_firstNoRing 37 = .ok (.iadd, 1) := by decide +kernel
theorem dX5_firstNoRing_38 : decode cX5_firstNoRing 38 = .ok (.istore_n 2, 1) := by decide +kernel
theorem dX5_firstNoRing_39 : decode cX5_firstNoRing 39 = .ok (.iload_n 2, 1) := by decide +kernel
theorem dX5_firstNoRing_40 : decode cX5_firstNoRing 40 = .ok (.aload_n 0, 1) := by decide +kernel
theorem dX5_firstNoRing_41 : decode cX5_firstNoRing 41 = .ok (.getfield 19, 3) := by decide +kernel
theorem dX5_firstNoRing_44 : decode cX5_firstNoRing 44 = .ok (.if_icmp .ge 20, 3) := by decide +kernel
theorem dX5_firstNoRing_47 : decode cX5_firstNoRing 47 = .ok (.aload_n 0, 1) := by decide +kernel
theorem dX5_firstNoRing_48 : decode cX5_firstNoRing 48 = .ok (.iload_n 2, 1) := by decide +kernel
theorem dX5_firstNoRing_49 : decode cX5_firstNoRing 49 = .ok (.iload_n 1, 1) := by decide +kernel
theorem dX5_firstNoRing_50 : decode cX5_firstNoRing 50 = .ok (.invokevirtual 47, 3) := by decide +kernel
theorem dX5_firstNoRing_53 : decode cX5_firstNoRing 53 = .ok (.ifCond .ne 5, 3) := by decide +kernel
theorem dX5_firstNoRing_56 : decode cX5_firstNoRing 56 = .ok (.iload_n 2, 1) := by decide +kernel
theorem dX5_firstNoRing_57 : decode cX5_firstNoRing 57 = .ok (.ireturn, 1) := by decide +kernel
theorem dX5_firstNoRing_58 : decode cX5_firstNoRing 58 = .ok (.iinc 2 1, 3) := by decide +kernel
theorem dX5_firstNoRing_61 : decode cX5_firstNoRing 61 = .ok (.goto (-22), 3) := by decide +kernel
theorem dX5_firstNoRing_64 : decode cX5_firstNoRing 64 = .ok (.aload_n 0, 1) := by decide +kernel
theorem dX5_firstNoRing_65 : decode cX5_firstNoRing 65 = .ok (.getfield 19, 3) := by decide +kernel
theorem dX5_firstNoRing_68 : decode cX5_firstNoRing 68 = .ok (.ireturn, 1) := by decide +kernel
theorem dX5_fitsFeuds_0 : decode cX5_fitsFeuds 0 = .ok (.iload_n 1, 1) := by decide +kernel
theorem dX5_fitsFeuds_1 : decode cX5_fitsFeuds 1 = .ok (.iload_n 2, 1) := by decide +kernel
theorem dX5_fitsFeuds_2 : decode cX5_fitsFeuds 2 = .ok (.isub, 1) := by decide +kernel
theorem dX5_fitsFeuds_3 : decode cX5_fitsFeuds 3 = .ok (.iconst 1, 1) := by decide +kernel
theorem dX5_fitsFeuds_4 : decode cX5_fitsFeuds 4 = .ok (.isub, 1) := by decide +kernel
theorem dX5_fitsFeuds_5 : decode cX5_fitsFeuds 5 = .ok (.istore_n 3, 1) := by decide +kernel
theorem dX5_fitsFeuds_6 : decode cX5_fitsFeuds 6 = .ok (.iload_n 3, 1) := by decide +kernel
theorem dX5_fitsFeuds_7 : decode cX5_fitsFeuds 7 = .ok (.bipush 17, 2) := by decide +kernel
theorem dX5_fitsFeuds_9 : decode cX5_fitsFeuds 9 = .ok (.if_icmp .lt 5, 3) := by decide +kernel
theorem dX5_fitsFeuds_12 : decode cX5_fitsFeuds 12 = .ok (.iconst 0, 1) := by decide +kernel
theorem dX5_fitsFeuds_13 : decode cX5_fitsFeuds 13 = .ok (.ireturn, 1) := by decide +kernel
theorem dX5_fitsFeuds_14 : decode cX5_fitsFeuds 14 = .ok (.iload_n 3, 1) := by decide +kernel
theorem dX5_fitsFeuds_15 : decode cX5_fitsFeuds 15 = .ok (.iconst 3, 1) := by decide +kernel
theorem dX5_fitsFeuds_16 : decode cX5_fitsFeuds 16 = .ok (.irem, 1) := by decide +kernel
theorem dX5_fitsFeuds_17 : decode cX5_fitsFeuds 17 = .ok (.lookupswitch 70 #[(0, 27), (1, 37)], 27) := by decide +kernel
theorem dX5_fitsFeuds_44 : decode cX5_fitsFeuds 44 = .ok (.aload_n 0, 1) := by decide +kernel
theorem dX5_fitsFeuds_45 : decode cX5_fitsFeuds 45 = .ok (.iload_n 1, 1) := by decide +kernel
theorem dX5_fitsFeuds_46 : decode cX5_fitsFeuds 46 = .ok (.iconst 0, 1) := by decide +kernel
theorem dX5_fitsFeuds_47 : decode cX5_fitsFeuds 47 = .ok (.iload_n 2, 1) := by decide +kernel
theorem dX5_fitsFeuds_48 : decode cX5_fitsFeuds 48 = .ok (.iconst 1, 1) := by decide +kernel
theorem dX5_fitsFeuds_49 : decode cX5_fitsFeuds 49 = .ok (.isub, 1) := by decide +kernel
theorem dX5_fitsFeuds_50 : decode cX5_fitsFeuds 50 = .ok (.invokevirtual 51, 3) := by decide +kernel
theorem dX5_fitsFeuds_53 : decode cX5_fitsFeuds 53 = .ok (.ireturn, 1) := by decide +kernel
theorem dX5_fitsFeuds_54 : decode cX5_fitsFeuds 54 = .ok (.aload_n 0, 1) := by decide +kernel
theorem dX5_fitsFeuds_55 : decode cX5_fitsFeuds 55 = .ok (.iload_n 1, 1) := by decide +kernel
theorem dX5_fitsFeuds_56 : decode cX5_fitsFeuds 56 = .ok (.iconst 0, 1) := by decide +kernel
theorem dX5_fitsFeuds_57 : decode cX5_fitsFeuds 57 = .ok (.iload_n 2, 1) := by decide +kernel
theorem dX5_fitsFeuds_58 : decode cX5_fitsFeuds 58 = .ok (.iconst 1, 1) := by decide +kernel
theorem dX5_fitsFeuds_59 : decode cX5_fitsFeuds 59 = .ok (.isub, 1) := by decide +kernel
theorem dX5_fitsFeuds_60 : decode cX5_fitsFeuds 60 = .ok (.invokevirtual 51, 3) := by decide +kernel
theorem dX5_fitsFeuds_63 : decode cX5_fitsFeuds 63 = .ok (.ifCond .eq 22, 3) := by decide +kernel
theorem dX5_fitsFeuds_66 : decode cX5_fitsFeuds 66 = .ok (.aload_n 0, 1) := by decide +kernel
theorem dX5_fitsFeuds_67 : decode cX5_fitsFeuds 67 = .ok (.iload_n 1, 1) := by decide +kernel
theorem dX5_fitsFeuds_68 : decode cX5_fitsFeuds 68 = .ok (.invokevirtual 37, 3) := by decide +kernel
theorem dX5_fitsFeuds_71 : decode cX5_fitsFeuds 71 = .ok (.aload_n 0, 1) := by decide +kernel
theorem dX5_fitsFeuds_72 : decode cX5_fitsFeuds 72 = .ok (.iload_n 1, 1) := by decide +kernel
theorem dX5_fitsFeuds_73 : decode cX5_fitsFeuds 73 = .ok (.iconst 1, 1) := by decide +kernel
theorem dX5_fitsFeuds_74 : decode cX5_fitsFeuds 74 = .ok (.isub, 1) := by decide +kernel
theorem dX5_fitsFeuds_75 : decode cX5_fitsFeuds 75 = .ok (.invokevirtual 37, 3) := by decide +kernel
theorem dX5_fitsFeuds_78 : decode cX5_fitsFeuds 78 = .ok (.if_icmp .eq 7, 3) := by decide +kernel
theorem dX5_fitsFeuds_81 : decode cX5_fitsFeuds 81 = .ok (.iconst 1, 1) := by decide +kernel
theorem dX5_fitsFeuds_82 : decode cX5_fitsFeuds 82 = .ok (.goto 4, 3) := by decide +kernel
theorem dX5_fitsFeuds_85 : decode cX5_fitsFeuds 85 = .ok (.iconst 0, 1) := by decide +kernel
theorem dX5_fitsFeuds_86 : decode cX5_fitsFeuds 86 = .ok (.ireturn, 1) := by decide +kernel
theorem dX5_fitsFeuds_87 : decode cX5_fitsFeuds 87 = .ok (.aload_n 0, 1) := by decide +kernel
theorem dX5_fitsFeuds_88 : decode cX5_fitsFeuds 88 = .ok (.iload_n 1, 1) := by decide +kernel
theorem dX5_fitsFeuds_89 : decode cX5_fitsFeuds 89 = .ok (.invokevirtual 37, 3) := by decide +kernel
theorem dX5_fitsFeuds_92 : decode cX5_fitsFeuds 92 = .ok (.bipush 44, 2) := by decide +kernel
theorem dX5_fitsFeuds_94 : decode cX5_fitsFeuds 94 = .ok (.if_icmp .ne 7, 3) := by decide +kernel
theorem dX5_fitsFeuds_97 : decode cX5_fitsFeuds 97 = .ok (.iconst 1, 1) := by decide +kernel
theorem dX5_fitsFeuds_98 : decode cX5_fitsFeuds 98 = .ok (.goto 4, 3) := by decide +kernel
theorem dX5_fitsFeuds_101 : decode cX5_fitsFeuds 101 = .ok (.iconst 0, 1) := by decide +kernel
theorem dX5_fitsFeuds_102 : decode cX5_fitsFeuds 102 = .ok (.ireturn, 1) := by decide +kernel
theorem dX5_isRing_0 : decode cX5_isRing 0 = .ok (.aload_n 0, 1) := by decide +kernel
theorem dX5_isRing_1 : decode cX5_isRing 1 = .ok (.invokevirtual 43, 3) := by decide +kernel
theorem dX5_isRing_4 : decode cX5_isRing 4 = .ok (.istore_n 1, 1) := by decide +kernel
theorem dX5_isRing_5 : decode cX5_isRing 5 = .ok (.iload_n 1, 1) := by decide +kernel
theorem dX5_isRing_6 : decode cX5_isRing 6 = .ok (.iconst 3, 1) := by decide +kernel
theorem dX5_isRing_7 : decode cX5_isRing 7 = .ok (.if_icmp .lt 14, 3) := by decide +kernel
theorem dX5_isRing_10 : decode cX5_isRing 10 = .ok (.aload_n 0, 1) := by decide +kernel
theorem dX5_isRing_11 : decode cX5_isRing 11 = .ok (.invokevirtual 55, 3) := by decide +kernel
theorem dX5_isRing_14 : decode cX5_isRing 14 = .ok (.aload_n 0, 1) := by decide +kernel
theorem dX5_isRing_15 : decode cX5_isRing 15 = .ok (.getfield 19, 3) := by decide +kernel
theorem dX5_isRing_18 : decode cX5_isRing 18 = .ok (.if_icmp .eq 5, 3) := by decide +kernel
theorem dX5_isRing_21 : decode cX5_isRing 21 = .ok (.iconst 0, 1) := by decide +kernel
theorem dX5_isRing_22 : decode cX5_isRing 22 = .ok (.ireturn, 1) := by decide +kernel
theorem dX5_isRing_23 : decode cX5_isRing 23 = .ok (.aload_n 0, 1) := by decide +kernel
theorem dX5_isRing_24 : decode cX5_isRing 24 = .ok (.getfield 19, 3) := by decide +kernel
theorem dX5_isRing_27 : decode cX5_isRing 27 = .ok (.iload_n 1, 1) := by decide +kernel
theorem dX5_isRing_28 : decode cX5_isRing 28 = .ok (.if_icmp .eq 17, 3) := by decide +kernel
theorem dX5_isRing_31 : decode cX5_isRing 31 = .ok (.aload_n 0, 1) := by decide +kernel
theorem dX5_isRing_32 : decode cX5_isRing 32 = .ok (.getfield 19, 3) := by decide +kernel
theorem dX5_isRing_35 : decode cX5_isRing 35 = .ok (.iload_n 1, 1) := by decide +kernel
theorem dX5_isRing_36 : decode cX5_isRing 36 = .ok (.isub, 1) := by decide +kernel
theorem dX5_isRing_37 : decode cX5_isRing 37 = .ok (.iconst 1, 1) := by decide +kernel
theorem dX5_isRing_38 : decode cX5_isRing 38 = .ok (.isub, 1) := by decide +kernel
theorem dX5_isRing_39 : decode cX5_isRing 39 = .ok (.iconst 3, 1) := by decide +kernel
theorem dX5_isRing_40 : decode cX5_isRing 40 = .ok (.irem, 1) := by decide +kernel
theorem dX5_isRing_41 : decode cX5_isRing 41 = .ok (.iconst 2, 1) := by decide +kernel
theorem dX5_isRing_42 : decode cX5_isRing 42 = .ok (.if_icmp .ne 7, 3) := by decide +kernel
theorem dX5_isRing_45 : decode cX5_isRing 45 = .ok (.iconst 1, 1) := by decide +kernel
theorem dX5_isRing_46 : decode cX5_isRing 46 = .ok (.goto 4, 3) := by decide +kernel
theorem dX5_isRing_49 : decode cX5_isRing 49 = .ok (.iconst 0, 1) := by decide +kernel
theorem dX5_isRing_50 : decode cX5_isRing 50 = .ok (.ireturn, 1) := by decide +kernel
theorem dX5_firstNoLetter_0 : decode cX5_firstNoLetter 0 = .ok (.iconst 0, 1) := by decide +kernel
theorem dX5_firstNoLetter_1 : decode cX5_firstNoLetter 1 = .ok (.istore_n 1, 1) := by decide +kernel
theorem dX5_firstNoLetter_2 : decode cX5_firstNoLetter 2 = .ok (.iload_n 1, 1) := by decide +kernel
theorem dX5_firstNoLetter_3 : decode cX5_firstNoLetter 3 = .ok (.aload_n 0, 1) := by decide +kernel
theorem dX5_firstNoLetter_4 : decode cX5_firstNoLetter 4 = .ok (.getfield 19, 3) := by decide +kernel
theorem dX5_firstNoLetter_7 : decode cX5_firstNoLetter 7 = .ok (.if_icmp .ge 19, 3) := by decide +kernel
theorem dX5_firstNoLetter_10 : decode cX5_firstNoLetter 10 = .ok (.aload_n 0, 1) := by decide +kernel
theorem dX5_firstNoLetter_11 : decode cX5_firstNoLetter 11 = .ok (.iload_n 1, 1) := by decide +kernel
theorem dX5_firstNoLetter_12 : decode cX5_firstNoLetter 12 = .ok (.invokevirtual 58, 3) := by decide +kernel
theorem dX5_firstNoLetter_15 : decode cX5_firstNoLetter 15 = .ok (.ifCond .ne 5, 3) := by decide +kernel
theorem dX5_firstNoLetter_18 : decode cX5_firstNoLetter 18 = .ok (.iload_n 1, 1) := by decide +kernel
theorem dX5_firstNoLetter_19 : decode cX5_firstNoLetter 19 = .ok (.ireturn, 1) := by decide +kernel
theorem dX5_firstNoLetter_20 : decode cX5_firstNoLetter 20 = .ok (.iinc 1 1, 3) := by decide +kernel
theorem dX5_firstNoLetter_23 : decode cX5_firstNoLetter 23 = .ok (.goto (-21), 3) := by decide +kernel
theorem dX5_firstNoLetter_26 : decode cX5_firstNoLetter 26 = .ok (.aload_n 0, 1) := by decide +kernel
theorem dX5_firstNoLetter_27 : decode cX5_firstNoLetter 27 = .ok (.getfield 19, 3) := by decide +kernel
theorem dX5_firstNoLetter_30 : decode cX5_firstNoLetter 30 = .ok (.ireturn, 1) := by decide +kernel
theorem dX5_fitsLetter_0 : decode cX5_fitsLetter 0 = .ok (.aload_n 0, 1) := by decide +kernel
theorem dX5_fitsLetter_1 : decode cX5_fitsLetter 1 = .ok (.iconst 0, 1) := by decide +kernel
theorem dX5_fitsLetter_2 : decode cX5_fitsLetter 2 = .ok (.invokevirtual 37, 3) := by decide +kernel
theorem dX5_fitsLetter_5 : decode cX5_fitsLetter 5 = .ok (.istore_n 2, 1) := by decide +kernel
theorem dX5_fitsLetter_6 : decode cX5_fitsLetter 6 = .ok (.iload_n 2, 1) := by decide +kernel
theorem dX5_fitsLetter_7 : decode cX5_fitsLetter 7 = .ok (.bipush 114, 2) := by decide +kernel
theorem dX5_fitsLetter_9 : decode cX5_fitsLetter 9 = .ok (.if_icmp .eq 9, 3) := by decide +kernel
theorem dX5_fitsLetter_12 : decode cX5_fitsLetter 12 = .ok (.iload_n 2, 1) := by decide +kernel
theorem dX5_fitsLetter_13 : decode cX5_fitsLetter 13 = .ok (.bipush 108, 2) := by decide +kernel
theorem dX5_fitsLetter_15 : decode cX5_fitsLetter 15 = .ok (.if_icmp .ne 7, 3) := by decide +kernel
theorem dX5_fitsLetter_18 : decode cX5_fitsLetter 18 = .ok (.iconst 1, 1) := by decide +kernel
theorem dX5_fitsLetter_19 : decode cX5_fitsLetter 19 = .ok (.goto 4, 3) := by decide +kernel
theorem dX5_fitsLetter_22 : decode cX5_fitsLetter 22 = .ok (.iconst 0, 1) := by decide +kernel
theorem dX5_fitsLetter_23 : decode cX5_fitsLetter 23 = .ok (.istore_n 3, 1) := by decide +kernel
theorem dX5_fitsLetter_24 : decode cX5_fitsLetter 24 = .ok (.iload_n 1, 1) := by decide +kernel
theorem dX5_fitsLetter_25 : decode cX5_fitsLetter 25 = .ok (.tableswitch 111 0 2 #[27, 49, 72], 27) := by decide +kernel
theorem dX5_fitsLetter_52 : decode cX5_fitsLetter 52 = .ok (.iload_n 3, 1) := by decide +kernel
theorem dX5_fitsLetter_53 : decode cX5_fitsLetter 53 = .ok (.ifCond .ne 15, 3) := by decide +kernel
theorem dX5_fitsLetter_56 : decode cX5_fitsLetter 56 = .ok (.iload_n 2, 1) := by decide +kernel
theorem dX5_fitsLetter_57 : decode cX5_fitsLetter 57 = .ok (.bipush 110, 2) := by decide +kernel
theorem dX5_fitsLetter_59 : decode cX5_fitsLetter 59 = .ok (.if_icmp .eq 9, 3) := by decide +kernel
theorem dX5_fitsLetter_62 : decode cX5_fitsLetter 62 = .ok (.iload_n 2, 1) := by decide +kernel
theorem dX5_fitsLetter_63 : decode cX5_fitsLetter 63 = .ok (.bipush 98, 2) := by decide +kernel
theorem dX5_fitsLetter_65 : decode cX5_fitsLetter 65 = .ok (.if_icmp .ne 7, 3) := by decide +kernel
theorem dX5_fitsLetter_68 : decode cX5_fitsLetter 68 = .ok (.iconst 1, 1) := by decide +kernel
theorem dX5_fitsLetter_69 : decode cX5_fitsLetter 69 = .ok (.goto 4, 3) := by decide +kernel
theorem dX5_fitsLetter_72 : decode cX5_fitsLetter 72 = .ok (.iconst 0, 1) := by decide +kernel
theorem dX5_fitsLetter_73 : decode cX5_fitsLetter 73 = .ok (.ireturn, 1) := by decide +kernel
theorem dX5_fitsLetter_74 : decode cX5_fitsLetter 74 = .ok (.iload_n 3, 1) := by decide +kernel
theorem dX5_fitsLetter_75 : decode cX5_fitsLetter 75 = .ok (.ifCond .eq 14, 3) := by decide +kernel
theorem dX5_fitsLetter_78 : decode cX5_fitsLetter 78 = .ok (.aload_n 0, 1) := by decide +kernel
theorem dX5_fitsLetter_79 : decode cX5_fitsLetter 79 = .ok (.iconst 1, 1) := by decide +kernel
theorem dX5_fitsLetter_80 : decode cX5_fitsLetter 80 = .ok (.iconst 1, 1) := by decide +kernel
theorem dX5_fitsLetter_81 : decode cX5_fitsLetter 81 = .ok (.bipush 9, 2) := by decide +kernel
theorem dX5_fitsLetter_83 : decode cX5_fitsLetter 83 = .ok (.invokevirtual 51, 3) := by decide +kernel
theorem dX5_fitsLetter_86 : decode cX5_fitsLetter 86 = .ok (.goto 10, 3) := by decide +kernel
theorem dX5_fitsLetter_89 : decode cX5_fitsLetter 89 = .ok (.aload_n 0, 1) := by decide +kernel
theorem dX5_fitsLetter_90 : decode cX5_fitsLetter 90 = .ok (.iconst 1, 1) := by decide +kernel
theorem dX5_fitsLetter_91 : decode cX5_fitsLetter 91 = .ok (.iconst 0, 1) := by decide +kernel
theorem dX5_fitsLetter_92 : decode cX5_fitsLetter 92 = .ok (.iconst 5, 1) := by decide +kernel
theorem dX5_fitsLetter_93 : decode cX5_fitsLetter 93 = .ok (.invokevirtual 51, 3) := by decide +kernel
theorem dX5_fitsLetter_96 : decode cX5_fitsLetter 96 = .ok (.ireturn, 1) := by decide +kernel
theorem dX5_fitsLetter_97 : decode cX5_fitsLetter 97 = .ok (.iload_n 2, 1) := by decide +kernel
theorem dX5_fitsLetter_98 : decode cX5_fitsLetter 98 = .ok (.bipush 110, 2) := by decide +kernel
theorem dX5_fitsLetter_100 : decode cX5_fitsLetter 100 = .ok (.if_icmp .eq 34, 3) := by decide +kernel
theorem dX5_fitsLetter_103 : decode cX5_fitsLetter 103 = .ok (.aload_n 0, 1) := by decide +kernel
theorem dX5_fitsLetter_104 : decode cX5_fitsLetter 104 = .ok (.iconst 2, 1) := by decide +kernel
theorem dX5_fitsLetter_105 : decode cX5_fitsLetter 105 = .ok (.iconst 0, 1) := by decide +kernel
theorem dX5_fitsLetter_106 : decode cX5_fitsLetter 106 = .ok (.iconst 5, 1) := by decide +kernel
theorem dX5_fitsLetter_107 : decode cX5_fitsLetter 107 = .ok (.invokevirtual 51, 3) := by decide +kernel
theorem dX5_fitsLetter_110 : decode cX5_fitsLetter 110 = .ok (.ifCond .eq 24, 3) := by decide +kernel
theorem dX5_fitsLetter_113 : decode cX5_fitsLetter 113 = .ok (.iload_n 3, 1) := by decide +kernel
theorem dX5_fitsLetter_114 : decode cX5_fitsLetter 114 = .ok (.ifCond .ne 16, 3) := by decide +kernel
theorem dX5_fitsLetter_117 : decode cX5_fitsLetter 117 = .ok (.aload_n 0, 1) := by decide +kernel
theorem dX5_fitsLetter_118 : decode cX5_fitsLetter 118 = .ok (.iconst 2, 1) := by decide +kernel
theorem dX5_fitsLetter_119 : decode cX5_fitsLetter 119 = .ok (.invokevirtual 37, 3) := by decide +kernel
theorem dX5_fitsLetter_122 : decode cX5_fitsLetter 122 = .ok (.aload_n 0, 1) := by decide +kernel
theorem dX5_fitsLetter_123 : decode cX5_fitsLetter 123 = .ok (.iconst 1, 1) := by decide +kernel
theorem dX5_fitsLetter_124 : decode cX5_fitsLetter 124 = .ok (.invokevirtual 37, 3) := by decide +kernel
theorem dX5_fitsLetter_127 : decode cX5_fitsLetter 127 = .ok (.if_icmp .eq 7, 3) := by decide +kernel
theorem dX5_fitsLetter_130 : decode cX5_fitsLetter 130 = .ok (.iconst 1, 1) := by decide +kernel
theorem dX5_fitsLetter_131 : decode cX5_fitsLetter 131 = .ok (.goto 4, 3) := by decide +kernel
theorem dX5_fitsLetter_134 : decode cX5_fitsLetter 134 = .ok (.iconst 0, 1) := by decide +kernel
theorem dX5_fitsLetter_135 : decode cX5_fitsLetter 135 = .ok (.ireturn, 1) := by decide +kernel
theorem dX5_fitsLetter_136 : decode cX5_fitsLetter 136 = .ok (.iconst 0, 1) := by decide +kernel
theorem dX5_fitsLetter_137 : decode cX5_fitsLetter 137 = .ok (.ireturn, 1) := by decide +kernel
theorem dX6_init_0 : decode cX6_init 0 = .ok (.aload_n 0, 1) := by decide +kernel
theorem dX6_init_1 : decode cX6_init 1 = .ok (.invokespecial 3, 3) := by decide +kernel
theorem dX6_init_4 : decode cX6_init 4 = .ok (.aload_n 0, 1) := by decide +kernel
theorem dX6_init_5 : decode cX6_init 5 = .ok (.sipush 720, 3) := by decide +kernel
theorem dX6_init_8 : decode cX6_init 8 = .ok (.newarray .long, 2) := by decide +kernel
theorem dX6_init_10 : decode cX6_init 10 = .ok (.putfield 9, 3) := by decide +kernel
theorem dX6_init_13 : decode cX6_init 13 = .ok (.aload_n 0, 1) := by decide +kernel
theorem dX6_init_14 : decode cX6_init 14 = .ok (.sipush 720, 3) := by decide +kernel
theorem dX6_init_17 : decode cX6_init 17 = .ok (.newarray .long, 2) := by decide +kernel
theorem dX6_init_19 : decode cX6_init 19 = .ok (.putfield 15, 3) := by decide +kernel
theorem dX6_init_22 : decode cX6_init 22 = .ok (.aload_n 0, 1) := by decide +kernel
theorem dX6_init_23 : decode cX6_init 23 = .ok (.sipush 720, 3) := by decide +kernel
theorem dX6_init_26 : decode cX6_init 26 = .ok (.newarray .int, 2) := by decide +kernel
theorem dX6_init_28 : decode cX6_init 28 = .ok (.putfield 18, 3) := by decide +kernel
theorem dX6_init_31 : decode cX6_init 31 = .ok (.aload_n 0, 1) := by decide +kernel
theorem dX6_init_32 : decode cX6_init 32 = .ok (.sipush 720, 3) := by decide +kernel
theorem dX6_init_35 : decode cX6_init 35 = .ok (.newarray .int, 2) := by decide +kernel
theorem dX6_init_37 : decode cX6_init 37 = .ok (.putfield 22, 3) := by decide +kernel
theorem dX6_init_40 : decode cX6_init 40 = .ok (.aload_n 0, 1) := by decide +kernel
theorem dX6_init_41 : decode cX6_init 41 = .ok (.aload_n 1, 1) := by decide +kernel
theorem dX6_init_42 : decode cX6_init 42 = .ok (.putfield 25, 3) := by decide +kernel
theorem dX6_init_45 : decode cX6_init 45 = .ok (.aload_n 0, 1) := by decide +kernel
theorem dX6_init_46 : decode cX6_init 46 = .ok (.aload_n 2, 1) := by decide +kernel
theorem dX6_init_47 : decode cX6_init 47 = .ok (.putfield 29, 3) := by decide +kernel
theorem dX6_init_50 : decode cX6_init 50 = .ok (.return_, 1) := by decide +kernel
theorem dX6_goBy_0 : decode cX6_goBy 0 = .ok (.aload_n 0, 1) := by decide +kernel
theorem dX6_goBy_1 : decode cX6_goBy 1 = .ok (.getfield 9, 3) := by decide +kernel
theorem dX6_goBy_4 : decode cX6_goBy 4 = .ok (.lconst 0, 1) := by decide +kernel
theorem dX6_goBy_5 : decode cX6_goBy 5 = .ok (.invokestatic 33, 3) := by decide +kernel
theorem dX6_goBy_8 : decode cX6_goBy 8 = .ok (.aload_n 0, 1) := by decide +kernel
theorem dX6_goBy_9 : decode cX6_goBy 9 = .ok (.getfield 9, 3) := by decide +kernel
theorem dX6_goBy_12 : decode cX6_goBy 12 = .ok (.iconst 0, 1) := by decide +kernel
theorem dX6_goBy_13 : decode cX6_goBy 13 = .ok (.lconst 1, 1) := by decide +kernel
theorem dX6_goBy_14 : decode cX6_goBy 14 = .ok (.invokestatic 39, 3) := by decide +kernel
theorem dX6_goBy_17 : decode cX6_goBy 17 = .ok (.aload_n 0, 1) := by decide +kernel
theorem dX6_goBy_18 : decode cX6_goBy 18 = .ok (.getfield 18, 3) := by decide +kernel
theorem dX6_goBy_21 : decode cX6_goBy 21 = .ok (.iconst 0, 1) := by decide +kernel
theorem dX6_goBy_22 : decode cX6_goBy 22 = .ok (.iconst 0, 1) := by decide +kernel
theorem dX6_goBy_23 : decode cX6_goBy 23 = .ok (.invokestatic 45, 3) := by decide +kernel
theorem dX6_goBy_26 : decode cX6_goBy 26 = .ok (.iconst 0, 1) := by decide +kernel
theorem dX6_goBy_27 : decode cX6_goBy 27 = .ok (.istore_n 2, 1) := by decide +kernel
theorem dX6_goBy_28 : decode cX6_goBy 28 = .ok (.iload_n 2, 1) := by decide +kernel
theorem dX6_goBy_29 : decode cX6_goBy 29 = .ok (.iload_n 1, 1) := by decide +kernel
theorem dX6_goBy_30 : decode cX6_goBy 30 = .ok (.if_icmp .ge 105, 3) := by decide +kernel
theorem dX6_goBy_33 : decode cX6_goBy 33 = .ok (.aload_n 0, 1) := by decide +kernel
theorem dX6_goBy_34 : decode cX6_goBy 34 = .ok (.getfield 15, 3) := by decide +kernel
theorem dX6_goBy_37 : decode cX6_goBy 37 = .ok (.lconst 0, 1) := by decide +kernel
theorem dX6_goBy_38 : decode cX6_goBy 38 = .ok (.invokestatic 33, 3) := by decide +kernel
theorem dX6_goBy_41 : decode cX6_goBy 41 = .ok (.iconst 0, 1) := by decide +kernel
theorem dX6_goBy_42 : decode cX6_goBy 42 = .ok (.istore_n 3, 1) := by decide +kernel
theorem dX6_goBy_43 : decode cX6_goBy 43 = .ok (.iload_n 3, 1) := by decide +kernel
theorem dX6_goBy_44 : decode cX6_goBy 44 = .ok (.aload_n 0, 1) := by decide +kernel
theorem dX6_goBy_45 : decode cX6_goBy 45 = .ok (.getfield 29, 3) := by decide +kernel
theorem dX6_goBy_48 : decode cX6_goBy 48 = .ok (.getfield 48, 3) := by decide +kernel
theorem dX6_goBy_51 : decode cX6_goBy 51 = .ok (.if_icmp .ge 27, 3) := by decide +kernel
theorem dX6_goBy_54 : decode cX6_goBy 54 = .ok (.aload_n 0, 1) := by decide +kernel
theorem dX6_goBy_55 : decode cX6_goBy 55 = .ok (.getfield 9, 3) := by decide +kernel
theorem dX6_goBy_58 : decode cX6_goBy 58 = .ok (.iload_n 3, 1) := by decide +kernel
theorem dX6_goBy_59 : decode cX6_goBy 59 = .ok (.invokestatic 54, 3) := by decide +kernel
theorem dX6_goBy_62 : decode cX6_goBy 62 = .ok (.lconst 0, 1) := by decide +kernel
theorem dX6_goBy_63 : decode cX6_goBy 63 = .ok (.lcmp, 1) := by decide +kernel
theorem dX6_goBy_64 : decode cX6_goBy 64 = .ok (.ifCond .le 8, 3) := by decide +kernel
theorem dX6_goBy_67 : decode cX6_goBy 67 = .ok (.aload_n 0, 1) := by decide +kernel
theorem dX6_goBy_68 : decode cX6_goBy 68 = .ok (.iload_n 3, 1) := by decide +kernel
theorem dX6_goBy_69 : decode cX6_goBy 69 = .ok (.invokevirtual 58, 3) := by decide +kernel
theorem dX6_goBy_72 : decode cX6_goBy 72 = .ok (.iinc 3 1, 3) := by decide +kernel
theorem dX6_goBy_75 : decode cX6_goBy 75 = .ok (.goto (-32), 3) := by decide +kernel
theorem dX6_goBy_78 : decode cX6_goBy 78 = .ok (.iconst 0, 1) := by decide +kernel
theorem dX6_goBy_79 : decode cX6_goBy 79 = .ok (.istore_n 3, 1) := by decide +kernel
theorem dX6_goBy_80 : decode cX6_goBy 80 = .ok (.iload_n 3, 1) := by decide +kernel
theorem dX6_goBy_81 : decode cX6_goBy 81 = .ok (.aload_n 0, 1) := by decide +kernel
theorem dX6_goBy_82 : decode cX6_goBy 82 = .ok (.getfield 29, 3) := by decide +kernel
theorem dX6_goBy_85 : decode cX6_goBy 85 = .ok (.getfield 48, 3) := by decide +kernel
theorem dX6_goBy_88 : decode cX6_goBy 88 = .ok (.if_icmp .ge 41, 3) := by decide +kernel
theorem dX6_goBy_91 : decode cX6_goBy 91 = .ok (.aload_n 0, 1) := by decide +kernel
theorem dX6_goBy_92 : decode cX6_goBy 92 = .ok (.getfield 9, 3) := by decide +kernel
theorem dX6_goBy_95 : decode cX6_goBy 95 = .ok (.iload_n 3, 1) := by decide +kernel
theorem dX6_goBy_96 : decode cX6_goBy 96 = .ok (.aload_n 0, 1) := by decide +kernel
theorem dX6_goBy_97 : decode cX6_goBy 97 = .ok (.getfield 15, 3) := by decide +kernel
theorem dX6_goBy_100 : decode cX6_goBy 100 = .ok (.iload_n 3, 1) := by decide +kernel
theorem dX6_goBy_101 : decode cX6_goBy 101 = .ok (.invokestatic 54, 3) := by decide +kernel
theorem dX6_goBy_104 : decode cX6_goBy 104 = .ok (.invokestatic 39, 3) := by decide +kernel
theorem dX6_goBy_107 : decode cX6_goBy 107 = .ok (.aload_n 0, 1) := by decide +kernel
theorem dX6_goBy_108 : decode cX6_goBy 108 = .ok (.getfield 18, 3) := by decide +kernel
theorem dX6_goBy_111 : decode cX6_goBy 111 = .ok (.iload_n 3, 1) := by decide +kernel
theorem dX6_goBy_112 : decode cX6_goBy 112 = .ok (.aload_n 0, 1) := by decide +kernel
theorem dX6_goBy_113 : decode cX6_goBy 113 = .ok (.getfield 22, 3) := by decide +kernel
theorem dX6_goBy_116 : decode cX6_goBy 116 = .ok (.iload_n 3, 1) := by decide +kernel
theorem dX6_goBy_117 : decode cX6_goBy 117 = .ok (.invokestatic 62, 3) := by decide +kernel
theorem dX6_goBy_120 : decode cX6_goBy 120 = .ok (.invokestatic 45, 3) := by decide +kernel
theorem dX6_goBy_123 : decode cX6_goBy 123 = .ok (.iinc 3 1, 3) := by decide +kernel
theorem dX6_goBy_126 : decode cX6_goBy 126 = .ok (.goto (-46), 3) := by decide +kernel
theorem dX6_goBy_129 : decode cX6_goBy 129 = .ok (.iinc 2 1, 3) := by decide +kernel
theorem dX6_goBy_132 : decode cX6_goBy 132 = .ok (.goto (-104), 3) := by decide +kernel
theorem dX6_goBy_135 : decode cX6_goBy 135 = .ok (.return_, 1) := by decide +kernel
theorem dX6_spread_0 : decode cX6_spread 0 = .ok (.iconst 0, 1) := by decide +kernel
theorem dX6_spread_1 : decode cX6_spread 1 = .ok (.istore_n 2, 1) := by decide +kernel
theorem dX6_spread_2 : decode cX6_spread 2 = .ok (.iload_n 2, 1) := by decide +kernel
theorem dX6_spread_3 : decode cX6_spread 3 = .ok (.aload_n 0, 1) := by decide +kernel
theorem dX6_spread_4 : decode cX6_spread 4 = .ok (.getfield 25, 3) := by decide +kernel
theorem dX6_spread_7 : decode cX6_spread 7 = .ok (.getfield 65, 3) := by decide +kernel
theorem dX6_spread_10 : decode cX6_spread 10 = .ok (.if_icmp .ge 118, 3) := by decide +kernel
theorem dX6_spread_13 : decode cX6_spread 13 = .ok (.aload_n 0, 1) := by decide +kernel
theorem dX6_spread_14 : decode cX6_spread 14 = .ok (.getfield 25, 3) := by decide +kernel
theorem dX6_spread_17 : decode cX6_spread 17 = .ok (.iload_n 2, 1) := by decide +kernel
theorem dX6_spread_18 : decode cX6_spread 18 = .ok (.invokevirtual 70, 3) := by decide +kernel
theorem dX6_spread_21 : decode cX6_spread 21 = .ok (.ifCond .ne 101, 3) := by decide +kernel
theorem dX6_spread_24 : decode cX6_spread 24 = .ok (.aload_n 0, 1) := by decide +kernel
theorem dX6_spread_25 : decode cX6_spread 25 = .ok (.getfield 29, 3) := by decide +kernel
theorem dX6_spread_28 : decode cX6_spread 28 = .ok (.iload_n 1, 1) := by decide +kernel
theorem dX6_spread_29 : decode cX6_spread 29 = .ok (.iload_n 2, 1) := by decide +kernel
theorem dX6_spread_30 : decode cX6_spread 30 = .ok (.invokevirtual 74, 3) := by decide +kernel
theorem dX6_spread_33 : decode cX6_spread 33 = .ok (.istore_n 3, 1) := by decide +kernel
theorem dX6_spread_34 : decode cX6_spread 34 = .ok (.aload_n 0, 1) := by decide +kernel
theorem dX6_spread_35 : decode cX6_spread 35 = .ok (.getfield 18, 3) := by decide +kernel
theorem dX6_spread_38 : decode cX6_spread 38 = .ok (.iload_n 1, 1) := by decide +kernel
theorem dX6_spread_39 : decode cX6_spread 39 = .ok (.invokestatic 62, 3) := by decide +kernel
theorem dX6_spread_42 : decode cX6_spread 42 = .ok (.iconst 1, 1) := by decide +kernel
theorem dX6_spread_43 : decode cX6_spread 43 = .ok (.iload_n 2, 1) := by decide +kernel
theorem dX6_spread_44 : decode cX6_spread 44 = .ok (.ishl, 1) := by decide +kernel
theorem dX6_spread_45 : decode cX6_spread 45 = .ok (.ior, 1) := by decide +kernel
theorem dX6_spread_46 : decode cX6_spread 46 = .ok (.istore 4, 2) := by decide +kernel
theorem dX6_spread_48 : decode cX6_spread 48 = .ok (.aload_n 0, 1) := by decide +kernel
theorem dX6_spread_49 : decode cX6_spread 49 = .ok (.getfield 15, 3) := by decide +kernel
theorem dX6_spread_52 : decode cX6_spread 52 = .ok (.iload_n 3, 1) := by decide +kernel
theorem dX6_spread_53 : decode cX6_spread 53 = .ok (.invokestatic 54, 3) := by decide +kernel
theorem dX6_spread_56 : decode cX6_spread 56 = .ok (.lconst 0, 1) := by decide +kernel
theorem dX6_spread_57 : decode cX6_spread 57 = .ok (.lcmp, 1) := by decide +kernel
theorem dX6_spread_58 : decode cX6_spread 58 = .ok (.ifCond .ne 7, 3) := by decide +kernel
theorem dX6_spread_61 : decode cX6_spread 61 = .ok (.iconst 1, 1) := by decide +kernel
theorem dX6_spread_62 : decode cX6_spread 62 = .ok (.goto 4, 3) := by decide +kernel
theorem dX6_spread_65 : decode cX6_spread 65 = .ok (.iconst 0, 1) := by decide +kernel
theorem dX6_spread_66 : decode cX6_spread 66 = .ok (.istore 5, 2) := by decide +kernel
theorem dX6_spread_68 : decode cX6_spread 68 = .ok (.aload_n 0, 1) := by decide +kernel
theorem dX6_spread_69 : decode cX6_spread 69 = .ok (.getfield 22, 3) := by decide +kernel
theorem dX6_spread_72 : decode cX6_spread 72 = .ok (.iload_n 3, 1) := by decide +kernel
theorem dX6_spread_73 : decode cX6_spread 73 = .ok (.iload 5, 2) := by decide +kernel
theorem dX6_spread_75 : decode cX6_spread 75 = .ok (.ifCond .eq 8, 3) := by decide +kernel
theorem dX6_spread_78 : decode cX6_spread 78 = .ok (.iload 4, 2) := by decide +kernel
theorem dX6_spread_80 : decode cX6_spread 80 = .ok (.goto 14, 3) := by decide +kernel
theorem dX6_spread_83 : decode cX6_spread 83 = .ok (.iload 4, 2) := by decide +kernel
theorem dX6_spread_85 : decode cX6_spread 85 = .ok (.aload_n 0, 1) := by decide +kernel
theorem dX6_spread_86 : decode cX6_spread 86 = .ok (.getfield 22, 3) := by decide +kernel
theorem dX6_spread_89 : decode cX6_spread 89 = .ok (.iload_n 3, 1) := by decide +kernel
theorem dX6_spread_90 : decode cX6_spread 90 = .ok (.invokestatic 62, 3) := by decide +kernel
theorem dX6_spread_93 : decode cX6_spread 93 = .ok (.iand, 1) := by decide +kernel
theorem dX6_spread_94 : decode cX6_spread 94 = .ok (.invokestatic 45, 3) := by decide +kernel
theorem dX6_spread_97 : decode cX6_spread 97 = .ok (.aload_n 0, 1) := by decide +kernel
theorem dX6_spread_98 : decode cX6_spread 98 = .ok (.getfield 15, 3) := by decide +kernel
theorem dX6_spread_101 : decode cX6_spread 101 = .ok (.iload_n 3, 1) := by decide +kernel
theorem dX6_spread_102 : decode cX6_spread 102 = .ok (.aload_n 0, 1) := by decide +kernel
theorem dX6_spread_103 : decode cX6_spread 103 = .ok (.getfield 15, 3) := by decide +kernel
theorem dX6_spread_106 : decode cX6_spread 106 = .ok (.iload_n 3, 1) := by decide +kernel
theorem dX6_spread_107 : decode cX6_spread 107 = .ok (.invokestatic 54, 3) := by decide +kernel
theorem dX6_spread_110 : decode cX6_spread 110 = .ok (.aload_n 0, 1) := by decide +kernel
theorem dX6_spread_111 : decode cX6_spread 111 = .ok (.getfield 9, 3) := by decide +kernel
theorem dX6_spread_114 : decode cX6_spread 114 = .ok (.iload_n 1, 1) := by decide +kernel
theorem dX6_spread_115 : decode cX6_spread 115 = .ok (.invokestatic 54, 3) := by decide +kernel
theorem dX6_spread_118 : decode cX6_spread 118 = .ok (.ladd, 1) := by decide +kernel
theorem dX6_spread_119 : decode cX6_spread 119 = .ok (.invokestatic 39, 3) := by decide +kernel
theorem dX6_spread_122 : decode cX6_spread 122 = .ok (.iinc 2 1, 3) := by decide +kernel
theorem dX6_spread_125 : decode cX6_spread 125 = .ok (.goto (-123), 3) := by decide +kernel
theorem dX6_spread_128 : decode cX6_spread 128 = .ok (.return_, 1) := by decide +kernel
theorem dX6_rowsTo_0 : decode cX6_rowsTo 0 = .ok (.aload_n 0, 1) := by decide +kernel
theorem dX6_rowsTo_1 : decode cX6_rowsTo 1 = .ok (.getfield 9, 3) := by decide +kernel
theorem dX6_rowsTo_4 : decode cX6_rowsTo 4 = .ok (.iload_n 1, 1) := by decide +kernel
theorem dX6_rowsTo_5 : decode cX6_rowsTo 5 = .ok (.invokestatic 54, 3) := by decide +kernel
theorem dX6_rowsTo_8 : decode cX6_rowsTo 8 = .ok (.lreturn, 1) := by decide +kernel
theorem dX6_sharedTo_0 : decode cX6_sharedTo 0 = .ok (.aload_n 0, 1) := by decide +kernel
theorem dX6_sharedTo_1 : decode cX6_sharedTo 1 = .ok (.iload_n 1, 1) := by decide +kernel
theorem dX6_sharedTo_2 : decode cX6_sharedTo 2 = .ok (.invokevirtual 78, 3) := by decide +kernel
theorem dX6_sharedTo_5 : decode cX6_sharedTo 5 = .ok (.lconst 0, 1) := by decide +kernel
theorem dX6_sharedTo_6 : decode cX6_sharedTo 6 = .ok (.lcmp, 1) := by decide +kernel
theorem dX6_sharedTo_7 : decode cX6_sharedTo 7 = .ok (.ifCond .le 14, 3) := by decide +kernel
theorem dX6_sharedTo_10 : decode cX6_sharedTo 10 = .ok (.aload_n 0, 1) := by decide +kernel
theorem dX6_sharedTo_11 : decode cX6_sharedTo 11 = .ok (.getfield 18, 3) := by decide +kernel
theorem dX6_sharedTo_14 : decode cX6_sharedTo 14 = .ok (.iload_n 1, 1) := by decide +kernel
theorem dX6_sharedTo_15 : decode cX6_sharedTo 15 = .ok (.invokestatic 62, 3) := by decide +kernel
theorem dX6_sharedTo_18 : decode cX6_sharedTo 18 = .ok (.goto 4, 3) := by decide +kernel
theorem dX6_sharedTo_21 : decode cX6_sharedTo 21 = .ok (.iconst 0, 1) := by decide +kernel
theorem dX6_sharedTo_22 : decode cX6_sharedTo 22 = .ok (.ireturn, 1) := by decide +kernel
theorem dX7_init_0 : decode cX7_init 0 = .ok (.aload_n 0, 1) := by decide +kernel
theorem dX7_init_1 : decode cX7_init 1 = .ok (.invokespecial 3, 3) := by decide +kernel
theorem dX7_init_4 : decode cX7_init 4 = .ok (.aload_n 0, 1) := by decide +kernel
theorem dX7_init_5 : decode cX7_init 5 = .ok (.bipush 6, 2) := by decide +kernel
theorem dX7_init_7 : decode cX7_init 7 = .ok (.newarray .int, 2) := by decide +kernel
theorem dX7_init_9 : decode cX7_init 9 = .ok (.putfield 9, 3) := by decide +kernel
theorem dX7_init_12 : decode cX7_init 12 = .ok (.aload_n 0, 1) := by decide +kernel
theorem dX7_init_13 : decode cX7_init 13 = .ok (.bipush 6, 2) := by decide +kernel
theorem dX7_init_15 : decode cX7_init 15 = .ok (.newarray .int, 2) := by decide +kernel
theorem dX7_init_17 : decode cX7_init 17 = .ok (.putfield 15, 3) := by decide +kernel
theorem dX7_init_20 : decode cX7_init 20 = .ok (.aload_n 0, 1) := by decide +kernel
theorem dX7_init_21 : decode cX7_init 21 = .ok (.aload_n 1, 1) := by decide +kernel
theorem dX7_init_22 : decode cX7_init 22 = .ok (.putfield 18, 3) := by decide +kernel
theorem dX7_init_25 : decode cX7_init 25 = .ok (.return_, 1) := by decide +kernel
theorem dX7_rolls_0 : decode cX7_rolls 0 = .ok (.aload_n 0, 1) := by decide +kernel
theorem dX7_rolls_1 : decode cX7_rolls 1 = .ok (.getfield 9, 3) := by decide +kernel
theorem dX7_rolls_4 : decode cX7_rolls 4 = .ok (.iconst 0, 1) := by decide +kernel
theorem dX7_rolls_5 : decode cX7_rolls 5 = .ok (.invokestatic 22, 3) := by decide +kernel
theorem dX7_rolls_8 : decode cX7_rolls 8 = .ok (.aload_n 0, 1) := by decide +kernel
theorem dX7_rolls_9 : decode cX7_rolls 9 = .ok (.getfield 9, 3) := by decide +kernel
theorem dX7_rolls_12 : decode cX7_rolls 12 = .ok (.iload_n 1, 1) := by decide +kernel
theorem dX7_rolls_13 : decode cX7_rolls 13 = .ok (.iconst 1, 1) := by decide +kernel
theorem dX7_rolls_14 : decode cX7_rolls 14 = .ok (.invokestatic 28, 3) := by decide +kernel
theorem dX7_rolls_17 : decode cX7_rolls 17 = .ok (.iconst 0, 1) := by decide +kernel
theorem dX7_rolls_18 : decode cX7_rolls 18 = .ok (.istore 4, 2) := by decide +kernel
theorem dX7_rolls_20 : decode cX7_rolls 20 = .ok (.iload 4, 2) := by decide +kernel
theorem dX7_rolls_22 : decode cX7_rolls 22 = .ok (.iload_n 3, 1) := by decide +kernel
theorem dX7_rolls_23 : decode cX7_rolls 23 = .ok (.if_icmp .ge 119, 3) := by decide +kernel
theorem dX7_rolls_26 : decode cX7_rolls 26 = .ok (.aload_n 0, 1) := by decide +kernel
theorem dX7_rolls_27 : decode cX7_rolls 27 = .ok (.getfield 15, 3) := by decide +kernel
theorem dX7_rolls_30 : decode cX7_rolls 30 = .ok (.iconst 0, 1) := by decide +kernel
theorem dX7_rolls_31 : decode cX7_rolls 31 = .ok (.invokestatic 22, 3) := by decide +kernel
theorem dX7_rolls_34 : decode cX7_rolls 34 = .ok (.iconst 0, 1) := by decide +kernel
theorem dX7_rolls_35 : decode cX7_rolls 35 = .ok (.istore 5, 2) := by decide +kernel
theorem dX7_rolls_37 : decode cX7_rolls 37 = .ok (.iload 5, 2) := by decide +kernel
theorem dX7_rolls_39 : decode cX7_rolls 39 = .ok (.aload_n 0, 1) := by decide +kernel
theorem dX7_rolls_40 : decode cX7_rolls 40 = .ok (.getfield 18, 3) := by decide +kernel
theorem dX7_rolls_43 : decode cX7_rolls 43 = .ok (.getfield 34, 3) := by decide +kernel
theorem dX7_rolls_46 : decode cX7_rolls 46 = .ok (.if_icmp .ge 51, 3) := by decide +kernel
theorem dX7_rolls_49 : decode cX7_rolls 49 = .ok (.iconst 0, 1) := by decide +kernel
theorem dX7_rolls_50 : decode cX7_rolls 50 = .ok (.istore 6, 2) := by decide +kernel
theorem dX7_rolls_52 : decode cX7_rolls 52 = .ok (.iload 6, 2) := by decide +kernel
theorem dX7_rolls_54 : decode cX7_rolls 54 = .ok (.aload_n 0, 1) := by decide +kernel
theorem dX7_rolls_55 : decode cX7_rolls 55 = .ok (.getfield 18, 3) := by decide +kernel
theorem dX7_rolls_58 : decode cX7_rolls 58 = .ok (.getfield 34, 3) := by decide +kernel
theorem dX7_rolls_61 : decode cX7_rolls 61 = .ok (.if_icmp .ge 30, 3) := by decide +kernel
theorem dX7_rolls_64 : decode cX7_rolls 64 = .ok (.aload_n 0, 1) := by decide +kernel
theorem dX7_rolls_65 : decode cX7_rolls 65 = .ok (.aload_n 0, 1) := by decide +kernel
theorem dX7_rolls_66 : decode cX7_rolls 66 = .ok (.iload 5, 2) := by decide +kernel
theorem dX7_rolls_68 : decode cX7_rolls 68 = .ok (.iload 6, 2) := by decide +kernel
theorem dX7_rolls_70 : decode cX7_rolls 70 = .ok (.invokevirtual 40, 3) := by decide +kernel
theorem dX7_rolls_73 : decode cX7_rolls 73 = .ok (.aload_n 0, 1) := by decide +kernel
theorem dX7_rolls_74 : decode cX7_rolls 74 = .ok (.getfield 9, 3) := by decide +kernel
theorem dX7_rolls_77 : decode cX7_rolls 77 = .ok (.iload 5, 2) := by decide +kernel
theorem dX7_rolls_79 : decode cX7_rolls 79 = .ok (.invokestatic 44, 3) := by decide +kernel
theorem dX7_rolls_82 : decode cX7_rolls 82 = .ok (.invokevirtual 48, 3) := by decide +kernel
theorem dX7_rolls_85 : decode cX7_rolls 85 = .ok (.iinc 6 1, 3) := by decide +kernel
theorem dX7_rolls_88 : decode cX7_rolls 88 = .ok (.goto (-36), 3) := by decide +kernel
theorem dX7_rolls_91 : decode cX7_rolls 91 = .ok (.iinc 5 1, 3) := by decide +kernel
theorem dX7_rolls_94 : decode cX7_rolls 94 = .ok (.goto (-57), 3) := by decide +kernel
theorem dX7_rolls_97 : decode cX7_rolls 97 = .ok (.iconst 0, 1) := by decide +kernel
theorem dX7_rolls_98 : decode cX7_rolls 98 = .ok (.istore 5, 2) := by decide +kernel
theorem dX7_rolls_100 : decode cX7_rolls 100 = .ok (.iload 5, 2) := by decide +kernel
theorem dX7_rolls_102 : decode cX7_rolls 102 = .ok (.aload_n 0, 1) := by decide +kernel
theorem dX7_rolls_103 : decode cX7_rolls 103 = .ok (.getfield 18, 3) := by decide +kernel
theorem dX7_rolls_106 : decode cX7_rolls 106 = .ok (.getfield 34, 3) := by decide +kernel
theorem dX7_rolls_109 : decode cX7_rolls 109 = .ok (.if_icmp .ge 27, 3) := by decide +kernel
theorem dX7_rolls_112 : decode cX7_rolls 112 = .ok (.aload_n 0, 1) := by decide +kernel
theorem dX7_rolls_113 : decode cX7_rolls 113 = .ok (.getfield 9, 3) := by decide +kernel
theorem dX7_rolls_116 : decode cX7_rolls 116 = .ok (.iload 5, 2) := by decide +kernel
theorem dX7_rolls_118 : decode cX7_rolls 118 = .ok (.aload_n 0, 1) := by decide +kernel
theorem dX7_rolls_119 : decode cX7_rolls 119 = .ok (.getfield 15, 3) := by decide +kernel
theorem dX7_rolls_122 : decode cX7_rolls 122 = .ok (.iload 5, 2) := by decide +kernel
theorem dX7_rolls_124 : decode cX7_rolls 124 = .ok (.invokestatic 44, 3) := by decide +kernel
theorem dX7_rolls_127 : decode cX7_rolls 127 = .ok (.invokestatic 28, 3) := by decide +kernel
theorem dX7_rolls_130 : decode cX7_rolls 130 = .ok (.iinc 5 1, 3) := by decide +kernel
theorem dX7_rolls_133 : decode cX7_rolls 133 = .ok (.goto (-33), 3) := by decide +kernel
theorem dX7_rolls_136 : decode cX7_rolls 136 = .ok (.iinc 4 1, 3) := by decide +kernel
theorem dX7_rolls_139 : decode cX7_rolls 139 = .ok (.goto (-119), 3) := by decide +kernel
theorem dX7_rolls_142 : decode cX7_rolls 142 = .ok (.aload_n 0, 1) := by decide +kernel
theorem dX7_rolls_143 : decode cX7_rolls 143 = .ok (.getfield 9, 3) := by decide +kernel
theorem dX7_rolls_146 : decode cX7_rolls 146 = .ok (.iload_n 2, 1) := by decide +kernel
theorem dX7_rolls_147 : decode cX7_rolls 147 = .ok (.invokestatic 44, 3) := by decide +kernel
theorem dX7_rolls_150 : decode cX7_rolls 150 = .ok (.ireturn, 1) := by decide +kernel
theorem dX7_add_0 : decode cX7_add 0 = .ok (.aload_n 0, 1) := by decide +kernel
theorem dX7_add_1 : decode cX7_add 1 = .ok (.getfield 15, 3) := by decide +kernel
theorem dX7_add_4 : decode cX7_add 4 = .ok (.iload_n 1, 1) := by decide +kernel
theorem dX7_add_5 : decode cX7_add 5 = .ok (.aload_n 0, 1) := by decide +kernel
theorem dX7_add_6 : decode cX7_add 6 = .ok (.getfield 15, 3) := by decide +kernel
theorem dX7_add_9 : decode cX7_add 9 = .ok (.iload_n 1, 1) := by decide +kernel
theorem dX7_add_10 : decode cX7_add 10 = .ok (.invokestatic 44, 3) := by decide +kernel
theorem dX7_add_13 : decode cX7_add 13 = .ok (.iload_n 2, 1) := by decide +kernel
theorem dX7_add_14 : decode cX7_add 14 = .ok (.iadd, 1) := by decide +kernel
theorem dX7_add_15 : decode cX7_add 15 = .ok (.invokestatic 28, 3) := by decide +kernel
theorem dX7_add_18 : decode cX7_add 18 = .ok (.return_, 1) := by decide +kernel
theorem dX7_placeAfter_0 : decode cX7_placeAfter 0 = .ok (.aload_n 0, 1) := by decide +kernel
theorem dX7_placeAfter_1 : decode cX7_placeAfter 1 = .ok (.getfield 18, 3) := by decide +kernel
theorem dX7_placeAfter_4 : decode cX7_placeAfter 4 = .ok (.iload_n 2, 1) := by decide +kernel
theorem dX7_placeAfter_5 : decode cX7_placeAfter 5 = .ok (.invokevirtual 52, 3) := by decide +kernel
theorem dX7_placeAfter_8 : decode cX7_placeAfter 8 = .ok (.ifCond .eq 5, 3) := by decide +kernel
theorem dX7_placeAfter_11 : decode cX7_placeAfter 11 = .ok (.iload_n 1, 1) := by decide +kernel
theorem dX7_placeAfter_12 : decode cX7_placeAfter 12 = .ok (.ireturn, 1) := by decide +kernel
theorem dX7_placeAfter_13 : decode cX7_placeAfter 13 = .ok (.iload_n 1, 1) := by decide +kernel
theorem dX7_placeAfter_14 : decode cX7_placeAfter 14 = .ok (.iload_n 2, 1) := by decide +kernel
theorem dX7_placeAfter_15 : decode cX7_placeAfter 15 = .ok (.if_icmp .ne 12, 3) := by decide +kernel
theorem dX7_placeAfter_18 : decode cX7_placeAfter 18 = .ok (.aload_n 0, 1) := by decide +kernel
theorem dX7_placeAfter_19 : decode cX7_placeAfter 19 = .ok (.getfield 18, 3) := by decide +kernel
theorem dX7_placeAfter_22 : decode cX7_placeAfter 22 = .ok (.iload_n 2, 1) := by decide +kernel
theorem dX7_placeAfter_23 : decode cX7_placeAfter 23 = .ok (.invokevirtual 56, 3) := by decide +kernel
theorem dX7_placeAfter_26 : decode cX7_placeAfter 26 = .ok (.ireturn, 1) := by decide +kernel
theorem dX7_placeAfter_27 : decode cX7_placeAfter 27 = .ok (.iload_n 1, 1) := by decide +kernel
theorem dX7_placeAfter_28 : decode cX7_placeAfter 28 = .ok (.aload_n 0, 1) := by decide +kernel
theorem dX7_placeAfter_29 : decode cX7_placeAfter 29 = .ok (.getfield 18, 3) := by decide +kernel
theorem dX7_placeAfter_32 : decode cX7_placeAfter 32 = .ok (.iload_n 2, 1) := by decide +kernel
theorem dX7_placeAfter_33 : decode cX7_placeAfter 33 = .ok (.invokevirtual 56, 3) := by decide +kernel
theorem dX7_placeAfter_36 : decode cX7_placeAfter 36 = .ok (.if_icmp .ne 7, 3) := by decide +kernel
theorem dX7_placeAfter_39 : decode cX7_placeAfter 39 = .ok (.iload_n 2, 1) := by decide +kernel
theorem dX7_placeAfter_40 : decode cX7_placeAfter 40 = .ok (.goto 4, 3) := by decide +kernel
theorem dX7_placeAfter_43 : decode cX7_placeAfter 43 = .ok (.iload_n 1, 1) := by decide +kernel
theorem dX7_placeAfter_44 : decode cX7_placeAfter 44 = .ok (.ireturn, 1) := by decide +kernel
theorem dX8_init_0 : decode cX8_init 0 = .ok (.aload_n 0, 1) := by decide +kernel
theorem dX8_init_1 : decode cX8_init 1 = .ok (.invokespecial 3, 3) := by decide +kernel
theorem dX8_init_4 : decode cX8_init 4 = .ok (.aload_n 0, 1) := by decide +kernel
theorem dX8_init_5 : decode cX8_init 5 = .ok (.bipush 6, 2) := by decide +kernel
theorem dX8_init_7 : decode cX8_init 7 = .ok (.newarray .int, 2) := by decide +kernel
theorem dX8_init_9 : decode cX8_init 9 = .ok (.putfield 9, 3) := by decide +kernel
theorem dX8_init_12 : decode cX8_init 12 = .ok (.aload_n 0, 1) := by decide +kernel
theorem dX8_init_13 : decode cX8_init 13 = .ok (.bipush 36, 2) := by decide +kernel
theorem dX8_init_15 : decode cX8_init 15 = .ok (.newarray .int, 2) := by decide +kernel
theorem dX8_init_17 : decode cX8_init 17 = .ok (.putfield 15, 3) := by decide +kernel
theorem dX8_init_20 : decode cX8_init 20 = .ok (.return_, 1) := by decide +kernel
theorem dX8_read_0 : decode cX8_read 0 = .ok (.aload_n 0, 1) := by decide +kernel
theorem dX8_read_1 : decode cX8_read 1 = .ok (.aload_n 1, 1) := by decide +kernel
theorem dX8_read_2 : decode cX8_read 2 = .ok (.invokevirtual 18, 3) := by decide +kernel
theorem dX8_read_5 : decode cX8_read 5 = .ok (.putfield 24, 3) := by decide +kernel
theorem dX8_read_8 : decode cX8_read 8 = .ok (.iconst 0, 1) := by decide +kernel
theorem dX8_read_9 : decode cX8_read 9 = .ok (.istore_n 2, 1) := by decide +kernel
theorem dX8_read_10 : decode cX8_read 10 = .ok (.iload_n 2, 1) := by decide +kernel
theorem dX8_read_11 : decode cX8_read 11 = .ok (.aload_n 0, 1) := by decide +kernel
theorem dX8_read_12 : decode cX8_read 12 = .ok (.getfield 24, 3) := by decide +kernel
theorem dX8_read_15 : decode cX8_read 15 = .ok (.if_icmp .ge 25, 3) := by decide +kernel
theorem dX8_read_18 : decode cX8_read 18 = .ok (.aload_n 0, 1) := by decide +kernel
theorem dX8_read_19 : decode cX8_read 19 = .ok (.getfield 9, 3) := by decide +kernel
theorem dX8_read_22 : decode cX8_read 22 = .ok (.iload_n 2, 1) := by decide +kernel
theorem dX8_read_23 : decode cX8_read 23 = .ok (.aload_n 1, 1) := by decide +kernel
theorem dX8_read_24 : decode cX8_read 24 = .ok (.iload_n 2, 1) := by decide +kernel
theorem dX8_read_25 : decode cX8_read 25 = .ok (.invokevirtual 28, 3) := by decide +kernel
theorem dX8_read_28 : decode cX8_read 28 = .ok (.invokestatic 32, 3) := by decide +kernel
theorem dX8_read_31 : decode cX8_read 31 = .ok (.invokestatic 35, 3) := by decide +kernel
theorem dX8_read_34 : decode cX8_read 34 = .ok (.iinc 2 1, 3) := by decide +kernel
theorem dX8_read_37 : decode cX8_read 37 = .ok (.goto (-27), 3) := by decide +kernel
theorem dX8_read_40 : decode cX8_read 40 = .ok (.aload_n 0, 1) := by decide +kernel
theorem dX8_read_41 : decode cX8_read 41 = .ok (.invokevirtual 41, 3) := by decide +kernel
theorem dX8_read_44 : decode cX8_read 44 = .ok (.aload_n 0, 1) := by decide +kernel
theorem dX8_read_45 : decode cX8_read 45 = .ok (.getfield 15, 3) := by decide +kernel
theorem dX8_read_48 : decode cX8_read 48 = .ok (.iconst 0, 1) := by decide +kernel
theorem dX8_read_49 : decode cX8_read 49 = .ok (.invokestatic 44, 3) := by decide +kernel
theorem dX8_read_52 : decode cX8_read 52 = .ok (.aload_n 0, 1) := by decide +kernel
theorem dX8_read_53 : decode cX8_read 53 = .ok (.iconst 0, 1) := by decide +kernel
theorem dX8_read_54 : decode cX8_read 54 = .ok (.putfield 50, 3) := by decide +kernel
theorem dX8_read_57 : decode cX8_read 57 = .ok (.aload_n 0, 1) := by decide +kernel
theorem dX8_read_58 : decode cX8_read 58 = .ok (.getfield 24, 3) := by decide +kernel
theorem dX8_read_61 : decode cX8_read 61 = .ok (.iconst 1, 1) := by decide +kernel
theorem dX8_read_62 : decode cX8_read 62 = .ok (.iadd, 1) := by decide +kernel
theorem dX8_read_63 : decode cX8_read 63 = .ok (.istore_n 2, 1) := by decide +kernel
theorem dX8_read_64 : decode cX8_read 64 = .ok (.iload_n 2, 1) := by decide +kernel
theorem dX8_read_65 : decode cX8_read 65 = .ok (.aload_n 1, 1) := by decide +kernel
theorem dX8_read_66 : decode cX8_read 66 = .ok (.getfield 53, 3) := by decide +kernel
theorem dX8_read_69 : decode cX8_read 69 = .ok (.if_icmp .ge 25, 3) := by decide +kernel
theorem dX8_read_72 : decode cX8_read 72 = .ok (.aload_n 0, 1) := by decide +kernel
theorem dX8_read_73 : decode cX8_read 73 = .ok (.aload_n 1, 1) := by decide +kernel
theorem dX8_read_74 : decode cX8_read 74 = .ok (.iload_n 2, 1) := by decide +kernel
theorem dX8_read_75 : decode cX8_read 75 = .ok (.invokevirtual 56, 3) := by decide +kernel
theorem dX8_read_78 : decode cX8_read 78 = .ok (.aload_n 1, 1) := by decide +kernel
theorem dX8_read_79 : decode cX8_read 79 = .ok (.iload_n 2, 1) := by decide +kernel
theorem dX8_read_80 : decode cX8_read 80 = .ok (.iconst 1, 1) := by decide +kernel
theorem dX8_read_81 : decode cX8_read 81 = .ok (.iadd, 1) := by decide +kernel
theorem dX8_read_82 : decode cX8_read 82 = .ok (.invokevirtual 56, 3) := by decide +kernel
theorem dX8_read_85 : decode cX8_read 85 = .ok (.invokevirtual 59, 3) := by decide +kernel
theorem dX8_read_88 : decode cX8_read 88 = .ok (.iinc 2 3, 3) := by decide +kernel
theorem dX8_read_91 : decode cX8_read 91 = .ok (.goto (-27), 3) := by decide +kernel
theorem dX8_read_94 : decode cX8_read 94 = .ok (.return_, 1) := by decide +kernel
theorem dX8_quarrel_0 : decode cX8_quarrel 0 = .ok (.aload_n 0, 1) := by decide +kernel
theorem dX8_quarrel_1 : decode cX8_quarrel 1 = .ok (.iload_n 1, 1) := by decide +kernel
theorem dX8_quarrel_2 : decode cX8_quarrel 2 = .ok (.iload_n 2, 1) := by decide +kernel
theorem dX8_quarrel_3 : decode cX8_quarrel 3 = .ok (.invokevirtual 63, 3) := by decide +kernel
theorem dX8_quarrel_6 : decode cX8_quarrel 6 = .ok (.ifCond .ne 41, 3) := by decide +kernel
theorem dX8_quarrel_9 : decode cX8_quarrel 9 = .ok (.aload_n 0, 1) := by decide +kernel
theorem dX8_quarrel_10 : decode cX8_quarrel 10 = .ok (.getfield 15, 3) := by decide +kernel
theorem dX8_quarrel_13 : decode cX8_quarrel 13 = .ok (.iload_n 1, 1) := by decide +kernel
theorem dX8_quarrel_14 : decode cX8_quarrel 14 = .ok (.bipush 6, 2) := by decide +kernel
theorem dX8_quarrel_16 : decode cX8_quarrel 16 = .ok (.imul, 1) := by decide +kernel
theorem dX8_quarrel_17 : decode cX8_quarrel 17 = .ok (.iload_n 2, 1) := by decide +kernel
theorem dX8_quarrel_18 : decode cX8_quarrel 18 = .ok (.iadd, 1) := by decide +kernel
theorem dX8_quarrel_19 : decode cX8_quarrel 19 = .ok (.iconst 1, 1) := by decide +kernel
theorem dX8_quarrel_20 : decode cX8_quarrel 20 = .ok (.invokestatic 35, 3) := by decide +kernel
theorem dX8_quarrel_23 : decode cX8_quarrel 23 = .ok (.aload_n 0, 1) := by decide +kernel
theorem dX8_quarrel_24 : decode cX8_quarrel 24 = .ok (.getfield 15, 3) := by decide +kernel
theorem dX8_quarrel_27 : decode cX8_quarrel 27 = .ok (.iload_n 2, 1) := by decide +kernel
theorem dX8_quarrel_28 : decode cX8_quarrel 28 = .ok (.bipush 6, 2) := by decide +kernel
theorem dX8_quarrel_30 : decode cX8_quarrel 30 = .ok (.imul, 1) := by decide +kernel
theorem dX8_quarrel_31 : decode cX8_quarrel 31 = .ok (.iload_n 1, 1) := by decide +kernel
theorem dX8_quarrel_32 : decode cX8_quarrel 32 = .ok (.iadd, 1) := by decide +kernel
theorem dX8_quarrel_33 : decode cX8_quarrel 33 = .ok (.iconst 1, 1) := by decide +kernel
theorem dX8_quarrel_34 : decode cX8_quarrel 34 = .ok (.invokestatic 35, 3) := by decide +kernel
theorem dX8_quarrel_37 : decode cX8_quarrel 37 = .ok (.aload_n 0, 1) := by decide +kernel
theorem dX8_quarrel_38 : decode cX8_quarrel 38 = .ok (.dup, 1) := by decide +kernel
theorem dX8_quarrel_39 : decode cX8_quarrel 39 = .ok (.getfield 50, 3) := by decide +kernel
theorem dX8_quarrel_42 : decode cX8_quarrel 42 = .ok (.iconst 1, 1) := by decide +kernel
theorem dX8_quarrel_43 : decode cX8_quarrel 43 = .ok (.iadd, 1) := by decide +kernel
theorem dX8_quarrel_44 : decode cX8_quarrel 44 = .ok (.putfield 50, 3) := by decide +kernel
theorem dX8_quarrel_47 : decode cX8_quarrel 47 = .ok (.return_, 1) := by decide +kernel
theorem dX8_stands_0 : decode cX8_stands 0 = .ok (.aload_n 0, 1) := by decide +kernel
theorem dX8_stands_1 : decode cX8_stands 1 = .ok (.getfield 24, 3) := by decide +kernel
theorem dX8_stands_4 : decode cX8_stands 4 = .ok (.ifCond .le 7, 3) := by decide +kernel
theorem dX8_stands_7 : decode cX8_stands 7 = .ok (.iconst 1, 1) := by decide +kernel
theorem dX8_stands_8 : decode cX8_stands 8 = .ok (.goto 4, 3) := by decide +kernel
theorem dX8_stands_11 : decode cX8_stands 11 = .ok (.iconst 0, 1) := by decide +kernel
theorem dX8_stands_12 : decode cX8_stands 12 = .ok (.ireturn, 1) := by decide +kernel
theorem dX8_has_0 : decode cX8_has 0 = .ok (.iload_n 1, 1) := by decide +kernel
theorem dX8_has_1 : decode cX8_has 1 = .ok (.ifCond .lt 15, 3) := by decide +kernel
theorem dX8_has_4 : decode cX8_has 4 = .ok (.iload_n 1, 1) := by decide +kernel
theorem dX8_has_5 : decode cX8_has 5 = .ok (.aload_n 0, 1) := by decide +kernel
theorem dX8_has_6 : decode cX8_has 6 = .ok (.getfield 24, 3) := by decide +kernel
theorem dX8_has_9 : decode cX8_has 9 = .ok (.if_icmp .ge 7, 3) := by decide +kernel
theorem dX8_has_12 : decode cX8_has 12 = .ok (.iconst 1, 1) := by decide +kernel
theorem dX8_has_13 : decode cX8_has 13 = .ok (.goto 4, 3) := by decide +kernel
theorem dX8_has_16 : decode cX8_has 16 = .ok (.iconst 0, 1) := by decide +kernel
theorem dX8_has_17 : decode cX8_has 17 = .ok (.ireturn, 1) := by decide +kernel
theorem dX8_kind_0 : decode cX8_kind 0 = .ok (.aload_n 0, 1) := by decide +kernel
theorem dX8_kind_1 : decode cX8_kind 1 = .ok (.getfield 9, 3) := by decide +kernel
theorem dX8_kind_4 : decode cX8_kind 4 = .ok (.iload_n 1, 1) := by decide +kernel
theorem dX8_kind_5 : decode cX8_kind 5 = .ok (.invokestatic 67, 3) := by decide +kernel
theorem dX8_kind_8 : decode cX8_kind 8 = .ok (.ireturn, 1) := by decide +kernel
theorem dX8_is_0 : decode cX8_is 0 = .ok (.aload_n 0, 1) := by decide +kernel
theorem dX8_is_1 : decode cX8_is 1 = .ok (.getfield 9, 3) := by decide +kernel
theorem dX8_is_4 : decode cX8_is 4 = .ok (.iload_n 1, 1) := by decide +kernel
theorem dX8_is_5 : decode cX8_is 5 = .ok (.invokestatic 67, 3) := by decide +kernel
theorem dX8_is_8 : decode cX8_is 8 = .ok (.istore_n 3, 1) := by decide +kernel
theorem dX8_is_9 : decode cX8_is 9 = .ok (.iload_n 2, 1) := by decide +kernel
theorem dX8_is_10 : decode cX8_is 10 = .ok (.ifCond .eq 18, 3) := by decide +kernel
theorem dX8_is_13 : decode cX8_is 13 = .ok (.iload_n 3, 1) := by decide +kernel
theorem dX8_is_14 : decode cX8_is 14 = .ok (.iload_n 2, 1) := by decide +kernel
theorem dX8_is_15 : decode cX8_is 15 = .ok (.if_icmp .eq 13, 3) := by decide +kernel
theorem dX8_is_18 : decode cX8_is 18 = .ok (.iload_n 2, 1) := by decide +kernel
theorem dX8_is_19 : decode cX8_is 19 = .ok (.iconst 1, 1) := by decide +kernel
theorem dX8_is_20 : decode cX8_is 20 = .ok (.if_icmp .ne 12, 3) := by decide +kernel
theorem dX8_is_23 : decode cX8_is 23 = .ok (.iload_n 3, 1) := by decide +kernel
theorem dX8_is_24 : decode cX8_is 24 = .ok (.iconst 3, 1) := by decide +kernel
theorem dX8_is_25 : decode cX8_is 25 = .ok (.if_icmp .ne 7, 3) := by decide +kernel
theorem dX8_is_28 : decode cX8_is 28 = .ok (.iconst 1, 1) := by decide +kernel
theorem dX8_is_29 : decode cX8_is 29 = .ok (.goto 4, 3) := by decide +kernel
theorem dX8_is_32 : decode cX8_is 32 = .ok (.iconst 0, 1) := by decide +kernel
theorem dX8_is_33 : decode cX8_is 33 = .ok (.ireturn, 1) := by decide +kernel
theorem dX8_hate_0 : decode cX8_hate 0 = .ok (.aload_n 0, 1) := by decide +kernel
theorem dX8_hate_1 : decode cX8_hate 1 = .ok (.getfield 15, 3) := by decide +kernel
theorem dX8_hate_4 : decode cX8_hate 4 = .ok (.iload_n 1, 1) := by decide +kernel
theorem dX8_hate_5 : decode cX8_hate 5 = .ok (.bipush 6, 2) := by decide +kernel
theorem dX8_hate_7 : decode cX8_hate 7 = .ok (.imul, 1) := by decide +kernel
theorem dX8_hate_8 : decode cX8_hate 8 = .ok (.iload_n 2, 1) := by decide +kernel
theorem dX8_hate_9 : decode cX8_hate 9 = .ok (.iadd, 1) := by decide +kernel
theorem dX8_hate_10 : decode cX8_hate 10 = .ok (.invokestatic 67, 3) := by decide +kernel
theorem dX8_hate_13 : decode cX8_hate 13 = .ok (.ifCond .eq 7, 3) := by decide +kernel
theorem dX8_hate_16 : decode cX8_hate 16 = .ok (.iconst 1, 1) := by decide +kernel
theorem dX8_hate_17 : decode cX8_hate 17 = .ok (.goto 4, 3) := by decide +kernel
theorem dX8_hate_20 : decode cX8_hate 20 = .ok (.iconst 0, 1) := by decide +kernel
theorem dX8_hate_21 : decode cX8_hate 21 = .ok (.ireturn, 1) := by decide +kernel
theorem dX8_next_0 : decode cX8_next 0 = .ok (.iload_n 1, 1) := by decide +kernel
theorem dX8_next_1 : decode cX8_next 1 = .ok (.iconst 1, 1) := by decide +kernel
theorem dX8_next_2 : decode cX8_next 2 = .ok (.iadd, 1) := by decide +kernel
theorem dX8_next_3 : decode cX8_next 3 = .ok (.aload_n 0, 1) := by decide +kernel
theorem dX8_next_4 : decode cX8_next 4 = .ok (.getfield 24, 3) := by decide +kernel
theorem dX8_next_7 : decode cX8_next 7 = .ok (.if_icmp .ge 9, 3) := by decide +kernel
theorem dX8_next_10 : decode cX8_next 10 = .ok (.iload_n 1, 1) := by decide +kernel
theorem dX8_next_11 : decode cX8_next 11 = .ok (.iconst 1, 1) := by decide +kernel
theorem dX8_next_12 : decode cX8_next 12 = .ok (.iadd, 1) := by decide +kernel
theorem dX8_next_13 : decode cX8_next 13 = .ok (.goto 4, 3) := by decide +kernel
theorem dX8_next_16 : decode cX8_next 16 = .ok (.iconst 0, 1) := by decide +kernel
theorem dX8_next_17 : decode cX8_next 17 = .ok (.ireturn, 1) := by decide +kernel
theorem dX8_around_0 : decode cX8_around 0 = .ok (.aload_n 0, 1) := by decide +kernel
theorem dX8_around_1 : decode cX8_around 1 = .ok (.getfield 24, 3) := by decide +kernel
theorem dX8_around_4 : decode cX8_around 4 = .ok (.ifCond .le 14, 3) := by decide +kernel
theorem dX8_around_7 : decode cX8_around 7 = .ok (.iload_n 1, 1) := by decide +kernel
theorem dX8_around_8 : decode cX8_around 8 = .ok (.aload_n 0, 1) := by decide +kernel
theorem dX8_around_9 : decode cX8_around 9 = .ok (.getfield 24, 3) := by decide +kernel
theorem dX8_around_12 : decode cX8_around 12 = .ok (.invokestatic 71, 3) := by decide +kernel
theorem dX8_around_15 : decode cX8_around 15 = .ok (.goto 4, 3) := by decide +kernel
theorem dX8_around_18 : decode cX8_around 18 = .ok (.iconst 0, 1) := by decide +kernel
theorem dX8_around_19 : decode cX8_around 19 = .ok (.ireturn, 1) := by decide +kernel
theorem dX8_beside_0 : decode cX8_beside 0 = .ok (.aload_n 0, 1) := by decide +kernel
theorem dX8_beside_1 : decode cX8_beside 1 = .ok (.iload_n 1, 1) := by decide +kernel
theorem dX8_beside_2 : decode cX8_beside 2 = .ok (.invokevirtual 77, 3) := by decide +kernel
theorem dX8_beside_5 : decode cX8_beside 5 = .ok (.iload_n 2, 1) := by decide +kernel
theorem dX8_beside_6 : decode cX8_beside 6 = .ok (.if_icmp .eq 12, 3) := by decide +kernel
theorem dX8_beside_9 : decode cX8_beside 9 = .ok (.aload_n 0, 1) := by decide +kernel
theorem dX8_beside_10 : decode cX8_beside 10 = .ok (.iload_n 2, 1) := by decide +kernel
theorem dX8_beside_11 : decode cX8_beside 11 = .ok (.invokevirtual 77, 3) := by decide +kernel
theorem dX8_beside_14 : decode cX8_beside 14 = .ok (.iload_n 1, 1) := by decide +kernel
theorem dX8_beside_15 : decode cX8_beside 15 = .ok (.if_icmp .ne 7, 3) := by decide +kernel
theorem dX8_beside_18 : decode cX8_beside 18 = .ok (.iconst 1, 1) := by decide +kernel
theorem dX8_beside_19 : decode cX8_beside 19 = .ok (.goto 4, 3) := by decide +kernel
theorem dX8_beside_22 : decode cX8_beside 22 = .ok (.iconst 0, 1) := by decide +kernel
theorem dX8_beside_23 : decode cX8_beside 23 = .ok (.ireturn, 1) := by decide +kernel
theorem dX8_way_0 : decode cX8_way 0 = .ok (.iload_n 1, 1) := by decide +kernel
theorem dX8_way_1 : decode cX8_way 1 = .ok (.iload_n 2, 1) := by decide +kernel
theorem dX8_way_2 : decode cX8_way 2 = .ok (.isub, 1) := by decide +kernel
theorem dX8_way_3 : decode cX8_way 3 = .ok (.invokestatic 80, 3) := by decide +kernel
theorem dX8_way_6 : decode cX8_way 6 = .ok (.istore_n 3, 1) := by decide +kernel
theorem dX8_way_7 : decode cX8_way 7 = .ok (.iload_n 3, 1) := by decide +kernel
theorem dX8_way_8 : decode cX8_way 8 = .ok (.aload_n 0, 1) := by decide +kernel
theorem dX8_way_9 : decode cX8_way 9 = .ok (.getfield 24, 3) := by decide +kernel
theorem dX8_way_12 : decode cX8_way 12 = .ok (.iload_n 3, 1) := by decide +kernel
theorem dX8_way_13 : decode cX8_way 13 = .ok (.isub, 1) := by decide +kernel
theorem dX8_way_14 : decode cX8_way 14 = .ok (.invokestatic 83, 3) := by decide +kernel
theorem dX8_way_17 : decode cX8_way 17 = .ok (.ireturn, 1) := by decide +kernel
theorem dX8_barred_0 : decode cX8_barred 0 = .ok (.aload_n 0, 1) := by decide +kernel
theorem dX8_barred_1 : decode cX8_barred 1 = .ok (.getfield 86, 3) := by decide +kernel
theorem dX8_barred_4 : decode cX8_barred 4 = .ok (.iload_n 1, 1) := by decide +kernel
theorem dX8_barred_5 : decode cX8_barred 5 = .ok (.iushr, 1) := by decide +kernel
theorem dX8_barred_6 : decode cX8_barred 6 = .ok (.iconst 1, 1) := by decide +kernel
theorem dX8_barred_7 : decode cX8_barred 7 = .ok (.iand, 1) := by decide +kernel
theorem dX8_barred_8 : decode cX8_barred 8 = .ok (.ifCond .eq 7, 3) := by decide +kernel
theorem dX8_barred_11 : decode cX8_barred 11 = .ok (.iconst 1, 1) := by decide +kernel
theorem dX8_barred_12 : decode cX8_barred 12 = .ok (.goto 4, 3) := by decide +kernel
theorem dX8_barred_15 : decode cX8_barred 15 = .ok (.iconst 0, 1) := by decide +kernel
theorem dX8_barred_16 : decode cX8_barred 16 = .ok (.ireturn, 1) := by decide +kernel
theorem dX8_setBars_0 : decode cX8_setBars 0 = .ok (.aload_n 0, 1) := by decide +kernel
theorem dX8_setBars_1 : decode cX8_setBars 1 = .ok (.iconst 0, 1) := by decide +kernel
theorem dX8_setBars_2 : decode cX8_setBars 2 = .ok (.putfield 86, 3) := by decide +kernel
theorem dX8_setBars_5 : decode cX8_setBars 5 = .ok (.iconst 0, 1) := by decide +kernel
theorem dX8_setBars_6 : decode cX8_setBars 6 = .ok (.istore_n 1, 1) := by decide +kernel
theorem dX8_setBars_7 : decode cX8_setBars 7 = .ok (.iload_n 1, 1) := by decide +kernel
theorem dX8_setBars_8 : decode cX8_setBars 8 = .ok (.aload_n 0, 1) := by decide +kernel
theorem dX8_setBars_9 : decode cX8_setBars 9 = .ok (.getfield 24, 3) := by decide +kernel
theorem dX8_setBars_12 : decode cX8_setBars 12 = .ok (.if_icmp .ge 43, 3) := by decide +kernel
theorem dX8_setBars_15 : decode cX8_setBars 15 = .ok (.aload_n 0, 1) := by decide +kernel
theorem dX8_setBars_16 : decode cX8_setBars 16 = .ok (.iload_n 1, 1) := by decide +kernel
theorem dX8_setBars_17 : decode cX8_setBars 17 = .ok (.iconst 1, 1) := by decide +kernel
theorem dX8_setBars_18 : decode cX8_setBars 18 = .ok (.invokevirtual 89, 3) := by decide +kernel
theorem dX8_setBars_21 : decode cX8_setBars 21 = .ok (.ifCond .ne 16, 3) := by decide +kernel
theorem dX8_setBars_24 : decode cX8_setBars 24 = .ok (.aload_n 0, 1) := by decide +kernel
theorem dX8_setBars_25 : decode cX8_setBars 25 = .ok (.aload_n 0, 1) := by decide +kernel
theorem dX8_setBars_26 : decode cX8_setBars 26 = .ok (.iload_n 1, 1) := by decide +kernel
theorem dX8_setBars_27 : decode cX8_setBars 27 = .ok (.invokevirtual 77, 3) := by decide +kernel
theorem dX8_setBars_30 : decode cX8_setBars 30 = .ok (.iconst 1, 1) := by decide +kernel
theorem dX8_setBars_31 : decode cX8_setBars 31 = .ok (.invokevirtual 89, 3) := by decide +kernel
theorem dX8_setBars_34 : decode cX8_setBars 34 = .ok (.ifCond .eq 15, 3) := by decide +kernel
theorem dX8_setBars_37 : decode cX8_setBars 37 = .ok (.aload_n 0, 1) := by decide +kernel
theorem dX8_setBars_38 : decode cX8_setBars 38 = .ok (.dup, 1) := by decide +kernel
theorem dX8_setBars_39 : decode cX8_setBars 39 = .ok (.getfield 86, 3) := by decide +kernel
theorem dX8_setBars_42 : decode cX8_setBars 42 = .ok (.iconst 1, 1) := by decide +kernel
theorem dX8_setBars_43 : decode cX8_setBars 43 = .ok (.iload_n 1, 1) := by decide +kernel
theorem dX8_setBars_44 : decode cX8_setBars 44 = .ok (.ishl, 1) := by decide +kernel
theorem dX8_setBars_45 : decode cX8_setBars 45 = .ok (.ior, 1) := by decide +kernel
theorem dX8_setBars_46 : decode cX8_setBars 46 = .ok (.putfield 86, 3) := by decide +kernel
theorem dX8_setBars_49 : decode cX8_setBars 49 = .ok (.iinc 1 1, 3) := by decide +kernel
theorem dX8_setBars_52 : decode cX8_setBars 52 = .ok (.goto (-45), 3) := by decide +kernel
theorem dX8_setBars_55 : decode cX8_setBars 55 = .ok (.return_, 1) := by decide +kernel
theorem dX8_touching_0 : decode cX8_touching 0 = .ok (.iconst 0, 1) := by decide +kernel
theorem dX8_touching_1 : decode cX8_touching 1 = .ok (.istore_n 2, 1) := by decide +kernel
theorem dX8_touching_2 : decode cX8_touching 2 = .ok (.iconst 0, 1) := by decide +kernel
theorem dX8_touching_3 : decode cX8_touching 3 = .ok (.istore_n 3, 1) := by decide +kernel
theorem dX8_touching_4 : decode cX8_touching 4 = .ok (.iload_n 3, 1) := by decide +kernel
theorem dX8_touching_5 : decode cX8_touching 5 = .ok (.aload_n 0, 1) := by decide +kernel
theorem dX8_touching_6 : decode cX8_touching 6 = .ok (.getfield 24, 3) := by decide +kernel
theorem dX8_touching_9 : decode cX8_touching 9 = .ok (.if_icmp .ge 61, 3) := by decide +kernel
theorem dX8_touching_12 : decode cX8_touching 12 = .ok (.aload_n 1, 1) := by decide +kernel
theorem dX8_touching_13 : decode cX8_touching 13 = .ok (.iload_n 3, 1) := by decide +kernel
theorem dX8_touching_14 : decode cX8_touching 14 = .ok (.invokestatic 67, 3) := by decide +kernel
theorem dX8_touching_17 : decode cX8_touching 17 = .ok (.istore 4, 2) := by decide +kernel
theorem dX8_touching_19 : decode cX8_touching 19 = .ok (.aload_n 1, 1) := by decide +kernel
theorem dX8_touching_20 : decode cX8_touching 20 = .ok (.aload_n 0, 1) := by decide +kernel
theorem dX8_touching_21 : decode cX8_touching 21 = .ok (.iload_n 3, 1) := by decide +kernel
theorem dX8_touching_22 : decode cX8_touching 22 = .ok (.invokevirtual 77, 3) := by decide +kernel
theorem dX8_touching_25 : decode cX8_touching 25 = .ok (.invokestatic 67, 3) := by decide +kernel
theorem dX8_touching_28 : decode cX8_touching 28 = .ok (.istore 5, 2) := by decide +kernel
theorem dX8_touching_30 : decode cX8_touching 30 = .ok (.aload_n 0, 1) := by decide +kernel
theorem dX8_touching_31 : decode cX8_touching 31 = .ok (.iload 4, 2) := by decide +kernel
theorem dX8_touching_33 : decode cX8_touching 33 = .ok (.iload 5, 2) := by decide +kernel
theorem dX8_touching_35 : decode cX8_touching 35 = .ok (.invokevirtual 63, 3) := by decide +kernel
theorem dX8_touching_38 : decode cX8_touching 38 = .ok (.ifCond .eq 26, 3) := by decide +kernel
theorem dX8_touching_41 : decode cX8_touching 41 = .ok (.aload_n 0, 1) := by decide +kernel
theorem dX8_touching_42 : decode cX8_touching 42 = .ok (.iload 4, 2) := by decide +kernel
theorem dX8_touching_44 : decode cX8_touching 44 = .ok (.iconst 2, 1) := by decide +kernel
theorem dX8_touching_45 : decode cX8_touching 45 = .ok (.invokevirtual 89, 3) := by decide +kernel
theorem dX8_touching_48 : decode cX8_touching 48 = .ok (.ifCond .ne 16, 3) := by decide +kernel
theorem dX8_touching_51 : decode cX8_touching 51 = .ok (.aload_n 0, 1) := by decide +kernel
theorem dX8_touching_52 : decode cX8_touching 52 = .ok (.iload 5, 2) := by decide +kernel
theorem dX8_touching_54 : decode cX8_touching 54 = .ok (.iconst 2, 1) := by decide +kernel
theorem dX8_touching_55 : decode cX8_touching 55 = .ok (.invokevirtual 89, 3) := by decide +kernel
theorem dX8_touching_58 : decode cX8_touching 58 = .ok (.ifCond .ne 6, 3) := by decide +kernel
theorem dX8_touching_61 : decode cX8_touching 61 = .ok (.iinc 2 1, 3) := by decide +kernel
theorem dX8_touching_64 : decode cX8_touching 64 = .ok (.iinc 3 1, 3) := by decide +kernel
theorem dX8_touching_67 : decode cX8_touching 67 = .ok (.goto (-63), 3) := by decide +kernel
theorem dX8_touching_70 : decode cX8_touching 70 = .ok (.iload_n 2, 1) := by decide +kernel
theorem dX8_touching_71 : decode cX8_touching 71 = .ok (.ireturn, 1) := by decide +kernel
theorem dX8_rolls_0 : decode cX8_rolls 0 = .ok (.iconst 1, 1) := by decide +kernel
theorem dX8_rolls_1 : decode cX8_rolls 1 = .ok (.istore_n 2, 1) := by decide +kernel
theorem dX8_rolls_2 : decode cX8_rolls 2 = .ok (.iconst 0, 1) := by decide +kernel
theorem dX8_rolls_3 : decode cX8_rolls 3 = .ok (.istore_n 3, 1) := by decide +kernel
theorem dX8_rolls_4 : decode cX8_rolls 4 = .ok (.iload_n 3, 1) := by decide +kernel
theorem dX8_rolls_5 : decode cX8_rolls 5 = .ok (.iload_n 1, 1) := by decide +kernel
theorem dX8_rolls_6 : decode cX8_rolls 6 = .ok (.if_icmp .ge 16, 3) := by decide +kernel
theorem dX8_rolls_9 : decode cX8_rolls 9 = .ok (.iload_n 2, 1) := by decide +kernel
theorem dX8_rolls_10 : decode cX8_rolls 10 = .ok (.aload_n 0, 1) := by decide +kernel
theorem dX8_rolls_11 : decode cX8_rolls 11 = .ok (.getfield 24, 3) := by decide +kernel
theorem dX8_rolls_14 : decode cX8_rolls 14 = .ok (.imul, 1) := by decide +kernel
theorem dX8_rolls_15 : decode cX8_rolls 15 = .ok (.istore_n 2, 1) := by decide +kernel
theorem dX8_rolls_16 : decode cX8_rolls 16 = .ok (.iinc 3 1, 3) := by decide +kernel
theorem dX8_rolls_19 : decode cX8_rolls 19 = .ok (.goto (-15), 3) := by decide +kernel
theorem dX8_rolls_22 : decode cX8_rolls 22 = .ok (.iload_n 2, 1) := by decide +kernel
theorem dX8_rolls_23 : decode cX8_rolls 23 = .ok (.ireturn, 1) := by decide +kernel
theorem dX9_init_0 : decode cX9_init 0 = .ok (.aload_n 0, 1) := by decide +kernel
theorem dX9_init_1 : decode cX9_init 1 = .ok (.invokespecial 1, 3) := by decide +kernel
theorem dX9_init_4 : decode cX9_init 4 = .ok (.new 7, 3) := by decide +kernel
theorem dX9_init_7 : decode cX9_init 7 = .ok (.dup, 1) := by decide +kernel
theorem dX9_init_8 : decode cX9_init 8 = .ok (.invokespecial 9, 3) := by decide +kernel
theorem dX9_init_11 : decode cX9_init 11 = .ok (.astore_n 1, 1) := by decide +kernel
theorem dX9_init_12 : decode cX9_init 12 = .ok (.new 10, 3) := by decide +kernel
theorem dX9_init_15 : decode cX9_init 15 = .ok (.dup, 1) := by decide +kernel
theorem dX9_init_16 : decode cX9_init 16 = .ok (.invokespecial 12, 3) := by decide +kernel
theorem dX9_init_19 : decode cX9_init 19 = .ok (.astore_n 2, 1) := by decide +kernel
theorem dX9_init_20 : decode cX9_init 20 = .ok (.aload_n 0, 1) := by decide +kernel
theorem dX9_init_21 : decode cX9_init 21 = .ok (.new 13, 3) := by decide +kernel
theorem dX9_init_24 : decode cX9_init 24 = .ok (.dup, 1) := by decide +kernel
theorem dX9_init_25 : decode cX9_init 25 = .ok (.invokespecial 15, 3) := by decide +kernel
theorem dX9_init_28 : decode cX9_init 28 = .ok (.putfield 16, 3) := by decide +kernel
theorem dX9_init_31 : decode cX9_init 31 = .ok (.aload_n 0, 1) := by decide +kernel
theorem dX9_init_32 : decode cX9_init 32 = .ok (.aload_n 1, 1) := by decide +kernel
theorem dX9_init_33 : decode cX9_init 33 = .ok (.putfield 22, 3) := by decide +kernel
theorem dX9_init_36 : decode cX9_init 36 = .ok (.aload_n 0, 1) := by decide +kernel
theorem dX9_init_37 : decode cX9_init 37 = .ok (.aload_n 2, 1) := by decide +kernel
theorem dX9_init_38 : decode cX9_init 38 = .ok (.putfield 26, 3) := by decide +kernel
theorem dX9_init_41 : decode cX9_init 41 = .ok (.aload_n 0, 1) := by decide +kernel
theorem dX9_init_42 : decode cX9_init 42 = .ok (.new 30, 3) := by decide +kernel
theorem dX9_init_45 : decode cX9_init 45 = .ok (.dup, 1) := by decide +kernel
theorem dX9_init_46 : decode cX9_init 46 = .ok (.invokespecial 32, 3) := by decide +kernel
theorem dX9_init_49 : decode cX9_init 49 = .ok (.putfield 33, 3) := by decide +kernel
theorem dX9_init_52 : decode cX9_init 52 = .ok (.aload_n 0, 1) := by decide +kernel
theorem dX9_init_53 : decode cX9_init 53 = .ok (.new 30, 3) := by decide +kernel
theorem dX9_init_56 : decode cX9_init 56 = .ok (.dup, 1) := by decide +kernel
theorem dX9_init_57 : decode cX9_init 57 = .ok (.invokespecial 32, 3) := by decide +kernel
theorem dX9_init_60 : decode cX9_init 60 = .ok (.putfield 37, 3) := by decide +kernel
theorem dX9_init_63 : decode cX9_init 63 = .ok (.aload_n 0, 1) := by decide +kernel
theorem dX9_init_64 : decode cX9_init 64 = .ok (.new 40, 3) := by decide +kernel
theorem dX9_init_67 : decode cX9_init 67 = .ok (.dup, 1) := by decide +kernel
theorem dX9_init_68 : decode cX9_init 68 = .ok (.aload_n 1, 1) := by decide +kernel
theorem dX9_init_69 : decode cX9_init 69 = .ok (.aload_n 2, 1) := by decide +kernel
theorem dX9_init_70 : decode cX9_init 70 = .ok (.invokespecial 42, 3) := by decide +kernel
theorem dX9_init_73 : decode cX9_init 73 = .ok (.putfield 45, 3) := by decide +kernel
theorem dX9_init_76 : decode cX9_init 76 = .ok (.aload_n 0, 1) := by decide +kernel
theorem dX9_init_77 : decode cX9_init 77 = .ok (.new 49, 3) := by decide +kernel
theorem dX9_init_80 : decode cX9_init 80 = .ok (.dup, 1) := by decide +kernel
theorem dX9_init_81 : decode cX9_init 81 = .ok (.aload_n 1, 1) := by decide +kernel
theorem dX9_init_82 : decode cX9_init 82 = .ok (.aload_n 2, 1) := by decide +kernel
theorem dX9_init_83 : decode cX9_init 83 = .ok (.invokespecial 51, 3) := by decide +kernel
theorem dX9_init_86 : decode cX9_init 86 = .ok (.putfield 52, 3) := by decide +kernel
theorem dX9_init_89 : decode cX9_init 89 = .ok (.aload_n 0, 1) := by decide +kernel
theorem dX9_init_90 : decode cX9_init 90 = .ok (.new 56, 3) := by decide +kernel
theorem dX9_init_93 : decode cX9_init 93 = .ok (.dup, 1) := by decide +kernel
theorem dX9_init_94 : decode cX9_init 94 = .ok (.aload_n 1, 1) := by decide +kernel
theorem dX9_init_95 : decode cX9_init 95 = .ok (.aload_n 2, 1) := by decide +kernel
theorem dX9_init_96 : decode cX9_init 96 = .ok (.invokespecial 58, 3) := by decide +kernel
theorem dX9_init_99 : decode cX9_init 99 = .ok (.putfield 59, 3) := by decide +kernel
theorem dX9_init_102 : decode cX9_init 102 = .ok (.aload_n 0, 1) := by decide +kernel
theorem dX9_init_103 : decode cX9_init 103 = .ok (.new 63, 3) := by decide +kernel
theorem dX9_init_106 : decode cX9_init 106 = .ok (.dup, 1) := by decide +kernel
theorem dX9_init_107 : decode cX9_init 107 = .ok (.aload_n 1, 1) := by decide +kernel
theorem dX9_init_108 : decode cX9_init 108 = .ok (.invokespecial 65, 3) := by decide +kernel
theorem dX9_init_111 : decode cX9_init 111 = .ok (.putfield 68, 3) := by decide +kernel
theorem dX9_init_114 : decode cX9_init 114 = .ok (.return_, 1) := by decide +kernel
theorem dX9_letters_0 : decode cX9_letters 0 = .ok (.lload_n 1, 1) := by decide +kernel
theorem dX9_letters_1 : decode cX9_letters 1 = .ok (.invokestatic 72, 3) := by decide +kernel
theorem dX9_letters_4 : decode cX9_letters 4 = .ok (.istore_n 3, 1) := by decide +kernel
theorem dX9_letters_5 : decode cX9_letters 5 = .ok (.iload_n 3, 1) := by decide +kernel
theorem dX9_letters_6 : decode cX9_letters 6 = .ok (.ifCond .ge 6, 3) := by decide +kernel
theorem dX9_letters_9 : decode cX9_letters 9 = .ok (.bipush (-102), 2) := by decide +kernel
theorem dX9_letters_11 : decode cX9_letters 11 = .ok (.ireturn, 1) := by decide +kernel
theorem dX9_letters_12 : decode cX9_letters 12 = .ok (.aload_n 0, 1) := by decide +kernel
theorem dX9_letters_13 : decode cX9_letters 13 = .ok (.getfield 16, 3) := by decide +kernel
theorem dX9_letters_16 : decode cX9_letters 16 = .ok (.getfield 76, 3) := by decide +kernel
theorem dX9_letters_19 : decode cX9_letters 19 = .ok (.iload_n 3, 1) := by decide +kernel
theorem dX9_letters_20 : decode cX9_letters 20 = .ok (.iadd, 1) := by decide +kernel
theorem dX9_letters_21 : decode cX9_letters 21 = .ok (.bipush 26, 2) := by decide +kernel
theorem dX9_letters_23 : decode cX9_letters 23 = .ok (.if_icmp .le 6, 3) := by decide +kernel
theorem dX9_letters_26 : decode cX9_letters 26 = .ok (.bipush (-104), 2) := by decide +kernel
theorem dX9_letters_28 : decode cX9_letters 28 = .ok (.ireturn, 1) := by decide +kernel
theorem dX9_letters_29 : decode cX9_letters 29 = .ok (.aload_n 0, 1) := by decide +kernel
theorem dX9_letters_30 : decode cX9_letters 30 = .ok (.getfield 16, 3) := by decide +kernel
theorem dX9_letters_33 : decode cX9_letters 33 = .ok (.lload_n 1, 1) := by decide +kernel
theorem dX9_letters_34 : decode cX9_letters 34 = .ok (.iload_n 3, 1) := by decide +kernel
theorem dX9_letters_35 : decode cX9_letters 35 = .ok (.invokevirtual 80, 3) := by decide +kernel
theorem dX9_letters_38 : decode cX9_letters 38 = .ok (.aload_n 0, 1) := by decide +kernel
theorem dX9_letters_39 : decode cX9_letters 39 = .ok (.getfield 16, 3) := by decide +kernel
theorem dX9_letters_42 : decode cX9_letters 42 = .ok (.getfield 76, 3) := by decide +kernel
theorem dX9_letters_45 : decode cX9_letters 45 = .ok (.ireturn, 1) := by decide +kernel
theorem dX9_fault_0 : decode cX9_fault 0 = .ok (.iload_n 1, 1) := by decide +kernel
theorem dX9_fault_1 : decode cX9_fault 1 = .ok (.ifCond .ne 11, 3) := by decide +kernel
theorem dX9_fault_4 : decode cX9_fault 4 = .ok (.aload_n 0, 1) := by decide +kernel
theorem dX9_fault_5 : decode cX9_fault 5 = .ok (.getfield 16, 3) := by decide +kernel
theorem dX9_fault_8 : decode cX9_fault 8 = .ok (.invokevirtual 88, 3) := by decide +kernel
theorem dX9_fault_11 : decode cX9_fault 11 = .ok (.ireturn, 1) := by decide +kernel
theorem dX9_fault_12 : decode cX9_fault 12 = .ok (.iload_n 1, 1) := by decide +kernel
theorem dX9_fault_13 : decode cX9_fault 13 = .ok (.iconst 1, 1) := by decide +kernel
theorem dX9_fault_14 : decode cX9_fault 14 = .ok (.if_icmp .ne 13, 3) := by decide +kernel
theorem dX9_fault_17 : decode cX9_fault 17 = .ok (.aload_n 0, 1) := by decide +kernel
theorem dX9_fault_18 : decode cX9_fault 18 = .ok (.getfield 16, 3) := by decide +kernel
theorem dX9_fault_21 : decode cX9_fault 21 = .ok (.invokevirtual 91, 3) := by decide +kernel
theorem dX9_fault_24 : decode cX9_fault 24 = .ok (.goto 5, 3) := by decide +kernel
theorem dX9_fault_27 : decode cX9_fault 27 = .ok (.bipush (-102), 2) := by decide +kernel
theorem dX9_fault_29 : decode cX9_fault 29 = .ok (.ireturn, 1) := by decide +kernel
theorem dX9_ring_0 : decode cX9_ring 0 = .ok (.aload_n 0, 1) := by decide +kernel
theorem dX9_ring_1 : decode cX9_ring 1 = .ok (.getfield 16, 3) := by decide +kernel
theorem dX9_ring_4 : decode cX9_ring 4 = .ok (.invokevirtual 94, 3) := by decide +kernel
theorem dX9_ring_7 : decode cX9_ring 7 = .ok (.ifCond .ne 6, 3) := by decide +kernel
theorem dX9_ring_10 : decode cX9_ring 10 = .ok (.bipush (-103), 2) := by decide +kernel
theorem dX9_ring_12 : decode cX9_ring 12 = .ok (.ireturn, 1) := by decide +kernel
theorem dX9_ring_13 : decode cX9_ring 13 = .ok (.aload_n 0, 1) := by decide +kernel
theorem dX9_ring_14 : decode cX9_ring 14 = .ok (.getfield 22, 3) := by decide +kernel
theorem dX9_ring_17 : decode cX9_ring 17 = .ok (.aload_n 0, 1) := by decide +kernel
theorem dX9_ring_18 : decode cX9_ring 18 = .ok (.getfield 16, 3) := by decide +kernel
theorem dX9_ring_21 : decode cX9_ring 21 = .ok (.invokevirtual 98, 3) := by decide +kernel
theorem dX9_ring_24 : decode cX9_ring 24 = .ok (.aload_n 0, 1) := by decide +kernel
theorem dX9_ring_25 : decode cX9_ring 25 = .ok (.getfield 16, 3) := by decide +kernel
theorem dX9_ring_28 : decode cX9_ring 28 = .ok (.invokevirtual 84, 3) := by decide +kernel
theorem dX9_ring_31 : decode cX9_ring 31 = .ok (.pop, 1) := by decide +kernel
theorem dX9_ring_32 : decode cX9_ring 32 = .ok (.aload_n 0, 1) := by decide +kernel
theorem dX9_ring_33 : decode cX9_ring 33 = .ok (.getfield 33, 3) := by decide +kernel
theorem dX9_ring_36 : decode cX9_ring 36 = .ok (.invokevirtual 102, 3) := by decide +kernel
theorem dX9_ring_39 : decode cX9_ring 39 = .ok (.aload_n 0, 1) := by decide +kernel
theorem dX9_ring_40 : decode cX9_ring 40 = .ok (.getfield 26, 3) := by decide +kernel
theorem dX9_ring_43 : decode cX9_ring 43 = .ok (.aload_n 0, 1) := by decide +kernel
theorem dX9_ring_44 : decode cX9_ring 44 = .ok (.getfield 22, 3) := by decide +kernel
theorem dX9_ring_47 : decode cX9_ring 47 = .ok (.getfield 105, 3) := by decide +kernel
theorem dX9_ring_50 : decode cX9_ring 50 = .ok (.invokevirtual 108, 3) := by decide +kernel
theorem dX9_ring_53 : decode cX9_ring 53 = .ok (.aload_n 0, 1) := by decide +kernel
theorem dX9_ring_54 : decode cX9_ring 54 = .ok (.getfield 45, 3) := by decide +kernel
theorem dX9_ring_57 : decode cX9_ring 57 = .ok (.invokevirtual 112, 3) := by decide +kernel
theorem dX9_ring_60 : decode cX9_ring 60 = .ok (.aload_n 0, 1) := by decide +kernel
theorem dX9_ring_61 : decode cX9_ring 61 = .ok (.getfield 52, 3) := by decide +kernel
theorem dX9_ring_64 : decode cX9_ring 64 = .ok (.invokevirtual 115, 3) := by decide +kernel
theorem dX9_ring_67 : decode cX9_ring 67 = .ok (.aload_n 0, 1) := by decide +kernel
theorem dX9_ring_68 : decode cX9_ring 68 = .ok (.iconst 0, 1) := by decide +kernel
theorem dX9_ring_69 : decode cX9_ring 69 = .ok (.putfield 116, 3) := by decide +kernel
theorem dX9_ring_72 : decode cX9_ring 72 = .ok (.aload_n 0, 1) := by decide +kernel
theorem dX9_ring_73 : decode cX9_ring 73 = .ok (.dup, 1) := by decide +kernel
theorem dX9_ring_74 : decode cX9_ring 74 = .ok (.getfield 120, 3) := by decide +kernel
theorem dX9_ring_77 : decode cX9_ring 77 = .ok (.iconst 1, 1) := by decide +kernel
theorem dX9_ring_78 : decode cX9_ring 78 = .ok (.iadd, 1) := by decide +kernel
theorem dX9_ring_79 : decode cX9_ring 79 = .ok (.putfield 120, 3) := by decide +kernel
theorem dX9_ring_82 : decode cX9_ring 82 = .ok (.aload_n 0, 1) := by decide +kernel
theorem dX9_ring_83 : decode cX9_ring 83 = .ok (.getfield 22, 3) := by decide +kernel
theorem dX9_ring_86 : decode cX9_ring 86 = .ok (.getfield 105, 3) := by decide +kernel
theorem dX9_ring_89 : decode cX9_ring 89 = .ok (.ireturn, 1) := by decide +kernel
theorem dX9_house_0 : decode cX9_house 0 = .ok (.aload_n 0, 1) := by decide +kernel
theorem dX9_house_1 : decode cX9_house 1 = .ok (.getfield 22, 3) := by decide +kernel
theorem dX9_house_4 : decode cX9_house 4 = .ok (.iload_n 1, 1) := by decide +kernel
theorem dX9_house_5 : decode cX9_house 5 = .ok (.invokevirtual 141, 3) := by decide +kernel
theorem dX9_house_8 : decode cX9_house 8 = .ok (.ifCond .ne 6, 3) := by decide +kernel
theorem dX9_house_11 : decode cX9_house 11 = .ok (.bipush (-101), 2) := by decide +kernel
theorem dX9_house_13 : decode cX9_house 13 = .ok (.ireturn, 1) := by decide +kernel
theorem dX9_house_14 : decode cX9_house 14 = .ok (.iload_n 2, 1) := by decide +kernel
theorem dX9_house_15 : decode cX9_house 15 = .ok (.tableswitch 79 0 3 #[29, 38, 54, 70], 29) := by decide +kernel
theorem dX9_house_44 : decode cX9_house 44 = .ok (.aload_n 0, 1) := by decide +kernel
theorem dX9_house_45 : decode cX9_house 45 = .ok (.getfield 22, 3) := by decide +kernel
theorem dX9_house_48 : decode cX9_house 48 = .ok (.iload_n 1, 1) := by decide +kernel
theorem dX9_house_49 : decode cX9_house 49 = .ok (.invokevirtual 165, 3) := by decide +kernel
theorem dX9_house_52 : decode cX9_house 52 = .ok (.ireturn, 1) := by decide +kernel
theorem dX9_house_53 : decode cX9_house 53 = .ok (.aload_n 0, 1) := by decide +kernel
theorem dX9_house_54 : decode cX9_house 54 = .ok (.getfield 33, 3) := by decide +kernel
theorem dX9_house_57 : decode cX9_house 57 = .ok (.iload_n 1, 1) := by decide +kernel
theorem dX9_house_58 : decode cX9_house 58 = .ok (.aload_n 0, 1) := by decide +kernel
theorem dX9_house_59 : decode cX9_house 59 = .ok (.getfield 22, 3) := by decide +kernel
theorem dX9_house_62 : decode cX9_house 62 = .ok (.getfield 105, 3) := by decide +kernel
theorem dX9_house_65 : decode cX9_house 65 = .ok (.invokevirtual 148, 3) := by decide +kernel
theorem dX9_house_68 : decode cX9_house 68 = .ok (.ireturn, 1) := by decide +kernel
theorem dX9_house_69 : decode cX9_house 69 = .ok (.aload_n 0, 1) := by decide +kernel
theorem dX9_house_70 : decode cX9_house 70 = .ok (.getfield 33, 3) := by decide +kernel
theorem dX9_house_73 : decode cX9_house 73 = .ok (.iload_n 1, 1) := by decide +kernel
theorem dX9_house_74 : decode cX9_house 74 = .ok (.aload_n 0, 1) := by decide +kernel
theorem dX9_house_75 : decode cX9_house 75 = .ok (.getfield 22, 3) := by decide +kernel
theorem dX9_house_78 : decode cX9_house 78 = .ok (.getfield 105, 3) := by decide +kernel
theorem dX9_house_81 : decode cX9_house 81 = .ok (.invokevirtual 168, 3) := by decide +kernel
theorem dX9_house_84 : decode cX9_house 84 = .ok (.ireturn, 1) := by decide +kernel
theorem dX9_house_85 : decode cX9_house 85 = .ok (.aload_n 0, 1) := by decide +kernel
theorem dX9_house_86 : decode cX9_house 86 = .ok (.getfield 52, 3) := by decide +kernel
theorem dX9_house_89 : decode cX9_house 89 = .ok (.iload_n 1, 1) := by decide +kernel
theorem dX9_house_90 : decode cX9_house 90 = .ok (.invokevirtual 171, 3) := by decide +kernel
theorem dX9_house_93 : decode cX9_house 93 = .ok (.ireturn, 1) := by decide +kernel
theorem dX9_house_94 : decode cX9_house 94 = .ok (.bipush (-102), 2) := by decide +kernel
theorem dX9_house_96 : decode cX9_house 96 = .ok (.ireturn, 1) := by decide +kernel
theorem dX9_as_0 : decode cX9_as 0 = .ok (.aload_n 0, 1) := by decide +kernel
theorem dX9_as_1 : decode cX9_as 1 = .ok (.getfield 22, 3) := by decide +kernel
theorem dX9_as_4 : decode cX9_as 4 = .ok (.iload_n 1, 1) := by decide +kernel
theorem dX9_as_5 : decode cX9_as 5 = .ok (.invokevirtual 141, 3) := by decide +kernel
theorem dX9_as_8 : decode cX9_as 8 = .ok (.ifCond .ne 6, 3) := by decide +kernel
theorem dX9_as_11 : decode cX9_as 11 = .ok (.bipush (-101), 2) := by decide +kernel
theorem dX9_as_13 : decode cX9_as 13 = .ok (.ireturn, 1) := by decide +kernel
theorem dX9_as_14 : decode cX9_as 14 = .ok (.iload_n 2, 1) := by decide +kernel
theorem dX9_as_15 : decode cX9_as 15 = .ok (.ifCond .lt 8, 3) := by decide +kernel
theorem dX9_as_18 : decode cX9_as 18 = .ok (.iload_n 2, 1) := by decide +kernel
theorem dX9_as_19 : decode cX9_as 19 = .ok (.iconst 3, 1) := by decide +kernel
theorem dX9_as_20 : decode cX9_as 20 = .ok (.if_icmp .le 6, 3) := by decide +kernel
theorem dX9_as_23 : decode cX9_as 23 = .ok (.bipush (-102), 2) := by decide +kernel
theorem dX9_as_25 : decode cX9_as 25 = .ok (.ireturn, 1) := by decide +kernel
theorem dX9_as_26 : decode cX9_as 26 = .ok (.aload_n 0, 1) := by decide +kernel
theorem dX9_as_27 : decode cX9_as 27 = .ok (.getfield 22, 3) := by decide +kernel
theorem dX9_as_30 : decode cX9_as 30 = .ok (.iload_n 1, 1) := by decide +kernel
theorem dX9_as_31 : decode cX9_as 31 = .ok (.iload_n 2, 1) := by decide +kernel
theorem dX9_as_32 : decode cX9_as 32 = .ok (.invokevirtual 173, 3) := by decide +kernel
theorem dX9_as_35 : decode cX9_as 35 = .ok (.ifCond .eq 7, 3) := by decide +kernel
theorem dX9_as_38 : decode cX9_as 38 = .ok (.iload_n 1, 1) := by decide +kernel
theorem dX9_as_39 : decode cX9_as 39 = .ok (.goto 4, 3) := by decide +kernel
theorem dX9_as_42 : decode cX9_as 42 = .ok (.iconst (-1), 1) := by decide +kernel
theorem dX9_as_43 : decode cX9_as 43 = .ok (.ireturn, 1) := by decide +kernel
theorem dX9_at_0 : decode cX9_at 0 = .ok (.aload_n 0, 1) := by decide +kernel
theorem dX9_at_1 : decode cX9_at 1 = .ok (.getfield 22, 3) := by decide +kernel
theorem dX9_at_4 : decode cX9_at 4 = .ok (.iload_n 1, 1) := by decide +kernel
theorem dX9_at_5 : decode cX9_at 5 = .ok (.invokevirtual 141, 3) := by decide +kernel
theorem dX9_at_8 : decode cX9_at 8 = .ok (.ifCond .eq 14, 3) := by decide +kernel
theorem dX9_at_11 : decode cX9_at 11 = .ok (.aload_n 0, 1) := by decide +kernel
theorem dX9_at_12 : decode cX9_at 12 = .ok (.getfield 33, 3) := by decide +kernel
theorem dX9_at_15 : decode cX9_at 15 = .ok (.iload_n 1, 1) := by decide +kernel
theorem dX9_at_16 : decode cX9_at 16 = .ok (.invokevirtual 155, 3) := by decide +kernel
theorem dX9_at_19 : decode cX9_at 19 = .ok (.goto 5, 3) := by decide +kernel
theorem dX9_at_22 : decode cX9_at 22 = .ok (.bipush (-101), 2) := by decide +kernel
theorem dX9_at_24 : decode cX9_at 24 = .ok (.ireturn, 1) := by decide +kernel
theorem dX9_feud_0 : decode cX9_feud 0 = .ok (.aload_n 0, 1) := by decide +kernel
theorem dX9_feud_1 : decode cX9_feud 1 = .ok (.getfield 22, 3) := by decide +kernel
theorem dX9_feud_4 : decode cX9_feud 4 = .ok (.iload_n 1, 1) := by decide +kernel
theorem dX9_feud_5 : decode cX9_feud 5 = .ok (.invokevirtual 141, 3) := by decide +kernel
theorem dX9_feud_8 : decode cX9_feud 8 = .ok (.ifCond .eq 14, 3) := by decide +kernel
theorem dX9_feud_11 : decode cX9_feud 11 = .ok (.aload_n 0, 1) := by decide +kernel
theorem dX9_feud_12 : decode cX9_feud 12 = .ok (.getfield 22, 3) := by decide +kernel
theorem dX9_feud_15 : decode cX9_feud 15 = .ok (.iload_n 2, 1) := by decide +kernel
theorem dX9_feud_16 : decode cX9_feud 16 = .ok (.invokevirtual 141, 3) := by decide +kernel
theorem dX9_feud_19 : decode cX9_feud 19 = .ok (.ifCond .ne 6, 3) := by decide +kernel
theorem dX9_feud_22 : decode cX9_feud 22 = .ok (.bipush (-101), 2) := by decide +kernel
theorem dX9_feud_24 : decode cX9_feud 24 = .ok (.ireturn, 1) := by decide +kernel
theorem dX9_feud_25 : decode cX9_feud 25 = .ok (.aload_n 0, 1) := by decide +kernel
theorem dX9_feud_26 : decode cX9_feud 26 = .ok (.getfield 22, 3) := by decide +kernel
theorem dX9_feud_29 : decode cX9_feud 29 = .ok (.iload_n 1, 1) := by decide +kernel
theorem dX9_feud_30 : decode cX9_feud 30 = .ok (.iload_n 2, 1) := by decide +kernel
theorem dX9_feud_31 : decode cX9_feud 31 = .ok (.invokevirtual 176, 3) := by decide +kernel
theorem dX9_feud_34 : decode cX9_feud 34 = .ok (.ifCond .eq 7, 3) := by decide +kernel
theorem dX9_feud_37 : decode cX9_feud 37 = .ok (.iconst 1, 1) := by decide +kernel
theorem dX9_feud_38 : decode cX9_feud 38 = .ok (.goto 4, 3) := by decide +kernel
theorem dX9_feud_41 : decode cX9_feud 41 = .ok (.iconst 0, 1) := by decide +kernel
theorem dX9_feud_42 : decode cX9_feud 42 = .ok (.ireturn, 1) := by decide +kernel
theorem dX9_touch_0 : decode cX9_touch 0 = .ok (.aload_n 0, 1) := by decide +kernel
theorem dX9_touch_1 : decode cX9_touch 1 = .ok (.getfield 22, 3) := by decide +kernel
theorem dX9_touch_4 : decode cX9_touch 4 = .ok (.invokevirtual 123, 3) := by decide +kernel
theorem dX9_touch_7 : decode cX9_touch 7 = .ok (.ifCond .eq 20, 3) := by decide +kernel
theorem dX9_touch_10 : decode cX9_touch 10 = .ok (.aload_n 0, 1) := by decide +kernel
theorem dX9_touch_11 : decode cX9_touch 11 = .ok (.getfield 22, 3) := by decide +kernel
theorem dX9_touch_14 : decode cX9_touch 14 = .ok (.aload_n 0, 1) := by decide +kernel
theorem dX9_touch_15 : decode cX9_touch 15 = .ok (.getfield 33, 3) := by decide +kernel
theorem dX9_touch_18 : decode cX9_touch 18 = .ok (.getfield 179, 3) := by decide +kernel
theorem dX9_touch_21 : decode cX9_touch 21 = .ok (.invokevirtual 183, 3) := by decide +kernel
theorem dX9_touch_24 : decode cX9_touch 24 = .ok (.goto 5, 3) := by decide +kernel
theorem dX9_touch_27 : decode cX9_touch 27 = .ok (.bipush (-103), 2) := by decide +kernel
theorem dX9_touch_29 : decode cX9_touch 29 = .ok (.ireturn, 1) := by decide +kernel
theorem dX9_joins_0 : decode cX9_joins 0 = .ok (.aload_n 0, 1) := by decide +kernel
theorem dX9_joins_1 : decode cX9_joins 1 = .ok (.getfield 22, 3) := by decide +kernel
theorem dX9_joins_4 : decode cX9_joins 4 = .ok (.invokevirtual 123, 3) := by decide +kernel
theorem dX9_joins_7 : decode cX9_joins 7 = .ok (.ifCond .ne 6, 3) := by decide +kernel
theorem dX9_joins_10 : decode cX9_joins 10 = .ok (.bipush (-103), 2) := by decide +kernel
theorem dX9_joins_12 : decode cX9_joins 12 = .ok (.ireturn, 1) := by decide +kernel
theorem dX9_joins_13 : decode cX9_joins 13 = .ok (.iconst 0, 1) := by decide +kernel
theorem dX9_joins_14 : decode cX9_joins 14 = .ok (.istore_n 1, 1) := by decide +kernel
theorem dX9_joins_15 : decode cX9_joins 15 = .ok (.iconst 0, 1) := by decide +kernel
theorem dX9_joins_16 : decode cX9_joins 16 = .ok (.istore_n 2, 1) := by decide +kernel
theorem dX9_joins_17 : decode cX9_joins 17 = .ok (.iload_n 2, 1) := by decide +kernel
theorem dX9_joins_18 : decode cX9_joins 18 = .ok (.aload_n 0, 1) := by decide +kernel
theorem dX9_joins_19 : decode cX9_joins 19 = .ok (.getfield 22, 3) := by decide +kernel
theorem dX9_joins_22 : decode cX9_joins 22 = .ok (.getfield 105, 3) := by decide +kernel
theorem dX9_joins_25 : decode cX9_joins 25 = .ok (.if_icmp .ge 79, 3) := by decide +kernel
theorem dX9_joins_28 : decode cX9_joins 28 = .ok (.aload_n 0, 1) := by decide +kernel
theorem dX9_joins_29 : decode cX9_joins 29 = .ok (.getfield 33, 3) := by decide +kernel
theorem dX9_joins_32 : decode cX9_joins 32 = .ok (.aload_n 0, 1) := by decide +kernel
theorem dX9_joins_33 : decode cX9_joins 33 = .ok (.getfield 33, 3) := by decide +kernel
theorem dX9_joins_36 : decode cX9_joins 36 = .ok (.iload_n 2, 1) := by decide +kernel
theorem dX9_joins_37 : decode cX9_joins 37 = .ok (.invokevirtual 155, 3) := by decide +kernel
theorem dX9_joins_40 : decode cX9_joins 40 = .ok (.aload_n 0, 1) := by decide +kernel
theorem dX9_joins_41 : decode cX9_joins 41 = .ok (.getfield 22, 3) := by decide +kernel
theorem dX9_joins_44 : decode cX9_joins 44 = .ok (.getfield 105, 3) := by decide +kernel
theorem dX9_joins_47 : decode cX9_joins 47 = .ok (.invokevirtual 168, 3) := by decide +kernel
theorem dX9_joins_50 : decode cX9_joins 50 = .ok (.istore_n 3, 1) := by decide +kernel
theorem dX9_joins_51 : decode cX9_joins 51 = .ok (.aload_n 0, 1) := by decide +kernel
theorem dX9_joins_52 : decode cX9_joins 52 = .ok (.getfield 33, 3) := by decide +kernel
theorem dX9_joins_55 : decode cX9_joins 55 = .ok (.aload_n 0, 1) := by decide +kernel
theorem dX9_joins_56 : decode cX9_joins 56 = .ok (.getfield 33, 3) := by decide +kernel
theorem dX9_joins_59 : decode cX9_joins 59 = .ok (.aload_n 0, 1) := by decide +kernel
theorem dX9_joins_60 : decode cX9_joins 60 = .ok (.getfield 22, 3) := by decide +kernel
theorem dX9_joins_63 : decode cX9_joins 63 = .ok (.iload_n 2, 1) := by decide +kernel
theorem dX9_joins_64 : decode cX9_joins 64 = .ok (.invokevirtual 187, 3) := by decide +kernel
theorem dX9_joins_67 : decode cX9_joins 67 = .ok (.invokevirtual 155, 3) := by decide +kernel
theorem dX9_joins_70 : decode cX9_joins 70 = .ok (.aload_n 0, 1) := by decide +kernel
theorem dX9_joins_71 : decode cX9_joins 71 = .ok (.getfield 22, 3) := by decide +kernel
theorem dX9_joins_74 : decode cX9_joins 74 = .ok (.getfield 105, 3) := by decide +kernel
theorem dX9_joins_77 : decode cX9_joins 77 = .ok (.invokevirtual 168, 3) := by decide +kernel
theorem dX9_joins_80 : decode cX9_joins 80 = .ok (.istore 4, 2) := by decide +kernel
theorem dX9_joins_82 : decode cX9_joins 82 = .ok (.aload_n 0, 1) := by decide +kernel
theorem dX9_joins_83 : decode cX9_joins 83 = .ok (.getfield 22, 3) := by decide +kernel
theorem dX9_joins_86 : decode cX9_joins 86 = .ok (.iload_n 3, 1) := by decide +kernel
theorem dX9_joins_87 : decode cX9_joins 87 = .ok (.iload 4, 2) := by decide +kernel
theorem dX9_joins_89 : decode cX9_joins 89 = .ok (.invokevirtual 161, 3) := by decide +kernel
theorem dX9_joins_92 : decode cX9_joins 92 = .ok (.ifCond .ne 6, 3) := by decide +kernel
theorem dX9_joins_95 : decode cX9_joins 95 = .ok (.iinc 1 1, 3) := by decide +kernel
theorem dX9_joins_98 : decode cX9_joins 98 = .ok (.iinc 2 1, 3) := by decide +kernel
theorem dX9_joins_101 : decode cX9_joins 101 = .ok (.goto (-84), 3) := by decide +kernel
theorem dX9_joins_104 : decode cX9_joins 104 = .ok (.iload_n 1, 1) := by decide +kernel
theorem dX9_joins_105 : decode cX9_joins 105 = .ok (.ireturn, 1) := by decide +kernel
theorem dX9_walk_0 : decode cX9_walk 0 = .ok (.aload_n 0, 1) := by decide +kernel
theorem dX9_walk_1 : decode cX9_walk 1 = .ok (.getfield 22, 3) := by decide +kernel
theorem dX9_walk_4 : decode cX9_walk 4 = .ok (.iload_n 1, 1) := by decide +kernel
theorem dX9_walk_5 : decode cX9_walk 5 = .ok (.invokevirtual 141, 3) := by decide +kernel
theorem dX9_walk_8 : decode cX9_walk 8 = .ok (.ifCond .ne 6, 3) := by decide +kernel
theorem dX9_walk_11 : decode cX9_walk 11 = .ok (.bipush (-101), 2) := by decide +kernel
theorem dX9_walk_13 : decode cX9_walk 13 = .ok (.ireturn, 1) := by decide +kernel
theorem dX9_walk_14 : decode cX9_walk 14 = .ok (.aload_n 0, 1) := by decide +kernel
theorem dX9_walk_15 : decode cX9_walk 15 = .ok (.getfield 33, 3) := by decide +kernel
theorem dX9_walk_18 : decode cX9_walk 18 = .ok (.iload_n 1, 1) := by decide +kernel
theorem dX9_walk_19 : decode cX9_walk 19 = .ok (.aload_n 0, 1) := by decide +kernel
theorem dX9_walk_20 : decode cX9_walk 20 = .ok (.getfield 22, 3) := by decide +kernel
theorem dX9_walk_23 : decode cX9_walk 23 = .ok (.getfield 105, 3) := by decide +kernel
theorem dX9_walk_26 : decode cX9_walk 26 = .ok (.invokevirtual 168, 3) := by decide +kernel
theorem dX9_walk_29 : decode cX9_walk 29 = .ok (.istore_n 2, 1) := by decide +kernel
theorem dX9_walk_30 : decode cX9_walk 30 = .ok (.aload_n 0, 1) := by decide +kernel
theorem dX9_walk_31 : decode cX9_walk 31 = .ok (.getfield 22, 3) := by decide +kernel
theorem dX9_walk_34 : decode cX9_walk 34 = .ok (.iconst 0, 1) := by decide +kernel
theorem dX9_walk_35 : decode cX9_walk 35 = .ok (.iload_n 2, 1) := by decide +kernel
theorem dX9_walk_36 : decode cX9_walk 36 = .ok (.invokevirtual 190, 3) := by decide +kernel
theorem dX9_walk_39 : decode cX9_walk 39 = .ok (.aload_n 0, 1) := by decide +kernel
theorem dX9_walk_40 : decode cX9_walk 40 = .ok (.getfield 22, 3) := by decide +kernel
theorem dX9_walk_43 : decode cX9_walk 43 = .ok (.iload_n 2, 1) := by decide +kernel
theorem dX9_walk_44 : decode cX9_walk 44 = .ok (.aload_n 0, 1) := by decide +kernel
theorem dX9_walk_45 : decode cX9_walk 45 = .ok (.getfield 33, 3) := by decide +kernel
theorem dX9_walk_48 : decode cX9_walk 48 = .ok (.iload_n 1, 1) := by decide +kernel
theorem dX9_walk_49 : decode cX9_walk 49 = .ok (.aload_n 0, 1) := by decide +kernel
theorem dX9_walk_50 : decode cX9_walk 50 = .ok (.getfield 22, 3) := by decide +kernel
theorem dX9_walk_53 : decode cX9_walk 53 = .ok (.getfield 105, 3) := by decide +kernel
theorem dX9_walk_56 : decode cX9_walk 56 = .ok (.invokevirtual 148, 3) := by decide +kernel
theorem dX9_walk_59 : decode cX9_walk 59 = .ok (.invokevirtual 190, 3) := by decide +kernel
theorem dX9_walk_62 : decode cX9_walk 62 = .ok (.iadd, 1) := by decide +kernel
theorem dX9_walk_63 : decode cX9_walk 63 = .ok (.ireturn, 1) := by decide +kernel
theorem dX9_night_0 : decode cX9_night 0 = .ok (.aload_n 0, 1) := by decide +kernel
theorem dX9_night_1 : decode cX9_night 1 = .ok (.getfield 22, 3) := by decide +kernel
theorem dX9_night_4 : decode cX9_night 4 = .ok (.iload_n 1, 1) := by decide +kernel
theorem dX9_night_5 : decode cX9_night 5 = .ok (.invokevirtual 141, 3) := by decide +kernel
theorem dX9_night_8 : decode cX9_night 8 = .ok (.ifCond .ne 6, 3) := by decide +kernel
theorem dX9_night_11 : decode cX9_night 11 = .ok (.bipush (-101), 2) := by decide +kernel
theorem dX9_night_13 : decode cX9_night 13 = .ok (.ireturn, 1) := by decide +kernel
theorem dX9_night_14 : decode cX9_night 14 = .ok (.iload_n 2, 1) := by decide +kernel
theorem dX9_night_15 : decode cX9_night 15 = .ok (.iconst (-1), 1) := by decide +kernel
theorem dX9_night_16 : decode cX9_night 16 = .ok (.if_icmp .lt 8, 3) := by decide +kernel
theorem dX9_night_19 : decode cX9_night 19 = .ok (.iload_n 2, 1) := by decide +kernel
theorem dX9_night_20 : decode cX9_night 20 = .ok (.iconst 1, 1) := by decide +kernel
theorem dX9_night_21 : decode cX9_night 21 = .ok (.if_icmp .le 6, 3) := by decide +kernel
theorem dX9_night_24 : decode cX9_night 24 = .ok (.bipush (-102), 2) := by decide +kernel
theorem dX9_night_26 : decode cX9_night 26 = .ok (.ireturn, 1) := by decide +kernel
theorem dX9_night_27 : decode cX9_night 27 = .ok (.aload_n 0, 1) := by decide +kernel
theorem dX9_night_28 : decode cX9_night 28 = .ok (.aload_n 0, 1) := by decide +kernel
theorem dX9_night_29 : decode cX9_night 29 = .ok (.getfield 22, 3) := by decide +kernel
theorem dX9_night_32 : decode cX9_night 32 = .ok (.iload_n 1, 1) := by decide +kernel
theorem dX9_night_33 : decode cX9_night 33 = .ok (.iload_n 2, 1) := by decide +kernel
theorem dX9_night_34 : decode cX9_night 34 = .ok (.iadd, 1) := by decide +kernel
theorem dX9_night_35 : decode cX9_night 35 = .ok (.invokevirtual 152, 3) := by decide +kernel
theorem dX9_night_38 : decode cX9_night 38 = .ok (.invokevirtual 193, 3) := by decide +kernel
theorem dX9_night_41 : decode cX9_night 41 = .ok (.ifCond .eq 7, 3) := by decide +kernel
theorem dX9_night_44 : decode cX9_night 44 = .ok (.iconst 1, 1) := by decide +kernel
theorem dX9_night_45 : decode cX9_night 45 = .ok (.goto 4, 3) := by decide +kernel
theorem dX9_night_48 : decode cX9_night 48 = .ok (.iconst 0, 1) := by decide +kernel
theorem dX9_night_49 : decode cX9_night 49 = .ok (.ireturn, 1) := by decide +kernel
theorem dX9_midnight_0 : decode cX9_midnight 0 = .ok (.aload_n 0, 1) := by decide +kernel
theorem dX9_midnight_1 : decode cX9_midnight 1 = .ok (.getfield 33, 3) := by decide +kernel
theorem dX9_midnight_4 : decode cX9_midnight 4 = .ok (.invokevirtual 196, 3) := by decide +kernel
theorem dX9_midnight_7 : decode cX9_midnight 7 = .ok (.aload_n 0, 1) := by decide +kernel
theorem dX9_midnight_8 : decode cX9_midnight 8 = .ok (.getfield 22, 3) := by decide +kernel
theorem dX9_midnight_11 : decode cX9_midnight 11 = .ok (.iload_n 1, 1) := by decide +kernel
theorem dX9_midnight_12 : decode cX9_midnight 12 = .ok (.invokevirtual 199, 3) := by decide +kernel
theorem dX9_midnight_15 : decode cX9_midnight 15 = .ok (.ifCond .eq 5, 3) := by decide +kernel
theorem dX9_midnight_18 : decode cX9_midnight 18 = .ok (.iconst 0, 1) := by decide +kernel
theorem dX9_midnight_19 : decode cX9_midnight 19 = .ok (.ireturn, 1) := by decide +kernel
theorem dX9_midnight_20 : decode cX9_midnight 20 = .ok (.aload_n 0, 1) := by decide +kernel
theorem dX9_midnight_21 : decode cX9_midnight 21 = .ok (.getfield 33, 3) := by decide +kernel
theorem dX9_midnight_24 : decode cX9_midnight 24 = .ok (.iload_n 1, 1) := by decide +kernel
theorem dX9_midnight_25 : decode cX9_midnight 25 = .ok (.aload_n 0, 1) := by decide +kernel
theorem dX9_midnight_26 : decode cX9_midnight 26 = .ok (.getfield 22, 3) := by decide +kernel
theorem dX9_midnight_29 : decode cX9_midnight 29 = .ok (.iload_n 1, 1) := by decide +kernel
theorem dX9_midnight_30 : decode cX9_midnight 30 = .ok (.invokevirtual 187, 3) := by decide +kernel
theorem dX9_midnight_33 : decode cX9_midnight 33 = .ok (.invokevirtual 202, 3) := by decide +kernel
theorem dX9_midnight_36 : decode cX9_midnight 36 = .ok (.iconst 1, 1) := by decide +kernel
theorem dX9_midnight_37 : decode cX9_midnight 37 = .ok (.ireturn, 1) := by decide +kernel
theorem dX9_number_0 : decode cX9_number 0 = .ok (.aload_n 0, 1) := by decide +kernel
theorem dX9_number_1 : decode cX9_number 1 = .ok (.getfield 26, 3) := by decide +kernel
theorem dX9_number_4 : decode cX9_number 4 = .ok (.aload_n 0, 1) := by decide +kernel
theorem dX9_number_5 : decode cX9_number 5 = .ok (.getfield 33, 3) := by decide +kernel
theorem dX9_number_8 : decode cX9_number 8 = .ok (.getfield 179, 3) := by decide +kernel
theorem dX9_number_11 : decode cX9_number 11 = .ok (.invokevirtual 215, 3) := by decide +kernel
theorem dX9_number_14 : decode cX9_number 14 = .ok (.ireturn, 1) := by decide +kernel
theorem dX9_apart_0 : decode cX9_apart 0 = .ok (.aload_n 0, 1) := by decide +kernel
theorem dX9_apart_1 : decode cX9_apart 1 = .ok (.getfield 22, 3) := by decide +kernel
theorem dX9_apart_4 : decode cX9_apart 4 = .ok (.invokevirtual 123, 3) := by decide +kernel
theorem dX9_apart_7 : decode cX9_apart 7 = .ok (.ifCond .ne 6, 3) := by decide +kernel
theorem dX9_apart_10 : decode cX9_apart 10 = .ok (.bipush (-103), 2) := by decide +kernel
theorem dX9_apart_12 : decode cX9_apart 12 = .ok (.ireturn, 1) := by decide +kernel
theorem dX9_apart_13 : decode cX9_apart 13 = .ok (.iload_n 1, 1) := by decide +kernel
theorem dX9_apart_14 : decode cX9_apart 14 = .ok (.ifCond .lt 17, 3) := by decide +kernel
theorem dX9_apart_17 : decode cX9_apart 17 = .ok (.iload_n 1, 1) := by decide +kernel
theorem dX9_apart_18 : decode cX9_apart 18 = .ok (.iconst 5, 1) := by decide +kernel
theorem dX9_apart_19 : decode cX9_apart 19 = .ok (.if_icmp .gt 12, 3) := by decide +kernel
theorem dX9_apart_22 : decode cX9_apart 22 = .ok (.iload_n 2, 1) := by decide +kernel
theorem dX9_apart_23 : decode cX9_apart 23 = .ok (.ifCond .lt 8, 3) := by decide +kernel
theorem dX9_apart_26 : decode cX9_apart 26 = .ok (.iload_n 2, 1) := by decide +kernel
theorem dX9_apart_27 : decode cX9_apart 27 = .ok (.iconst 1, 1) := by decide +kernel
theorem dX9_apart_28 : decode cX9_apart 28 = .ok (.if_icmp .le 6, 3) := by decide +kernel
theorem dX9_apart_31 : decode cX9_apart 31 = .ok (.bipush (-102), 2) := by decide +kernel
theorem dX9_apart_33 : decode cX9_apart 33 = .ok (.ireturn, 1) := by decide +kernel
theorem dX9_apart_34 : decode cX9_apart 34 = .ok (.aload_n 0, 1) := by decide +kernel
theorem dX9_apart_35 : decode cX9_apart 35 = .ok (.getfield 45, 3) := by decide +kernel
theorem dX9_apart_38 : decode cX9_apart 38 = .ok (.iload_n 1, 1) := by decide +kernel
theorem dX9_apart_39 : decode cX9_apart 39 = .ok (.invokevirtual 221, 3) := by decide +kernel
theorem dX9_apart_42 : decode cX9_apart 42 = .ok (.aload_n 0, 1) := by decide +kernel
theorem dX9_apart_43 : decode cX9_apart 43 = .ok (.getfield 45, 3) := by decide +kernel
theorem dX9_apart_46 : decode cX9_apart 46 = .ok (.aload_n 0, 1) := by decide +kernel
theorem dX9_apart_47 : decode cX9_apart 47 = .ok (.invokevirtual 209, 3) := by decide +kernel
theorem dX9_apart_50 : decode cX9_apart 50 = .ok (.iload_n 1, 1) := by decide +kernel
theorem dX9_apart_51 : decode cX9_apart 51 = .ok (.invokevirtual 224, 3) := by decide +kernel
theorem dX9_apart_54 : decode cX9_apart 54 = .ok (.aload_n 0, 1) := by decide +kernel
theorem dX9_apart_55 : decode cX9_apart 55 = .ok (.getfield 22, 3) := by decide +kernel
theorem dX9_apart_58 : decode cX9_apart 58 = .ok (.iload_n 1, 1) := by decide +kernel
theorem dX9_apart_59 : decode cX9_apart 59 = .ok (.invokevirtual 227, 3) := by decide +kernel
theorem dX9_apart_62 : decode cX9_apart 62 = .ok (.iload_n 2, 1) := by decide +kernel
theorem dX9_apart_63 : decode cX9_apart 63 = .ok (.invokestatic 230, 3) := by decide +kernel
theorem dX9_apart_66 : decode cX9_apart 66 = .ok (.ireturn, 1) := by decide +kernel
theorem dX9_choose_0 : decode cX9_choose 0 = .ok (.aload_n 0, 1) := by decide +kernel
theorem dX9_choose_1 : decode cX9_choose 1 = .ok (.getfield 22, 3) := by decide +kernel
theorem dX9_choose_4 : decode cX9_choose 4 = .ok (.iload_n 1, 1) := by decide +kernel
theorem dX9_choose_5 : decode cX9_choose 5 = .ok (.invokevirtual 141, 3) := by decide +kernel
theorem dX9_choose_8 : decode cX9_choose 8 = .ok (.ifCond .ne 6, 3) := by decide +kernel
theorem dX9_choose_11 : decode cX9_choose 11 = .ok (.bipush (-101), 2) := by decide +kernel
theorem dX9_choose_13 : decode cX9_choose 13 = .ok (.ireturn, 1) := by decide +kernel
theorem dX9_choose_14 : decode cX9_choose 14 = .ok (.iload_n 2, 1) := by decide +kernel
theorem dX9_choose_15 : decode cX9_choose 15 = .ok (.iconst 1, 1) := by decide +kernel
theorem dX9_choose_16 : decode cX9_choose 16 = .ok (.if_icmp .lt 8, 3) := by decide +kernel
theorem dX9_choose_19 : decode cX9_choose 19 = .ok (.iload_n 2, 1) := by decide +kernel
theorem dX9_choose_20 : decode cX9_choose 20 = .ok (.iconst 5, 1) := by decide +kernel
theorem dX9_choose_21 : decode cX9_choose 21 = .ok (.if_icmp .le 6, 3) := by decide +kernel
theorem dX9_choose_24 : decode cX9_choose 24 = .ok (.bipush (-102), 2) := by decide +kernel
theorem dX9_choose_26 : decode cX9_choose 26 = .ok (.ireturn, 1) := by decide +kernel
theorem dX9_choose_27 : decode cX9_choose 27 = .ok (.aload_n 0, 1) := by decide +kernel
theorem dX9_choose_28 : decode cX9_choose 28 = .ok (.getfield 45, 3) := by decide +kernel
theorem dX9_choose_31 : decode cX9_choose 31 = .ok (.aload_n 0, 1) := by decide +kernel
theorem dX9_choose_32 : decode cX9_choose 32 = .ok (.invokevirtual 209, 3) := by decide +kernel
theorem dX9_choose_35 : decode cX9_choose 35 = .ok (.iload_n 1, 1) := by decide +kernel
theorem dX9_choose_36 : decode cX9_choose 36 = .ok (.iload_n 2, 1) := by decide +kernel
theorem dX9_choose_37 : decode cX9_choose 37 = .ok (.invokevirtual 212, 3) := by decide +kernel
theorem dX9_choose_40 : decode cX9_choose 40 = .ok (.ireturn, 1) := by decide +kernel
theorem dX9_fewest_0 : decode cX9_fewest 0 = .ok (.aload_n 0, 1) := by decide +kernel
theorem dX9_fewest_1 : decode cX9_fewest 1 = .ok (.getfield 52, 3) := by decide +kernel
theorem dX9_fewest_4 : decode cX9_fewest 4 = .ok (.getfield 233, 3) := by decide +kernel
theorem dX9_fewest_7 : decode cX9_fewest 7 = .ok (.ifCond .eq 17, 3) := by decide +kernel
theorem dX9_fewest_10 : decode cX9_fewest 10 = .ok (.aload_n 0, 1) := by decide +kernel
theorem dX9_fewest_11 : decode cX9_fewest 11 = .ok (.getfield 52, 3) := by decide +kernel
theorem dX9_fewest_14 : decode cX9_fewest 14 = .ok (.aload_n 0, 1) := by decide +kernel
theorem dX9_fewest_15 : decode cX9_fewest 15 = .ok (.invokevirtual 209, 3) := by decide +kernel
theorem dX9_fewest_18 : decode cX9_fewest 18 = .ok (.invokevirtual 235, 3) := by decide +kernel
theorem dX9_fewest_21 : decode cX9_fewest 21 = .ok (.goto 5, 3) := by decide +kernel
theorem dX9_fewest_24 : decode cX9_fewest 24 = .ok (.bipush (-103), 2) := by decide +kernel
theorem dX9_fewest_26 : decode cX9_fewest 26 = .ok (.ireturn, 1) := by decide +kernel
theorem dX9_surely_0 : decode cX9_surely 0 = .ok (.aload_n 0, 1) := by decide +kernel
theorem dX9_surely_1 : decode cX9_surely 1 = .ok (.getfield 52, 3) := by decide +kernel
theorem dX9_surely_4 : decode cX9_surely 4 = .ok (.getfield 233, 3) := by decide +kernel
theorem dX9_surely_7 : decode cX9_surely 7 = .ok (.ifCond .eq 17, 3) := by decide +kernel
theorem dX9_surely_10 : decode cX9_surely 10 = .ok (.aload_n 0, 1) := by decide +kernel
theorem dX9_surely_11 : decode cX9_surely 11 = .ok (.getfield 52, 3) := by decide +kernel
theorem dX9_surely_14 : decode cX9_surely 14 = .ok (.aload_n 0, 1) := by decide +kernel
theorem dX9_surely_15 : decode cX9_surely 15 = .ok (.invokevirtual 209, 3) := by decide +kernel
theorem dX9_surely_18 : decode cX9_surely 18 = .ok (.invokevirtual 238, 3) := by decide +kernel
theorem dX9_surely_21 : decode cX9_surely 21 = .ok (.goto 5, 3) := by decide +kernel
theorem dX9_surely_24 : decode cX9_surely 24 = .ok (.bipush (-103), 2) := by decide +kernel
theorem dX9_surely_26 : decode cX9_surely 26 = .ok (.ireturn, 1) := by decide +kernel
theorem dX9_odds_0 : decode cX9_odds 0 = .ok (.aload_n 0, 1) := by decide +kernel
theorem dX9_odds_1 : decode cX9_odds 1 = .ok (.getfield 22, 3) := by decide +kernel
theorem dX9_odds_4 : decode cX9_odds 4 = .ok (.iload_n 1, 1) := by decide +kernel
theorem dX9_odds_5 : decode cX9_odds 5 = .ok (.invokevirtual 141, 3) := by decide +kernel
theorem dX9_odds_8 : decode cX9_odds 8 = .ok (.ifCond .eq 14, 3) := by decide +kernel
theorem dX9_odds_11 : decode cX9_odds 11 = .ok (.aload_n 0, 1) := by decide +kernel
theorem dX9_odds_12 : decode cX9_odds 12 = .ok (.getfield 22, 3) := by decide +kernel
theorem dX9_odds_15 : decode cX9_odds 15 = .ok (.iload_n 2, 1) := by decide +kernel
theorem dX9_odds_16 : decode cX9_odds 16 = .ok (.invokevirtual 141, 3) := by decide +kernel
theorem dX9_odds_19 : decode cX9_odds 19 = .ok (.ifCond .ne 6, 3) := by decide +kernel
theorem dX9_odds_22 : decode cX9_odds 22 = .ok (.bipush (-101), 2) := by decide +kernel
theorem dX9_odds_24 : decode cX9_odds 24 = .ok (.ireturn, 1) := by decide +kernel
theorem dX9_odds_25 : decode cX9_odds 25 = .ok (.iload_n 3, 1) := by decide +kernel
theorem dX9_odds_26 : decode cX9_odds 26 = .ok (.ifCond .lt 20, 3) := by decide +kernel
theorem dX9_odds_29 : decode cX9_odds 29 = .ok (.iload_n 3, 1) := by decide +kernel
theorem dX9_odds_30 : decode cX9_odds 30 = .ok (.bipush 8, 2) := by decide +kernel
theorem dX9_odds_32 : decode cX9_odds 32 = .ok (.if_icmp .gt 14, 3) := by decide +kernel
theorem dX9_odds_35 : decode cX9_odds 35 = .ok (.iload 4, 2) := by decide +kernel
theorem dX9_odds_37 : decode cX9_odds 37 = .ok (.ifCond .lt 9, 3) := by decide +kernel
theorem dX9_odds_40 : decode cX9_odds 40 = .ok (.iload 4, 2) := by decide +kernel
theorem dX9_odds_42 : decode cX9_odds 42 = .ok (.iconst 1, 1) := by decide +kernel
theorem dX9_odds_43 : decode cX9_odds 43 = .ok (.if_icmp .le 6, 3) := by decide +kernel
theorem dX9_odds_46 : decode cX9_odds 46 = .ok (.bipush (-102), 2) := by decide +kernel
theorem dX9_odds_48 : decode cX9_odds 48 = .ok (.ireturn, 1) := by decide +kernel
theorem dX9_odds_49 : decode cX9_odds 49 = .ok (.aload_n 0, 1) := by decide +kernel
theorem dX9_odds_50 : decode cX9_odds 50 = .ok (.getfield 68, 3) := by decide +kernel
theorem dX9_odds_53 : decode cX9_odds 53 = .ok (.aload_n 0, 1) := by decide +kernel
theorem dX9_odds_54 : decode cX9_odds 54 = .ok (.getfield 33, 3) := by decide +kernel
theorem dX9_odds_57 : decode cX9_odds 57 = .ok (.iload_n 1, 1) := by decide +kernel
theorem dX9_odds_58 : decode cX9_odds 58 = .ok (.aload_n 0, 1) := by decide +kernel
theorem dX9_odds_59 : decode cX9_odds 59 = .ok (.getfield 22, 3) := by decide +kernel
theorem dX9_odds_62 : decode cX9_odds 62 = .ok (.getfield 105, 3) := by decide +kernel
theorem dX9_odds_65 : decode cX9_odds 65 = .ok (.invokevirtual 148, 3) := by decide +kernel
theorem dX9_odds_68 : decode cX9_odds 68 = .ok (.iload_n 2, 1) := by decide +kernel
theorem dX9_odds_69 : decode cX9_odds 69 = .ok (.iload_n 3, 1) := by decide +kernel
theorem dX9_odds_70 : decode cX9_odds 70 = .ok (.invokevirtual 241, 3) := by decide +kernel
theorem dX9_odds_73 : decode cX9_odds 73 = .ok (.istore 5, 2) := by decide +kernel
theorem dX9_odds_75 : decode cX9_odds 75 = .ok (.iload 5, 2) := by decide +kernel
theorem dX9_odds_77 : decode cX9_odds 77 = .ok (.aload_n 0, 1) := by decide +kernel
theorem dX9_odds_78 : decode cX9_odds 78 = .ok (.getfield 22, 3) := by decide +kernel
theorem dX9_odds_81 : decode cX9_odds 81 = .ok (.iload_n 3, 1) := by decide +kernel
theorem dX9_odds_82 : decode cX9_odds 82 = .ok (.invokevirtual 227, 3) := by decide +kernel
theorem dX9_odds_85 : decode cX9_odds 85 = .ok (.iload 4, 2) := by decide +kernel
theorem dX9_odds_87 : decode cX9_odds 87 = .ok (.invokestatic 230, 3) := by decide +kernel
theorem dX9_odds_90 : decode cX9_odds 90 = .ok (.ireturn, 1) := by decide +kernel
theorem dX9_ways_0 : decode cX9_ways 0 = .ok (.aload_n 0, 1) := by decide +kernel
theorem dX9_ways_1 : decode cX9_ways 1 = .ok (.getfield 22, 3) := by decide +kernel
theorem dX9_ways_4 : decode cX9_ways 4 = .ok (.invokevirtual 123, 3) := by decide +kernel
theorem dX9_ways_7 : decode cX9_ways 7 = .ok (.ifCond .ne 7, 3) := by decide +kernel
theorem dX9_ways_10 : decode cX9_ways 10 = .ok (.ldc2_w 243, 3) := by decide +kernel
theorem dX9_ways_13 : decode cX9_ways 13 = .ok (.lreturn, 1) := by decide +kernel
theorem dX9_ways_14 : decode cX9_ways 14 = .ok (.iload_n 1, 1) := by decide +kernel
theorem dX9_ways_15 : decode cX9_ways 15 = .ok (.ifCond .lt 9, 3) := by decide +kernel
theorem dX9_ways_18 : decode cX9_ways 18 = .ok (.iload_n 1, 1) := by decide +kernel
theorem dX9_ways_19 : decode cX9_ways 19 = .ok (.bipush 12, 2) := by decide +kernel
theorem dX9_ways_21 : decode cX9_ways 21 = .ok (.if_icmp .le 7, 3) := by decide +kernel
theorem dX9_ways_24 : decode cX9_ways 24 = .ok (.ldc2_w 245, 3) := by decide +kernel
theorem dX9_ways_27 : decode cX9_ways 27 = .ok (.lreturn, 1) := by decide +kernel
theorem dX9_ways_28 : decode cX9_ways 28 = .ok (.aload_n 0, 1) := by decide +kernel
theorem dX9_ways_29 : decode cX9_ways 29 = .ok (.getfield 59, 3) := by decide +kernel
theorem dX9_ways_32 : decode cX9_ways 32 = .ok (.iload_n 1, 1) := by decide +kernel
theorem dX9_ways_33 : decode cX9_ways 33 = .ok (.invokevirtual 247, 3) := by decide +kernel
theorem dX9_ways_36 : decode cX9_ways 36 = .ok (.aload_n 0, 1) := by decide +kernel
theorem dX9_ways_37 : decode cX9_ways 37 = .ok (.getfield 59, 3) := by decide +kernel
theorem dX9_ways_40 : decode cX9_ways 40 = .ok (.aload_n 0, 1) := by decide +kernel
theorem dX9_ways_41 : decode cX9_ways 41 = .ok (.invokevirtual 209, 3) := by decide +kernel
theorem dX9_ways_44 : decode cX9_ways 44 = .ok (.invokevirtual 250, 3) := by decide +kernel
theorem dX9_ways_47 : decode cX9_ways 47 = .ok (.lreturn, 1) := by decide +kernel
theorem dX9_must_0 : decode cX9_must 0 = .ok (.aload_n 0, 1) := by decide +kernel
theorem dX9_must_1 : decode cX9_must 1 = .ok (.getfield 22, 3) := by decide +kernel
theorem dX9_must_4 : decode cX9_must 4 = .ok (.invokevirtual 123, 3) := by decide +kernel
theorem dX9_must_7 : decode cX9_must 7 = .ok (.ifCond .ne 6, 3) := by decide +kernel
theorem dX9_must_10 : decode cX9_must 10 = .ok (.bipush (-103), 2) := by decide +kernel
theorem dX9_must_12 : decode cX9_must 12 = .ok (.ireturn, 1) := by decide +kernel
theorem dX9_must_13 : decode cX9_must 13 = .ok (.iload_n 1, 1) := by decide +kernel
theorem dX9_must_14 : decode cX9_must 14 = .ok (.ifCond .lt 9, 3) := by decide +kernel
theorem dX9_must_17 : decode cX9_must 17 = .ok (.iload_n 1, 1) := by decide +kernel
theorem dX9_must_18 : decode cX9_must 18 = .ok (.bipush 12, 2) := by decide +kernel
theorem dX9_must_20 : decode cX9_must 20 = .ok (.if_icmp .le 6, 3) := by decide +kernel
theorem dX9_must_23 : decode cX9_must 23 = .ok (.bipush (-102), 2) := by decide +kernel
theorem dX9_must_25 : decode cX9_must 25 = .ok (.ireturn, 1) := by decide +kernel
theorem dX9_must_26 : decode cX9_must 26 = .ok (.aload_n 0, 1) := by decide +kernel
theorem dX9_must_27 : decode cX9_must 27 = .ok (.getfield 59, 3) := by decide +kernel
theorem dX9_must_30 : decode cX9_must 30 = .ok (.iload_n 1, 1) := by decide +kernel
theorem dX9_must_31 : decode cX9_must 31 = .ok (.invokevirtual 247, 3) := by decide +kernel
theorem dX9_must_34 : decode cX9_must 34 = .ok (.aload_n 0, 1) := by decide +kernel
theorem dX9_must_35 : decode cX9_must 35 = .ok (.getfield 59, 3) := by decide +kernel
theorem dX9_must_38 : decode cX9_must 38 = .ok (.aload_n 0, 1) := by decide +kernel
theorem dX9_must_39 : decode cX9_must 39 = .ok (.invokevirtual 209, 3) := by decide +kernel
theorem dX9_must_42 : decode cX9_must 42 = .ok (.invokevirtual 254, 3) := by decide +kernel
theorem dX9_must_45 : decode cX9_must 45 = .ok (.ireturn, 1) := by decide +kernel
theorem dX9_lowest_0 : decode cX9_lowest 0 = .ok (.iload_n 0, 1) := by decide +kernel
theorem dX9_lowest_1 : decode cX9_lowest 1 = .ok (.istore_n 3, 1) := by decide +kernel
theorem dX9_lowest_2 : decode cX9_lowest 2 = .ok (.iload_n 1, 1) := by decide +kernel
theorem dX9_lowest_3 : decode cX9_lowest 3 = .ok (.istore 4, 2) := by decide +kernel
theorem dX9_lowest_5 : decode cX9_lowest 5 = .ok (.iconst 0, 1) := by decide +kernel
theorem dX9_lowest_6 : decode cX9_lowest 6 = .ok (.istore 5, 2) := by decide +kernel
theorem dX9_lowest_8 : decode cX9_lowest 8 = .ok (.iload 5, 2) := by decide +kernel
theorem dX9_lowest_10 : decode cX9_lowest 10 = .ok (.bipush 64, 2) := by decide +kernel
theorem dX9_lowest_12 : decode cX9_lowest 12 = .ok (.if_icmp .ge 27, 3) := by decide +kernel
theorem dX9_lowest_15 : decode cX9_lowest 15 = .ok (.iload 4, 2) := by decide +kernel
theorem dX9_lowest_17 : decode cX9_lowest 17 = .ok (.ifCond .eq 22, 3) := by decide +kernel
theorem dX9_lowest_20 : decode cX9_lowest 20 = .ok (.iload_n 3, 1) := by decide +kernel
theorem dX9_lowest_21 : decode cX9_lowest 21 = .ok (.iload 4, 2) := by decide +kernel
theorem dX9_lowest_23 : decode cX9_lowest 23 = .ok (.irem, 1) := by decide +kernel
theorem dX9_lowest_24 : decode cX9_lowest 24 = .ok (.istore 6, 2) := by decide +kernel
theorem dX9_lowest_26 : decode cX9_lowest 26 = .ok (.iload 4, 2) := by decide +kernel
theorem dX9_lowest_28 : decode cX9_lowest 28 = .ok (.istore_n 3, 1) := by decide +kernel
theorem dX9_lowest_29 : decode cX9_lowest 29 = .ok (.iload 6, 2) := by decide +kernel
theorem dX9_lowest_31 : decode cX9_lowest 31 = .ok (.istore 4, 2) := by decide +kernel
theorem dX9_lowest_33 : decode cX9_lowest 33 = .ok (.iinc 5 1, 3) := by decide +kernel
theorem dX9_lowest_36 : decode cX9_lowest 36 = .ok (.goto (-28), 3) := by decide +kernel
theorem dX9_lowest_39 : decode cX9_lowest 39 = .ok (.iload_n 2, 1) := by decide +kernel
theorem dX9_lowest_40 : decode cX9_lowest 40 = .ok (.ifCond .ne 7, 3) := by decide +kernel
theorem dX9_lowest_43 : decode cX9_lowest 43 = .ok (.iload_n 0, 1) := by decide +kernel
theorem dX9_lowest_44 : decode cX9_lowest 44 = .ok (.goto 4, 3) := by decide +kernel
theorem dX9_lowest_47 : decode cX9_lowest 47 = .ok (.iload_n 1, 1) := by decide +kernel
theorem dX9_lowest_48 : decode cX9_lowest 48 = .ok (.istore 5, 2) := by decide +kernel
theorem dX9_lowest_50 : decode cX9_lowest 50 = .ok (.iload_n 3, 1) := by decide +kernel
theorem dX9_lowest_51 : decode cX9_lowest 51 = .ok (.ifCond .ne 8, 3) := by decide +kernel
theorem dX9_lowest_54 : decode cX9_lowest 54 = .ok (.iload 5, 2) := by decide +kernel
theorem dX9_lowest_56 : decode cX9_lowest 56 = .ok (.goto 7, 3) := by decide +kernel
theorem dX9_lowest_59 : decode cX9_lowest 59 = .ok (.iload 5, 2) := by decide +kernel
theorem dX9_lowest_61 : decode cX9_lowest 61 = .ok (.iload_n 3, 1) := by decide +kernel
theorem dX9_lowest_62 : decode cX9_lowest 62 = .ok (.idiv, 1) := by decide +kernel
theorem dX9_lowest_63 : decode cX9_lowest 63 = .ok (.ireturn, 1) := by decide +kernel
theorem dX9_count_0 : decode cX9_count 0 = .ok (.iload_n 1, 1) := by decide +kernel
theorem dX9_count_1 : decode cX9_count 1 = .ok (.tableswitch 84 0 5 #[39, 47, 55, 63, 71, 79], 39) := by decide +kernel
theorem dX9_count_40 : decode cX9_count 40 = .ok (.aload_n 0, 1) := by decide +kernel
theorem dX9_count_41 : decode cX9_count 41 = .ok (.getfield 22, 3) := by decide +kernel
theorem dX9_count_44 : decode cX9_count 44 = .ok (.getfield 105, 3) := by decide +kernel
theorem dX9_count_47 : decode cX9_count 47 = .ok (.ireturn, 1) := by decide +kernel
theorem dX9_count_48 : decode cX9_count 48 = .ok (.aload_n 0, 1) := by decide +kernel
theorem dX9_count_49 : decode cX9_count 49 = .ok (.getfield 22, 3) := by decide +kernel
theorem dX9_count_52 : decode cX9_count 52 = .ok (.getfield 264, 3) := by decide +kernel
theorem dX9_count_55 : decode cX9_count 55 = .ok (.ireturn, 1) := by decide +kernel
theorem dX9_count_56 : decode cX9_count 56 = .ok (.aload_n 0, 1) := by decide +kernel
theorem dX9_count_57 : decode cX9_count 57 = .ok (.getfield 33, 3) := by decide +kernel
theorem dX9_count_60 : decode cX9_count 60 = .ok (.getfield 261, 3) := by decide +kernel
theorem dX9_count_63 : decode cX9_count 63 = .ok (.ireturn, 1) := by decide +kernel
theorem dX9_count_64 : decode cX9_count 64 = .ok (.aload_n 0, 1) := by decide +kernel
theorem dX9_count_65 : decode cX9_count 65 = .ok (.getfield 33, 3) := by decide +kernel
theorem dX9_count_68 : decode cX9_count 68 = .ok (.getfield 218, 3) := by decide +kernel
theorem dX9_count_71 : decode cX9_count 71 = .ok (.ireturn, 1) := by decide +kernel
theorem dX9_count_72 : decode cX9_count 72 = .ok (.aload_n 0, 1) := by decide +kernel
theorem dX9_count_73 : decode cX9_count 73 = .ok (.getfield 16, 3) := by decide +kernel
theorem dX9_count_76 : decode cX9_count 76 = .ok (.getfield 76, 3) := by decide +kernel
theorem dX9_count_79 : decode cX9_count 79 = .ok (.ireturn, 1) := by decide +kernel
theorem dX9_count_80 : decode cX9_count 80 = .ok (.aload_n 0, 1) := by decide +kernel
theorem dX9_count_81 : decode cX9_count 81 = .ok (.getfield 120, 3) := by decide +kernel
theorem dX9_count_84 : decode cX9_count 84 = .ok (.ireturn, 1) := by decide +kernel
theorem dX9_count_85 : decode cX9_count 85 = .ok (.bipush (-102), 2) := by decide +kernel
theorem dX9_count_87 : decode cX9_count 87 = .ok (.ireturn, 1) := by decide +kernel
theorem dJ9_floorMod_7cf53_0 : decode cJ9_floorMod_7cf53 0 = .ok (.iload_n 0, 1) := by decide +kernel
theorem dJ9_floorMod_7cf53_1 : decode cJ9_floorMod_7cf53 1 = .ok (.iload_n 1, 1) := by decide +kernel
theorem dJ9_floorMod_7cf53_2 : decode cJ9_floorMod_7cf53 2 = .ok (.irem, 1) := by decide +kernel
theorem dJ9_floorMod_7cf53_3 : decode cJ9_floorMod_7cf53 3 = .ok (.istore_n 2, 1) := by decide +kernel
theorem dJ9_floorMod_7cf53_4 : decode cJ9_floorMod_7cf53 4 = .ok (.iload_n 0, 1) := by decide +kernel
theorem dJ9_floorMod_7cf53_5 : decode cJ9_floorMod_7cf53 5 = .ok (.iload_n 1, 1) := by decide +kernel
theorem dJ9_floorMod_7cf53_6 : decode cJ9_floorMod_7cf53 6 = .ok (.ixor, 1) := by decide +kernel
theorem dJ9_floorMod_7cf53_7 : decode cJ9_floorMod_7cf53 7 = .ok (.ifCond .ge 11, 3) := by decide +kernel
theorem dJ9_floorMod_7cf53_10 : decode cJ9_floorMod_7cf53 10 = .ok (.iload_n 2, 1) := by decide +kernel
theorem dJ9_floorMod_7cf53_11 : decode cJ9_floorMod_7cf53 11 = .ok (.ifCond .eq 7, 3) := by decide +kernel
theorem dJ9_floorMod_7cf53_14 : decode cJ9_floorMod_7cf53 14 = .ok (.iload_n 2, 1) := by decide +kernel
theorem dJ9_floorMod_7cf53_15 : decode cJ9_floorMod_7cf53 15 = .ok (.iload_n 1, 1) := by decide +kernel
theorem dJ9_floorMod_7cf53_16 : decode cJ9_floorMod_7cf53 16 = .ok (.iadd, 1) := by decide +kernel
theorem dJ9_floorMod_7cf53_17 : decode cJ9_floorMod_7cf53 17 = .ok (.ireturn, 1) := by decide +kernel
theorem dJ9_floorMod_7cf53_18 : decode cJ9_floorMod_7cf53 18 = .ok (.iload_n 2, 1) := by decide +kernel
theorem dJ9_floorMod_7cf53_19 : decode cJ9_floorMod_7cf53 19 = .ok (.ireturn, 1) := by decide +kernel
theorem dJ9_abs_0f7a4_0 : decode cJ9_abs_0f7a4 0 = .ok (.iload_n 0, 1) := by decide +kernel
theorem dJ9_abs_0f7a4_1 : decode cJ9_abs_0f7a4 1 = .ok (.ifCond .ge 8, 3) := by decide +kernel
theorem dJ9_abs_0f7a4_4 : decode cJ9_abs_0f7a4 4 = .ok (.iload_n 0, 1) := by decide +kernel
theorem dJ9_abs_0f7a4_5 : decode cJ9_abs_0f7a4 5 = .ok (.ineg, 1) := by decide +kernel
theorem dJ9_abs_0f7a4_6 : decode cJ9_abs_0f7a4 6 = .ok (.goto 4, 3) := by decide +kernel
theorem dJ9_abs_0f7a4_9 : decode cJ9_abs_0f7a4 9 = .ok (.iload_n 0, 1) := by decide +kernel
theorem dJ9_abs_0f7a4_10 : decode cJ9_abs_0f7a4 10 = .ok (.ireturn, 1) := by decide +kernel
theorem dJ9_max_7cf53_0 : decode cJ9_max_7cf53 0 = .ok (.iload_n 0, 1) := by decide +kernel
theorem dJ9_max_7cf53_1 : decode cJ9_max_7cf53 1 = .ok (.iload_n 1, 1) := by decide +kernel
theorem dJ9_max_7cf53_2 : decode cJ9_max_7cf53 2 = .ok (.if_icmp .lt 7, 3) := by decide +kernel
theorem dJ9_max_7cf53_5 : decode cJ9_max_7cf53 5 = .ok (.iload_n 0, 1) := by decide +kernel
theorem dJ9_max_7cf53_6 : decode cJ9_max_7cf53 6 = .ok (.goto 4, 3) := by decide +kernel
theorem dJ9_max_7cf53_9 : decode cJ9_max_7cf53 9 = .ok (.iload_n 1, 1) := by decide +kernel
theorem dJ9_max_7cf53_10 : decode cJ9_max_7cf53 10 = .ok (.ireturn, 1) := by decide +kernel
theorem dJ9_min_7cf53_0 : decode cJ9_min_7cf53 0 = .ok (.iload_n 0, 1) := by decide +kernel
theorem dJ9_min_7cf53_1 : decode cJ9_min_7cf53 1 = .ok (.iload_n 1, 1) := by decide +kernel
theorem dJ9_min_7cf53_2 : decode cJ9_min_7cf53 2 = .ok (.if_icmp .gt 7, 3) := by decide +kernel
theorem dJ9_min_7cf53_5 : decode cJ9_min_7cf53 5 = .ok (.iload_n 0, 1) := by decide +kernel
theorem dJ9_min_7cf53_6 : decode cJ9_min_7cf53 6 = .ok (.goto 4, 3) := by decide +kernel
theorem dJ9_min_7cf53_9 : decode cJ9_min_7cf53 9 = .ok (.iload_n 1, 1) := by decide +kernel
theorem dJ9_min_7cf53_10 : decode cJ9_min_7cf53 10 = .ok (.ireturn, 1) := by decide +kernel
theorem dJ7_fill_d0a16_0 : decode cJ7_fill_d0a16 0 = .ok (.iconst 0, 1) := by decide +kernel
theorem dJ7_fill_d0a16_1 : decode cJ7_fill_d0a16 1 = .ok (.istore_n 3, 1) := by decide +kernel
theorem dJ7_fill_d0a16_2 : decode cJ7_fill_d0a16 2 = .ok (.aload_n 0, 1) := by decide +kernel
theorem dJ7_fill_d0a16_3 : decode cJ7_fill_d0a16 3 = .ok (.arraylength, 1) := by decide +kernel
theorem dJ7_fill_d0a16_4 : decode cJ7_fill_d0a16 4 = .ok (.istore 4, 2) := by decide +kernel
theorem dJ7_fill_d0a16_6 : decode cJ7_fill_d0a16 6 = .ok (.iload_n 3, 1) := by decide +kernel
theorem dJ7_fill_d0a16_7 : decode cJ7_fill_d0a16 7 = .ok (.iload 4, 2) := by decide +kernel
theorem dJ7_fill_d0a16_9 : decode cJ7_fill_d0a16 9 = .ok (.if_icmp .ge 13, 3) := by decide +kernel
theorem dJ7_fill_d0a16_12 : decode cJ7_fill_d0a16 12 = .ok (.aload_n 0, 1) := by decide +kernel
theorem dJ7_fill_d0a16_13 : decode cJ7_fill_d0a16 13 = .ok (.iload_n 3, 1) := by decide +kernel
theorem dJ7_fill_d0a16_14 : decode cJ7_fill_d0a16 14 = .ok (.lload_n 1, 1) := by decide +kernel
theorem dJ7_fill_d0a16_15 : decode cJ7_fill_d0a16 15 = .ok (.lastore, 1) := by decide +kernel
theorem dJ7_fill_d0a16_16 : decode cJ7_fill_d0a16 16 = .ok (.iinc 3 1, 3) := by decide +kernel
theorem dJ7_fill_d0a16_19 : decode cJ7_fill_d0a16 19 = .ok (.goto (-13), 3) := by decide +kernel
theorem dJ7_fill_d0a16_22 : decode cJ7_fill_d0a16 22 = .ok (.return_, 1) := by decide +kernel
theorem dJ7_fill_53178_0 : decode cJ7_fill_53178 0 = .ok (.iconst 0, 1) := by decide +kernel
theorem dJ7_fill_53178_1 : decode cJ7_fill_53178 1 = .ok (.istore_n 2, 1) := by decide +kernel
theorem dJ7_fill_53178_2 : decode cJ7_fill_53178 2 = .ok (.aload_n 0, 1) := by decide +kernel
theorem dJ7_fill_53178_3 : decode cJ7_fill_53178 3 = .ok (.arraylength, 1) := by decide +kernel
theorem dJ7_fill_53178_4 : decode cJ7_fill_53178 4 = .ok (.istore_n 3, 1) := by decide +kernel
theorem dJ7_fill_53178_5 : decode cJ7_fill_53178 5 = .ok (.iload_n 2, 1) := by decide +kernel
theorem dJ7_fill_53178_6 : decode cJ7_fill_53178 6 = .ok (.iload_n 3, 1) := by decide +kernel
theorem dJ7_fill_53178_7 : decode cJ7_fill_53178 7 = .ok (.if_icmp .ge 13, 3) := by decide +kernel
theorem dJ7_fill_53178_10 : decode cJ7_fill_53178 10 = .ok (.aload_n 0, 1) := by decide +kernel
theorem dJ7_fill_53178_11 : decode cJ7_fill_53178 11 = .ok (.iload_n 2, 1) := by decide +kernel
theorem dJ7_fill_53178_12 : decode cJ7_fill_53178 12 = .ok (.iload_n 1, 1) := by decide +kernel
theorem dJ7_fill_53178_13 : decode cJ7_fill_53178 13 = .ok (.iastore, 1) := by decide +kernel
theorem dJ7_fill_53178_14 : decode cJ7_fill_53178 14 = .ok (.iinc 2 1, 3) := by decide +kernel
theorem dJ7_fill_53178_17 : decode cJ7_fill_53178 17 = .ok (.goto (-12), 3) := by decide +kernel
theorem dJ7_fill_53178_20 : decode cJ7_fill_53178 20 = .ok (.return_, 1) := by decide +kernel
