theorem dX10_init_0 : decode cX10_init 0 = .ok (.aload_n 0, 1) := by decide +kernel
theorem dX10_init_1 : decode cX10_init 1 = .ok (.invokespecial 1, 3) := by decide +kernel
theorem dX10_init_4 : decode cX10_init 4 = .ok (.aload_n 0, 1) := by decide +kernel
theorem dX10_init_5 : decode cX10_init 5 = .ok (.bipush 6, 2) := by decide +kernel
theorem dX10_init_7 : decode cX10_init 7 = .ok (.newarray .int, 2) := by decide +kernel
theorem dX10_init_9 : decode cX10_init 9 = .ok (.putfield 7, 3) := by decide +kernel
theorem dX10_init_12 : decode cX10_init 12 = .ok (.aload_n 0, 1) := by decide +kernel
theorem dX10_init_13 : decode cX10_init 13 = .ok (.bipush 36, 2) := by decide +kernel
theorem dX10_init_15 : decode cX10_init 15 = .ok (.newarray .boolean, 2) := by decide +kernel
theorem dX10_init_17 : decode cX10_init 17 = .ok (.putfield 13, 3) := by decide +kernel
theorem dX10_init_20 : decode cX10_init 20 = .ok (.aload_n 0, 1) := by decide +kernel
theorem dX10_init_21 : decode cX10_init 21 = .ok (.bipush 6, 2) := by decide +kernel
theorem dX10_init_23 : decode cX10_init 23 = .ok (.newarray .int, 2) := by decide +kernel
theorem dX10_init_25 : decode cX10_init 25 = .ok (.putfield 17, 3) := by decide +kernel
theorem dX10_init_28 : decode cX10_init 28 = .ok (.aload_n 0, 1) := by decide +kernel
theorem dX10_init_29 : decode cX10_init 29 = .ok (.bipush 6, 2) := by decide +kernel
theorem dX10_init_31 : decode cX10_init 31 = .ok (.newarray .int, 2) := by decide +kernel
theorem dX10_init_33 : decode cX10_init 33 = .ok (.putfield 20, 3) := by decide +kernel
theorem dX10_init_36 : decode cX10_init 36 = .ok (.aload_n 0, 1) := by decide +kernel
theorem dX10_init_37 : decode cX10_init 37 = .ok (.bipush 6, 2) := by decide +kernel
theorem dX10_init_39 : decode cX10_init 39 = .ok (.newarray .int, 2) := by decide +kernel
theorem dX10_init_41 : decode cX10_init 41 = .ok (.putfield 23, 3) := by decide +kernel
theorem dX10_init_44 : decode cX10_init 44 = .ok (.aload_n 0, 1) := by decide +kernel
theorem dX10_init_45 : decode cX10_init 45 = .ok (.lconst 1, 1) := by decide +kernel
theorem dX10_init_46 : decode cX10_init 46 = .ok (.putfield 26, 3) := by decide +kernel
theorem dX10_init_49 : decode cX10_init 49 = .ok (.aload_n 0, 1) := by decide +kernel
theorem dX10_init_50 : decode cX10_init 50 = .ok (.bipush 26, 2) := by decide +kernel
theorem dX10_init_52 : decode cX10_init 52 = .ok (.newarray .byte, 2) := by decide +kernel
theorem dX10_init_54 : decode cX10_init 54 = .ok (.putfield 30, 3) := by decide +kernel
theorem dX10_init_57 : decode cX10_init 57 = .ok (.aload_n 0, 1) := by decide +kernel
theorem dX10_init_58 : decode cX10_init 58 = .ok (.bipush 6, 2) := by decide +kernel
theorem dX10_init_60 : decode cX10_init 60 = .ok (.newarray .int, 2) := by decide +kernel
theorem dX10_init_62 : decode cX10_init 62 = .ok (.putfield 34, 3) := by decide +kernel
theorem dX10_init_65 : decode cX10_init 65 = .ok (.aload_n 0, 1) := by decide +kernel
theorem dX10_init_66 : decode cX10_init 66 = .ok (.bipush 6, 2) := by decide +kernel
theorem dX10_init_68 : decode cX10_init 68 = .ok (.newarray .int, 2) := by decide +kernel
theorem dX10_init_70 : decode cX10_init 70 = .ok (.putfield 37, 3) := by decide +kernel
theorem dX10_init_73 : decode cX10_init 73 = .ok (.aload_n 0, 1) := by decide +kernel
theorem dX10_init_74 : decode cX10_init 74 = .ok (.bipush 6, 2) := by decide +kernel
theorem dX10_init_76 : decode cX10_init 76 = .ok (.newarray .int, 2) := by decide +kernel
theorem dX10_init_78 : decode cX10_init 78 = .ok (.putfield 40, 3) := by decide +kernel
theorem dX10_init_81 : decode cX10_init 81 = .ok (.aload_n 0, 1) := by decide +kernel
theorem dX10_init_82 : decode cX10_init 82 = .ok (.bipush 6, 2) := by decide +kernel
theorem dX10_init_84 : decode cX10_init 84 = .ok (.newarray .int, 2) := by decide +kernel
theorem dX10_init_86 : decode cX10_init 86 = .ok (.putfield 43, 3) := by decide +kernel
theorem dX10_init_89 : decode cX10_init 89 = .ok (.aload_n 0, 1) := by decide +kernel
theorem dX10_init_90 : decode cX10_init 90 = .ok (.bipush 6, 2) := by decide +kernel
theorem dX10_init_92 : decode cX10_init 92 = .ok (.newarray .int, 2) := by decide +kernel
theorem dX10_init_94 : decode cX10_init 94 = .ok (.putfield 46, 3) := by decide +kernel
theorem dX10_init_97 : decode cX10_init 97 = .ok (.aload_n 0, 1) := by decide +kernel
theorem dX10_init_98 : decode cX10_init 98 = .ok (.sipush 720, 3) := by decide +kernel
theorem dX10_init_101 : decode cX10_init 101 = .ok (.newarray .int, 2) := by decide +kernel
theorem dX10_init_103 : decode cX10_init 103 = .ok (.putfield 49, 3) := by decide +kernel
theorem dX10_init_106 : decode cX10_init 106 = .ok (.aload_n 0, 1) := by decide +kernel
theorem dX10_init_107 : decode cX10_init 107 = .ok (.ldc 52, 2) := by decide +kernel
theorem dX10_init_109 : decode cX10_init 109 = .ok (.newarray .int, 2) := by decide +kernel
theorem dX10_init_111 : decode cX10_init 111 = .ok (.putfield 53, 3) := by decide +kernel
theorem dX10_init_114 : decode cX10_init 114 = .ok (.aload_n 0, 1) := by decide +kernel
theorem dX10_init_115 : decode cX10_init 115 = .ok (.sipush 4320, 3) := by decide +kernel
theorem dX10_init_118 : decode cX10_init 118 = .ok (.newarray .int, 2) := by decide +kernel
theorem dX10_init_120 : decode cX10_init 120 = .ok (.putfield 56, 3) := by decide +kernel
theorem dX10_init_123 : decode cX10_init 123 = .ok (.aload_n 0, 1) := by decide +kernel
theorem dX10_init_124 : decode cX10_init 124 = .ok (.bipush 6, 2) := by decide +kernel
theorem dX10_init_126 : decode cX10_init 126 = .ok (.newarray .int, 2) := by decide +kernel
theorem dX10_init_128 : decode cX10_init 128 = .ok (.putfield 59, 3) := by decide +kernel
theorem dX10_init_131 : decode cX10_init 131 = .ok (.aload_n 0, 1) := by decide +kernel
theorem dX10_init_132 : decode cX10_init 132 = .ok (.sipush 720, 3) := by decide +kernel
theorem dX10_init_135 : decode cX10_init 135 = .ok (.newarray .int, 2) := by decide +kernel
theorem dX10_init_137 : decode cX10_init 137 = .ok (.putfield 62, 3) := by decide +kernel
theorem dX10_init_140 : decode cX10_init 140 = .ok (.aload_n 0, 1) := by decide +kernel
theorem dX10_init_141 : decode cX10_init 141 = .ok (.sipush 720, 3) := by decide +kernel
theorem dX10_init_144 : decode cX10_init 144 = .ok (.newarray .int, 2) := by decide +kernel
theorem dX10_init_146 : decode cX10_init 146 = .ok (.putfield 65, 3) := by decide +kernel
theorem dX10_init_149 : decode cX10_init 149 = .ok (.aload_n 0, 1) := by decide +kernel
theorem dX10_init_150 : decode cX10_init 150 = .ok (.sipush 720, 3) := by decide +kernel
theorem dX10_init_153 : decode cX10_init 153 = .ok (.newarray .int, 2) := by decide +kernel
theorem dX10_init_155 : decode cX10_init 155 = .ok (.putfield 68, 3) := by decide +kernel
theorem dX10_init_158 : decode cX10_init 158 = .ok (.aload_n 0, 1) := by decide +kernel
theorem dX10_init_159 : decode cX10_init 159 = .ok (.sipush 720, 3) := by decide +kernel
theorem dX10_init_162 : decode cX10_init 162 = .ok (.newarray .int, 2) := by decide +kernel
theorem dX10_init_164 : decode cX10_init 164 = .ok (.putfield 71, 3) := by decide +kernel
theorem dX10_init_167 : decode cX10_init 167 = .ok (.aload_n 0, 1) := by decide +kernel
theorem dX10_init_168 : decode cX10_init 168 = .ok (.bipush 6, 2) := by decide +kernel
theorem dX10_init_170 : decode cX10_init 170 = .ok (.newarray .int, 2) := by decide +kernel
theorem dX10_init_172 : decode cX10_init 172 = .ok (.putfield 74, 3) := by decide +kernel
theorem dX10_init_175 : decode cX10_init 175 = .ok (.aload_n 0, 1) := by decide +kernel
theorem dX10_init_176 : decode cX10_init 176 = .ok (.bipush 6, 2) := by decide +kernel
theorem dX10_init_178 : decode cX10_init 178 = .ok (.newarray .int, 2) := by decide +kernel
theorem dX10_init_180 : decode cX10_init 180 = .ok (.putfield 77, 3) := by decide +kernel
theorem dX10_init_183 : decode cX10_init 183 = .ok (.aload_n 0, 1) := by decide +kernel
theorem dX10_init_184 : decode cX10_init 184 = .ok (.sipush 720, 3) := by decide +kernel
theorem dX10_init_187 : decode cX10_init 187 = .ok (.newarray .long, 2) := by decide +kernel
theorem dX10_init_189 : decode cX10_init 189 = .ok (.putfield 80, 3) := by decide +kernel
theorem dX10_init_192 : decode cX10_init 192 = .ok (.aload_n 0, 1) := by decide +kernel
theorem dX10_init_193 : decode cX10_init 193 = .ok (.sipush 720, 3) := by decide +kernel
theorem dX10_init_196 : decode cX10_init 196 = .ok (.newarray .long, 2) := by decide +kernel
theorem dX10_init_198 : decode cX10_init 198 = .ok (.putfield 84, 3) := by decide +kernel
theorem dX10_init_201 : decode cX10_init 201 = .ok (.return_, 1) := by decide +kernel
theorem dX10_within_0 : decode cX10_within 0 = .ok (.iload_n 0, 1) := by decide +kernel
theorem dX10_within_1 : decode cX10_within 1 = .ok (.iload_n 1, 1) := by decide +kernel
theorem dX10_within_2 : decode cX10_within 2 = .ok (.if_icmp .lt 12, 3) := by decide +kernel
theorem dX10_within_5 : decode cX10_within 5 = .ok (.iload_n 0, 1) := by decide +kernel
theorem dX10_within_6 : decode cX10_within 6 = .ok (.iload_n 2, 1) := by decide +kernel
theorem dX10_within_7 : decode cX10_within 7 = .ok (.if_icmp .gt 7, 3) := by decide +kernel
theorem dX10_within_10 : decode cX10_within 10 = .ok (.iconst 1, 1) := by decide +kernel
theorem dX10_within_11 : decode cX10_within 11 = .ok (.goto 4, 3) := by decide +kernel
theorem dX10_within_14 : decode cX10_within 14 = .ok (.iconst 0, 1) := by decide +kernel
theorem dX10_within_15 : decode cX10_within 15 = .ok (.ireturn, 1) := by decide +kernel
theorem dX10_letters_0 : decode cX10_letters 0 = .ok (.iconst 0, 1) := by decide +kernel
theorem dX10_letters_1 : decode cX10_letters 1 = .ok (.istore_n 3, 1) := by decide +kernel
theorem dX10_letters_2 : decode cX10_letters 2 = .ok (.iconst 0, 1) := by decide +kernel
theorem dX10_letters_3 : decode cX10_letters 3 = .ok (.istore 4, 2) := by decide +kernel
theorem dX10_letters_5 : decode cX10_letters 5 = .ok (.iconst 0, 1) := by decide +kernel
theorem dX10_letters_6 : decode cX10_letters 6 = .ok (.istore 5, 2) := by decide +kernel
theorem dX10_letters_8 : decode cX10_letters 8 = .ok (.iload 5, 2) := by decide +kernel
theorem dX10_letters_10 : decode cX10_letters 10 = .ok (.bipush 8, 2) := by decide +kernel
theorem dX10_letters_12 : decode cX10_letters 12 = .ok (.if_icmp .ge 73, 3) := by decide +kernel
theorem dX10_letters_15 : decode cX10_letters 15 = .ok (.lload_n 1, 1) := by decide +kernel
theorem dX10_letters_16 : decode cX10_letters 16 = .ok (.bipush 8, 2) := by decide +kernel
theorem dX10_letters_18 : decode cX10_letters 18 = .ok (.iload 5, 2) := by decide +kernel
theorem dX10_letters_20 : decode cX10_letters 20 = .ok (.imul, 1) := by decide +kernel
theorem dX10_letters_21 : decode cX10_letters 21 = .ok (.lshr, 1) := by decide +kernel
theorem dX10_letters_22 : decode cX10_letters 22 = .ok (.ldc2_w 87, 3) := by decide +kernel
theorem dX10_letters_25 : decode cX10_letters 25 = .ok (.land, 1) := by decide +kernel
theorem dX10_letters_26 : decode cX10_letters 26 = .ok (.l2i, 1) := by decide +kernel
theorem dX10_letters_27 : decode cX10_letters 27 = .ok (.istore 6, 2) := by decide +kernel
theorem dX10_letters_29 : decode cX10_letters 29 = .ok (.iload 6, 2) := by decide +kernel
theorem dX10_letters_31 : decode cX10_letters 31 = .ok (.bipush 126, 2) := by decide +kernel
theorem dX10_letters_33 : decode cX10_letters 33 = .ok (.if_icmp .gt 13, 3) := by decide +kernel
theorem dX10_letters_36 : decode cX10_letters 36 = .ok (.iload 4, 2) := by decide +kernel
theorem dX10_letters_38 : decode cX10_letters 38 = .ok (.ifCond .eq 11, 3) := by decide +kernel
theorem dX10_letters_41 : decode cX10_letters 41 = .ok (.iload 6, 2) := by decide +kernel
theorem dX10_letters_43 : decode cX10_letters 43 = .ok (.ifCond .eq 6, 3) := by decide +kernel
theorem dX10_letters_46 : decode cX10_letters 46 = .ok (.bipush (-102), 2) := by decide +kernel
theorem dX10_letters_48 : decode cX10_letters 48 = .ok (.ireturn, 1) := by decide +kernel
theorem dX10_letters_49 : decode cX10_letters 49 = .ok (.iload 4, 2) := by decide +kernel
theorem dX10_letters_51 : decode cX10_letters 51 = .ok (.ifCond .ne 8, 3) := by decide +kernel
theorem dX10_letters_54 : decode cX10_letters 54 = .ok (.iload 6, 2) := by decide +kernel
theorem dX10_letters_56 : decode cX10_letters 56 = .ok (.ifCond .ne 7, 3) := by decide +kernel
theorem dX10_letters_59 : decode cX10_letters 59 = .ok (.iconst 1, 1) := by decide +kernel
theorem dX10_letters_60 : decode cX10_letters 60 = .ok (.goto 4, 3) := by decide +kernel
theorem dX10_letters_63 : decode cX10_letters 63 = .ok (.iconst 0, 1) := by decide +kernel
theorem dX10_letters_64 : decode cX10_letters 64 = .ok (.istore 4, 2) := by decide +kernel
theorem dX10_letters_66 : decode cX10_letters 66 = .ok (.iload_n 3, 1) := by decide +kernel
theorem dX10_letters_67 : decode cX10_letters 67 = .ok (.iload 6, 2) := by decide +kernel
theorem dX10_letters_69 : decode cX10_letters 69 = .ok (.ifCond .ne 7, 3) := by decide +kernel
theorem dX10_letters_72 : decode cX10_letters 72 = .ok (.iconst 0, 1) := by decide +kernel
theorem dX10_letters_73 : decode cX10_letters 73 = .ok (.goto 4, 3) := by decide +kernel
theorem dX10_letters_76 : decode cX10_letters 76 = .ok (.iconst 1, 1) := by decide +kernel
theorem dX10_letters_77 : decode cX10_letters 77 = .ok (.iadd, 1) := by decide +kernel
theorem dX10_letters_78 : decode cX10_letters 78 = .ok (.istore_n 3, 1) := by decide +kernel
theorem dX10_letters_79 : decode cX10_letters 79 = .ok (.iinc 5 1, 3) := by decide +kernel
theorem dX10_letters_82 : decode cX10_letters 82 = .ok (.goto (-74), 3) := by decide +kernel
theorem dX10_letters_85 : decode cX10_letters 85 = .ok (.aload_n 0, 1) := by decide +kernel
theorem dX10_letters_86 : decode cX10_letters 86 = .ok (.getfield 89, 3) := by decide +kernel
theorem dX10_letters_89 : decode cX10_letters 89 = .ok (.iload_n 3, 1) := by decide +kernel
theorem dX10_letters_90 : decode cX10_letters 90 = .ok (.iadd, 1) := by decide +kernel
theorem dX10_letters_91 : decode cX10_letters 91 = .ok (.bipush 26, 2) := by decide +kernel
theorem dX10_letters_93 : decode cX10_letters 93 = .ok (.if_icmp .le 6, 3) := by decide +kernel
theorem dX10_letters_96 : decode cX10_letters 96 = .ok (.bipush (-104), 2) := by decide +kernel
theorem dX10_letters_98 : decode cX10_letters 98 = .ok (.ireturn, 1) := by decide +kernel
theorem dX10_letters_99 : decode cX10_letters 99 = .ok (.iconst 0, 1) := by decide +kernel
theorem dX10_letters_100 : decode cX10_letters 100 = .ok (.istore 5, 2) := by decide +kernel
theorem dX10_letters_102 : decode cX10_letters 102 = .ok (.iload 5, 2) := by decide +kernel
theorem dX10_letters_104 : decode cX10_letters 104 = .ok (.iload_n 3, 1) := by decide +kernel
theorem dX10_letters_105 : decode cX10_letters 105 = .ok (.if_icmp .ge 30, 3) := by decide +kernel
theorem dX10_letters_108 : decode cX10_letters 108 = .ok (.aload_n 0, 1) := by decide +kernel
theorem dX10_letters_109 : decode cX10_letters 109 = .ok (.getfield 30, 3) := by decide +kernel
theorem dX10_letters_112 : decode cX10_letters 112 = .ok (.aload_n 0, 1) := by decide +kernel
theorem dX10_letters_113 : decode cX10_letters 113 = .ok (.getfield 89, 3) := by decide +kernel
theorem dX10_letters_116 : decode cX10_letters 116 = .ok (.iload 5, 2) := by decide +kernel
theorem dX10_letters_118 : decode cX10_letters 118 = .ok (.iadd, 1) := by decide +kernel
theorem dX10_letters_119 : decode cX10_letters 119 = .ok (.lload_n 1, 1) := by decide +kernel
theorem dX10_letters_120 : decode cX10_letters 120 = .ok (.bipush 8, 2) := by decide +kernel
theorem dX10_letters_122 : decode cX10_letters 122 = .ok (.iload 5, 2) := by decide +kernel
theorem dX10_letters_124 : decode cX10_letters 124 = .ok (.imul, 1) := by decide +kernel
theorem dX10_letters_125 : decode cX10_letters 125 = .ok (.lshr, 1) := by decide +kernel
theorem dX10_letters_126 : decode cX10_letters 126 = .ok (.l2i, 1) := by decide +kernel
theorem dX10_letters_127 : decode cX10_letters 127 = .ok (.i2b, 1) := by decide +kernel
theorem dX10_letters_128 : decode cX10_letters 128 = .ok (.bastore, 1) := by decide +kernel
theorem dX10_letters_129 : decode cX10_letters 129 = .ok (.iinc 5 1, 3) := by decide +kernel
theorem dX10_letters_132 : decode cX10_letters 132 = .ok (.goto (-30), 3) := by decide +kernel
theorem dX10_letters_135 : decode cX10_letters 135 = .ok (.aload_n 0, 1) := by decide +kernel
theorem dX10_letters_136 : decode cX10_letters 136 = .ok (.dup, 1) := by decide +kernel
theorem dX10_letters_137 : decode cX10_letters 137 = .ok (.getfield 89, 3) := by decide +kernel
theorem dX10_letters_140 : decode cX10_letters 140 = .ok (.iload_n 3, 1) := by decide +kernel
theorem dX10_letters_141 : decode cX10_letters 141 = .ok (.iadd, 1) := by decide +kernel
theorem dX10_letters_142 : decode cX10_letters 142 = .ok (.putfield 89, 3) := by decide +kernel
theorem dX10_letters_145 : decode cX10_letters 145 = .ok (.aload_n 0, 1) := by decide +kernel
theorem dX10_letters_146 : decode cX10_letters 146 = .ok (.getfield 89, 3) := by decide +kernel
theorem dX10_letters_149 : decode cX10_letters 149 = .ok (.ireturn, 1) := by decide +kernel
theorem dX10_blank_0 : decode cX10_blank 0 = .ok (.aload_n 0, 1) := by decide +kernel
theorem dX10_blank_1 : decode cX10_blank 1 = .ok (.getfield 89, 3) := by decide +kernel
theorem dX10_blank_4 : decode cX10_blank 4 = .ok (.istore_n 1, 1) := by decide +kernel
theorem dX10_blank_5 : decode cX10_blank 5 = .ok (.aload_n 0, 1) := by decide +kernel
theorem dX10_blank_6 : decode cX10_blank 6 = .ok (.iconst 0, 1) := by decide +kernel
theorem dX10_blank_7 : decode cX10_blank 7 = .ok (.putfield 89, 3) := by decide +kernel
theorem dX10_blank_10 : decode cX10_blank 10 = .ok (.iload_n 1, 1) := by decide +kernel
theorem dX10_blank_11 : decode cX10_blank 11 = .ok (.ireturn, 1) := by decide +kernel
theorem dX10_kindBy_0 : decode cX10_kindBy 0 = .ok (.iload_n 0, 1) := by decide +kernel
theorem dX10_kindBy_1 : decode cX10_kindBy 1 = .ok (.bipush 104, 2) := by decide +kernel
theorem dX10_kindBy_3 : decode cX10_kindBy 3 = .ok (.if_icmp .ne 7, 3) := by decide +kernel
theorem dX10_kindBy_6 : decode cX10_kindBy 6 = .ok (.iconst 0, 1) := by decide +kernel
theorem dX10_kindBy_7 : decode cX10_kindBy 7 = .ok (.goto 34, 3) := by decide +kernel
theorem dX10_kindBy_10 : decode cX10_kindBy 10 = .ok (.iload_n 0, 1) := by decide +kernel
theorem dX10_kindBy_11 : decode cX10_kindBy 11 = .ok (.bipush 102, 2) := by decide +kernel
theorem dX10_kindBy_13 : decode cX10_kindBy 13 = .ok (.if_icmp .ne 7, 3) := by decide +kernel
theorem dX10_kindBy_16 : decode cX10_kindBy 16 = .ok (.iconst 1, 1) := by decide +kernel
theorem dX10_kindBy_17 : decode cX10_kindBy 17 = .ok (.goto 24, 3) := by decide +kernel
theorem dX10_kindBy_20 : decode cX10_kindBy 20 = .ok (.iload_n 0, 1) := by decide +kernel
theorem dX10_kindBy_21 : decode cX10_kindBy 21 = .ok (.bipush 101, 2) := by decide +kernel
theorem dX10_kindBy_23 : decode cX10_kindBy 23 = .ok (.if_icmp .ne 7, 3) := by decide +kernel
theorem dX10_kindBy_26 : decode cX10_kindBy 26 = .ok (.iconst 2, 1) := by decide +kernel
theorem dX10_kindBy_27 : decode cX10_kindBy 27 = .ok (.goto 14, 3) := by decide +kernel
theorem dX10_kindBy_30 : decode cX10_kindBy 30 = .ok (.iload_n 0, 1) := by decide +kernel
theorem dX10_kindBy_31 : decode cX10_kindBy 31 = .ok (.bipush 119, 2) := by decide +kernel
theorem dX10_kindBy_33 : decode cX10_kindBy 33 = .ok (.if_icmp .ne 7, 3) := by decide +kernel
theorem dX10_kindBy_36 : decode cX10_kindBy 36 = .ok (.iconst 3, 1) := by decide +kernel
theorem dX10_kindBy_37 : decode cX10_kindBy 37 = .ok (.goto 4, 3) := by decide +kernel
theorem dX10_kindBy_40 : decode cX10_kindBy 40 = .ok (.iconst (-1), 1) := by decide +kernel
theorem dX10_kindBy_41 : decode cX10_kindBy 41 = .ok (.ireturn, 1) := by decide +kernel
theorem dX10_nextRing_0 : decode cX10_nextRing 0 = .ok (.iload_n 2, 1) := by decide +kernel
theorem dX10_nextRing_1 : decode cX10_nextRing 1 = .ok (.bipush 48, 2) := by decide +kernel
theorem dX10_nextRing_3 : decode cX10_nextRing 3 = .ok (.bipush 47, 2) := by decide +kernel
theorem dX10_nextRing_5 : decode cX10_nextRing 5 = .ok (.aload_n 0, 1) := by decide +kernel
theorem dX10_nextRing_6 : decode cX10_nextRing 6 = .ok (.getfield 93, 3) := by decide +kernel
theorem dX10_nextRing_9 : decode cX10_nextRing 9 = .ok (.iadd, 1) := by decide +kernel
theorem dX10_nextRing_10 : decode cX10_nextRing 10 = .ok (.invokestatic 96, 3) := by decide +kernel
theorem dX10_nextRing_13 : decode cX10_nextRing 13 = .ok (.istore_n 3, 1) := by decide +kernel
theorem dX10_nextRing_14 : decode cX10_nextRing 14 = .ok (.iload_n 1, 1) := by decide +kernel
theorem dX10_nextRing_15 : decode cX10_nextRing 15 = .ok (.tableswitch 180 0 2 #[25, 87, 110], 25) := by decide +kernel
theorem dX10_nextRing_40 : decode cX10_nextRing 40 = .ok (.iload_n 2, 1) := by decide +kernel
theorem dX10_nextRing_41 : decode cX10_nextRing 41 = .ok (.invokestatic 100, 3) := by decide +kernel
theorem dX10_nextRing_44 : decode cX10_nextRing 44 = .ok (.iconst (-1), 1) := by decide +kernel
theorem dX10_nextRing_45 : decode cX10_nextRing 45 = .ok (.if_icmp .eq 37, 3) := by decide +kernel
theorem dX10_nextRing_48 : decode cX10_nextRing 48 = .ok (.aload_n 0, 1) := by decide +kernel
theorem dX10_nextRing_49 : decode cX10_nextRing 49 = .ok (.getfield 93, 3) := by decide +kernel
theorem dX10_nextRing_52 : decode cX10_nextRing 52 = .ok (.bipush 6, 2) := by decide +kernel
theorem dX10_nextRing_54 : decode cX10_nextRing 54 = .ok (.if_icmp .ge 28, 3) := by decide +kernel
theorem dX10_nextRing_57 : decode cX10_nextRing 57 = .ok (.aload_n 0, 1) := by decide +kernel
theorem dX10_nextRing_58 : decode cX10_nextRing 58 = .ok (.getfield 40, 3) := by decide +kernel
theorem dX10_nextRing_61 : decode cX10_nextRing 61 = .ok (.aload_n 0, 1) := by decide +kernel
theorem dX10_nextRing_62 : decode cX10_nextRing 62 = .ok (.getfield 93, 3) := by decide +kernel
theorem dX10_nextRing_65 : decode cX10_nextRing 65 = .ok (.iload_n 2, 1) := by decide +kernel
theorem dX10_nextRing_66 : decode cX10_nextRing 66 = .ok (.invokestatic 100, 3) := by decide +kernel
theorem dX10_nextRing_69 : decode cX10_nextRing 69 = .ok (.iastore, 1) := by decide +kernel
theorem dX10_nextRing_70 : decode cX10_nextRing 70 = .ok (.aload_n 0, 1) := by decide +kernel
theorem dX10_nextRing_71 : decode cX10_nextRing 71 = .ok (.dup, 1) := by decide +kernel
theorem dX10_nextRing_72 : decode cX10_nextRing 72 = .ok (.getfield 93, 3) := by decide +kernel
theorem dX10_nextRing_75 : decode cX10_nextRing 75 = .ok (.iconst 1, 1) := by decide +kernel
theorem dX10_nextRing_76 : decode cX10_nextRing 76 = .ok (.iadd, 1) := by decide +kernel
theorem dX10_nextRing_77 : decode cX10_nextRing 77 = .ok (.putfield 93, 3) := by decide +kernel
theorem dX10_nextRing_80 : decode cX10_nextRing 80 = .ok (.iconst 0, 1) := by decide +kernel
theorem dX10_nextRing_81 : decode cX10_nextRing 81 = .ok (.ireturn, 1) := by decide +kernel
theorem dX10_nextRing_82 : decode cX10_nextRing 82 = .ok (.iload_n 2, 1) := by decide +kernel
theorem dX10_nextRing_83 : decode cX10_nextRing 83 = .ok (.bipush 59, 2) := by decide +kernel
theorem dX10_nextRing_85 : decode cX10_nextRing 85 = .ok (.if_icmp .ne 15, 3) := by decide +kernel
theorem dX10_nextRing_88 : decode cX10_nextRing 88 = .ok (.aload_n 0, 1) := by decide +kernel
theorem dX10_nextRing_89 : decode cX10_nextRing 89 = .ok (.getfield 93, 3) := by decide +kernel
theorem dX10_nextRing_92 : decode cX10_nextRing 92 = .ok (.iconst 2, 1) := by decide +kernel
theorem dX10_nextRing_93 : decode cX10_nextRing 93 = .ok (.if_icmp .le 7, 3) := by decide +kernel
theorem dX10_nextRing_96 : decode cX10_nextRing 96 = .ok (.iconst 1, 1) := by decide +kernel
theorem dX10_nextRing_97 : decode cX10_nextRing 97 = .ok (.goto 4, 3) := by decide +kernel
theorem dX10_nextRing_100 : decode cX10_nextRing 100 = .ok (.iconst (-1), 1) := by decide +kernel
theorem dX10_nextRing_101 : decode cX10_nextRing 101 = .ok (.ireturn, 1) := by decide +kernel
theorem dX10_nextRing_102 : decode cX10_nextRing 102 = .ok (.aload_n 0, 1) := by decide +kernel
theorem dX10_nextRing_103 : decode cX10_nextRing 103 = .ok (.getfield 43, 3) := by decide +kernel
theorem dX10_nextRing_106 : decode cX10_nextRing 106 = .ok (.aload_n 0, 1) := by decide +kernel
theorem dX10_nextRing_107 : decode cX10_nextRing 107 = .ok (.getfield 104, 3) := by decide +kernel
theorem dX10_nextRing_110 : decode cX10_nextRing 110 = .ok (.iload_n 2, 1) := by decide +kernel
theorem dX10_nextRing_111 : decode cX10_nextRing 111 = .ok (.bipush 48, 2) := by decide +kernel
theorem dX10_nextRing_113 : decode cX10_nextRing 113 = .ok (.isub, 1) := by decide +kernel
theorem dX10_nextRing_114 : decode cX10_nextRing 114 = .ok (.iastore, 1) := by decide +kernel
theorem dX10_nextRing_115 : decode cX10_nextRing 115 = .ok (.iload_n 3, 1) := by decide +kernel
theorem dX10_nextRing_116 : decode cX10_nextRing 116 = .ok (.ifCond .eq 7, 3) := by decide +kernel
theorem dX10_nextRing_119 : decode cX10_nextRing 119 = .ok (.iconst 2, 1) := by decide +kernel
theorem dX10_nextRing_120 : decode cX10_nextRing 120 = .ok (.goto 4, 3) := by decide +kernel
theorem dX10_nextRing_123 : decode cX10_nextRing 123 = .ok (.iconst (-1), 1) := by decide +kernel
theorem dX10_nextRing_124 : decode cX10_nextRing 124 = .ok (.ireturn, 1) := by decide +kernel
theorem dX10_nextRing_125 : decode cX10_nextRing 125 = .ok (.iload_n 3, 1) := by decide +kernel
theorem dX10_nextRing_126 : decode cX10_nextRing 126 = .ok (.ifCond .eq 23, 3) := by decide +kernel
theorem dX10_nextRing_129 : decode cX10_nextRing 129 = .ok (.iload_n 2, 1) := by decide +kernel
theorem dX10_nextRing_130 : decode cX10_nextRing 130 = .ok (.bipush 48, 2) := by decide +kernel
theorem dX10_nextRing_132 : decode cX10_nextRing 132 = .ok (.isub, 1) := by decide +kernel
theorem dX10_nextRing_133 : decode cX10_nextRing 133 = .ok (.aload_n 0, 1) := by decide +kernel
theorem dX10_nextRing_134 : decode cX10_nextRing 134 = .ok (.getfield 43, 3) := by decide +kernel
theorem dX10_nextRing_137 : decode cX10_nextRing 137 = .ok (.aload_n 0, 1) := by decide +kernel
theorem dX10_nextRing_138 : decode cX10_nextRing 138 = .ok (.getfield 104, 3) := by decide +kernel
theorem dX10_nextRing_141 : decode cX10_nextRing 141 = .ok (.iaload, 1) := by decide +kernel
theorem dX10_nextRing_142 : decode cX10_nextRing 142 = .ok (.if_icmp .eq 7, 3) := by decide +kernel
theorem dX10_nextRing_145 : decode cX10_nextRing 145 = .ok (.iconst 1, 1) := by decide +kernel
theorem dX10_nextRing_146 : decode cX10_nextRing 146 = .ok (.goto 4, 3) := by decide +kernel
theorem dX10_nextRing_149 : decode cX10_nextRing 149 = .ok (.iconst 0, 1) := by decide +kernel
theorem dX10_nextRing_150 : decode cX10_nextRing 150 = .ok (.istore 4, 2) := by decide +kernel
theorem dX10_nextRing_152 : decode cX10_nextRing 152 = .ok (.aload_n 0, 1) := by decide +kernel
theorem dX10_nextRing_153 : decode cX10_nextRing 153 = .ok (.getfield 46, 3) := by decide +kernel
theorem dX10_nextRing_156 : decode cX10_nextRing 156 = .ok (.aload_n 0, 1) := by decide +kernel
theorem dX10_nextRing_157 : decode cX10_nextRing 157 = .ok (.getfield 104, 3) := by decide +kernel
theorem dX10_nextRing_160 : decode cX10_nextRing 160 = .ok (.iload_n 2, 1) := by decide +kernel
theorem dX10_nextRing_161 : decode cX10_nextRing 161 = .ok (.bipush 48, 2) := by decide +kernel
theorem dX10_nextRing_163 : decode cX10_nextRing 163 = .ok (.isub, 1) := by decide +kernel
theorem dX10_nextRing_164 : decode cX10_nextRing 164 = .ok (.iastore, 1) := by decide +kernel
theorem dX10_nextRing_165 : decode cX10_nextRing 165 = .ok (.aload_n 0, 1) := by decide +kernel
theorem dX10_nextRing_166 : decode cX10_nextRing 166 = .ok (.dup, 1) := by decide +kernel
theorem dX10_nextRing_167 : decode cX10_nextRing 167 = .ok (.getfield 104, 3) := by decide +kernel
theorem dX10_nextRing_170 : decode cX10_nextRing 170 = .ok (.iload 4, 2) := by decide +kernel
theorem dX10_nextRing_172 : decode cX10_nextRing 172 = .ok (.ifCond .eq 7, 3) := by decide +kernel
theorem dX10_nextRing_175 : decode cX10_nextRing 175 = .ok (.iconst 1, 1) := by decide +kernel
theorem dX10_nextRing_176 : decode cX10_nextRing 176 = .ok (.goto 4, 3) := by decide +kernel
theorem dX10_nextRing_179 : decode cX10_nextRing 179 = .ok (.iconst 0, 1) := by decide +kernel
theorem dX10_nextRing_180 : decode cX10_nextRing 180 = .ok (.iadd, 1) := by decide +kernel
theorem dX10_nextRing_181 : decode cX10_nextRing 181 = .ok (.putfield 104, 3) := by decide +kernel
theorem dX10_nextRing_184 : decode cX10_nextRing 184 = .ok (.iload 4, 2) := by decide +kernel
theorem dX10_nextRing_186 : decode cX10_nextRing 186 = .ok (.ifCond .eq 7, 3) := by decide +kernel
theorem dX10_nextRing_189 : decode cX10_nextRing 189 = .ok (.iconst 3, 1) := by decide +kernel
theorem dX10_nextRing_190 : decode cX10_nextRing 190 = .ok (.goto 4, 3) := by decide +kernel
theorem dX10_nextRing_193 : decode cX10_nextRing 193 = .ok (.iconst (-1), 1) := by decide +kernel
theorem dX10_nextRing_194 : decode cX10_nextRing 194 = .ok (.ireturn, 1) := by decide +kernel
theorem dX10_nextRing_195 : decode cX10_nextRing 195 = .ok (.iload_n 2, 1) := by decide +kernel
theorem dX10_nextRing_196 : decode cX10_nextRing 196 = .ok (.bipush 44, 2) := by decide +kernel
theorem dX10_nextRing_198 : decode cX10_nextRing 198 = .ok (.if_icmp .ne 16, 3) := by decide +kernel
theorem dX10_nextRing_201 : decode cX10_nextRing 201 = .ok (.aload_n 0, 1) := by decide +kernel
theorem dX10_nextRing_202 : decode cX10_nextRing 202 = .ok (.getfield 104, 3) := by decide +kernel
theorem dX10_nextRing_205 : decode cX10_nextRing 205 = .ok (.bipush 6, 2) := by decide +kernel
theorem dX10_nextRing_207 : decode cX10_nextRing 207 = .ok (.if_icmp .ge 7, 3) := by decide +kernel
theorem dX10_nextRing_210 : decode cX10_nextRing 210 = .ok (.iconst 1, 1) := by decide +kernel
theorem dX10_nextRing_211 : decode cX10_nextRing 211 = .ok (.goto 4, 3) := by decide +kernel
theorem dX10_nextRing_214 : decode cX10_nextRing 214 = .ok (.iconst (-1), 1) := by decide +kernel
theorem dX10_nextRing_215 : decode cX10_nextRing 215 = .ok (.ireturn, 1) := by decide +kernel
theorem dX10_readRing_0 : decode cX10_readRing 0 = .ok (.aload_n 0, 1) := by decide +kernel
theorem dX10_readRing_1 : decode cX10_readRing 1 = .ok (.iconst 0, 1) := by decide +kernel
theorem dX10_readRing_2 : decode cX10_readRing 2 = .ok (.putfield 93, 3) := by decide +kernel
theorem dX10_readRing_5 : decode cX10_readRing 5 = .ok (.aload_n 0, 1) := by decide +kernel
theorem dX10_readRing_6 : decode cX10_readRing 6 = .ok (.iconst 0, 1) := by decide +kernel
theorem dX10_readRing_7 : decode cX10_readRing 7 = .ok (.putfield 104, 3) := by decide +kernel
theorem dX10_readRing_10 : decode cX10_readRing 10 = .ok (.iconst 0, 1) := by decide +kernel
theorem dX10_readRing_11 : decode cX10_readRing 11 = .ok (.istore_n 1, 1) := by decide +kernel
theorem dX10_readRing_12 : decode cX10_readRing 12 = .ok (.iconst 0, 1) := by decide +kernel
theorem dX10_readRing_13 : decode cX10_readRing 13 = .ok (.istore_n 2, 1) := by decide +kernel
theorem dX10_readRing_14 : decode cX10_readRing 14 = .ok (.iconst 1, 1) := by decide +kernel
theorem dX10_readRing_15 : decode cX10_readRing 15 = .ok (.istore_n 3, 1) := by decide +kernel
theorem dX10_readRing_16 : decode cX10_readRing 16 = .ok (.iload_n 2, 1) := by decide +kernel
theorem dX10_readRing_17 : decode cX10_readRing 17 = .ok (.aload_n 0, 1) := by decide +kernel
theorem dX10_readRing_18 : decode cX10_readRing 18 = .ok (.getfield 89, 3) := by decide +kernel
theorem dX10_readRing_21 : decode cX10_readRing 21 = .ok (.if_icmp .ge 58, 3) := by decide +kernel
theorem dX10_readRing_24 : decode cX10_readRing 24 = .ok (.iload_n 3, 1) := by decide +kernel
theorem dX10_readRing_25 : decode cX10_readRing 25 = .ok (.ifCond .eq 54, 3) := by decide +kernel
theorem dX10_readRing_28 : decode cX10_readRing 28 = .ok (.aload_n 0, 1) := by decide +kernel
theorem dX10_readRing_29 : decode cX10_readRing 29 = .ok (.iload_n 1, 1) := by decide +kernel
theorem dX10_readRing_30 : decode cX10_readRing 30 = .ok (.aload_n 0, 1) := by decide +kernel
theorem dX10_readRing_31 : decode cX10_readRing 31 = .ok (.getfield 30, 3) := by decide +kernel
theorem dX10_readRing_34 : decode cX10_readRing 34 = .ok (.iload_n 2, 1) := by decide +kernel
theorem dX10_readRing_35 : decode cX10_readRing 35 = .ok (.baload, 1) := by decide +kernel
theorem dX10_readRing_36 : decode cX10_readRing 36 = .ok (.invokevirtual 107, 3) := by decide +kernel
theorem dX10_readRing_39 : decode cX10_readRing 39 = .ok (.istore 4, 2) := by decide +kernel
theorem dX10_readRing_41 : decode cX10_readRing 41 = .ok (.iload 4, 2) := by decide +kernel
theorem dX10_readRing_43 : decode cX10_readRing 43 = .ok (.iconst (-1), 1) := by decide +kernel
theorem dX10_readRing_44 : decode cX10_readRing 44 = .ok (.if_icmp .eq 7, 3) := by decide +kernel
theorem dX10_readRing_47 : decode cX10_readRing 47 = .ok (.iconst 1, 1) := by decide +kernel
theorem dX10_readRing_48 : decode cX10_readRing 48 = .ok (.goto 4, 3) := by decide +kernel
theorem dX10_readRing_51 : decode cX10_readRing 51 = .ok (.iconst 0, 1) := by decide +kernel
theorem dX10_readRing_52 : decode cX10_readRing 52 = .ok (.istore_n 3, 1) := by decide +kernel
theorem dX10_readRing_53 : decode cX10_readRing 53 = .ok (.iload_n 3, 1) := by decide +kernel
theorem dX10_readRing_54 : decode cX10_readRing 54 = .ok (.ifCond .eq 8, 3) := by decide +kernel
theorem dX10_readRing_57 : decode cX10_readRing 57 = .ok (.iload 4, 2) := by decide +kernel
theorem dX10_readRing_59 : decode cX10_readRing 59 = .ok (.goto 4, 3) := by decide +kernel
theorem dX10_readRing_62 : decode cX10_readRing 62 = .ok (.iload_n 1, 1) := by decide +kernel
theorem dX10_readRing_63 : decode cX10_readRing 63 = .ok (.istore_n 1, 1) := by decide +kernel
theorem dX10_readRing_64 : decode cX10_readRing 64 = .ok (.iload_n 2, 1) := by decide +kernel
theorem dX10_readRing_65 : decode cX10_readRing 65 = .ok (.iload_n 3, 1) := by decide +kernel
theorem dX10_readRing_66 : decode cX10_readRing 66 = .ok (.ifCond .eq 7, 3) := by decide +kernel
theorem dX10_readRing_69 : decode cX10_readRing 69 = .ok (.iconst 1, 1) := by decide +kernel
theorem dX10_readRing_70 : decode cX10_readRing 70 = .ok (.goto 4, 3) := by decide +kernel
theorem dX10_readRing_73 : decode cX10_readRing 73 = .ok (.iconst 0, 1) := by decide +kernel
theorem dX10_readRing_74 : decode cX10_readRing 74 = .ok (.iadd, 1) := by decide +kernel
theorem dX10_readRing_75 : decode cX10_readRing 75 = .ok (.istore_n 2, 1) := by decide +kernel
theorem dX10_readRing_76 : decode cX10_readRing 76 = .ok (.goto (-60), 3) := by decide +kernel
theorem dX10_readRing_79 : decode cX10_readRing 79 = .ok (.aload_n 0, 1) := by decide +kernel
theorem dX10_readRing_80 : decode cX10_readRing 80 = .ok (.iload_n 2, 1) := by decide +kernel
theorem dX10_readRing_81 : decode cX10_readRing 81 = .ok (.putfield 111, 3) := by decide +kernel
theorem dX10_readRing_84 : decode cX10_readRing 84 = .ok (.aload_n 0, 1) := by decide +kernel
theorem dX10_readRing_85 : decode cX10_readRing 85 = .ok (.iload_n 2, 1) := by decide +kernel
theorem dX10_readRing_86 : decode cX10_readRing 86 = .ok (.aload_n 0, 1) := by decide +kernel
theorem dX10_readRing_87 : decode cX10_readRing 87 = .ok (.getfield 89, 3) := by decide +kernel
theorem dX10_readRing_90 : decode cX10_readRing 90 = .ok (.if_icmp .ne 24, 3) := by decide +kernel
theorem dX10_readRing_93 : decode cX10_readRing 93 = .ok (.iload_n 1, 1) := by decide +kernel
theorem dX10_readRing_94 : decode cX10_readRing 94 = .ok (.ifCond .ne 11, 3) := by decide +kernel
theorem dX10_readRing_97 : decode cX10_readRing 97 = .ok (.aload_n 0, 1) := by decide +kernel
theorem dX10_readRing_98 : decode cX10_readRing 98 = .ok (.getfield 93, 3) := by decide +kernel
theorem dX10_readRing_101 : decode cX10_readRing 101 = .ok (.iconst 2, 1) := by decide +kernel
theorem dX10_readRing_102 : decode cX10_readRing 102 = .ok (.if_icmp .gt 8, 3) := by decide +kernel
theorem dX10_readRing_105 : decode cX10_readRing 105 = .ok (.iload_n 1, 1) := by decide +kernel
theorem dX10_readRing_106 : decode cX10_readRing 106 = .ok (.iconst 3, 1) := by decide +kernel
theorem dX10_readRing_107 : decode cX10_readRing 107 = .ok (.if_icmp .ne 7, 3) := by decide +kernel
theorem dX10_readRing_110 : decode cX10_readRing 110 = .ok (.iconst 1, 1) := by decide +kernel
theorem dX10_readRing_111 : decode cX10_readRing 111 = .ok (.goto 4, 3) := by decide +kernel
theorem dX10_readRing_114 : decode cX10_readRing 114 = .ok (.iconst 0, 1) := by decide +kernel
theorem dX10_readRing_115 : decode cX10_readRing 115 = .ok (.putfield 114, 3) := by decide +kernel
theorem dX10_readRing_118 : decode cX10_readRing 118 = .ok (.return_, 1) := by decide +kernel
theorem dX10_sortBy_0 : decode cX10_sortBy 0 = .ok (.iload_n 0, 1) := by decide +kernel
theorem dX10_sortBy_1 : decode cX10_sortBy 1 = .ok (.bipush 110, 2) := by decide +kernel
theorem dX10_sortBy_3 : decode cX10_sortBy 3 = .ok (.if_icmp .ne 7, 3) := by decide +kernel
theorem dX10_sortBy_6 : decode cX10_sortBy 6 = .ok (.iconst 0, 1) := by decide +kernel
theorem dX10_sortBy_7 : decode cX10_sortBy 7 = .ok (.goto 34, 3) := by decide +kernel
theorem dX10_sortBy_10 : decode cX10_sortBy 10 = .ok (.iload_n 0, 1) := by decide +kernel
theorem dX10_sortBy_11 : decode cX10_sortBy 11 = .ok (.bipush 114, 2) := by decide +kernel
theorem dX10_sortBy_13 : decode cX10_sortBy 13 = .ok (.if_icmp .ne 7, 3) := by decide +kernel
theorem dX10_sortBy_16 : decode cX10_sortBy 16 = .ok (.iconst 1, 1) := by decide +kernel
theorem dX10_sortBy_17 : decode cX10_sortBy 17 = .ok (.goto 24, 3) := by decide +kernel
theorem dX10_sortBy_20 : decode cX10_sortBy 20 = .ok (.iload_n 0, 1) := by decide +kernel
theorem dX10_sortBy_21 : decode cX10_sortBy 21 = .ok (.bipush 108, 2) := by decide +kernel
theorem dX10_sortBy_23 : decode cX10_sortBy 23 = .ok (.if_icmp .ne 7, 3) := by decide +kernel
theorem dX10_sortBy_26 : decode cX10_sortBy 26 = .ok (.iconst 2, 1) := by decide +kernel
theorem dX10_sortBy_27 : decode cX10_sortBy 27 = .ok (.goto 14, 3) := by decide +kernel
theorem dX10_sortBy_30 : decode cX10_sortBy 30 = .ok (.iload_n 0, 1) := by decide +kernel
theorem dX10_sortBy_31 : decode cX10_sortBy 31 = .ok (.bipush 98, 2) := by decide +kernel
theorem dX10_sortBy_33 : decode cX10_sortBy 33 = .ok (.if_icmp .ne 7, 3) := by decide +kernel
theorem dX10_sortBy_36 : decode cX10_sortBy 36 = .ok (.iconst 3, 1) := by decide +kernel
theorem dX10_sortBy_37 : decode cX10_sortBy 37 = .ok (.goto 4, 3) := by decide +kernel
theorem dX10_sortBy_40 : decode cX10_sortBy 40 = .ok (.iconst (-1), 1) := by decide +kernel
theorem dX10_sortBy_41 : decode cX10_sortBy 41 = .ok (.ireturn, 1) := by decide +kernel
theorem dX10_nextLetter_0 : decode cX10_nextLetter 0 = .ok (.iload_n 2, 1) := by decide +kernel
theorem dX10_nextLetter_1 : decode cX10_nextLetter 1 = .ok (.bipush 48, 2) := by decide +kernel
theorem dX10_nextLetter_3 : decode cX10_nextLetter 3 = .ok (.bipush 53, 2) := by decide +kernel
theorem dX10_nextLetter_5 : decode cX10_nextLetter 5 = .ok (.invokestatic 96, 3) := by decide +kernel
theorem dX10_nextLetter_8 : decode cX10_nextLetter 8 = .ok (.istore_n 3, 1) := by decide +kernel
theorem dX10_nextLetter_9 : decode cX10_nextLetter 9 = .ok (.iload_n 1, 1) := by decide +kernel
theorem dX10_nextLetter_10 : decode cX10_nextLetter 10 = .ok (.tableswitch 169 0 4 #[34, 79, 104, 122, 140], 34) := by decide +kernel
theorem dX10_nextLetter_44 : decode cX10_nextLetter 44 = .ok (.aload_n 0, 1) := by decide +kernel
theorem dX10_nextLetter_45 : decode cX10_nextLetter 45 = .ok (.iload_n 2, 1) := by decide +kernel
theorem dX10_nextLetter_46 : decode cX10_nextLetter 46 = .ok (.invokestatic 118, 3) := by decide +kernel
theorem dX10_nextLetter_49 : decode cX10_nextLetter 49 = .ok (.putfield 121, 3) := by decide +kernel
theorem dX10_nextLetter_52 : decode cX10_nextLetter 52 = .ok (.aload_n 0, 1) := by decide +kernel
theorem dX10_nextLetter_53 : decode cX10_nextLetter 53 = .ok (.getfield 121, 3) := by decide +kernel
theorem dX10_nextLetter_56 : decode cX10_nextLetter 56 = .ok (.iconst (-1), 1) := by decide +kernel
theorem dX10_nextLetter_57 : decode cX10_nextLetter 57 = .ok (.if_icmp .ne 7, 3) := by decide +kernel
theorem dX10_nextLetter_60 : decode cX10_nextLetter 60 = .ok (.iconst (-1), 1) := by decide +kernel
theorem dX10_nextLetter_61 : decode cX10_nextLetter 61 = .ok (.goto 27, 3) := by decide +kernel
theorem dX10_nextLetter_64 : decode cX10_nextLetter 64 = .ok (.aload_n 0, 1) := by decide +kernel
theorem dX10_nextLetter_65 : decode cX10_nextLetter 65 = .ok (.getfield 121, 3) := by decide +kernel
theorem dX10_nextLetter_68 : decode cX10_nextLetter 68 = .ok (.ifCond .ne 7, 3) := by decide +kernel
theorem dX10_nextLetter_71 : decode cX10_nextLetter 71 = .ok (.iconst 2, 1) := by decide +kernel
theorem dX10_nextLetter_72 : decode cX10_nextLetter 72 = .ok (.goto 16, 3) := by decide +kernel
theorem dX10_nextLetter_75 : decode cX10_nextLetter 75 = .ok (.aload_n 0, 1) := by decide +kernel
theorem dX10_nextLetter_76 : decode cX10_nextLetter 76 = .ok (.getfield 121, 3) := by decide +kernel
theorem dX10_nextLetter_79 : decode cX10_nextLetter 79 = .ok (.iconst 3, 1) := by decide +kernel
theorem dX10_nextLetter_80 : decode cX10_nextLetter 80 = .ok (.if_icmp .ne 7, 3) := by decide +kernel
theorem dX10_nextLetter_83 : decode cX10_nextLetter 83 = .ok (.iconst 3, 1) := by decide +kernel
theorem dX10_nextLetter_84 : decode cX10_nextLetter 84 = .ok (.goto 4, 3) := by decide +kernel
theorem dX10_nextLetter_87 : decode cX10_nextLetter 87 = .ok (.iconst 1, 1) := by decide +kernel
theorem dX10_nextLetter_88 : decode cX10_nextLetter 88 = .ok (.ireturn, 1) := by decide +kernel
theorem dX10_nextLetter_89 : decode cX10_nextLetter 89 = .ok (.aload_n 0, 1) := by decide +kernel
theorem dX10_nextLetter_90 : decode cX10_nextLetter 90 = .ok (.iload_n 2, 1) := by decide +kernel
theorem dX10_nextLetter_91 : decode cX10_nextLetter 91 = .ok (.bipush 48, 2) := by decide +kernel
theorem dX10_nextLetter_93 : decode cX10_nextLetter 93 = .ok (.isub, 1) := by decide +kernel
theorem dX10_nextLetter_94 : decode cX10_nextLetter 94 = .ok (.putfield 124, 3) := by decide +kernel
theorem dX10_nextLetter_97 : decode cX10_nextLetter 97 = .ok (.iload_n 2, 1) := by decide +kernel
theorem dX10_nextLetter_98 : decode cX10_nextLetter 98 = .ok (.bipush 49, 2) := by decide +kernel
theorem dX10_nextLetter_100 : decode cX10_nextLetter 100 = .ok (.bipush 57, 2) := by decide +kernel
theorem dX10_nextLetter_102 : decode cX10_nextLetter 102 = .ok (.invokestatic 96, 3) := by decide +kernel
theorem dX10_nextLetter_105 : decode cX10_nextLetter 105 = .ok (.ifCond .eq 7, 3) := by decide +kernel
theorem dX10_nextLetter_108 : decode cX10_nextLetter 108 = .ok (.iconst 2, 1) := by decide +kernel
theorem dX10_nextLetter_109 : decode cX10_nextLetter 109 = .ok (.goto 4, 3) := by decide +kernel
theorem dX10_nextLetter_112 : decode cX10_nextLetter 112 = .ok (.iconst (-1), 1) := by decide +kernel
theorem dX10_nextLetter_113 : decode cX10_nextLetter 113 = .ok (.ireturn, 1) := by decide +kernel
theorem dX10_nextLetter_114 : decode cX10_nextLetter 114 = .ok (.aload_n 0, 1) := by decide +kernel
theorem dX10_nextLetter_115 : decode cX10_nextLetter 115 = .ok (.iload_n 2, 1) := by decide +kernel
theorem dX10_nextLetter_116 : decode cX10_nextLetter 116 = .ok (.bipush 48, 2) := by decide +kernel
theorem dX10_nextLetter_118 : decode cX10_nextLetter 118 = .ok (.isub, 1) := by decide +kernel
theorem dX10_nextLetter_119 : decode cX10_nextLetter 119 = .ok (.putfield 127, 3) := by decide +kernel
theorem dX10_nextLetter_122 : decode cX10_nextLetter 122 = .ok (.iload_n 3, 1) := by decide +kernel
theorem dX10_nextLetter_123 : decode cX10_nextLetter 123 = .ok (.ifCond .eq 7, 3) := by decide +kernel
theorem dX10_nextLetter_126 : decode cX10_nextLetter 126 = .ok (.iconst 5, 1) := by decide +kernel
theorem dX10_nextLetter_127 : decode cX10_nextLetter 127 = .ok (.goto 4, 3) := by decide +kernel
theorem dX10_nextLetter_130 : decode cX10_nextLetter 130 = .ok (.iconst (-1), 1) := by decide +kernel
theorem dX10_nextLetter_131 : decode cX10_nextLetter 131 = .ok (.ireturn, 1) := by decide +kernel
theorem dX10_nextLetter_132 : decode cX10_nextLetter 132 = .ok (.aload_n 0, 1) := by decide +kernel
theorem dX10_nextLetter_133 : decode cX10_nextLetter 133 = .ok (.iload_n 2, 1) := by decide +kernel
theorem dX10_nextLetter_134 : decode cX10_nextLetter 134 = .ok (.bipush 48, 2) := by decide +kernel
theorem dX10_nextLetter_136 : decode cX10_nextLetter 136 = .ok (.isub, 1) := by decide +kernel
theorem dX10_nextLetter_137 : decode cX10_nextLetter 137 = .ok (.putfield 127, 3) := by decide +kernel
theorem dX10_nextLetter_140 : decode cX10_nextLetter 140 = .ok (.iload_n 3, 1) := by decide +kernel
theorem dX10_nextLetter_141 : decode cX10_nextLetter 141 = .ok (.ifCond .eq 7, 3) := by decide +kernel
theorem dX10_nextLetter_144 : decode cX10_nextLetter 144 = .ok (.iconst 4, 1) := by decide +kernel
theorem dX10_nextLetter_145 : decode cX10_nextLetter 145 = .ok (.goto 4, 3) := by decide +kernel
theorem dX10_nextLetter_148 : decode cX10_nextLetter 148 = .ok (.iconst (-1), 1) := by decide +kernel
theorem dX10_nextLetter_149 : decode cX10_nextLetter 149 = .ok (.ireturn, 1) := by decide +kernel
theorem dX10_nextLetter_150 : decode cX10_nextLetter 150 = .ok (.aload_n 0, 1) := by decide +kernel
theorem dX10_nextLetter_151 : decode cX10_nextLetter 151 = .ok (.iload_n 2, 1) := by decide +kernel
theorem dX10_nextLetter_152 : decode cX10_nextLetter 152 = .ok (.bipush 48, 2) := by decide +kernel
theorem dX10_nextLetter_154 : decode cX10_nextLetter 154 = .ok (.isub, 1) := by decide +kernel
theorem dX10_nextLetter_155 : decode cX10_nextLetter 155 = .ok (.putfield 130, 3) := by decide +kernel
theorem dX10_nextLetter_158 : decode cX10_nextLetter 158 = .ok (.iload_n 3, 1) := by decide +kernel
theorem dX10_nextLetter_159 : decode cX10_nextLetter 159 = .ok (.ifCond .eq 18, 3) := by decide +kernel
theorem dX10_nextLetter_162 : decode cX10_nextLetter 162 = .ok (.aload_n 0, 1) := by decide +kernel
theorem dX10_nextLetter_163 : decode cX10_nextLetter 163 = .ok (.getfield 130, 3) := by decide +kernel
theorem dX10_nextLetter_166 : decode cX10_nextLetter 166 = .ok (.aload_n 0, 1) := by decide +kernel
theorem dX10_nextLetter_167 : decode cX10_nextLetter 167 = .ok (.getfield 127, 3) := by decide +kernel
theorem dX10_nextLetter_170 : decode cX10_nextLetter 170 = .ok (.if_icmp .eq 7, 3) := by decide +kernel
theorem dX10_nextLetter_173 : decode cX10_nextLetter 173 = .ok (.iconst 5, 1) := by decide +kernel
theorem dX10_nextLetter_174 : decode cX10_nextLetter 174 = .ok (.goto 4, 3) := by decide +kernel
theorem dX10_nextLetter_177 : decode cX10_nextLetter 177 = .ok (.iconst (-1), 1) := by decide +kernel
theorem dX10_nextLetter_178 : decode cX10_nextLetter 178 = .ok (.ireturn, 1) := by decide +kernel
theorem dX10_nextLetter_179 : decode cX10_nextLetter 179 = .ok (.iconst (-1), 1) := by decide +kernel
theorem dX10_nextLetter_180 : decode cX10_nextLetter 180 = .ok (.ireturn, 1) := by decide +kernel
theorem dX10_readLetter_0 : decode cX10_readLetter 0 = .ok (.iconst 0, 1) := by decide +kernel
theorem dX10_readLetter_1 : decode cX10_readLetter 1 = .ok (.istore_n 1, 1) := by decide +kernel
theorem dX10_readLetter_2 : decode cX10_readLetter 2 = .ok (.iconst 0, 1) := by decide +kernel
theorem dX10_readLetter_3 : decode cX10_readLetter 3 = .ok (.istore_n 2, 1) := by decide +kernel
theorem dX10_readLetter_4 : decode cX10_readLetter 4 = .ok (.iconst 1, 1) := by decide +kernel
theorem dX10_readLetter_5 : decode cX10_readLetter 5 = .ok (.istore_n 3, 1) := by decide +kernel
theorem dX10_readLetter_6 : decode cX10_readLetter 6 = .ok (.iload_n 2, 1) := by decide +kernel
theorem dX10_readLetter_7 : decode cX10_readLetter 7 = .ok (.aload_n 0, 1) := by decide +kernel
theorem dX10_readLetter_8 : decode cX10_readLetter 8 = .ok (.getfield 89, 3) := by decide +kernel
theorem dX10_readLetter_11 : decode cX10_readLetter 11 = .ok (.if_icmp .ge 58, 3) := by decide +kernel
theorem dX10_readLetter_14 : decode cX10_readLetter 14 = .ok (.iload_n 3, 1) := by decide +kernel
theorem dX10_readLetter_15 : decode cX10_readLetter 15 = .ok (.ifCond .eq 54, 3) := by decide +kernel
theorem dX10_readLetter_18 : decode cX10_readLetter 18 = .ok (.aload_n 0, 1) := by decide +kernel
theorem dX10_readLetter_19 : decode cX10_readLetter 19 = .ok (.iload_n 1, 1) := by decide +kernel
theorem dX10_readLetter_20 : decode cX10_readLetter 20 = .ok (.aload_n 0, 1) := by decide +kernel
theorem dX10_readLetter_21 : decode cX10_readLetter 21 = .ok (.getfield 30, 3) := by decide +kernel
theorem dX10_readLetter_24 : decode cX10_readLetter 24 = .ok (.iload_n 2, 1) := by decide +kernel
theorem dX10_readLetter_25 : decode cX10_readLetter 25 = .ok (.baload, 1) := by decide +kernel
theorem dX10_readLetter_26 : decode cX10_readLetter 26 = .ok (.invokevirtual 133, 3) := by decide +kernel
theorem dX10_readLetter_29 : decode cX10_readLetter 29 = .ok (.istore 4, 2) := by decide +kernel
theorem dX10_readLetter_31 : decode cX10_readLetter 31 = .ok (.iload 4, 2) := by decide +kernel
theorem dX10_readLetter_33 : decode cX10_readLetter 33 = .ok (.iconst (-1), 1) := by decide +kernel
theorem dX10_readLetter_34 : decode cX10_readLetter 34 = .ok (.if_icmp .eq 7, 3) := by decide +kernel
theorem dX10_readLetter_37 : decode cX10_readLetter 37 = .ok (.iconst 1, 1) := by decide +kernel
theorem dX10_readLetter_38 : decode cX10_readLetter 38 = .ok (.goto 4, 3) := by decide +kernel
theorem dX10_readLetter_41 : decode cX10_readLetter 41 = .ok (.iconst 0, 1) := by decide +kernel
theorem dX10_readLetter_42 : decode cX10_readLetter 42 = .ok (.istore_n 3, 1) := by decide +kernel
theorem dX10_readLetter_43 : decode cX10_readLetter 43 = .ok (.iload_n 3, 1) := by decide +kernel
theorem dX10_readLetter_44 : decode cX10_readLetter 44 = .ok (.ifCond .eq 8, 3) := by decide +kernel
theorem dX10_readLetter_47 : decode cX10_readLetter 47 = .ok (.iload 4, 2) := by decide +kernel
theorem dX10_readLetter_49 : decode cX10_readLetter 49 = .ok (.goto 4, 3) := by decide +kernel
theorem dX10_readLetter_52 : decode cX10_readLetter 52 = .ok (.iload_n 1, 1) := by decide +kernel
theorem dX10_readLetter_53 : decode cX10_readLetter 53 = .ok (.istore_n 1, 1) := by decide +kernel
theorem dX10_readLetter_54 : decode cX10_readLetter 54 = .ok (.iload_n 2, 1) := by decide +kernel
theorem dX10_readLetter_55 : decode cX10_readLetter 55 = .ok (.iload_n 3, 1) := by decide +kernel
theorem dX10_readLetter_56 : decode cX10_readLetter 56 = .ok (.ifCond .eq 7, 3) := by decide +kernel
theorem dX10_readLetter_59 : decode cX10_readLetter 59 = .ok (.iconst 1, 1) := by decide +kernel
theorem dX10_readLetter_60 : decode cX10_readLetter 60 = .ok (.goto 4, 3) := by decide +kernel
theorem dX10_readLetter_63 : decode cX10_readLetter 63 = .ok (.iconst 0, 1) := by decide +kernel
theorem dX10_readLetter_64 : decode cX10_readLetter 64 = .ok (.iadd, 1) := by decide +kernel
theorem dX10_readLetter_65 : decode cX10_readLetter 65 = .ok (.istore_n 2, 1) := by decide +kernel
theorem dX10_readLetter_66 : decode cX10_readLetter 66 = .ok (.goto (-60), 3) := by decide +kernel
theorem dX10_readLetter_69 : decode cX10_readLetter 69 = .ok (.aload_n 0, 1) := by decide +kernel
theorem dX10_readLetter_70 : decode cX10_readLetter 70 = .ok (.iload_n 2, 1) := by decide +kernel
theorem dX10_readLetter_71 : decode cX10_readLetter 71 = .ok (.putfield 111, 3) := by decide +kernel
theorem dX10_readLetter_74 : decode cX10_readLetter 74 = .ok (.aload_n 0, 1) := by decide +kernel
theorem dX10_readLetter_75 : decode cX10_readLetter 75 = .ok (.iload_n 2, 1) := by decide +kernel
theorem dX10_readLetter_76 : decode cX10_readLetter 76 = .ok (.aload_n 0, 1) := by decide +kernel
theorem dX10_readLetter_77 : decode cX10_readLetter 77 = .ok (.getfield 89, 3) := by decide +kernel
theorem dX10_readLetter_80 : decode cX10_readLetter 80 = .ok (.if_icmp .ne 12, 3) := by decide +kernel
theorem dX10_readLetter_83 : decode cX10_readLetter 83 = .ok (.iload_n 1, 1) := by decide +kernel
theorem dX10_readLetter_84 : decode cX10_readLetter 84 = .ok (.iconst 5, 1) := by decide +kernel
theorem dX10_readLetter_85 : decode cX10_readLetter 85 = .ok (.if_icmp .ne 7, 3) := by decide +kernel
theorem dX10_readLetter_88 : decode cX10_readLetter 88 = .ok (.iconst 1, 1) := by decide +kernel
theorem dX10_readLetter_89 : decode cX10_readLetter 89 = .ok (.goto 4, 3) := by decide +kernel
theorem dX10_readLetter_92 : decode cX10_readLetter 92 = .ok (.iconst 0, 1) := by decide +kernel
theorem dX10_readLetter_93 : decode cX10_readLetter 93 = .ok (.putfield 114, 3) := by decide +kernel
theorem dX10_readLetter_96 : decode cX10_readLetter 96 = .ok (.return_, 1) := by decide +kernel
theorem dX10_fault_0 : decode cX10_fault 0 = .ok (.iload_n 1, 1) := by decide +kernel
theorem dX10_fault_1 : decode cX10_fault 1 = .ok (.iconst 0, 1) := by decide +kernel
theorem dX10_fault_2 : decode cX10_fault 2 = .ok (.iconst 1, 1) := by decide +kernel
theorem dX10_fault_3 : decode cX10_fault 3 = .ok (.invokestatic 96, 3) := by decide +kernel
theorem dX10_fault_6 : decode cX10_fault 6 = .ok (.ifCond .ne 6, 3) := by decide +kernel
theorem dX10_fault_9 : decode cX10_fault 9 = .ok (.bipush (-102), 2) := by decide +kernel
theorem dX10_fault_11 : decode cX10_fault 11 = .ok (.ireturn, 1) := by decide +kernel
theorem dX10_fault_12 : decode cX10_fault 12 = .ok (.iload_n 1, 1) := by decide +kernel
theorem dX10_fault_13 : decode cX10_fault 13 = .ok (.ifCond .ne 10, 3) := by decide +kernel
theorem dX10_fault_16 : decode cX10_fault 16 = .ok (.aload_n 0, 1) := by decide +kernel
theorem dX10_fault_17 : decode cX10_fault 17 = .ok (.invokevirtual 136, 3) := by decide +kernel
theorem dX10_fault_20 : decode cX10_fault 20 = .ok (.goto 7, 3) := by decide +kernel
theorem dX10_fault_23 : decode cX10_fault 23 = .ok (.aload_n 0, 1) := by decide +kernel
theorem dX10_fault_24 : decode cX10_fault 24 = .ok (.invokevirtual 139, 3) := by decide +kernel
theorem dX10_fault_27 : decode cX10_fault 27 = .ok (.aload_n 0, 1) := by decide +kernel
theorem dX10_fault_28 : decode cX10_fault 28 = .ok (.getfield 111, 3) := by decide +kernel
theorem dX10_fault_31 : decode cX10_fault 31 = .ok (.ireturn, 1) := by decide +kernel
theorem dX10_ring_0 : decode cX10_ring 0 = .ok (.aload_n 0, 1) := by decide +kernel
theorem dX10_ring_1 : decode cX10_ring 1 = .ok (.invokevirtual 136, 3) := by decide +kernel
theorem dX10_ring_4 : decode cX10_ring 4 = .ok (.aload_n 0, 1) := by decide +kernel
theorem dX10_ring_5 : decode cX10_ring 5 = .ok (.getfield 114, 3) := by decide +kernel
theorem dX10_ring_8 : decode cX10_ring 8 = .ok (.ifCond .ne 6, 3) := by decide +kernel
theorem dX10_ring_11 : decode cX10_ring 11 = .ok (.bipush (-103), 2) := by decide +kernel
theorem dX10_ring_13 : decode cX10_ring 13 = .ok (.ireturn, 1) := by decide +kernel
theorem dX10_ring_14 : decode cX10_ring 14 = .ok (.aload_n 0, 1) := by decide +kernel
theorem dX10_ring_15 : decode cX10_ring 15 = .ok (.aload_n 0, 1) := by decide +kernel
theorem dX10_ring_16 : decode cX10_ring 16 = .ok (.getfield 93, 3) := by decide +kernel
theorem dX10_ring_19 : decode cX10_ring 19 = .ok (.putfield 142, 3) := by decide +kernel
theorem dX10_ring_22 : decode cX10_ring 22 = .ok (.iconst 0, 1) := by decide +kernel
theorem dX10_ring_23 : decode cX10_ring 23 = .ok (.istore_n 1, 1) := by decide +kernel
theorem dX10_ring_24 : decode cX10_ring 24 = .ok (.iload_n 1, 1) := by decide +kernel
theorem dX10_ring_25 : decode cX10_ring 25 = .ok (.bipush 36, 2) := by decide +kernel
theorem dX10_ring_27 : decode cX10_ring 27 = .ok (.if_icmp .ge 16, 3) := by decide +kernel
theorem dX10_ring_30 : decode cX10_ring 30 = .ok (.aload_n 0, 1) := by decide +kernel
theorem dX10_ring_31 : decode cX10_ring 31 = .ok (.getfield 13, 3) := by decide +kernel
theorem dX10_ring_34 : decode cX10_ring 34 = .ok (.iload_n 1, 1) := by decide +kernel
theorem dX10_ring_35 : decode cX10_ring 35 = .ok (.iconst 0, 1) := by decide +kernel
theorem dX10_ring_36 : decode cX10_ring 36 = .ok (.bastore, 1) := by decide +kernel
theorem dX10_ring_37 : decode cX10_ring 37 = .ok (.iinc 1 1, 3) := by decide +kernel
theorem dX10_ring_40 : decode cX10_ring 40 = .ok (.goto (-16), 3) := by decide +kernel
theorem dX10_ring_43 : decode cX10_ring 43 = .ok (.iconst 0, 1) := by decide +kernel
theorem dX10_ring_44 : decode cX10_ring 44 = .ok (.istore_n 1, 1) := by decide +kernel
theorem dX10_ring_45 : decode cX10_ring 45 = .ok (.iload_n 1, 1) := by decide +kernel
theorem dX10_ring_46 : decode cX10_ring 46 = .ok (.aload_n 0, 1) := by decide +kernel
theorem dX10_ring_47 : decode cX10_ring 47 = .ok (.getfield 104, 3) := by decide +kernel
theorem dX10_ring_50 : decode cX10_ring 50 = .ok (.if_icmp .ge 53, 3) := by decide +kernel
theorem dX10_ring_53 : decode cX10_ring 53 = .ok (.aload_n 0, 1) := by decide +kernel
theorem dX10_ring_54 : decode cX10_ring 54 = .ok (.getfield 13, 3) := by decide +kernel
theorem dX10_ring_57 : decode cX10_ring 57 = .ok (.bipush 6, 2) := by decide +kernel
theorem dX10_ring_59 : decode cX10_ring 59 = .ok (.aload_n 0, 1) := by decide +kernel
theorem dX10_ring_60 : decode cX10_ring 60 = .ok (.getfield 43, 3) := by decide +kernel
theorem dX10_ring_63 : decode cX10_ring 63 = .ok (.iload_n 1, 1) := by decide +kernel
theorem dX10_ring_64 : decode cX10_ring 64 = .ok (.iaload, 1) := by decide +kernel
theorem dX10_ring_65 : decode cX10_ring 65 = .ok (.imul, 1) := by decide +kernel
theorem dX10_ring_66 : decode cX10_ring 66 = .ok (.aload_n 0, 1) := by decide +kernel
theorem dX10_ring_67 : decode cX10_ring 67 = .ok (.getfield 46, 3) := by decide +kernel
theorem dX10_ring_70 : decode cX10_ring 70 = .ok (.iload_n 1, 1) := by decide +kernel
theorem dX10_ring_71 : decode cX10_ring 71 = .ok (.iaload, 1) := by decide +kernel
theorem dX10_ring_72 : decode cX10_ring 72 = .ok (.iadd, 1) := by decide +kernel
theorem dX10_ring_73 : decode cX10_ring 73 = .ok (.iconst 1, 1) := by decide +kernel
theorem dX10_ring_74 : decode cX10_ring 74 = .ok (.bastore, 1) := by decide +kernel
theorem dX10_ring_75 : decode cX10_ring 75 = .ok (.aload_n 0, 1) := by decide +kernel
theorem dX10_ring_76 : decode cX10_ring 76 = .ok (.getfield 13, 3) := by decide +kernel
theorem dX10_ring_79 : decode cX10_ring 79 = .ok (.bipush 6, 2) := by decide +kernel
theorem dX10_ring_81 : decode cX10_ring 81 = .ok (.aload_n 0, 1) := by decide +kernel
theorem dX10_ring_82 : decode cX10_ring 82 = .ok (.getfield 46, 3) := by decide +kernel
theorem dX10_ring_85 : decode cX10_ring 85 = .ok (.iload_n 1, 1) := by decide +kernel
theorem dX10_ring_86 : decode cX10_ring 86 = .ok (.iaload, 1) := by decide +kernel
theorem dX10_ring_87 : decode cX10_ring 87 = .ok (.imul, 1) := by decide +kernel
theorem dX10_ring_88 : decode cX10_ring 88 = .ok (.aload_n 0, 1) := by decide +kernel
theorem dX10_ring_89 : decode cX10_ring 89 = .ok (.getfield 43, 3) := by decide +kernel
theorem dX10_ring_92 : decode cX10_ring 92 = .ok (.iload_n 1, 1) := by decide +kernel
theorem dX10_ring_93 : decode cX10_ring 93 = .ok (.iaload, 1) := by decide +kernel
theorem dX10_ring_94 : decode cX10_ring 94 = .ok (.iadd, 1) := by decide +kernel
theorem dX10_ring_95 : decode cX10_ring 95 = .ok (.iconst 1, 1) := by decide +kernel
theorem dX10_ring_96 : decode cX10_ring 96 = .ok (.bastore, 1) := by decide +kernel
theorem dX10_ring_97 : decode cX10_ring 97 = .ok (.iinc 1 1, 3) := by decide +kernel
theorem dX10_ring_100 : decode cX10_ring 100 = .ok (.goto (-55), 3) := by decide +kernel
theorem dX10_ring_103 : decode cX10_ring 103 = .ok (.iconst 0, 1) := by decide +kernel
theorem dX10_ring_104 : decode cX10_ring 104 = .ok (.istore_n 1, 1) := by decide +kernel
theorem dX10_ring_105 : decode cX10_ring 105 = .ok (.iload_n 1, 1) := by decide +kernel
theorem dX10_ring_106 : decode cX10_ring 106 = .ok (.bipush 6, 2) := by decide +kernel
theorem dX10_ring_108 : decode cX10_ring 108 = .ok (.if_icmp .ge 35, 3) := by decide +kernel
theorem dX10_ring_111 : decode cX10_ring 111 = .ok (.aload_n 0, 1) := by decide +kernel
theorem dX10_ring_112 : decode cX10_ring 112 = .ok (.getfield 7, 3) := by decide +kernel
theorem dX10_ring_115 : decode cX10_ring 115 = .ok (.iload_n 1, 1) := by decide +kernel
theorem dX10_ring_116 : decode cX10_ring 116 = .ok (.aload_n 0, 1) := by decide +kernel
theorem dX10_ring_117 : decode cX10_ring 117 = .ok (.getfield 40, 3) := by decide +kernel
theorem dX10_ring_120 : decode cX10_ring 120 = .ok (.iload_n 1, 1) := by decide +kernel
theorem dX10_ring_121 : decode cX10_ring 121 = .ok (.iaload, 1) := by decide +kernel
theorem dX10_ring_122 : decode cX10_ring 122 = .ok (.iastore, 1) := by decide +kernel
theorem dX10_ring_123 : decode cX10_ring 123 = .ok (.aload_n 0, 1) := by decide +kernel
theorem dX10_ring_124 : decode cX10_ring 124 = .ok (.getfield 17, 3) := by decide +kernel
theorem dX10_ring_127 : decode cX10_ring 127 = .ok (.iload_n 1, 1) := by decide +kernel
theorem dX10_ring_128 : decode cX10_ring 128 = .ok (.iload_n 1, 1) := by decide +kernel
theorem dX10_ring_129 : decode cX10_ring 129 = .ok (.iastore, 1) := by decide +kernel
theorem dX10_ring_130 : decode cX10_ring 130 = .ok (.aload_n 0, 1) := by decide +kernel
theorem dX10_ring_131 : decode cX10_ring 131 = .ok (.getfield 20, 3) := by decide +kernel
theorem dX10_ring_134 : decode cX10_ring 134 = .ok (.iload_n 1, 1) := by decide +kernel
theorem dX10_ring_135 : decode cX10_ring 135 = .ok (.iload_n 1, 1) := by decide +kernel
theorem dX10_ring_136 : decode cX10_ring 136 = .ok (.iastore, 1) := by decide +kernel
theorem dX10_ring_137 : decode cX10_ring 137 = .ok (.iinc 1 1, 3) := by decide +kernel
theorem dX10_ring_140 : decode cX10_ring 140 = .ok (.goto (-35), 3) := by decide +kernel
theorem dX10_ring_143 : decode cX10_ring 143 = .ok (.aload_n 0, 1) := by decide +kernel
theorem dX10_ring_144 : decode cX10_ring 144 = .ok (.iconst 0, 1) := by decide +kernel
theorem dX10_ring_145 : decode cX10_ring 145 = .ok (.putfield 145, 3) := by decide +kernel
theorem dX10_ring_148 : decode cX10_ring 148 = .ok (.aload_n 0, 1) := by decide +kernel
theorem dX10_ring_149 : decode cX10_ring 149 = .ok (.iconst 0, 1) := by decide +kernel
theorem dX10_ring_150 : decode cX10_ring 150 = .ok (.putfield 148, 3) := by decide +kernel
theorem dX10_ring_153 : decode cX10_ring 153 = .ok (.aload_n 0, 1) := by decide +kernel
theorem dX10_ring_154 : decode cX10_ring 154 = .ok (.dup, 1) := by decide +kernel
theorem dX10_ring_155 : decode cX10_ring 155 = .ok (.getfield 151, 3) := by decide +kernel
theorem dX10_ring_158 : decode cX10_ring 158 = .ok (.iconst 1, 1) := by decide +kernel
theorem dX10_ring_159 : decode cX10_ring 159 = .ok (.iadd, 1) := by decide +kernel
theorem dX10_ring_160 : decode cX10_ring 160 = .ok (.putfield 151, 3) := by decide +kernel
theorem dX10_ring_163 : decode cX10_ring 163 = .ok (.aload_n 0, 1) := by decide +kernel
theorem dX10_ring_164 : decode cX10_ring 164 = .ok (.iconst 0, 1) := by decide +kernel
theorem dX10_ring_165 : decode cX10_ring 165 = .ok (.putfield 89, 3) := by decide +kernel
theorem dX10_ring_168 : decode cX10_ring 168 = .ok (.aload_n 0, 1) := by decide +kernel
theorem dX10_ring_169 : decode cX10_ring 169 = .ok (.invokevirtual 154, 3) := by decide +kernel
theorem dX10_ring_172 : decode cX10_ring 172 = .ok (.aload_n 0, 1) := by decide +kernel
theorem dX10_ring_173 : decode cX10_ring 173 = .ok (.getfield 142, 3) := by decide +kernel
theorem dX10_ring_176 : decode cX10_ring 176 = .ok (.ireturn, 1) := by decide +kernel
theorem dX10_isHouse_0 : decode cX10_isHouse 0 = .ok (.iload_n 1, 1) := by decide +kernel
theorem dX10_isHouse_1 : decode cX10_isHouse 1 = .ok (.iconst 0, 1) := by decide +kernel
theorem dX10_isHouse_2 : decode cX10_isHouse 2 = .ok (.aload_n 0, 1) := by decide +kernel
theorem dX10_isHouse_3 : decode cX10_isHouse 3 = .ok (.getfield 142, 3) := by decide +kernel
theorem dX10_isHouse_6 : decode cX10_isHouse 6 = .ok (.iconst 1, 1) := by decide +kernel
theorem dX10_isHouse_7 : decode cX10_isHouse 7 = .ok (.isub, 1) := by decide +kernel
theorem dX10_isHouse_8 : decode cX10_isHouse 8 = .ok (.invokestatic 96, 3) := by decide +kernel
theorem dX10_isHouse_11 : decode cX10_isHouse 11 = .ok (.ireturn, 1) := by decide +kernel
theorem dX10_aim_0 : decode cX10_aim 0 = .ok (.iconst 0, 1) := by decide +kernel
theorem dX10_aim_1 : decode cX10_aim 1 = .ok (.istore_n 1, 1) := by decide +kernel
theorem dX10_aim_2 : decode cX10_aim 2 = .ok (.iconst 0, 1) := by decide +kernel
theorem dX10_aim_3 : decode cX10_aim 3 = .ok (.istore_n 2, 1) := by decide +kernel
theorem dX10_aim_4 : decode cX10_aim 4 = .ok (.iload_n 2, 1) := by decide +kernel
theorem dX10_aim_5 : decode cX10_aim 5 = .ok (.aload_n 0, 1) := by decide +kernel
theorem dX10_aim_6 : decode cX10_aim 6 = .ok (.getfield 89, 3) := by decide +kernel
theorem dX10_aim_9 : decode cX10_aim 9 = .ok (.if_icmp .ge 43, 3) := by decide +kernel
theorem dX10_aim_12 : decode cX10_aim 12 = .ok (.iload_n 1, 1) := by decide +kernel
theorem dX10_aim_13 : decode cX10_aim 13 = .ok (.aload_n 0, 1) := by decide +kernel
theorem dX10_aim_14 : decode cX10_aim 14 = .ok (.getfield 30, 3) := by decide +kernel
theorem dX10_aim_17 : decode cX10_aim 17 = .ok (.iload_n 2, 1) := by decide +kernel
theorem dX10_aim_18 : decode cX10_aim 18 = .ok (.baload, 1) := by decide +kernel
theorem dX10_aim_19 : decode cX10_aim 19 = .ok (.bipush 48, 2) := by decide +kernel
theorem dX10_aim_21 : decode cX10_aim 21 = .ok (.bipush 53, 2) := by decide +kernel
theorem dX10_aim_23 : decode cX10_aim 23 = .ok (.invokestatic 96, 3) := by decide +kernel
theorem dX10_aim_26 : decode cX10_aim 26 = .ok (.ifCond .eq 17, 3) := by decide +kernel
theorem dX10_aim_29 : decode cX10_aim 29 = .ok (.iconst 1, 1) := by decide +kernel
theorem dX10_aim_30 : decode cX10_aim 30 = .ok (.aload_n 0, 1) := by decide +kernel
theorem dX10_aim_31 : decode cX10_aim 31 = .ok (.getfield 30, 3) := by decide +kernel
theorem dX10_aim_34 : decode cX10_aim 34 = .ok (.iload_n 2, 1) := by decide +kernel
theorem dX10_aim_35 : decode cX10_aim 35 = .ok (.baload, 1) := by decide +kernel
theorem dX10_aim_36 : decode cX10_aim 36 = .ok (.bipush 48, 2) := by decide +kernel
theorem dX10_aim_38 : decode cX10_aim 38 = .ok (.isub, 1) := by decide +kernel
theorem dX10_aim_39 : decode cX10_aim 39 = .ok (.ishl, 1) := by decide +kernel
theorem dX10_aim_40 : decode cX10_aim 40 = .ok (.goto 4, 3) := by decide +kernel
theorem dX10_aim_43 : decode cX10_aim 43 = .ok (.iconst 0, 1) := by decide +kernel
theorem dX10_aim_44 : decode cX10_aim 44 = .ok (.ior, 1) := by decide +kernel
theorem dX10_aim_45 : decode cX10_aim 45 = .ok (.istore_n 1, 1) := by decide +kernel
theorem dX10_aim_46 : decode cX10_aim 46 = .ok (.iinc 2 1, 3) := by decide +kernel
theorem dX10_aim_49 : decode cX10_aim 49 = .ok (.goto (-45), 3) := by decide +kernel
theorem dX10_aim_52 : decode cX10_aim 52 = .ok (.aload_n 0, 1) := by decide +kernel
theorem dX10_aim_53 : decode cX10_aim 53 = .ok (.getfield 142, 3) := by decide +kernel
theorem dX10_aim_56 : decode cX10_aim 56 = .ok (.ifCond .eq 26, 3) := by decide +kernel
theorem dX10_aim_59 : decode cX10_aim 59 = .ok (.aload_n 0, 1) := by decide +kernel
theorem dX10_aim_60 : decode cX10_aim 60 = .ok (.getfield 89, 3) := by decide +kernel
theorem dX10_aim_63 : decode cX10_aim 63 = .ok (.aload_n 0, 1) := by decide +kernel
theorem dX10_aim_64 : decode cX10_aim 64 = .ok (.getfield 142, 3) := by decide +kernel
theorem dX10_aim_67 : decode cX10_aim 67 = .ok (.if_icmp .ne 15, 3) := by decide +kernel
theorem dX10_aim_70 : decode cX10_aim 70 = .ok (.iload_n 1, 1) := by decide +kernel
theorem dX10_aim_71 : decode cX10_aim 71 = .ok (.iconst 1, 1) := by decide +kernel
theorem dX10_aim_72 : decode cX10_aim 72 = .ok (.aload_n 0, 1) := by decide +kernel
theorem dX10_aim_73 : decode cX10_aim 73 = .ok (.getfield 142, 3) := by decide +kernel
theorem dX10_aim_76 : decode cX10_aim 76 = .ok (.ishl, 1) := by decide +kernel
theorem dX10_aim_77 : decode cX10_aim 77 = .ok (.iconst 1, 1) := by decide +kernel
theorem dX10_aim_78 : decode cX10_aim 78 = .ok (.isub, 1) := by decide +kernel
theorem dX10_aim_79 : decode cX10_aim 79 = .ok (.if_icmp .eq 6, 3) := by decide +kernel
theorem dX10_aim_82 : decode cX10_aim 82 = .ok (.bipush (-103), 2) := by decide +kernel
theorem dX10_aim_84 : decode cX10_aim 84 = .ok (.ireturn, 1) := by decide +kernel
theorem dX10_aim_85 : decode cX10_aim 85 = .ok (.iconst 0, 1) := by decide +kernel
theorem dX10_aim_86 : decode cX10_aim 86 = .ok (.istore_n 2, 1) := by decide +kernel
theorem dX10_aim_87 : decode cX10_aim 87 = .ok (.iload_n 2, 1) := by decide +kernel
theorem dX10_aim_88 : decode cX10_aim 88 = .ok (.aload_n 0, 1) := by decide +kernel
theorem dX10_aim_89 : decode cX10_aim 89 = .ok (.getfield 142, 3) := by decide +kernel
theorem dX10_aim_92 : decode cX10_aim 92 = .ok (.if_icmp .ge 24, 3) := by decide +kernel
theorem dX10_aim_95 : decode cX10_aim 95 = .ok (.aload_n 0, 1) := by decide +kernel
theorem dX10_aim_96 : decode cX10_aim 96 = .ok (.getfield 23, 3) := by decide +kernel
theorem dX10_aim_99 : decode cX10_aim 99 = .ok (.iload_n 2, 1) := by decide +kernel
theorem dX10_aim_100 : decode cX10_aim 100 = .ok (.aload_n 0, 1) := by decide +kernel
theorem dX10_aim_101 : decode cX10_aim 101 = .ok (.getfield 30, 3) := by decide +kernel
theorem dX10_aim_104 : decode cX10_aim 104 = .ok (.iload_n 2, 1) := by decide +kernel
theorem dX10_aim_105 : decode cX10_aim 105 = .ok (.baload, 1) := by decide +kernel
theorem dX10_aim_106 : decode cX10_aim 106 = .ok (.bipush 48, 2) := by decide +kernel
theorem dX10_aim_108 : decode cX10_aim 108 = .ok (.isub, 1) := by decide +kernel
theorem dX10_aim_109 : decode cX10_aim 109 = .ok (.iastore, 1) := by decide +kernel
theorem dX10_aim_110 : decode cX10_aim 110 = .ok (.iinc 2 1, 3) := by decide +kernel
theorem dX10_aim_113 : decode cX10_aim 113 = .ok (.goto (-26), 3) := by decide +kernel
theorem dX10_aim_116 : decode cX10_aim 116 = .ok (.aload_n 0, 1) := by decide +kernel
theorem dX10_aim_117 : decode cX10_aim 117 = .ok (.iconst 1, 1) := by decide +kernel
theorem dX10_aim_118 : decode cX10_aim 118 = .ok (.putfield 148, 3) := by decide +kernel
theorem dX10_aim_121 : decode cX10_aim 121 = .ok (.aload_n 0, 1) := by decide +kernel
theorem dX10_aim_122 : decode cX10_aim 122 = .ok (.iconst 0, 1) := by decide +kernel
theorem dX10_aim_123 : decode cX10_aim 123 = .ok (.putfield 89, 3) := by decide +kernel
theorem dX10_aim_126 : decode cX10_aim 126 = .ok (.aload_n 0, 1) := by decide +kernel
theorem dX10_aim_127 : decode cX10_aim 127 = .ok (.getfield 142, 3) := by decide +kernel
theorem dX10_aim_130 : decode cX10_aim 130 = .ok (.ireturn, 1) := by decide +kernel
theorem dX10_placeIn_0 : decode cX10_placeIn 0 = .ok (.iconst 0, 1) := by decide +kernel
theorem dX10_placeIn_1 : decode cX10_placeIn 1 = .ok (.istore_n 3, 1) := by decide +kernel
theorem dX10_placeIn_2 : decode cX10_placeIn 2 = .ok (.aload_n 1, 1) := by decide +kernel
theorem dX10_placeIn_3 : decode cX10_placeIn 3 = .ok (.iload_n 3, 1) := by decide +kernel
theorem dX10_placeIn_4 : decode cX10_placeIn 4 = .ok (.iaload, 1) := by decide +kernel
theorem dX10_placeIn_5 : decode cX10_placeIn 5 = .ok (.iload_n 2, 1) := by decide +kernel
theorem dX10_placeIn_6 : decode cX10_placeIn 6 = .ok (.if_icmp .eq 9, 3) := by decide +kernel
theorem dX10_placeIn_9 : decode cX10_placeIn 9 = .ok (.iinc 3 1, 3) := by decide +kernel
theorem dX10_placeIn_12 : decode cX10_placeIn 12 = .ok (.goto (-10), 3) := by decide +kernel
theorem dX10_placeIn_15 : decode cX10_placeIn 15 = .ok (.iload_n 3, 1) := by decide +kernel
theorem dX10_placeIn_16 : decode cX10_placeIn 16 = .ok (.ireturn, 1) := by decide +kernel
theorem dX10_areBeside_0 : decode cX10_areBeside 0 = .ok (.aload_n 0, 1) := by decide +kernel
theorem dX10_areBeside_1 : decode cX10_areBeside 1 = .ok (.aload_n 1, 1) := by decide +kernel
theorem dX10_areBeside_2 : decode cX10_areBeside 2 = .ok (.iload_n 2, 1) := by decide +kernel
theorem dX10_areBeside_3 : decode cX10_areBeside 3 = .ok (.invokevirtual 157, 3) := by decide +kernel
theorem dX10_areBeside_6 : decode cX10_areBeside 6 = .ok (.aload_n 0, 1) := by decide +kernel
theorem dX10_areBeside_7 : decode cX10_areBeside 7 = .ok (.aload_n 1, 1) := by decide +kernel
theorem dX10_areBeside_8 : decode cX10_areBeside 8 = .ok (.iload_n 3, 1) := by decide +kernel
theorem dX10_areBeside_9 : decode cX10_areBeside 9 = .ok (.invokevirtual 157, 3) := by decide +kernel
theorem dX10_areBeside_12 : decode cX10_areBeside 12 = .ok (.isub, 1) := by decide +kernel
theorem dX10_areBeside_13 : decode cX10_areBeside 13 = .ok (.istore 4, 2) := by decide +kernel
theorem dX10_areBeside_15 : decode cX10_areBeside 15 = .ok (.iload 4, 2) := by decide +kernel
theorem dX10_areBeside_17 : decode cX10_areBeside 17 = .ok (.iconst 1, 1) := by decide +kernel
theorem dX10_areBeside_18 : decode cX10_areBeside 18 = .ok (.if_icmp .eq 31, 3) := by decide +kernel
theorem dX10_areBeside_21 : decode cX10_areBeside 21 = .ok (.iload 4, 2) := by decide +kernel
theorem dX10_areBeside_23 : decode cX10_areBeside 23 = .ok (.iconst (-1), 1) := by decide +kernel
theorem dX10_areBeside_24 : decode cX10_areBeside 24 = .ok (.if_icmp .eq 25, 3) := by decide +kernel
theorem dX10_areBeside_27 : decode cX10_areBeside 27 = .ok (.iload 4, 2) := by decide +kernel
theorem dX10_areBeside_29 : decode cX10_areBeside 29 = .ok (.aload_n 0, 1) := by decide +kernel
theorem dX10_areBeside_30 : decode cX10_areBeside 30 = .ok (.getfield 142, 3) := by decide +kernel
theorem dX10_areBeside_33 : decode cX10_areBeside 33 = .ok (.iconst 1, 1) := by decide +kernel
theorem dX10_areBeside_34 : decode cX10_areBeside 34 = .ok (.isub, 1) := by decide +kernel
theorem dX10_areBeside_35 : decode cX10_areBeside 35 = .ok (.if_icmp .eq 14, 3) := by decide +kernel
theorem dX10_areBeside_38 : decode cX10_areBeside 38 = .ok (.iload 4, 2) := by decide +kernel
theorem dX10_areBeside_40 : decode cX10_areBeside 40 = .ok (.iconst 1, 1) := by decide +kernel
theorem dX10_areBeside_41 : decode cX10_areBeside 41 = .ok (.aload_n 0, 1) := by decide +kernel
theorem dX10_areBeside_42 : decode cX10_areBeside 42 = .ok (.getfield 142, 3) := by decide +kernel
theorem dX10_areBeside_45 : decode cX10_areBeside 45 = .ok (.isub, 1) := by decide +kernel
theorem dX10_areBeside_46 : decode cX10_areBeside 46 = .ok (.if_icmp .ne 7, 3) := by decide +kernel
theorem dX10_areBeside_49 : decode cX10_areBeside 49 = .ok (.iconst 1, 1) := by decide +kernel
theorem dX10_areBeside_50 : decode cX10_areBeside 50 = .ok (.goto 4, 3) := by decide +kernel
theorem dX10_areBeside_53 : decode cX10_areBeside 53 = .ok (.iconst 0, 1) := by decide +kernel
theorem dX10_areBeside_54 : decode cX10_areBeside 54 = .ok (.ireturn, 1) := by decide +kernel
theorem dX10_betweenBoth_0 : decode cX10_betweenBoth 0 = .ok (.iconst (-1), 1) := by decide +kernel
theorem dX10_betweenBoth_1 : decode cX10_betweenBoth 1 = .ok (.istore_n 1, 1) := by decide +kernel
theorem dX10_betweenBoth_2 : decode cX10_betweenBoth 2 = .ok (.iconst 0, 1) := by decide +kernel
theorem dX10_betweenBoth_3 : decode cX10_betweenBoth 3 = .ok (.istore_n 2, 1) := by decide +kernel
theorem dX10_betweenBoth_4 : decode cX10_betweenBoth 4 = .ok (.iconst 0, 1) := by decide +kernel
theorem dX10_betweenBoth_5 : decode cX10_betweenBoth 5 = .ok (.istore_n 3, 1) := by decide +kernel
theorem dX10_betweenBoth_6 : decode cX10_betweenBoth 6 = .ok (.iload_n 3, 1) := by decide +kernel
theorem dX10_betweenBoth_7 : decode cX10_betweenBoth 7 = .ok (.aload_n 0, 1) := by decide +kernel
theorem dX10_betweenBoth_8 : decode cX10_betweenBoth 8 = .ok (.getfield 142, 3) := by decide +kernel
theorem dX10_betweenBoth_11 : decode cX10_betweenBoth 11 = .ok (.if_icmp .ge 62, 3) := by decide +kernel
theorem dX10_betweenBoth_14 : decode cX10_betweenBoth 14 = .ok (.iload_n 3, 1) := by decide +kernel
theorem dX10_betweenBoth_15 : decode cX10_betweenBoth 15 = .ok (.aload_n 0, 1) := by decide +kernel
theorem dX10_betweenBoth_16 : decode cX10_betweenBoth 16 = .ok (.getfield 127, 3) := by decide +kernel
theorem dX10_betweenBoth_19 : decode cX10_betweenBoth 19 = .ok (.if_icmp .eq 48, 3) := by decide +kernel
theorem dX10_betweenBoth_22 : decode cX10_betweenBoth 22 = .ok (.iload_n 3, 1) := by decide +kernel
theorem dX10_betweenBoth_23 : decode cX10_betweenBoth 23 = .ok (.aload_n 0, 1) := by decide +kernel
theorem dX10_betweenBoth_24 : decode cX10_betweenBoth 24 = .ok (.getfield 130, 3) := by decide +kernel
theorem dX10_betweenBoth_27 : decode cX10_betweenBoth 27 = .ok (.if_icmp .eq 40, 3) := by decide +kernel
theorem dX10_betweenBoth_30 : decode cX10_betweenBoth 30 = .ok (.aload_n 0, 1) := by decide +kernel
theorem dX10_betweenBoth_31 : decode cX10_betweenBoth 31 = .ok (.aload_n 0, 1) := by decide +kernel
theorem dX10_betweenBoth_32 : decode cX10_betweenBoth 32 = .ok (.getfield 17, 3) := by decide +kernel
theorem dX10_betweenBoth_35 : decode cX10_betweenBoth 35 = .ok (.iload_n 3, 1) := by decide +kernel
theorem dX10_betweenBoth_36 : decode cX10_betweenBoth 36 = .ok (.aload_n 0, 1) := by decide +kernel
theorem dX10_betweenBoth_37 : decode cX10_betweenBoth 37 = .ok (.getfield 127, 3) := by decide +kernel
theorem dX10_betweenBoth_40 : decode cX10_betweenBoth 40 = .ok (.invokevirtual 161, 3) := by decide +kernel
theorem dX10_betweenBoth_43 : decode cX10_betweenBoth 43 = .ok (.ifCond .eq 24, 3) := by decide +kernel
theorem dX10_betweenBoth_46 : decode cX10_betweenBoth 46 = .ok (.aload_n 0, 1) := by decide +kernel
theorem dX10_betweenBoth_47 : decode cX10_betweenBoth 47 = .ok (.aload_n 0, 1) := by decide +kernel
theorem dX10_betweenBoth_48 : decode cX10_betweenBoth 48 = .ok (.getfield 17, 3) := by decide +kernel
theorem dX10_betweenBoth_51 : decode cX10_betweenBoth 51 = .ok (.iload_n 3, 1) := by decide +kernel
theorem dX10_betweenBoth_52 : decode cX10_betweenBoth 52 = .ok (.aload_n 0, 1) := by decide +kernel
theorem dX10_betweenBoth_53 : decode cX10_betweenBoth 53 = .ok (.getfield 130, 3) := by decide +kernel
theorem dX10_betweenBoth_56 : decode cX10_betweenBoth 56 = .ok (.invokevirtual 161, 3) := by decide +kernel
theorem dX10_betweenBoth_59 : decode cX10_betweenBoth 59 = .ok (.ifCond .eq 8, 3) := by decide +kernel
theorem dX10_betweenBoth_62 : decode cX10_betweenBoth 62 = .ok (.iload_n 3, 1) := by decide +kernel
theorem dX10_betweenBoth_63 : decode cX10_betweenBoth 63 = .ok (.istore_n 1, 1) := by decide +kernel
theorem dX10_betweenBoth_64 : decode cX10_betweenBoth 64 = .ok (.iinc 2 1, 3) := by decide +kernel
theorem dX10_betweenBoth_67 : decode cX10_betweenBoth 67 = .ok (.iinc 3 1, 3) := by decide +kernel
theorem dX10_betweenBoth_70 : decode cX10_betweenBoth 70 = .ok (.goto (-64), 3) := by decide +kernel
theorem dX10_betweenBoth_73 : decode cX10_betweenBoth 73 = .ok (.iload_n 2, 1) := by decide +kernel
theorem dX10_betweenBoth_74 : decode cX10_betweenBoth 74 = .ok (.iconst 1, 1) := by decide +kernel
theorem dX10_betweenBoth_75 : decode cX10_betweenBoth 75 = .ok (.if_icmp .ne 7, 3) := by decide +kernel
theorem dX10_betweenBoth_78 : decode cX10_betweenBoth 78 = .ok (.iload_n 1, 1) := by decide +kernel
theorem dX10_betweenBoth_79 : decode cX10_betweenBoth 79 = .ok (.goto 4, 3) := by decide +kernel
theorem dX10_betweenBoth_82 : decode cX10_betweenBoth 82 = .ok (.iconst (-1), 1) := by decide +kernel
theorem dX10_betweenBoth_83 : decode cX10_betweenBoth 83 = .ok (.ireturn, 1) := by decide +kernel
theorem dX10_letter_0 : decode cX10_letter 0 = .ok (.aload_n 0, 1) := by decide +kernel
theorem dX10_letter_1 : decode cX10_letter 1 = .ok (.invokevirtual 139, 3) := by decide +kernel
theorem dX10_letter_4 : decode cX10_letter 4 = .ok (.aload_n 0, 1) := by decide +kernel
theorem dX10_letter_5 : decode cX10_letter 5 = .ok (.getfield 142, 3) := by decide +kernel
theorem dX10_letter_8 : decode cX10_letter 8 = .ok (.ifCond .eq 10, 3) := by decide +kernel
theorem dX10_letter_11 : decode cX10_letter 11 = .ok (.aload_n 0, 1) := by decide +kernel
theorem dX10_letter_12 : decode cX10_letter 12 = .ok (.getfield 114, 3) := by decide +kernel
theorem dX10_letter_15 : decode cX10_letter 15 = .ok (.ifCond .ne 6, 3) := by decide +kernel
theorem dX10_letter_18 : decode cX10_letter 18 = .ok (.bipush (-103), 2) := by decide +kernel
theorem dX10_letter_20 : decode cX10_letter 20 = .ok (.ireturn, 1) := by decide +kernel
theorem dX10_letter_21 : decode cX10_letter 21 = .ok (.aload_n 0, 1) := by decide +kernel
theorem dX10_letter_22 : decode cX10_letter 22 = .ok (.aload_n 0, 1) := by decide +kernel
theorem dX10_letter_23 : decode cX10_letter 23 = .ok (.getfield 127, 3) := by decide +kernel
theorem dX10_letter_26 : decode cX10_letter 26 = .ok (.invokevirtual 165, 3) := by decide +kernel
theorem dX10_letter_29 : decode cX10_letter 29 = .ok (.ifCond .eq 22, 3) := by decide +kernel
theorem dX10_letter_32 : decode cX10_letter 32 = .ok (.aload_n 0, 1) := by decide +kernel
theorem dX10_letter_33 : decode cX10_letter 33 = .ok (.getfield 121, 3) := by decide +kernel
theorem dX10_letter_36 : decode cX10_letter 36 = .ok (.iconst 3, 1) := by decide +kernel
theorem dX10_letter_37 : decode cX10_letter 37 = .ok (.if_icmp .ne 17, 3) := by decide +kernel
theorem dX10_letter_40 : decode cX10_letter 40 = .ok (.aload_n 0, 1) := by decide +kernel
theorem dX10_letter_41 : decode cX10_letter 41 = .ok (.aload_n 0, 1) := by decide +kernel
theorem dX10_letter_42 : decode cX10_letter 42 = .ok (.getfield 130, 3) := by decide +kernel
theorem dX10_letter_45 : decode cX10_letter 45 = .ok (.invokevirtual 165, 3) := by decide +kernel
theorem dX10_letter_48 : decode cX10_letter 48 = .ok (.ifCond .ne 6, 3) := by decide +kernel
theorem dX10_letter_51 : decode cX10_letter 51 = .ok (.bipush (-101), 2) := by decide +kernel
theorem dX10_letter_53 : decode cX10_letter 53 = .ok (.ireturn, 1) := by decide +kernel
theorem dX10_letter_54 : decode cX10_letter 54 = .ok (.aload_n 0, 1) := by decide +kernel
theorem dX10_letter_55 : decode cX10_letter 55 = .ok (.iconst 0, 1) := by decide +kernel
theorem dX10_letter_56 : decode cX10_letter 56 = .ok (.putfield 89, 3) := by decide +kernel
theorem dX10_letter_59 : decode cX10_letter 59 = .ok (.aload_n 0, 1) := by decide +kernel
theorem dX10_letter_60 : decode cX10_letter 60 = .ok (.aload_n 0, 1) := by decide +kernel
theorem dX10_letter_61 : decode cX10_letter 61 = .ok (.getfield 17, 3) := by decide +kernel
theorem dX10_letter_64 : decode cX10_letter 64 = .ok (.aload_n 0, 1) := by decide +kernel
theorem dX10_letter_65 : decode cX10_letter 65 = .ok (.getfield 127, 3) := by decide +kernel
theorem dX10_letter_68 : decode cX10_letter 68 = .ok (.invokevirtual 157, 3) := by decide +kernel
theorem dX10_letter_71 : decode cX10_letter 71 = .ok (.istore_n 1, 1) := by decide +kernel
theorem dX10_letter_72 : decode cX10_letter 72 = .ok (.aload_n 0, 1) := by decide +kernel
theorem dX10_letter_73 : decode cX10_letter 73 = .ok (.getfield 121, 3) := by decide +kernel
theorem dX10_letter_76 : decode cX10_letter 76 = .ok (.tableswitch 75 0 2 #[28, 33, 50], 28) := by decide +kernel
theorem dX10_letter_104 : decode cX10_letter 104 = .ok (.aload_n 0, 1) := by decide +kernel
theorem dX10_letter_105 : decode cX10_letter 105 = .ok (.getfield 127, 3) := by decide +kernel
theorem dX10_letter_108 : decode cX10_letter 108 = .ok (.ireturn, 1) := by decide +kernel
theorem dX10_letter_109 : decode cX10_letter 109 = .ok (.aload_n 0, 1) := by decide +kernel
theorem dX10_letter_110 : decode cX10_letter 110 = .ok (.getfield 17, 3) := by decide +kernel
theorem dX10_letter_113 : decode cX10_letter 113 = .ok (.iload_n 1, 1) := by decide +kernel
theorem dX10_letter_114 : decode cX10_letter 114 = .ok (.aload_n 0, 1) := by decide +kernel
theorem dX10_letter_115 : decode cX10_letter 115 = .ok (.getfield 124, 3) := by decide +kernel
theorem dX10_letter_118 : decode cX10_letter 118 = .ok (.iadd, 1) := by decide +kernel
theorem dX10_letter_119 : decode cX10_letter 119 = .ok (.aload_n 0, 1) := by decide +kernel
theorem dX10_letter_120 : decode cX10_letter 120 = .ok (.getfield 142, 3) := by decide +kernel
theorem dX10_letter_123 : decode cX10_letter 123 = .ok (.irem, 1) := by decide +kernel
theorem dX10_letter_124 : decode cX10_letter 124 = .ok (.iaload, 1) := by decide +kernel
theorem dX10_letter_125 : decode cX10_letter 125 = .ok (.ireturn, 1) := by decide +kernel
theorem dX10_letter_126 : decode cX10_letter 126 = .ok (.aload_n 0, 1) := by decide +kernel
theorem dX10_letter_127 : decode cX10_letter 127 = .ok (.getfield 17, 3) := by decide +kernel
theorem dX10_letter_130 : decode cX10_letter 130 = .ok (.iload_n 1, 1) := by decide +kernel
theorem dX10_letter_131 : decode cX10_letter 131 = .ok (.bipush 9, 2) := by decide +kernel
theorem dX10_letter_133 : decode cX10_letter 133 = .ok (.aload_n 0, 1) := by decide +kernel
theorem dX10_letter_134 : decode cX10_letter 134 = .ok (.getfield 142, 3) := by decide +kernel
theorem dX10_letter_137 : decode cX10_letter 137 = .ok (.imul, 1) := by decide +kernel
theorem dX10_letter_138 : decode cX10_letter 138 = .ok (.iadd, 1) := by decide +kernel
theorem dX10_letter_139 : decode cX10_letter 139 = .ok (.aload_n 0, 1) := by decide +kernel
theorem dX10_letter_140 : decode cX10_letter 140 = .ok (.getfield 124, 3) := by decide +kernel
theorem dX10_letter_143 : decode cX10_letter 143 = .ok (.isub, 1) := by decide +kernel
theorem dX10_letter_144 : decode cX10_letter 144 = .ok (.aload_n 0, 1) := by decide +kernel
theorem dX10_letter_145 : decode cX10_letter 145 = .ok (.getfield 142, 3) := by decide +kernel
theorem dX10_letter_148 : decode cX10_letter 148 = .ok (.irem, 1) := by decide +kernel
theorem dX10_letter_149 : decode cX10_letter 149 = .ok (.iaload, 1) := by decide +kernel
theorem dX10_letter_150 : decode cX10_letter 150 = .ok (.ireturn, 1) := by decide +kernel
theorem dX10_letter_151 : decode cX10_letter 151 = .ok (.aload_n 0, 1) := by decide +kernel
theorem dX10_letter_152 : decode cX10_letter 152 = .ok (.invokevirtual 169, 3) := by decide +kernel
theorem dX10_letter_155 : decode cX10_letter 155 = .ok (.ireturn, 1) := by decide +kernel
theorem dX10_houseNow_0 : decode cX10_houseNow 0 = .ok (.iload_n 2, 1) := by decide +kernel
theorem dX10_houseNow_1 : decode cX10_houseNow 1 = .ok (.tableswitch 54 0 2 #[27, 34, 44], 27) := by decide +kernel
theorem dX10_houseNow_28 : decode cX10_houseNow 28 = .ok (.aload_n 0, 1) := by decide +kernel
theorem dX10_houseNow_29 : decode cX10_houseNow 29 = .ok (.getfield 7, 3) := by decide +kernel
theorem dX10_houseNow_32 : decode cX10_houseNow 32 = .ok (.iload_n 1, 1) := by decide +kernel
theorem dX10_houseNow_33 : decode cX10_houseNow 33 = .ok (.iaload, 1) := by decide +kernel
theorem dX10_houseNow_34 : decode cX10_houseNow 34 = .ok (.ireturn, 1) := by decide +kernel
theorem dX10_houseNow_35 : decode cX10_houseNow 35 = .ok (.aload_n 0, 1) := by decide +kernel
theorem dX10_houseNow_36 : decode cX10_houseNow 36 = .ok (.aload_n 0, 1) := by decide +kernel
theorem dX10_houseNow_37 : decode cX10_houseNow 37 = .ok (.getfield 17, 3) := by decide +kernel
theorem dX10_houseNow_40 : decode cX10_houseNow 40 = .ok (.iload_n 1, 1) := by decide +kernel
theorem dX10_houseNow_41 : decode cX10_houseNow 41 = .ok (.invokevirtual 157, 3) := by decide +kernel
theorem dX10_houseNow_44 : decode cX10_houseNow 44 = .ok (.ireturn, 1) := by decide +kernel
theorem dX10_houseNow_45 : decode cX10_houseNow 45 = .ok (.aload_n 0, 1) := by decide +kernel
theorem dX10_houseNow_46 : decode cX10_houseNow 46 = .ok (.aload_n 0, 1) := by decide +kernel
theorem dX10_houseNow_47 : decode cX10_houseNow 47 = .ok (.getfield 20, 3) := by decide +kernel
theorem dX10_houseNow_50 : decode cX10_houseNow 50 = .ok (.iload_n 1, 1) := by decide +kernel
theorem dX10_houseNow_51 : decode cX10_houseNow 51 = .ok (.invokevirtual 157, 3) := by decide +kernel
theorem dX10_houseNow_54 : decode cX10_houseNow 54 = .ok (.ireturn, 1) := by decide +kernel
theorem dX10_houseNow_55 : decode cX10_houseNow 55 = .ok (.aload_n 0, 1) := by decide +kernel
theorem dX10_houseNow_56 : decode cX10_houseNow 56 = .ok (.getfield 148, 3) := by decide +kernel
theorem dX10_houseNow_59 : decode cX10_houseNow 59 = .ok (.ifCond .eq 15, 3) := by decide +kernel
theorem dX10_houseNow_62 : decode cX10_houseNow 62 = .ok (.aload_n 0, 1) := by decide +kernel
theorem dX10_houseNow_63 : decode cX10_houseNow 63 = .ok (.aload_n 0, 1) := by decide +kernel
theorem dX10_houseNow_64 : decode cX10_houseNow 64 = .ok (.getfield 23, 3) := by decide +kernel
theorem dX10_houseNow_67 : decode cX10_houseNow 67 = .ok (.iload_n 1, 1) := by decide +kernel
theorem dX10_houseNow_68 : decode cX10_houseNow 68 = .ok (.invokevirtual 157, 3) := by decide +kernel
theorem dX10_houseNow_71 : decode cX10_houseNow 71 = .ok (.goto 4, 3) := by decide +kernel
theorem dX10_houseNow_74 : decode cX10_houseNow 74 = .ok (.iconst (-1), 1) := by decide +kernel
theorem dX10_houseNow_75 : decode cX10_houseNow 75 = .ok (.ireturn, 1) := by decide +kernel
theorem dX10_house_0 : decode cX10_house 0 = .ok (.aload_n 0, 1) := by decide +kernel
theorem dX10_house_1 : decode cX10_house 1 = .ok (.iload_n 1, 1) := by decide +kernel
theorem dX10_house_2 : decode cX10_house 2 = .ok (.invokevirtual 165, 3) := by decide +kernel
theorem dX10_house_5 : decode cX10_house 5 = .ok (.ifCond .ne 8, 3) := by decide +kernel
theorem dX10_house_8 : decode cX10_house 8 = .ok (.bipush (-101), 2) := by decide +kernel
theorem dX10_house_10 : decode cX10_house 10 = .ok (.goto 23, 3) := by decide +kernel
theorem dX10_house_13 : decode cX10_house 13 = .ok (.iload_n 2, 1) := by decide +kernel
theorem dX10_house_14 : decode cX10_house 14 = .ok (.iconst 0, 1) := by decide +kernel
theorem dX10_house_15 : decode cX10_house 15 = .ok (.iconst 3, 1) := by decide +kernel
theorem dX10_house_16 : decode cX10_house 16 = .ok (.invokestatic 96, 3) := by decide +kernel
theorem dX10_house_19 : decode cX10_house 19 = .ok (.ifCond .eq 12, 3) := by decide +kernel
theorem dX10_house_22 : decode cX10_house 22 = .ok (.aload_n 0, 1) := by decide +kernel
theorem dX10_house_23 : decode cX10_house 23 = .ok (.iload_n 1, 1) := by decide +kernel
theorem dX10_house_24 : decode cX10_house 24 = .ok (.iload_n 2, 1) := by decide +kernel
theorem dX10_house_25 : decode cX10_house 25 = .ok (.invokevirtual 173, 3) := by decide +kernel
theorem dX10_house_28 : decode cX10_house 28 = .ok (.goto 5, 3) := by decide +kernel
theorem dX10_house_31 : decode cX10_house 31 = .ok (.bipush (-102), 2) := by decide +kernel
theorem dX10_house_33 : decode cX10_house 33 = .ok (.ireturn, 1) := by decide +kernel
theorem dX10_as_0 : decode cX10_as 0 = .ok (.aload_n 0, 1) := by decide +kernel
theorem dX10_as_1 : decode cX10_as 1 = .ok (.iload_n 1, 1) := by decide +kernel
theorem dX10_as_2 : decode cX10_as 2 = .ok (.invokevirtual 165, 3) := by decide +kernel
theorem dX10_as_5 : decode cX10_as 5 = .ok (.ifCond .ne 6, 3) := by decide +kernel
theorem dX10_as_8 : decode cX10_as 8 = .ok (.bipush (-101), 2) := by decide +kernel
theorem dX10_as_10 : decode cX10_as 10 = .ok (.ireturn, 1) := by decide +kernel
theorem dX10_as_11 : decode cX10_as 11 = .ok (.iload_n 2, 1) := by decide +kernel
theorem dX10_as_12 : decode cX10_as 12 = .ok (.iconst 0, 1) := by decide +kernel
theorem dX10_as_13 : decode cX10_as 13 = .ok (.iconst 3, 1) := by decide +kernel
theorem dX10_as_14 : decode cX10_as 14 = .ok (.invokestatic 96, 3) := by decide +kernel
theorem dX10_as_17 : decode cX10_as 17 = .ok (.ifCond .ne 6, 3) := by decide +kernel
theorem dX10_as_20 : decode cX10_as 20 = .ok (.bipush (-102), 2) := by decide +kernel
theorem dX10_as_22 : decode cX10_as 22 = .ok (.ireturn, 1) := by decide +kernel
theorem dX10_as_23 : decode cX10_as 23 = .ok (.aload_n 0, 1) := by decide +kernel
theorem dX10_as_24 : decode cX10_as 24 = .ok (.getfield 7, 3) := by decide +kernel
theorem dX10_as_27 : decode cX10_as 27 = .ok (.iload_n 1, 1) := by decide +kernel
theorem dX10_as_28 : decode cX10_as 28 = .ok (.iaload, 1) := by decide +kernel
theorem dX10_as_29 : decode cX10_as 29 = .ok (.istore_n 3, 1) := by decide +kernel
theorem dX10_as_30 : decode cX10_as 30 = .ok (.iload_n 2, 1) := by decide +kernel
theorem dX10_as_31 : decode cX10_as 31 = .ok (.ifCond .eq 18, 3) := by decide +kernel
theorem dX10_as_34 : decode cX10_as 34 = .ok (.iload_n 3, 1) := by decide +kernel
theorem dX10_as_35 : decode cX10_as 35 = .ok (.iload_n 2, 1) := by decide +kernel
theorem dX10_as_36 : decode cX10_as 36 = .ok (.if_icmp .eq 13, 3) := by decide +kernel
theorem dX10_as_39 : decode cX10_as 39 = .ok (.iload_n 2, 1) := by decide +kernel
theorem dX10_as_40 : decode cX10_as 40 = .ok (.iconst 1, 1) := by decide +kernel
theorem dX10_as_41 : decode cX10_as 41 = .ok (.if_icmp .ne 12, 3) := by decide +kernel
theorem dX10_as_44 : decode cX10_as 44 = .ok (.iload_n 3, 1) := by decide +kernel
theorem dX10_as_45 : decode cX10_as 45 = .ok (.iconst 3, 1) := by decide +kernel
theorem dX10_as_46 : decode cX10_as 46 = .ok (.if_icmp .ne 7, 3) := by decide +kernel
theorem dX10_as_49 : decode cX10_as 49 = .ok (.iload_n 1, 1) := by decide +kernel
theorem dX10_as_50 : decode cX10_as 50 = .ok (.goto 4, 3) := by decide +kernel
theorem dX10_as_53 : decode cX10_as 53 = .ok (.iconst (-1), 1) := by decide +kernel
theorem dX10_as_54 : decode cX10_as 54 = .ok (.ireturn, 1) := by decide +kernel
theorem dX10_at_0 : decode cX10_at 0 = .ok (.aload_n 0, 1) := by decide +kernel
theorem dX10_at_1 : decode cX10_at 1 = .ok (.iload_n 1, 1) := by decide +kernel
theorem dX10_at_2 : decode cX10_at 2 = .ok (.invokevirtual 165, 3) := by decide +kernel
theorem dX10_at_5 : decode cX10_at 5 = .ok (.ifCond .eq 12, 3) := by decide +kernel
theorem dX10_at_8 : decode cX10_at 8 = .ok (.aload_n 0, 1) := by decide +kernel
theorem dX10_at_9 : decode cX10_at 9 = .ok (.getfield 17, 3) := by decide +kernel
theorem dX10_at_12 : decode cX10_at 12 = .ok (.iload_n 1, 1) := by decide +kernel
theorem dX10_at_13 : decode cX10_at 13 = .ok (.iaload, 1) := by decide +kernel
theorem dX10_at_14 : decode cX10_at 14 = .ok (.goto 5, 3) := by decide +kernel
theorem dX10_at_17 : decode cX10_at 17 = .ok (.bipush (-101), 2) := by decide +kernel
theorem dX10_at_19 : decode cX10_at 19 = .ok (.ireturn, 1) := by decide +kernel
theorem dX10_feud_0 : decode cX10_feud 0 = .ok (.aload_n 0, 1) := by decide +kernel
theorem dX10_feud_1 : decode cX10_feud 1 = .ok (.iload_n 1, 1) := by decide +kernel
theorem dX10_feud_2 : decode cX10_feud 2 = .ok (.invokevirtual 165, 3) := by decide +kernel
theorem dX10_feud_5 : decode cX10_feud 5 = .ok (.ifCond .eq 11, 3) := by decide +kernel
theorem dX10_feud_8 : decode cX10_feud 8 = .ok (.aload_n 0, 1) := by decide +kernel
theorem dX10_feud_9 : decode cX10_feud 9 = .ok (.iload_n 2, 1) := by decide +kernel
theorem dX10_feud_10 : decode cX10_feud 10 = .ok (.invokevirtual 165, 3) := by decide +kernel
theorem dX10_feud_13 : decode cX10_feud 13 = .ok (.ifCond .ne 8, 3) := by decide +kernel
theorem dX10_feud_16 : decode cX10_feud 16 = .ok (.bipush (-101), 2) := by decide +kernel
theorem dX10_feud_18 : decode cX10_feud 18 = .ok (.goto 22, 3) := by decide +kernel
theorem dX10_feud_21 : decode cX10_feud 21 = .ok (.aload_n 0, 1) := by decide +kernel
theorem dX10_feud_22 : decode cX10_feud 22 = .ok (.getfield 13, 3) := by decide +kernel
theorem dX10_feud_25 : decode cX10_feud 25 = .ok (.bipush 6, 2) := by decide +kernel
theorem dX10_feud_27 : decode cX10_feud 27 = .ok (.iload_n 1, 1) := by decide +kernel
theorem dX10_feud_28 : decode cX10_feud 28 = .ok (.imul, 1) := by decide +kernel
theorem dX10_feud_29 : decode cX10_feud 29 = .ok (.iload_n 2, 1) := by decide +kernel
theorem dX10_feud_30 : decode cX10_feud 30 = .ok (.iadd, 1) := by decide +kernel
theorem dX10_feud_31 : decode cX10_feud 31 = .ok (.baload, 1) := by decide +kernel
theorem dX10_feud_32 : decode cX10_feud 32 = .ok (.ifCond .eq 7, 3) := by decide +kernel
theorem dX10_feud_35 : decode cX10_feud 35 = .ok (.iconst 1, 1) := by decide +kernel
theorem dX10_feud_36 : decode cX10_feud 36 = .ok (.goto 4, 3) := by decide +kernel
theorem dX10_feud_39 : decode cX10_feud 39 = .ok (.iconst 0, 1) := by decide +kernel
theorem dX10_feud_40 : decode cX10_feud 40 = .ok (.ireturn, 1) := by decide +kernel
theorem dX10_touchIn_0 : decode cX10_touchIn 0 = .ok (.iconst 0, 1) := by decide +kernel
theorem dX10_touchIn_1 : decode cX10_touchIn 1 = .ok (.istore_n 2, 1) := by decide +kernel
theorem dX10_touchIn_2 : decode cX10_touchIn 2 = .ok (.iconst 0, 1) := by decide +kernel
theorem dX10_touchIn_3 : decode cX10_touchIn 3 = .ok (.istore_n 3, 1) := by decide +kernel
theorem dX10_touchIn_4 : decode cX10_touchIn 4 = .ok (.iload_n 3, 1) := by decide +kernel
theorem dX10_touchIn_5 : decode cX10_touchIn 5 = .ok (.aload_n 0, 1) := by decide +kernel
theorem dX10_touchIn_6 : decode cX10_touchIn 6 = .ok (.getfield 142, 3) := by decide +kernel
theorem dX10_touchIn_9 : decode cX10_touchIn 9 = .ok (.if_icmp .ge 96, 3) := by decide +kernel
theorem dX10_touchIn_12 : decode cX10_touchIn 12 = .ok (.iload_n 3, 1) := by decide +kernel
theorem dX10_touchIn_13 : decode cX10_touchIn 13 = .ok (.iconst 1, 1) := by decide +kernel
theorem dX10_touchIn_14 : decode cX10_touchIn 14 = .ok (.iadd, 1) := by decide +kernel
theorem dX10_touchIn_15 : decode cX10_touchIn 15 = .ok (.istore 4, 2) := by decide +kernel
theorem dX10_touchIn_17 : decode cX10_touchIn 17 = .ok (.iload 4, 2) := by decide +kernel
theorem dX10_touchIn_19 : decode cX10_touchIn 19 = .ok (.aload_n 0, 1) := by decide +kernel
theorem dX10_touchIn_20 : decode cX10_touchIn 20 = .ok (.getfield 142, 3) := by decide +kernel
theorem dX10_touchIn_23 : decode cX10_touchIn 23 = .ok (.if_icmp .ge 76, 3) := by decide +kernel
theorem dX10_touchIn_26 : decode cX10_touchIn 26 = .ok (.aload_n 0, 1) := by decide +kernel
theorem dX10_touchIn_27 : decode cX10_touchIn 27 = .ok (.getfield 7, 3) := by decide +kernel
theorem dX10_touchIn_30 : decode cX10_touchIn 30 = .ok (.iload_n 3, 1) := by decide +kernel
theorem dX10_touchIn_31 : decode cX10_touchIn 31 = .ok (.iaload, 1) := by decide +kernel
theorem dX10_touchIn_32 : decode cX10_touchIn 32 = .ok (.iconst 2, 1) := by decide +kernel
theorem dX10_touchIn_33 : decode cX10_touchIn 33 = .ok (.if_icmp .eq 18, 3) := by decide +kernel
theorem dX10_touchIn_36 : decode cX10_touchIn 36 = .ok (.aload_n 0, 1) := by decide +kernel
theorem dX10_touchIn_37 : decode cX10_touchIn 37 = .ok (.getfield 7, 3) := by decide +kernel
theorem dX10_touchIn_40 : decode cX10_touchIn 40 = .ok (.iload 4, 2) := by decide +kernel
theorem dX10_touchIn_42 : decode cX10_touchIn 42 = .ok (.iaload, 1) := by decide +kernel
theorem dX10_touchIn_43 : decode cX10_touchIn 43 = .ok (.iconst 2, 1) := by decide +kernel
theorem dX10_touchIn_44 : decode cX10_touchIn 44 = .ok (.if_icmp .eq 7, 3) := by decide +kernel
theorem dX10_touchIn_47 : decode cX10_touchIn 47 = .ok (.iconst 1, 1) := by decide +kernel
theorem dX10_touchIn_48 : decode cX10_touchIn 48 = .ok (.goto 4, 3) := by decide +kernel
theorem dX10_touchIn_51 : decode cX10_touchIn 51 = .ok (.iconst 0, 1) := by decide +kernel
theorem dX10_touchIn_52 : decode cX10_touchIn 52 = .ok (.istore 5, 2) := by decide +kernel
theorem dX10_touchIn_54 : decode cX10_touchIn 54 = .ok (.iload_n 2, 1) := by decide +kernel
theorem dX10_touchIn_55 : decode cX10_touchIn 55 = .ok (.iload 5, 2) := by decide +kernel
theorem dX10_touchIn_57 : decode cX10_touchIn 57 = .ok (.ifCond .eq 33, 3) := by decide +kernel
theorem dX10_touchIn_60 : decode cX10_touchIn 60 = .ok (.aload_n 0, 1) := by decide +kernel
theorem dX10_touchIn_61 : decode cX10_touchIn 61 = .ok (.getfield 13, 3) := by decide +kernel
theorem dX10_touchIn_64 : decode cX10_touchIn 64 = .ok (.bipush 6, 2) := by decide +kernel
theorem dX10_touchIn_66 : decode cX10_touchIn 66 = .ok (.iload_n 3, 1) := by decide +kernel
theorem dX10_touchIn_67 : decode cX10_touchIn 67 = .ok (.imul, 1) := by decide +kernel
theorem dX10_touchIn_68 : decode cX10_touchIn 68 = .ok (.iload 4, 2) := by decide +kernel
theorem dX10_touchIn_70 : decode cX10_touchIn 70 = .ok (.iadd, 1) := by decide +kernel
theorem dX10_touchIn_71 : decode cX10_touchIn 71 = .ok (.baload, 1) := by decide +kernel
theorem dX10_touchIn_72 : decode cX10_touchIn 72 = .ok (.ifCond .eq 18, 3) := by decide +kernel
theorem dX10_touchIn_75 : decode cX10_touchIn 75 = .ok (.aload_n 0, 1) := by decide +kernel
theorem dX10_touchIn_76 : decode cX10_touchIn 76 = .ok (.aload_n 1, 1) := by decide +kernel
theorem dX10_touchIn_77 : decode cX10_touchIn 77 = .ok (.iload_n 3, 1) := by decide +kernel
theorem dX10_touchIn_78 : decode cX10_touchIn 78 = .ok (.iload 4, 2) := by decide +kernel
theorem dX10_touchIn_80 : decode cX10_touchIn 80 = .ok (.invokevirtual 161, 3) := by decide +kernel
theorem dX10_touchIn_83 : decode cX10_touchIn 83 = .ok (.ifCond .eq 7, 3) := by decide +kernel
theorem dX10_touchIn_86 : decode cX10_touchIn 86 = .ok (.iconst 1, 1) := by decide +kernel
theorem dX10_touchIn_87 : decode cX10_touchIn 87 = .ok (.goto 4, 3) := by decide +kernel
theorem dX10_touchIn_90 : decode cX10_touchIn 90 = .ok (.iconst 0, 1) := by decide +kernel
theorem dX10_touchIn_91 : decode cX10_touchIn 91 = .ok (.iadd, 1) := by decide +kernel
theorem dX10_touchIn_92 : decode cX10_touchIn 92 = .ok (.istore_n 2, 1) := by decide +kernel
theorem dX10_touchIn_93 : decode cX10_touchIn 93 = .ok (.iinc 4 1, 3) := by decide +kernel
theorem dX10_touchIn_96 : decode cX10_touchIn 96 = .ok (.goto (-79), 3) := by decide +kernel
theorem dX10_touchIn_99 : decode cX10_touchIn 99 = .ok (.iinc 3 1, 3) := by decide +kernel
theorem dX10_touchIn_102 : decode cX10_touchIn 102 = .ok (.goto (-98), 3) := by decide +kernel
theorem dX10_touchIn_105 : decode cX10_touchIn 105 = .ok (.iload_n 2, 1) := by decide +kernel
theorem dX10_touchIn_106 : decode cX10_touchIn 106 = .ok (.ireturn, 1) := by decide +kernel
theorem dX10_touch_0 : decode cX10_touch 0 = .ok (.aload_n 0, 1) := by decide +kernel
theorem dX10_touch_1 : decode cX10_touch 1 = .ok (.getfield 142, 3) := by decide +kernel
theorem dX10_touch_4 : decode cX10_touch 4 = .ok (.ifCond .ne 8, 3) := by decide +kernel
theorem dX10_touch_7 : decode cX10_touch 7 = .ok (.bipush (-103), 2) := by decide +kernel
theorem dX10_touch_9 : decode cX10_touch 9 = .ok (.goto 11, 3) := by decide +kernel
theorem dX10_touch_12 : decode cX10_touch 12 = .ok (.aload_n 0, 1) := by decide +kernel
theorem dX10_touch_13 : decode cX10_touch 13 = .ok (.aload_n 0, 1) := by decide +kernel
theorem dX10_touch_14 : decode cX10_touch 14 = .ok (.getfield 17, 3) := by decide +kernel
theorem dX10_touch_17 : decode cX10_touch 17 = .ok (.invokevirtual 176, 3) := by decide +kernel
theorem dX10_touch_20 : decode cX10_touch 20 = .ok (.ireturn, 1) := by decide +kernel
theorem dX10_joinsNow_0 : decode cX10_joinsNow 0 = .ok (.iconst 0, 1) := by decide +kernel
theorem dX10_joinsNow_1 : decode cX10_joinsNow 1 = .ok (.istore_n 1, 1) := by decide +kernel
theorem dX10_joinsNow_2 : decode cX10_joinsNow 2 = .ok (.iconst 0, 1) := by decide +kernel
theorem dX10_joinsNow_3 : decode cX10_joinsNow 3 = .ok (.istore_n 2, 1) := by decide +kernel
theorem dX10_joinsNow_4 : decode cX10_joinsNow 4 = .ok (.iload_n 2, 1) := by decide +kernel
theorem dX10_joinsNow_5 : decode cX10_joinsNow 5 = .ok (.aload_n 0, 1) := by decide +kernel
theorem dX10_joinsNow_6 : decode cX10_joinsNow 6 = .ok (.getfield 142, 3) := by decide +kernel
theorem dX10_joinsNow_9 : decode cX10_joinsNow 9 = .ok (.if_icmp .ge 61, 3) := by decide +kernel
theorem dX10_joinsNow_12 : decode cX10_joinsNow 12 = .ok (.iload_n 2, 1) := by decide +kernel
theorem dX10_joinsNow_13 : decode cX10_joinsNow 13 = .ok (.iconst 1, 1) := by decide +kernel
theorem dX10_joinsNow_14 : decode cX10_joinsNow 14 = .ok (.iadd, 1) := by decide +kernel
theorem dX10_joinsNow_15 : decode cX10_joinsNow 15 = .ok (.istore_n 3, 1) := by decide +kernel
theorem dX10_joinsNow_16 : decode cX10_joinsNow 16 = .ok (.iload_n 3, 1) := by decide +kernel
theorem dX10_joinsNow_17 : decode cX10_joinsNow 17 = .ok (.aload_n 0, 1) := by decide +kernel
theorem dX10_joinsNow_18 : decode cX10_joinsNow 18 = .ok (.getfield 142, 3) := by decide +kernel
theorem dX10_joinsNow_21 : decode cX10_joinsNow 21 = .ok (.if_icmp .ge 43, 3) := by decide +kernel
theorem dX10_joinsNow_24 : decode cX10_joinsNow 24 = .ok (.iload_n 1, 1) := by decide +kernel
theorem dX10_joinsNow_25 : decode cX10_joinsNow 25 = .ok (.aload_n 0, 1) := by decide +kernel
theorem dX10_joinsNow_26 : decode cX10_joinsNow 26 = .ok (.aload_n 0, 1) := by decide +kernel
theorem dX10_joinsNow_27 : decode cX10_joinsNow 27 = .ok (.getfield 17, 3) := by decide +kernel
theorem dX10_joinsNow_30 : decode cX10_joinsNow 30 = .ok (.iload_n 2, 1) := by decide +kernel
theorem dX10_joinsNow_31 : decode cX10_joinsNow 31 = .ok (.iload_n 3, 1) := by decide +kernel
theorem dX10_joinsNow_32 : decode cX10_joinsNow 32 = .ok (.invokevirtual 161, 3) := by decide +kernel
theorem dX10_joinsNow_35 : decode cX10_joinsNow 35 = .ok (.ifCond .eq 20, 3) := by decide +kernel
theorem dX10_joinsNow_38 : decode cX10_joinsNow 38 = .ok (.aload_n 0, 1) := by decide +kernel
theorem dX10_joinsNow_39 : decode cX10_joinsNow 39 = .ok (.aload_n 0, 1) := by decide +kernel
theorem dX10_joinsNow_40 : decode cX10_joinsNow 40 = .ok (.getfield 20, 3) := by decide +kernel
theorem dX10_joinsNow_43 : decode cX10_joinsNow 43 = .ok (.iload_n 2, 1) := by decide +kernel
theorem dX10_joinsNow_44 : decode cX10_joinsNow 44 = .ok (.iload_n 3, 1) := by decide +kernel
theorem dX10_joinsNow_45 : decode cX10_joinsNow 45 = .ok (.invokevirtual 161, 3) := by decide +kernel
theorem dX10_joinsNow_48 : decode cX10_joinsNow 48 = .ok (.ifCond .ne 7, 3) := by decide +kernel
theorem dX10_joinsNow_51 : decode cX10_joinsNow 51 = .ok (.iconst 1, 1) := by decide +kernel
theorem dX10_joinsNow_52 : decode cX10_joinsNow 52 = .ok (.goto 4, 3) := by decide +kernel
theorem dX10_joinsNow_55 : decode cX10_joinsNow 55 = .ok (.iconst 0, 1) := by decide +kernel
theorem dX10_joinsNow_56 : decode cX10_joinsNow 56 = .ok (.iadd, 1) := by decide +kernel
theorem dX10_joinsNow_57 : decode cX10_joinsNow 57 = .ok (.istore_n 1, 1) := by decide +kernel
theorem dX10_joinsNow_58 : decode cX10_joinsNow 58 = .ok (.iinc 3 1, 3) := by decide +kernel
theorem dX10_joinsNow_61 : decode cX10_joinsNow 61 = .ok (.goto (-45), 3) := by decide +kernel
theorem dX10_joinsNow_64 : decode cX10_joinsNow 64 = .ok (.iinc 2 1, 3) := by decide +kernel
theorem dX10_joinsNow_67 : decode cX10_joinsNow 67 = .ok (.goto (-63), 3) := by decide +kernel
theorem dX10_joinsNow_70 : decode cX10_joinsNow 70 = .ok (.iload_n 1, 1) := by decide +kernel
theorem dX10_joinsNow_71 : decode cX10_joinsNow 71 = .ok (.ireturn, 1) := by decide +kernel
theorem dX10_joins_0 : decode cX10_joins 0 = .ok (.aload_n 0, 1) := by decide +kernel
theorem dX10_joins_1 : decode cX10_joins 1 = .ok (.getfield 142, 3) := by decide +kernel
theorem dX10_joins_4 : decode cX10_joins 4 = .ok (.ifCond .ne 8, 3) := by decide +kernel
theorem dX10_joins_7 : decode cX10_joins 7 = .ok (.bipush (-103), 2) := by decide +kernel
theorem dX10_joins_9 : decode cX10_joins 9 = .ok (.goto 7, 3) := by decide +kernel
theorem dX10_joins_12 : decode cX10_joins 12 = .ok (.aload_n 0, 1) := by decide +kernel
theorem dX10_joins_13 : decode cX10_joins 13 = .ok (.invokevirtual 180, 3) := by decide +kernel
theorem dX10_joins_16 : decode cX10_joins 16 = .ok (.ireturn, 1) := by decide +kernel
theorem dX10_round_0 : decode cX10_round 0 = .ok (.iload_n 1, 1) := by decide +kernel
theorem dX10_round_1 : decode cX10_round 1 = .ok (.iload_n 2, 1) := by decide +kernel
theorem dX10_round_2 : decode cX10_round 2 = .ok (.if_icmp .ge 9, 3) := by decide +kernel
theorem dX10_round_5 : decode cX10_round 5 = .ok (.iload_n 2, 1) := by decide +kernel
theorem dX10_round_6 : decode cX10_round 6 = .ok (.iload_n 1, 1) := by decide +kernel
theorem dX10_round_7 : decode cX10_round 7 = .ok (.isub, 1) := by decide +kernel
theorem dX10_round_8 : decode cX10_round 8 = .ok (.goto 6, 3) := by decide +kernel
theorem dX10_round_11 : decode cX10_round 11 = .ok (.iload_n 1, 1) := by decide +kernel
theorem dX10_round_12 : decode cX10_round 12 = .ok (.iload_n 2, 1) := by decide +kernel
theorem dX10_round_13 : decode cX10_round 13 = .ok (.isub, 1) := by decide +kernel
theorem dX10_round_14 : decode cX10_round 14 = .ok (.istore_n 3, 1) := by decide +kernel
theorem dX10_round_15 : decode cX10_round 15 = .ok (.iload_n 3, 1) := by decide +kernel
theorem dX10_round_16 : decode cX10_round 16 = .ok (.aload_n 0, 1) := by decide +kernel
theorem dX10_round_17 : decode cX10_round 17 = .ok (.getfield 142, 3) := by decide +kernel
theorem dX10_round_20 : decode cX10_round 20 = .ok (.iload_n 3, 1) := by decide +kernel
theorem dX10_round_21 : decode cX10_round 21 = .ok (.isub, 1) := by decide +kernel
theorem dX10_round_22 : decode cX10_round 22 = .ok (.if_icmp .ge 7, 3) := by decide +kernel
theorem dX10_round_25 : decode cX10_round 25 = .ok (.iload_n 3, 1) := by decide +kernel
theorem dX10_round_26 : decode cX10_round 26 = .ok (.goto 9, 3) := by decide +kernel
theorem dX10_round_29 : decode cX10_round 29 = .ok (.aload_n 0, 1) := by decide +kernel
theorem dX10_round_30 : decode cX10_round 30 = .ok (.getfield 142, 3) := by decide +kernel
theorem dX10_round_33 : decode cX10_round 33 = .ok (.iload_n 3, 1) := by decide +kernel
theorem dX10_round_34 : decode cX10_round 34 = .ok (.isub, 1) := by decide +kernel
theorem dX10_round_35 : decode cX10_round 35 = .ok (.ireturn, 1) := by decide +kernel
theorem dX10_walkOf_0 : decode cX10_walkOf 0 = .ok (.aload_n 0, 1) := by decide +kernel
theorem dX10_walkOf_1 : decode cX10_walkOf 1 = .ok (.aload_n 0, 1) := by decide +kernel
theorem dX10_walkOf_2 : decode cX10_walkOf 2 = .ok (.getfield 20, 3) := by decide +kernel
theorem dX10_walkOf_5 : decode cX10_walkOf 5 = .ok (.iload_n 1, 1) := by decide +kernel
theorem dX10_walkOf_6 : decode cX10_walkOf 6 = .ok (.invokevirtual 157, 3) := by decide +kernel
theorem dX10_walkOf_9 : decode cX10_walkOf 9 = .ok (.istore_n 2, 1) := by decide +kernel
theorem dX10_walkOf_10 : decode cX10_walkOf 10 = .ok (.aload_n 0, 1) := by decide +kernel
theorem dX10_walkOf_11 : decode cX10_walkOf 11 = .ok (.iconst 0, 1) := by decide +kernel
theorem dX10_walkOf_12 : decode cX10_walkOf 12 = .ok (.iload_n 2, 1) := by decide +kernel
theorem dX10_walkOf_13 : decode cX10_walkOf 13 = .ok (.invokevirtual 183, 3) := by decide +kernel
theorem dX10_walkOf_16 : decode cX10_walkOf 16 = .ok (.aload_n 0, 1) := by decide +kernel
theorem dX10_walkOf_17 : decode cX10_walkOf 17 = .ok (.iload_n 2, 1) := by decide +kernel
theorem dX10_walkOf_18 : decode cX10_walkOf 18 = .ok (.aload_n 0, 1) := by decide +kernel
theorem dX10_walkOf_19 : decode cX10_walkOf 19 = .ok (.aload_n 0, 1) := by decide +kernel
theorem dX10_walkOf_20 : decode cX10_walkOf 20 = .ok (.getfield 17, 3) := by decide +kernel
theorem dX10_walkOf_23 : decode cX10_walkOf 23 = .ok (.iload_n 1, 1) := by decide +kernel
theorem dX10_walkOf_24 : decode cX10_walkOf 24 = .ok (.invokevirtual 157, 3) := by decide +kernel
theorem dX10_walkOf_27 : decode cX10_walkOf 27 = .ok (.invokevirtual 183, 3) := by decide +kernel
theorem dX10_walkOf_30 : decode cX10_walkOf 30 = .ok (.iadd, 1) := by decide +kernel
theorem dX10_walkOf_31 : decode cX10_walkOf 31 = .ok (.ireturn, 1) := by decide +kernel
theorem dX10_walk_0 : decode cX10_walk 0 = .ok (.aload_n 0, 1) := by decide +kernel
theorem dX10_walk_1 : decode cX10_walk 1 = .ok (.iload_n 1, 1) := by decide +kernel
theorem dX10_walk_2 : decode cX10_walk 2 = .ok (.invokevirtual 165, 3) := by decide +kernel
theorem dX10_walk_5 : decode cX10_walk 5 = .ok (.ifCond .eq 11, 3) := by decide +kernel
theorem dX10_walk_8 : decode cX10_walk 8 = .ok (.aload_n 0, 1) := by decide +kernel
theorem dX10_walk_9 : decode cX10_walk 9 = .ok (.iload_n 1, 1) := by decide +kernel
theorem dX10_walk_10 : decode cX10_walk 10 = .ok (.invokevirtual 186, 3) := by decide +kernel
theorem dX10_walk_13 : decode cX10_walk 13 = .ok (.goto 5, 3) := by decide +kernel
theorem dX10_walk_16 : decode cX10_walk 16 = .ok (.bipush (-101), 2) := by decide +kernel
theorem dX10_walk_18 : decode cX10_walk 18 = .ok (.ireturn, 1) := by decide +kernel
theorem dX10_code_0 : decode cX10_code 0 = .ok (.iconst 0, 1) := by decide +kernel
theorem dX10_code_1 : decode cX10_code 1 = .ok (.istore_n 2, 1) := by decide +kernel
theorem dX10_code_2 : decode cX10_code 2 = .ok (.iconst 0, 1) := by decide +kernel
theorem dX10_code_3 : decode cX10_code 3 = .ok (.istore_n 3, 1) := by decide +kernel
theorem dX10_code_4 : decode cX10_code 4 = .ok (.iload_n 3, 1) := by decide +kernel
theorem dX10_code_5 : decode cX10_code 5 = .ok (.aload_n 0, 1) := by decide +kernel
theorem dX10_code_6 : decode cX10_code 6 = .ok (.getfield 142, 3) := by decide +kernel
theorem dX10_code_9 : decode cX10_code 9 = .ok (.if_icmp .ge 18, 3) := by decide +kernel
theorem dX10_code_12 : decode cX10_code 12 = .ok (.bipush 6, 2) := by decide +kernel
theorem dX10_code_14 : decode cX10_code 14 = .ok (.iload_n 2, 1) := by decide +kernel
theorem dX10_code_15 : decode cX10_code 15 = .ok (.imul, 1) := by decide +kernel
theorem dX10_code_16 : decode cX10_code 16 = .ok (.aload_n 1, 1) := by decide +kernel
theorem dX10_code_17 : decode cX10_code 17 = .ok (.iload_n 3, 1) := by decide +kernel
theorem dX10_code_18 : decode cX10_code 18 = .ok (.iaload, 1) := by decide +kernel
theorem dX10_code_19 : decode cX10_code 19 = .ok (.iadd, 1) := by decide +kernel
theorem dX10_code_20 : decode cX10_code 20 = .ok (.istore_n 2, 1) := by decide +kernel
theorem dX10_code_21 : decode cX10_code 21 = .ok (.iinc 3 1, 3) := by decide +kernel
theorem dX10_code_24 : decode cX10_code 24 = .ok (.goto (-20), 3) := by decide +kernel
theorem dX10_code_27 : decode cX10_code 27 = .ok (.iload_n 2, 1) := by decide +kernel
theorem dX10_code_28 : decode cX10_code 28 = .ok (.ireturn, 1) := by decide +kernel
theorem dX10_think_0 : decode cX10_think 0 = .ok (.iload_n 1, 1) := by decide +kernel
theorem dX10_think_1 : decode cX10_think 1 = .ok (.istore_n 2, 1) := by decide +kernel
theorem dX10_think_2 : decode cX10_think 2 = .ok (.iconst 0, 1) := by decide +kernel
theorem dX10_think_3 : decode cX10_think 3 = .ok (.istore_n 3, 1) := by decide +kernel
theorem dX10_think_4 : decode cX10_think 4 = .ok (.aload_n 0, 1) := by decide +kernel
theorem dX10_think_5 : decode cX10_think 5 = .ok (.getfield 142, 3) := by decide +kernel
theorem dX10_think_8 : decode cX10_think 8 = .ok (.iconst 1, 1) := by decide +kernel
theorem dX10_think_9 : decode cX10_think 9 = .ok (.isub, 1) := by decide +kernel
theorem dX10_think_10 : decode cX10_think 10 = .ok (.istore 4, 2) := by decide +kernel
theorem dX10_think_12 : decode cX10_think 12 = .ok (.iload 4, 2) := by decide +kernel
theorem dX10_think_14 : decode cX10_think 14 = .ok (.ifCond .lt 37, 3) := by decide +kernel
theorem dX10_think_17 : decode cX10_think 17 = .ok (.aload_n 0, 1) := by decide +kernel
theorem dX10_think_18 : decode cX10_think 18 = .ok (.getfield 59, 3) := by decide +kernel
theorem dX10_think_21 : decode cX10_think 21 = .ok (.iload 4, 2) := by decide +kernel
theorem dX10_think_23 : decode cX10_think 23 = .ok (.iload_n 2, 1) := by decide +kernel
theorem dX10_think_24 : decode cX10_think 24 = .ok (.bipush 6, 2) := by decide +kernel
theorem dX10_think_26 : decode cX10_think 26 = .ok (.irem, 1) := by decide +kernel
theorem dX10_think_27 : decode cX10_think 27 = .ok (.iastore, 1) := by decide +kernel
theorem dX10_think_28 : decode cX10_think 28 = .ok (.iload_n 3, 1) := by decide +kernel
theorem dX10_think_29 : decode cX10_think 29 = .ok (.iconst 1, 1) := by decide +kernel
theorem dX10_think_30 : decode cX10_think 30 = .ok (.aload_n 0, 1) := by decide +kernel
theorem dX10_think_31 : decode cX10_think 31 = .ok (.getfield 59, 3) := by decide +kernel
theorem dX10_think_34 : decode cX10_think 34 = .ok (.iload 4, 2) := by decide +kernel
theorem dX10_think_36 : decode cX10_think 36 = .ok (.iaload, 1) := by decide +kernel
theorem dX10_think_37 : decode cX10_think 37 = .ok (.ishl, 1) := by decide +kernel
theorem dX10_think_38 : decode cX10_think 38 = .ok (.ior, 1) := by decide +kernel
theorem dX10_think_39 : decode cX10_think 39 = .ok (.istore_n 3, 1) := by decide +kernel
theorem dX10_think_40 : decode cX10_think 40 = .ok (.iload_n 2, 1) := by decide +kernel
theorem dX10_think_41 : decode cX10_think 41 = .ok (.bipush 6, 2) := by decide +kernel
theorem dX10_think_43 : decode cX10_think 43 = .ok (.idiv, 1) := by decide +kernel
theorem dX10_think_44 : decode cX10_think 44 = .ok (.istore_n 2, 1) := by decide +kernel
theorem dX10_think_45 : decode cX10_think 45 = .ok (.iinc 4 (-1), 3) := by decide +kernel
theorem dX10_think_48 : decode cX10_think 48 = .ok (.goto (-36), 3) := by decide +kernel
theorem dX10_think_51 : decode cX10_think 51 = .ok (.iload_n 2, 1) := by decide +kernel
theorem dX10_think_52 : decode cX10_think 52 = .ok (.ifCond .ne 19, 3) := by decide +kernel
theorem dX10_think_55 : decode cX10_think 55 = .ok (.iload_n 3, 1) := by decide +kernel
theorem dX10_think_56 : decode cX10_think 56 = .ok (.iconst 1, 1) := by decide +kernel
theorem dX10_think_57 : decode cX10_think 57 = .ok (.aload_n 0, 1) := by decide +kernel
theorem dX10_think_58 : decode cX10_think 58 = .ok (.getfield 142, 3) := by decide +kernel
theorem dX10_think_61 : decode cX10_think 61 = .ok (.ishl, 1) := by decide +kernel
theorem dX10_think_62 : decode cX10_think 62 = .ok (.iconst 1, 1) := by decide +kernel
theorem dX10_think_63 : decode cX10_think 63 = .ok (.isub, 1) := by decide +kernel
theorem dX10_think_64 : decode cX10_think 64 = .ok (.if_icmp .ne 7, 3) := by decide +kernel
theorem dX10_think_67 : decode cX10_think 67 = .ok (.iconst 1, 1) := by decide +kernel
theorem dX10_think_68 : decode cX10_think 68 = .ok (.goto 4, 3) := by decide +kernel
theorem dX10_think_71 : decode cX10_think 71 = .ok (.iconst 0, 1) := by decide +kernel
theorem dX10_think_72 : decode cX10_think 72 = .ok (.ireturn, 1) := by decide +kernel
theorem dX10_layOrders_0 : decode cX10_layOrders 0 = .ok (.aload_n 0, 1) := by decide +kernel
theorem dX10_layOrders_1 : decode cX10_layOrders 1 = .ok (.iconst 0, 1) := by decide +kernel
theorem dX10_layOrders_2 : decode cX10_layOrders 2 = .ok (.putfield 189, 3) := by decide +kernel
theorem dX10_layOrders_5 : decode cX10_layOrders 5 = .ok (.iconst 1, 1) := by decide +kernel
theorem dX10_layOrders_6 : decode cX10_layOrders 6 = .ok (.istore_n 1, 1) := by decide +kernel
theorem dX10_layOrders_7 : decode cX10_layOrders 7 = .ok (.iconst 0, 1) := by decide +kernel
theorem dX10_layOrders_8 : decode cX10_layOrders 8 = .ok (.istore_n 2, 1) := by decide +kernel
theorem dX10_layOrders_9 : decode cX10_layOrders 9 = .ok (.iload_n 2, 1) := by decide +kernel
theorem dX10_layOrders_10 : decode cX10_layOrders 10 = .ok (.aload_n 0, 1) := by decide +kernel
theorem dX10_layOrders_11 : decode cX10_layOrders 11 = .ok (.getfield 142, 3) := by decide +kernel
theorem dX10_layOrders_14 : decode cX10_layOrders 14 = .ok (.if_icmp .ge 14, 3) := by decide +kernel
theorem dX10_layOrders_17 : decode cX10_layOrders 17 = .ok (.iload_n 1, 1) := by decide +kernel
theorem dX10_layOrders_18 : decode cX10_layOrders 18 = .ok (.bipush 6, 2) := by decide +kernel
theorem dX10_layOrders_20 : decode cX10_layOrders 20 = .ok (.imul, 1) := by decide +kernel
theorem dX10_layOrders_21 : decode cX10_layOrders 21 = .ok (.istore_n 1, 1) := by decide +kernel
theorem dX10_layOrders_22 : decode cX10_layOrders 22 = .ok (.iinc 2 1, 3) := by decide +kernel
theorem dX10_layOrders_25 : decode cX10_layOrders 25 = .ok (.goto (-16), 3) := by decide +kernel
theorem dX10_layOrders_28 : decode cX10_layOrders 28 = .ok (.iconst 0, 1) := by decide +kernel
theorem dX10_layOrders_29 : decode cX10_layOrders 29 = .ok (.istore_n 2, 1) := by decide +kernel
theorem dX10_layOrders_30 : decode cX10_layOrders 30 = .ok (.iload_n 2, 1) := by decide +kernel
theorem dX10_layOrders_31 : decode cX10_layOrders 31 = .ok (.iload_n 1, 1) := by decide +kernel
theorem dX10_layOrders_32 : decode cX10_layOrders 32 = .ok (.if_icmp .ge 47, 3) := by decide +kernel
theorem dX10_layOrders_35 : decode cX10_layOrders 35 = .ok (.aload_n 0, 1) := by decide +kernel
theorem dX10_layOrders_36 : decode cX10_layOrders 36 = .ok (.iload_n 2, 1) := by decide +kernel
theorem dX10_layOrders_37 : decode cX10_layOrders 37 = .ok (.invokevirtual 192, 3) := by decide +kernel
theorem dX10_layOrders_40 : decode cX10_layOrders 40 = .ok (.ifCond .eq 33, 3) := by decide +kernel
theorem dX10_layOrders_43 : decode cX10_layOrders 43 = .ok (.aload_n 0, 1) := by decide +kernel
theorem dX10_layOrders_44 : decode cX10_layOrders 44 = .ok (.getfield 49, 3) := by decide +kernel
theorem dX10_layOrders_47 : decode cX10_layOrders 47 = .ok (.aload_n 0, 1) := by decide +kernel
theorem dX10_layOrders_48 : decode cX10_layOrders 48 = .ok (.getfield 189, 3) := by decide +kernel
theorem dX10_layOrders_51 : decode cX10_layOrders 51 = .ok (.iload_n 2, 1) := by decide +kernel
theorem dX10_layOrders_52 : decode cX10_layOrders 52 = .ok (.iastore, 1) := by decide +kernel
theorem dX10_layOrders_53 : decode cX10_layOrders 53 = .ok (.aload_n 0, 1) := by decide +kernel
theorem dX10_layOrders_54 : decode cX10_layOrders 54 = .ok (.getfield 53, 3) := by decide +kernel
theorem dX10_layOrders_57 : decode cX10_layOrders 57 = .ok (.iload_n 2, 1) := by decide +kernel
theorem dX10_layOrders_58 : decode cX10_layOrders 58 = .ok (.aload_n 0, 1) := by decide +kernel
theorem dX10_layOrders_59 : decode cX10_layOrders 59 = .ok (.getfield 189, 3) := by decide +kernel
theorem dX10_layOrders_62 : decode cX10_layOrders 62 = .ok (.iastore, 1) := by decide +kernel
theorem dX10_layOrders_63 : decode cX10_layOrders 63 = .ok (.aload_n 0, 1) := by decide +kernel
theorem dX10_layOrders_64 : decode cX10_layOrders 64 = .ok (.dup, 1) := by decide +kernel
theorem dX10_layOrders_65 : decode cX10_layOrders 65 = .ok (.getfield 189, 3) := by decide +kernel
theorem dX10_layOrders_68 : decode cX10_layOrders 68 = .ok (.iconst 1, 1) := by decide +kernel
theorem dX10_layOrders_69 : decode cX10_layOrders 69 = .ok (.iadd, 1) := by decide +kernel
theorem dX10_layOrders_70 : decode cX10_layOrders 70 = .ok (.putfield 189, 3) := by decide +kernel
theorem dX10_layOrders_73 : decode cX10_layOrders 73 = .ok (.iinc 2 1, 3) := by decide +kernel
theorem dX10_layOrders_76 : decode cX10_layOrders 76 = .ok (.goto (-46), 3) := by decide +kernel
theorem dX10_layOrders_79 : decode cX10_layOrders 79 = .ok (.iconst 0, 1) := by decide +kernel
theorem dX10_layOrders_80 : decode cX10_layOrders 80 = .ok (.istore_n 2, 1) := by decide +kernel
theorem dX10_layOrders_81 : decode cX10_layOrders 81 = .ok (.iload_n 2, 1) := by decide +kernel
theorem dX10_layOrders_82 : decode cX10_layOrders 82 = .ok (.aload_n 0, 1) := by decide +kernel
theorem dX10_layOrders_83 : decode cX10_layOrders 83 = .ok (.getfield 189, 3) := by decide +kernel
theorem dX10_layOrders_86 : decode cX10_layOrders 86 = .ok (.if_icmp .ge 14, 3) := by decide +kernel
theorem dX10_layOrders_89 : decode cX10_layOrders 89 = .ok (.aload_n 0, 1) := by decide +kernel
theorem dX10_layOrders_90 : decode cX10_layOrders 90 = .ok (.iload_n 2, 1) := by decide +kernel
theorem dX10_layOrders_91 : decode cX10_layOrders 91 = .ok (.invokevirtual 195, 3) := by decide +kernel
theorem dX10_layOrders_94 : decode cX10_layOrders 94 = .ok (.iinc 2 1, 3) := by decide +kernel
theorem dX10_layOrders_97 : decode cX10_layOrders 97 = .ok (.goto (-16), 3) := by decide +kernel
theorem dX10_layOrders_100 : decode cX10_layOrders 100 = .ok (.return_, 1) := by decide +kernel
theorem dX10_isStill_0 : decode cX10_isStill 0 = .ok (.aload_n 0, 1) := by decide +kernel
theorem dX10_isStill_1 : decode cX10_isStill 1 = .ok (.getfield 7, 3) := by decide +kernel
theorem dX10_isStill_4 : decode cX10_isStill 4 = .ok (.iload_n 1, 1) := by decide +kernel
theorem dX10_isStill_5 : decode cX10_isStill 5 = .ok (.iaload, 1) := by decide +kernel
theorem dX10_isStill_6 : decode cX10_isStill 6 = .ok (.iconst 1, 1) := by decide +kernel
theorem dX10_isStill_7 : decode cX10_isStill 7 = .ok (.if_icmp .eq 13, 3) := by decide +kernel
theorem dX10_isStill_10 : decode cX10_isStill 10 = .ok (.aload_n 0, 1) := by decide +kernel
theorem dX10_isStill_11 : decode cX10_isStill 11 = .ok (.getfield 7, 3) := by decide +kernel
theorem dX10_isStill_14 : decode cX10_isStill 14 = .ok (.iload_n 1, 1) := by decide +kernel
theorem dX10_isStill_15 : decode cX10_isStill 15 = .ok (.iaload, 1) := by decide +kernel
theorem dX10_isStill_16 : decode cX10_isStill 16 = .ok (.iconst 3, 1) := by decide +kernel
theorem dX10_isStill_17 : decode cX10_isStill 17 = .ok (.if_icmp .ne 7, 3) := by decide +kernel
theorem dX10_isStill_20 : decode cX10_isStill 20 = .ok (.iconst 1, 1) := by decide +kernel
theorem dX10_isStill_21 : decode cX10_isStill 21 = .ok (.goto 4, 3) := by decide +kernel
theorem dX10_isStill_24 : decode cX10_isStill 24 = .ok (.iconst 0, 1) := by decide +kernel
theorem dX10_isStill_25 : decode cX10_isStill 25 = .ok (.ireturn, 1) := by decide +kernel
theorem dX10_changes_0 : decode cX10_changes 0 = .ok (.aload_n 0, 1) := by decide +kernel
theorem dX10_changes_1 : decode cX10_changes 1 = .ok (.aload_n 0, 1) := by decide +kernel
theorem dX10_changes_2 : decode cX10_changes 2 = .ok (.getfield 59, 3) := by decide +kernel
theorem dX10_changes_5 : decode cX10_changes 5 = .ok (.iload_n 1, 1) := by decide +kernel
theorem dX10_changes_6 : decode cX10_changes 6 = .ok (.iaload, 1) := by decide +kernel
theorem dX10_changes_7 : decode cX10_changes 7 = .ok (.invokevirtual 199, 3) := by decide +kernel
theorem dX10_changes_10 : decode cX10_changes 10 = .ok (.ifCond .ne 27, 3) := by decide +kernel
theorem dX10_changes_13 : decode cX10_changes 13 = .ok (.aload_n 0, 1) := by decide +kernel
theorem dX10_changes_14 : decode cX10_changes 14 = .ok (.aload_n 0, 1) := by decide +kernel
theorem dX10_changes_15 : decode cX10_changes 15 = .ok (.getfield 59, 3) := by decide +kernel
theorem dX10_changes_18 : decode cX10_changes 18 = .ok (.iload_n 1, 1) := by decide +kernel
theorem dX10_changes_19 : decode cX10_changes 19 = .ok (.iconst 1, 1) := by decide +kernel
theorem dX10_changes_20 : decode cX10_changes 20 = .ok (.iadd, 1) := by decide +kernel
theorem dX10_changes_21 : decode cX10_changes 21 = .ok (.aload_n 0, 1) := by decide +kernel
theorem dX10_changes_22 : decode cX10_changes 22 = .ok (.getfield 142, 3) := by decide +kernel
theorem dX10_changes_25 : decode cX10_changes 25 = .ok (.irem, 1) := by decide +kernel
theorem dX10_changes_26 : decode cX10_changes 26 = .ok (.iaload, 1) := by decide +kernel
theorem dX10_changes_27 : decode cX10_changes 27 = .ok (.invokevirtual 199, 3) := by decide +kernel
theorem dX10_changes_30 : decode cX10_changes 30 = .ok (.ifCond .ne 7, 3) := by decide +kernel
theorem dX10_changes_33 : decode cX10_changes 33 = .ok (.iconst 1, 1) := by decide +kernel
theorem dX10_changes_34 : decode cX10_changes 34 = .ok (.goto 4, 3) := by decide +kernel
theorem dX10_changes_37 : decode cX10_changes 37 = .ok (.iconst 0, 1) := by decide +kernel
theorem dX10_changes_38 : decode cX10_changes 38 = .ok (.ireturn, 1) := by decide +kernel
theorem dX10_change_0 : decode cX10_change 0 = .ok (.iload_n 1, 1) := by decide +kernel
theorem dX10_change_1 : decode cX10_change 1 = .ok (.iconst 1, 1) := by decide +kernel
theorem dX10_change_2 : decode cX10_change 2 = .ok (.iadd, 1) := by decide +kernel
theorem dX10_change_3 : decode cX10_change 3 = .ok (.aload_n 0, 1) := by decide +kernel
theorem dX10_change_4 : decode cX10_change 4 = .ok (.getfield 142, 3) := by decide +kernel
theorem dX10_change_7 : decode cX10_change 7 = .ok (.irem, 1) := by decide +kernel
theorem dX10_change_8 : decode cX10_change 8 = .ok (.istore_n 2, 1) := by decide +kernel
theorem dX10_change_9 : decode cX10_change 9 = .ok (.aload_n 0, 1) := by decide +kernel
theorem dX10_change_10 : decode cX10_change 10 = .ok (.getfield 59, 3) := by decide +kernel
theorem dX10_change_13 : decode cX10_change 13 = .ok (.iload_n 1, 1) := by decide +kernel
theorem dX10_change_14 : decode cX10_change 14 = .ok (.iaload, 1) := by decide +kernel
theorem dX10_change_15 : decode cX10_change 15 = .ok (.istore_n 3, 1) := by decide +kernel
theorem dX10_change_16 : decode cX10_change 16 = .ok (.aload_n 0, 1) := by decide +kernel
theorem dX10_change_17 : decode cX10_change 17 = .ok (.getfield 59, 3) := by decide +kernel
theorem dX10_change_20 : decode cX10_change 20 = .ok (.iload_n 1, 1) := by decide +kernel
theorem dX10_change_21 : decode cX10_change 21 = .ok (.aload_n 0, 1) := by decide +kernel
theorem dX10_change_22 : decode cX10_change 22 = .ok (.getfield 59, 3) := by decide +kernel
theorem dX10_change_25 : decode cX10_change 25 = .ok (.iload_n 2, 1) := by decide +kernel
theorem dX10_change_26 : decode cX10_change 26 = .ok (.iaload, 1) := by decide +kernel
theorem dX10_change_27 : decode cX10_change 27 = .ok (.iastore, 1) := by decide +kernel
theorem dX10_change_28 : decode cX10_change 28 = .ok (.aload_n 0, 1) := by decide +kernel
theorem dX10_change_29 : decode cX10_change 29 = .ok (.getfield 59, 3) := by decide +kernel
theorem dX10_change_32 : decode cX10_change 32 = .ok (.iload_n 2, 1) := by decide +kernel
theorem dX10_change_33 : decode cX10_change 33 = .ok (.iload_n 3, 1) := by decide +kernel
theorem dX10_change_34 : decode cX10_change 34 = .ok (.iastore, 1) := by decide +kernel
theorem dX10_change_35 : decode cX10_change 35 = .ok (.return_, 1) := by decide +kernel
theorem dX10_behind_0 : decode cX10_behind 0 = .ok (.aload_n 0, 1) := by decide +kernel
theorem dX10_behind_1 : decode cX10_behind 1 = .ok (.getfield 56, 3) := by decide +kernel
theorem dX10_behind_4 : decode cX10_behind 4 = .ok (.bipush 6, 2) := by decide +kernel
theorem dX10_behind_6 : decode cX10_behind 6 = .ok (.iload_n 1, 1) := by decide +kernel
theorem dX10_behind_7 : decode cX10_behind 7 = .ok (.imul, 1) := by decide +kernel
theorem dX10_behind_8 : decode cX10_behind 8 = .ok (.iload_n 2, 1) := by decide +kernel
theorem dX10_behind_9 : decode cX10_behind 9 = .ok (.iadd, 1) := by decide +kernel
theorem dX10_behind_10 : decode cX10_behind 10 = .ok (.iaload, 1) := by decide +kernel
theorem dX10_behind_11 : decode cX10_behind 11 = .ok (.ireturn, 1) := by decide +kernel
theorem dX10_layNext_0 : decode cX10_layNext 0 = .ok (.aload_n 0, 1) := by decide +kernel
theorem dX10_layNext_1 : decode cX10_layNext 1 = .ok (.aload_n 0, 1) := by decide +kernel
theorem dX10_layNext_2 : decode cX10_layNext 2 = .ok (.getfield 49, 3) := by decide +kernel
theorem dX10_layNext_5 : decode cX10_layNext 5 = .ok (.iload_n 1, 1) := by decide +kernel
theorem dX10_layNext_6 : decode cX10_layNext 6 = .ok (.iaload, 1) := by decide +kernel
theorem dX10_layNext_7 : decode cX10_layNext 7 = .ok (.invokevirtual 192, 3) := by decide +kernel
theorem dX10_layNext_10 : decode cX10_layNext 10 = .ok (.pop, 1) := by decide +kernel
theorem dX10_layNext_11 : decode cX10_layNext 11 = .ok (.iconst 0, 1) := by decide +kernel
theorem dX10_layNext_12 : decode cX10_layNext 12 = .ok (.istore_n 2, 1) := by decide +kernel
theorem dX10_layNext_13 : decode cX10_layNext 13 = .ok (.iload_n 2, 1) := by decide +kernel
theorem dX10_layNext_14 : decode cX10_layNext 14 = .ok (.aload_n 0, 1) := by decide +kernel
theorem dX10_layNext_15 : decode cX10_layNext 15 = .ok (.getfield 142, 3) := by decide +kernel
theorem dX10_layNext_18 : decode cX10_layNext 18 = .ok (.if_icmp .ge 57, 3) := by decide +kernel
theorem dX10_layNext_21 : decode cX10_layNext 21 = .ok (.aload_n 0, 1) := by decide +kernel
theorem dX10_layNext_22 : decode cX10_layNext 22 = .ok (.iload_n 2, 1) := by decide +kernel
theorem dX10_layNext_23 : decode cX10_layNext 23 = .ok (.invokevirtual 202, 3) := by decide +kernel
theorem dX10_layNext_26 : decode cX10_layNext 26 = .ok (.istore_n 3, 1) := by decide +kernel
theorem dX10_layNext_27 : decode cX10_layNext 27 = .ok (.iload_n 3, 1) := by decide +kernel
theorem dX10_layNext_28 : decode cX10_layNext 28 = .ok (.ifCond .eq 8, 3) := by decide +kernel
theorem dX10_layNext_31 : decode cX10_layNext 31 = .ok (.aload_n 0, 1) := by decide +kernel
theorem dX10_layNext_32 : decode cX10_layNext 32 = .ok (.iload_n 2, 1) := by decide +kernel
theorem dX10_layNext_33 : decode cX10_layNext 33 = .ok (.invokevirtual 205, 3) := by decide +kernel
theorem dX10_layNext_36 : decode cX10_layNext 36 = .ok (.aload_n 0, 1) := by decide +kernel
theorem dX10_layNext_37 : decode cX10_layNext 37 = .ok (.getfield 56, 3) := by decide +kernel
theorem dX10_layNext_40 : decode cX10_layNext 40 = .ok (.bipush 6, 2) := by decide +kernel
theorem dX10_layNext_42 : decode cX10_layNext 42 = .ok (.iload_n 1, 1) := by decide +kernel
theorem dX10_layNext_43 : decode cX10_layNext 43 = .ok (.imul, 1) := by decide +kernel
theorem dX10_layNext_44 : decode cX10_layNext 44 = .ok (.iload_n 2, 1) := by decide +kernel
theorem dX10_layNext_45 : decode cX10_layNext 45 = .ok (.iadd, 1) := by decide +kernel
theorem dX10_layNext_46 : decode cX10_layNext 46 = .ok (.aload_n 0, 1) := by decide +kernel
theorem dX10_layNext_47 : decode cX10_layNext 47 = .ok (.getfield 53, 3) := by decide +kernel
theorem dX10_layNext_50 : decode cX10_layNext 50 = .ok (.aload_n 0, 1) := by decide +kernel
theorem dX10_layNext_51 : decode cX10_layNext 51 = .ok (.aload_n 0, 1) := by decide +kernel
theorem dX10_layNext_52 : decode cX10_layNext 52 = .ok (.getfield 59, 3) := by decide +kernel
theorem dX10_layNext_55 : decode cX10_layNext 55 = .ok (.invokevirtual 208, 3) := by decide +kernel
theorem dX10_layNext_58 : decode cX10_layNext 58 = .ok (.iaload, 1) := by decide +kernel
theorem dX10_layNext_59 : decode cX10_layNext 59 = .ok (.iastore, 1) := by decide +kernel
theorem dX10_layNext_60 : decode cX10_layNext 60 = .ok (.iload_n 3, 1) := by decide +kernel
theorem dX10_layNext_61 : decode cX10_layNext 61 = .ok (.ifCond .eq 8, 3) := by decide +kernel
theorem dX10_layNext_64 : decode cX10_layNext 64 = .ok (.aload_n 0, 1) := by decide +kernel
theorem dX10_layNext_65 : decode cX10_layNext 65 = .ok (.iload_n 2, 1) := by decide +kernel
theorem dX10_layNext_66 : decode cX10_layNext 66 = .ok (.invokevirtual 205, 3) := by decide +kernel
theorem dX10_layNext_69 : decode cX10_layNext 69 = .ok (.iinc 2 1, 3) := by decide +kernel
theorem dX10_layNext_72 : decode cX10_layNext 72 = .ok (.goto (-59), 3) := by decide +kernel
theorem dX10_layNext_75 : decode cX10_layNext 75 = .ok (.return_, 1) := by decide +kernel
theorem dX10_indexNow_0 : decode cX10_indexNow 0 = .ok (.aload_n 0, 1) := by decide +kernel
theorem dX10_indexNow_1 : decode cX10_indexNow 1 = .ok (.getfield 53, 3) := by decide +kernel
theorem dX10_indexNow_4 : decode cX10_indexNow 4 = .ok (.aload_n 0, 1) := by decide +kernel
theorem dX10_indexNow_5 : decode cX10_indexNow 5 = .ok (.aload_n 0, 1) := by decide +kernel
theorem dX10_indexNow_6 : decode cX10_indexNow 6 = .ok (.getfield 17, 3) := by decide +kernel
theorem dX10_indexNow_9 : decode cX10_indexNow 9 = .ok (.invokevirtual 208, 3) := by decide +kernel
theorem dX10_indexNow_12 : decode cX10_indexNow 12 = .ok (.iaload, 1) := by decide +kernel
theorem dX10_indexNow_13 : decode cX10_indexNow 13 = .ok (.ireturn, 1) := by decide +kernel
theorem dX10_placeBy_0 : decode cX10_placeBy 0 = .ok (.iload_n 1, 1) := by decide +kernel
theorem dX10_placeBy_1 : decode cX10_placeBy 1 = .ok (.iload_n 2, 1) := by decide +kernel
theorem dX10_placeBy_2 : decode cX10_placeBy 2 = .ok (.iadd, 1) := by decide +kernel
theorem dX10_placeBy_3 : decode cX10_placeBy 3 = .ok (.aload_n 0, 1) := by decide +kernel
theorem dX10_placeBy_4 : decode cX10_placeBy 4 = .ok (.getfield 142, 3) := by decide +kernel
theorem dX10_placeBy_7 : decode cX10_placeBy 7 = .ok (.iadd, 1) := by decide +kernel
theorem dX10_placeBy_8 : decode cX10_placeBy 8 = .ok (.aload_n 0, 1) := by decide +kernel
theorem dX10_placeBy_9 : decode cX10_placeBy 9 = .ok (.getfield 142, 3) := by decide +kernel
theorem dX10_placeBy_12 : decode cX10_placeBy 12 = .ok (.irem, 1) := by decide +kernel
theorem dX10_placeBy_13 : decode cX10_placeBy 13 = .ok (.ireturn, 1) := by decide +kernel
theorem dX10_goNight_0 : decode cX10_goNight 0 = .ok (.aload_n 0, 1) := by decide +kernel
theorem dX10_goNight_1 : decode cX10_goNight 1 = .ok (.invokevirtual 211, 3) := by decide +kernel
theorem dX10_goNight_4 : decode cX10_goNight 4 = .ok (.istore_n 3, 1) := by decide +kernel
theorem dX10_goNight_5 : decode cX10_goNight 5 = .ok (.aload_n 0, 1) := by decide +kernel
theorem dX10_goNight_6 : decode cX10_goNight 6 = .ok (.iload_n 3, 1) := by decide +kernel
theorem dX10_goNight_7 : decode cX10_goNight 7 = .ok (.aload_n 0, 1) := by decide +kernel
theorem dX10_goNight_8 : decode cX10_goNight 8 = .ok (.iload_n 1, 1) := by decide +kernel
theorem dX10_goNight_9 : decode cX10_goNight 9 = .ok (.iload_n 2, 1) := by decide +kernel
theorem dX10_goNight_10 : decode cX10_goNight 10 = .ok (.invokevirtual 214, 3) := by decide +kernel
theorem dX10_goNight_13 : decode cX10_goNight 13 = .ok (.invokevirtual 217, 3) := by decide +kernel
theorem dX10_goNight_16 : decode cX10_goNight 16 = .ok (.istore 4, 2) := by decide +kernel
theorem dX10_goNight_18 : decode cX10_goNight 18 = .ok (.iconst 0, 1) := by decide +kernel
theorem dX10_goNight_19 : decode cX10_goNight 19 = .ok (.istore 5, 2) := by decide +kernel
theorem dX10_goNight_21 : decode cX10_goNight 21 = .ok (.iload 5, 2) := by decide +kernel
theorem dX10_goNight_23 : decode cX10_goNight 23 = .ok (.aload_n 0, 1) := by decide +kernel
theorem dX10_goNight_24 : decode cX10_goNight 24 = .ok (.getfield 142, 3) := by decide +kernel
theorem dX10_goNight_27 : decode cX10_goNight 27 = .ok (.if_icmp .ge 23, 3) := by decide +kernel
theorem dX10_goNight_30 : decode cX10_goNight 30 = .ok (.aload_n 0, 1) := by decide +kernel
theorem dX10_goNight_31 : decode cX10_goNight 31 = .ok (.getfield 20, 3) := by decide +kernel
theorem dX10_goNight_34 : decode cX10_goNight 34 = .ok (.iload 5, 2) := by decide +kernel
theorem dX10_goNight_36 : decode cX10_goNight 36 = .ok (.aload_n 0, 1) := by decide +kernel
theorem dX10_goNight_37 : decode cX10_goNight 37 = .ok (.getfield 17, 3) := by decide +kernel
theorem dX10_goNight_40 : decode cX10_goNight 40 = .ok (.iload 5, 2) := by decide +kernel
theorem dX10_goNight_42 : decode cX10_goNight 42 = .ok (.iaload, 1) := by decide +kernel
theorem dX10_goNight_43 : decode cX10_goNight 43 = .ok (.iastore, 1) := by decide +kernel
theorem dX10_goNight_44 : decode cX10_goNight 44 = .ok (.iinc 5 1, 3) := by decide +kernel
theorem dX10_goNight_47 : decode cX10_goNight 47 = .ok (.goto (-26), 3) := by decide +kernel
theorem dX10_goNight_50 : decode cX10_goNight 50 = .ok (.aload_n 0, 1) := by decide +kernel
theorem dX10_goNight_51 : decode cX10_goNight 51 = .ok (.aload_n 0, 1) := by decide +kernel
theorem dX10_goNight_52 : decode cX10_goNight 52 = .ok (.getfield 49, 3) := by decide +kernel
theorem dX10_goNight_55 : decode cX10_goNight 55 = .ok (.iload 4, 2) := by decide +kernel
theorem dX10_goNight_57 : decode cX10_goNight 57 = .ok (.iaload, 1) := by decide +kernel
theorem dX10_goNight_58 : decode cX10_goNight 58 = .ok (.invokevirtual 192, 3) := by decide +kernel
theorem dX10_goNight_61 : decode cX10_goNight 61 = .ok (.pop, 1) := by decide +kernel
theorem dX10_goNight_62 : decode cX10_goNight 62 = .ok (.iconst 0, 1) := by decide +kernel
theorem dX10_goNight_63 : decode cX10_goNight 63 = .ok (.istore 5, 2) := by decide +kernel
theorem dX10_goNight_65 : decode cX10_goNight 65 = .ok (.iload 5, 2) := by decide +kernel
theorem dX10_goNight_67 : decode cX10_goNight 67 = .ok (.aload_n 0, 1) := by decide +kernel
theorem dX10_goNight_68 : decode cX10_goNight 68 = .ok (.getfield 142, 3) := by decide +kernel
theorem dX10_goNight_71 : decode cX10_goNight 71 = .ok (.if_icmp .ge 23, 3) := by decide +kernel
theorem dX10_goNight_74 : decode cX10_goNight 74 = .ok (.aload_n 0, 1) := by decide +kernel
theorem dX10_goNight_75 : decode cX10_goNight 75 = .ok (.getfield 17, 3) := by decide +kernel
theorem dX10_goNight_78 : decode cX10_goNight 78 = .ok (.iload 5, 2) := by decide +kernel
theorem dX10_goNight_80 : decode cX10_goNight 80 = .ok (.aload_n 0, 1) := by decide +kernel
theorem dX10_goNight_81 : decode cX10_goNight 81 = .ok (.getfield 59, 3) := by decide +kernel
theorem dX10_goNight_84 : decode cX10_goNight 84 = .ok (.iload 5, 2) := by decide +kernel
theorem dX10_goNight_86 : decode cX10_goNight 86 = .ok (.iaload, 1) := by decide +kernel
theorem dX10_goNight_87 : decode cX10_goNight 87 = .ok (.iastore, 1) := by decide +kernel
theorem dX10_goNight_88 : decode cX10_goNight 88 = .ok (.iinc 5 1, 3) := by decide +kernel
theorem dX10_goNight_91 : decode cX10_goNight 91 = .ok (.goto (-26), 3) := by decide +kernel
theorem dX10_goNight_94 : decode cX10_goNight 94 = .ok (.aload_n 0, 1) := by decide +kernel
theorem dX10_goNight_95 : decode cX10_goNight 95 = .ok (.dup, 1) := by decide +kernel
theorem dX10_goNight_96 : decode cX10_goNight 96 = .ok (.getfield 145, 3) := by decide +kernel
theorem dX10_goNight_99 : decode cX10_goNight 99 = .ok (.iconst 1, 1) := by decide +kernel
theorem dX10_goNight_100 : decode cX10_goNight 100 = .ok (.iadd, 1) := by decide +kernel
theorem dX10_goNight_101 : decode cX10_goNight 101 = .ok (.putfield 145, 3) := by decide +kernel
theorem dX10_goNight_104 : decode cX10_goNight 104 = .ok (.iload 4, 2) := by decide +kernel
theorem dX10_goNight_106 : decode cX10_goNight 106 = .ok (.iload_n 3, 1) := by decide +kernel
theorem dX10_goNight_107 : decode cX10_goNight 107 = .ok (.if_icmp .ne 7, 3) := by decide +kernel
theorem dX10_goNight_110 : decode cX10_goNight 110 = .ok (.iconst 0, 1) := by decide +kernel
theorem dX10_goNight_111 : decode cX10_goNight 111 = .ok (.goto 4, 3) := by decide +kernel
theorem dX10_goNight_114 : decode cX10_goNight 114 = .ok (.iconst 1, 1) := by decide +kernel
theorem dX10_goNight_115 : decode cX10_goNight 115 = .ok (.ireturn, 1) := by decide +kernel
theorem dX10_night_0 : decode cX10_night 0 = .ok (.aload_n 0, 1) := by decide +kernel
theorem dX10_night_1 : decode cX10_night 1 = .ok (.iload_n 1, 1) := by decide +kernel
theorem dX10_night_2 : decode cX10_night 2 = .ok (.invokevirtual 165, 3) := by decide +kernel
theorem dX10_night_5 : decode cX10_night 5 = .ok (.ifCond .ne 6, 3) := by decide +kernel
theorem dX10_night_8 : decode cX10_night 8 = .ok (.bipush (-101), 2) := by decide +kernel
theorem dX10_night_10 : decode cX10_night 10 = .ok (.ireturn, 1) := by decide +kernel
theorem dX10_night_11 : decode cX10_night 11 = .ok (.iload_n 2, 1) := by decide +kernel
theorem dX10_night_12 : decode cX10_night 12 = .ok (.iconst (-1), 1) := by decide +kernel
theorem dX10_night_13 : decode cX10_night 13 = .ok (.iconst 1, 1) := by decide +kernel
theorem dX10_night_14 : decode cX10_night 14 = .ok (.invokestatic 96, 3) := by decide +kernel
theorem dX10_night_17 : decode cX10_night 17 = .ok (.ifCond .eq 12, 3) := by decide +kernel
theorem dX10_night_20 : decode cX10_night 20 = .ok (.aload_n 0, 1) := by decide +kernel
theorem dX10_night_21 : decode cX10_night 21 = .ok (.iload_n 1, 1) := by decide +kernel
theorem dX10_night_22 : decode cX10_night 22 = .ok (.iload_n 2, 1) := by decide +kernel
theorem dX10_night_23 : decode cX10_night 23 = .ok (.invokevirtual 220, 3) := by decide +kernel
theorem dX10_night_26 : decode cX10_night 26 = .ok (.goto 5, 3) := by decide +kernel
theorem dX10_night_29 : decode cX10_night 29 = .ok (.bipush (-102), 2) := by decide +kernel
theorem dX10_night_31 : decode cX10_night 31 = .ok (.ireturn, 1) := by decide +kernel
theorem dX10_bestFor_0 : decode cX10_bestFor 0 = .ok (.iconst 0, 1) := by decide +kernel
theorem dX10_bestFor_1 : decode cX10_bestFor 1 = .ok (.istore_n 3, 1) := by decide +kernel
theorem dX10_bestFor_2 : decode cX10_bestFor 2 = .ok (.iconst (-1), 1) := by decide +kernel
theorem dX10_bestFor_3 : decode cX10_bestFor 3 = .ok (.istore 4, 2) := by decide +kernel
theorem dX10_bestFor_5 : decode cX10_bestFor 5 = .ok (.iload 4, 2) := by decide +kernel
theorem dX10_bestFor_7 : decode cX10_bestFor 7 = .ok (.iconst 2, 1) := by decide +kernel
theorem dX10_bestFor_8 : decode cX10_bestFor 8 = .ok (.if_icmp .ge 41, 3) := by decide +kernel
theorem dX10_bestFor_11 : decode cX10_bestFor 11 = .ok (.aload_n 0, 1) := by decide +kernel
theorem dX10_bestFor_12 : decode cX10_bestFor 12 = .ok (.getfield 62, 3) := by decide +kernel
theorem dX10_bestFor_15 : decode cX10_bestFor 15 = .ok (.aload_n 0, 1) := by decide +kernel
theorem dX10_bestFor_16 : decode cX10_bestFor 16 = .ok (.iload_n 1, 1) := by decide +kernel
theorem dX10_bestFor_17 : decode cX10_bestFor 17 = .ok (.aload_n 0, 1) := by decide +kernel
theorem dX10_bestFor_18 : decode cX10_bestFor 18 = .ok (.iload_n 2, 1) := by decide +kernel
theorem dX10_bestFor_19 : decode cX10_bestFor 19 = .ok (.iload 4, 2) := by decide +kernel
theorem dX10_bestFor_21 : decode cX10_bestFor 21 = .ok (.invokevirtual 214, 3) := by decide +kernel
theorem dX10_bestFor_24 : decode cX10_bestFor 24 = .ok (.invokevirtual 217, 3) := by decide +kernel
theorem dX10_bestFor_27 : decode cX10_bestFor 27 = .ok (.iaload, 1) := by decide +kernel
theorem dX10_bestFor_28 : decode cX10_bestFor 28 = .ok (.istore 5, 2) := by decide +kernel
theorem dX10_bestFor_30 : decode cX10_bestFor 30 = .ok (.iload 5, 2) := by decide +kernel
theorem dX10_bestFor_32 : decode cX10_bestFor 32 = .ok (.iload_n 3, 1) := by decide +kernel
theorem dX10_bestFor_33 : decode cX10_bestFor 33 = .ok (.if_icmp .le 8, 3) := by decide +kernel
theorem dX10_bestFor_36 : decode cX10_bestFor 36 = .ok (.iload 5, 2) := by decide +kernel
theorem dX10_bestFor_38 : decode cX10_bestFor 38 = .ok (.goto 4, 3) := by decide +kernel
theorem dX10_bestFor_41 : decode cX10_bestFor 41 = .ok (.iload_n 3, 1) := by decide +kernel
theorem dX10_bestFor_42 : decode cX10_bestFor 42 = .ok (.istore_n 3, 1) := by decide +kernel
theorem dX10_bestFor_43 : decode cX10_bestFor 43 = .ok (.iinc 4 1, 3) := by decide +kernel
theorem dX10_bestFor_46 : decode cX10_bestFor 46 = .ok (.goto (-41), 3) := by decide +kernel
theorem dX10_bestFor_49 : decode cX10_bestFor 49 = .ok (.iload_n 3, 1) := by decide +kernel
theorem dX10_bestFor_50 : decode cX10_bestFor 50 = .ok (.ireturn, 1) := by decide +kernel
theorem dX10_layApart_0 : decode cX10_layApart 0 = .ok (.iconst 0, 1) := by decide +kernel
theorem dX10_layApart_1 : decode cX10_layApart 1 = .ok (.istore_n 2, 1) := by decide +kernel
theorem dX10_layApart_2 : decode cX10_layApart 2 = .ok (.iload_n 2, 1) := by decide +kernel
theorem dX10_layApart_3 : decode cX10_layApart 3 = .ok (.aload_n 0, 1) := by decide +kernel
theorem dX10_layApart_4 : decode cX10_layApart 4 = .ok (.getfield 189, 3) := by decide +kernel
theorem dX10_layApart_7 : decode cX10_layApart 7 = .ok (.if_icmp .ge 42, 3) := by decide +kernel
theorem dX10_layApart_10 : decode cX10_layApart 10 = .ok (.aload_n 0, 1) := by decide +kernel
theorem dX10_layApart_11 : decode cX10_layApart 11 = .ok (.aload_n 0, 1) := by decide +kernel
theorem dX10_layApart_12 : decode cX10_layApart 12 = .ok (.getfield 49, 3) := by decide +kernel
theorem dX10_layApart_15 : decode cX10_layApart 15 = .ok (.iload_n 2, 1) := by decide +kernel
theorem dX10_layApart_16 : decode cX10_layApart 16 = .ok (.iaload, 1) := by decide +kernel
theorem dX10_layApart_17 : decode cX10_layApart 17 = .ok (.invokevirtual 192, 3) := by decide +kernel
theorem dX10_layApart_20 : decode cX10_layApart 20 = .ok (.pop, 1) := by decide +kernel
theorem dX10_layApart_21 : decode cX10_layApart 21 = .ok (.aload_n 0, 1) := by decide +kernel
theorem dX10_layApart_22 : decode cX10_layApart 22 = .ok (.getfield 62, 3) := by decide +kernel
theorem dX10_layApart_25 : decode cX10_layApart 25 = .ok (.iload_n 2, 1) := by decide +kernel
theorem dX10_layApart_26 : decode cX10_layApart 26 = .ok (.aload_n 0, 1) := by decide +kernel
theorem dX10_layApart_27 : decode cX10_layApart 27 = .ok (.aload_n 0, 1) := by decide +kernel
theorem dX10_layApart_28 : decode cX10_layApart 28 = .ok (.getfield 59, 3) := by decide +kernel
theorem dX10_layApart_31 : decode cX10_layApart 31 = .ok (.invokevirtual 176, 3) := by decide +kernel
theorem dX10_layApart_34 : decode cX10_layApart 34 = .ok (.ifCond .ne 7, 3) := by decide +kernel
theorem dX10_layApart_37 : decode cX10_layApart 37 = .ok (.iconst 1, 1) := by decide +kernel
theorem dX10_layApart_38 : decode cX10_layApart 38 = .ok (.goto 4, 3) := by decide +kernel
theorem dX10_layApart_41 : decode cX10_layApart 41 = .ok (.iconst 0, 1) := by decide +kernel
theorem dX10_layApart_42 : decode cX10_layApart 42 = .ok (.iastore, 1) := by decide +kernel
theorem dX10_layApart_43 : decode cX10_layApart 43 = .ok (.iinc 2 1, 3) := by decide +kernel
theorem dX10_layApart_46 : decode cX10_layApart 46 = .ok (.goto (-44), 3) := by decide +kernel
theorem dX10_layApart_49 : decode cX10_layApart 49 = .ok (.iconst 0, 1) := by decide +kernel
theorem dX10_layApart_50 : decode cX10_layApart 50 = .ok (.istore_n 2, 1) := by decide +kernel
theorem dX10_layApart_51 : decode cX10_layApart 51 = .ok (.iload_n 2, 1) := by decide +kernel
theorem dX10_layApart_52 : decode cX10_layApart 52 = .ok (.iload_n 1, 1) := by decide +kernel
theorem dX10_layApart_53 : decode cX10_layApart 53 = .ok (.if_icmp .ge 128, 3) := by decide +kernel
theorem dX10_layApart_56 : decode cX10_layApart 56 = .ok (.iconst 0, 1) := by decide +kernel
theorem dX10_layApart_57 : decode cX10_layApart 57 = .ok (.istore_n 3, 1) := by decide +kernel
theorem dX10_layApart_58 : decode cX10_layApart 58 = .ok (.iload_n 3, 1) := by decide +kernel
theorem dX10_layApart_59 : decode cX10_layApart 59 = .ok (.aload_n 0, 1) := by decide +kernel
theorem dX10_layApart_60 : decode cX10_layApart 60 = .ok (.getfield 189, 3) := by decide +kernel
theorem dX10_layApart_63 : decode cX10_layApart 63 = .ok (.if_icmp .ge 84, 3) := by decide +kernel
theorem dX10_layApart_66 : decode cX10_layApart 66 = .ok (.aload_n 0, 1) := by decide +kernel
theorem dX10_layApart_67 : decode cX10_layApart 67 = .ok (.getfield 65, 3) := by decide +kernel
theorem dX10_layApart_70 : decode cX10_layApart 70 = .ok (.iload_n 3, 1) := by decide +kernel
theorem dX10_layApart_71 : decode cX10_layApart 71 = .ok (.iconst 0, 1) := by decide +kernel
theorem dX10_layApart_72 : decode cX10_layApart 72 = .ok (.iastore, 1) := by decide +kernel
theorem dX10_layApart_73 : decode cX10_layApart 73 = .ok (.aload_n 0, 1) := by decide +kernel
theorem dX10_layApart_74 : decode cX10_layApart 74 = .ok (.aload_n 0, 1) := by decide +kernel
theorem dX10_layApart_75 : decode cX10_layApart 75 = .ok (.getfield 49, 3) := by decide +kernel
theorem dX10_layApart_78 : decode cX10_layApart 78 = .ok (.iload_n 3, 1) := by decide +kernel
theorem dX10_layApart_79 : decode cX10_layApart 79 = .ok (.iaload, 1) := by decide +kernel
theorem dX10_layApart_80 : decode cX10_layApart 80 = .ok (.invokevirtual 192, 3) := by decide +kernel
theorem dX10_layApart_83 : decode cX10_layApart 83 = .ok (.pop, 1) := by decide +kernel
theorem dX10_layApart_84 : decode cX10_layApart 84 = .ok (.aload_n 0, 1) := by decide +kernel
theorem dX10_layApart_85 : decode cX10_layApart 85 = .ok (.aload_n 0, 1) := by decide +kernel
theorem dX10_layApart_86 : decode cX10_layApart 86 = .ok (.getfield 59, 3) := by decide +kernel
theorem dX10_layApart_89 : decode cX10_layApart 89 = .ok (.invokevirtual 176, 3) := by decide +kernel
theorem dX10_layApart_92 : decode cX10_layApart 92 = .ok (.ifCond .ne 7, 3) := by decide +kernel
theorem dX10_layApart_95 : decode cX10_layApart 95 = .ok (.iconst 1, 1) := by decide +kernel
theorem dX10_layApart_96 : decode cX10_layApart 96 = .ok (.goto 4, 3) := by decide +kernel
theorem dX10_layApart_99 : decode cX10_layApart 99 = .ok (.iconst 0, 1) := by decide +kernel
theorem dX10_layApart_100 : decode cX10_layApart 100 = .ok (.istore 4, 2) := by decide +kernel
theorem dX10_layApart_102 : decode cX10_layApart 102 = .ok (.iconst 0, 1) := by decide +kernel
theorem dX10_layApart_103 : decode cX10_layApart 103 = .ok (.istore 5, 2) := by decide +kernel
theorem dX10_layApart_105 : decode cX10_layApart 105 = .ok (.iload 5, 2) := by decide +kernel
theorem dX10_layApart_107 : decode cX10_layApart 107 = .ok (.aload_n 0, 1) := by decide +kernel
theorem dX10_layApart_108 : decode cX10_layApart 108 = .ok (.getfield 142, 3) := by decide +kernel
theorem dX10_layApart_111 : decode cX10_layApart 111 = .ok (.if_icmp .ge 30, 3) := by decide +kernel
theorem dX10_layApart_114 : decode cX10_layApart 114 = .ok (.iload 4, 2) := by decide +kernel
theorem dX10_layApart_116 : decode cX10_layApart 116 = .ok (.ifCond .eq 25, 3) := by decide +kernel
theorem dX10_layApart_119 : decode cX10_layApart 119 = .ok (.aload_n 0, 1) := by decide +kernel
theorem dX10_layApart_120 : decode cX10_layApart 120 = .ok (.getfield 65, 3) := by decide +kernel
theorem dX10_layApart_123 : decode cX10_layApart 123 = .ok (.iload_n 3, 1) := by decide +kernel
theorem dX10_layApart_124 : decode cX10_layApart 124 = .ok (.dup2, 1) := by decide +kernel
theorem dX10_layApart_125 : decode cX10_layApart 125 = .ok (.iaload, 1) := by decide +kernel
theorem dX10_layApart_126 : decode cX10_layApart 126 = .ok (.aload_n 0, 1) := by decide +kernel
theorem dX10_layApart_127 : decode cX10_layApart 127 = .ok (.iload_n 3, 1) := by decide +kernel
theorem dX10_layApart_128 : decode cX10_layApart 128 = .ok (.iload 5, 2) := by decide +kernel
theorem dX10_layApart_130 : decode cX10_layApart 130 = .ok (.invokevirtual 223, 3) := by decide +kernel
theorem dX10_layApart_133 : decode cX10_layApart 133 = .ok (.iadd, 1) := by decide +kernel
theorem dX10_layApart_134 : decode cX10_layApart 134 = .ok (.iastore, 1) := by decide +kernel
theorem dX10_layApart_135 : decode cX10_layApart 135 = .ok (.iinc 5 1, 3) := by decide +kernel
theorem dX10_layApart_138 : decode cX10_layApart 138 = .ok (.goto (-33), 3) := by decide +kernel
theorem dX10_layApart_141 : decode cX10_layApart 141 = .ok (.iinc 3 1, 3) := by decide +kernel
theorem dX10_layApart_144 : decode cX10_layApart 144 = .ok (.goto (-86), 3) := by decide +kernel
theorem dX10_layApart_147 : decode cX10_layApart 147 = .ok (.iconst 0, 1) := by decide +kernel
theorem dX10_layApart_148 : decode cX10_layApart 148 = .ok (.istore_n 3, 1) := by decide +kernel
theorem dX10_layApart_149 : decode cX10_layApart 149 = .ok (.iload_n 3, 1) := by decide +kernel
theorem dX10_layApart_150 : decode cX10_layApart 150 = .ok (.aload_n 0, 1) := by decide +kernel
theorem dX10_layApart_151 : decode cX10_layApart 151 = .ok (.getfield 189, 3) := by decide +kernel
theorem dX10_layApart_154 : decode cX10_layApart 154 = .ok (.if_icmp .ge 21, 3) := by decide +kernel
theorem dX10_layApart_157 : decode cX10_layApart 157 = .ok (.aload_n 0, 1) := by decide +kernel
theorem dX10_layApart_158 : decode cX10_layApart 158 = .ok (.getfield 62, 3) := by decide +kernel
theorem dX10_layApart_161 : decode cX10_layApart 161 = .ok (.iload_n 3, 1) := by decide +kernel
theorem dX10_layApart_162 : decode cX10_layApart 162 = .ok (.aload_n 0, 1) := by decide +kernel
theorem dX10_layApart_163 : decode cX10_layApart 163 = .ok (.getfield 65, 3) := by decide +kernel
theorem dX10_layApart_166 : decode cX10_layApart 166 = .ok (.iload_n 3, 1) := by decide +kernel
theorem dX10_layApart_167 : decode cX10_layApart 167 = .ok (.iaload, 1) := by decide +kernel
theorem dX10_layApart_168 : decode cX10_layApart 168 = .ok (.iastore, 1) := by decide +kernel
theorem dX10_layApart_169 : decode cX10_layApart 169 = .ok (.iinc 3 1, 3) := by decide +kernel
theorem dX10_layApart_172 : decode cX10_layApart 172 = .ok (.goto (-23), 3) := by decide +kernel
theorem dX10_layApart_175 : decode cX10_layApart 175 = .ok (.iinc 2 1, 3) := by decide +kernel
theorem dX10_layApart_178 : decode cX10_layApart 178 = .ok (.goto (-127), 3) := by decide +kernel
theorem dX10_layApart_181 : decode cX10_layApart 181 = .ok (.return_, 1) := by decide +kernel
theorem dX10_lowest_0 : decode cX10_lowest 0 = .ok (.iload_n 0, 1) := by decide +kernel
theorem dX10_lowest_1 : decode cX10_lowest 1 = .ok (.istore_n 3, 1) := by decide +kernel
theorem dX10_lowest_2 : decode cX10_lowest 2 = .ok (.iload_n 1, 1) := by decide +kernel
theorem dX10_lowest_3 : decode cX10_lowest 3 = .ok (.istore 4, 2) := by decide +kernel
theorem dX10_lowest_5 : decode cX10_lowest 5 = .ok (.iload 4, 2) := by decide +kernel
theorem dX10_lowest_7 : decode cX10_lowest 7 = .ok (.ifCond .eq 19, 3) := by decide +kernel
theorem dX10_lowest_10 : decode cX10_lowest 10 = .ok (.iload_n 3, 1) := by decide +kernel
theorem dX10_lowest_11 : decode cX10_lowest 11 = .ok (.iload 4, 2) := by decide +kernel
theorem dX10_lowest_13 : decode cX10_lowest 13 = .ok (.irem, 1) := by decide +kernel
theorem dX10_lowest_14 : decode cX10_lowest 14 = .ok (.istore 5, 2) := by decide +kernel
theorem dX10_lowest_16 : decode cX10_lowest 16 = .ok (.iload 4, 2) := by decide +kernel
theorem dX10_lowest_18 : decode cX10_lowest 18 = .ok (.istore_n 3, 1) := by decide +kernel
theorem dX10_lowest_19 : decode cX10_lowest 19 = .ok (.iload 5, 2) := by decide +kernel
theorem dX10_lowest_21 : decode cX10_lowest 21 = .ok (.istore 4, 2) := by decide +kernel
theorem dX10_lowest_23 : decode cX10_lowest 23 = .ok (.goto (-18), 3) := by decide +kernel
theorem dX10_lowest_26 : decode cX10_lowest 26 = .ok (.iload_n 2, 1) := by decide +kernel
theorem dX10_lowest_27 : decode cX10_lowest 27 = .ok (.ifCond .ne 9, 3) := by decide +kernel
theorem dX10_lowest_30 : decode cX10_lowest 30 = .ok (.iload_n 0, 1) := by decide +kernel
theorem dX10_lowest_31 : decode cX10_lowest 31 = .ok (.iload_n 3, 1) := by decide +kernel
theorem dX10_lowest_32 : decode cX10_lowest 32 = .ok (.idiv, 1) := by decide +kernel
theorem dX10_lowest_33 : decode cX10_lowest 33 = .ok (.goto 6, 3) := by decide +kernel
theorem dX10_lowest_36 : decode cX10_lowest 36 = .ok (.iload_n 1, 1) := by decide +kernel
theorem dX10_lowest_37 : decode cX10_lowest 37 = .ok (.iload_n 3, 1) := by decide +kernel
theorem dX10_lowest_38 : decode cX10_lowest 38 = .ok (.idiv, 1) := by decide +kernel
theorem dX10_lowest_39 : decode cX10_lowest 39 = .ok (.ireturn, 1) := by decide +kernel
theorem dX10_whole_0 : decode cX10_whole 0 = .ok (.iconst 1, 1) := by decide +kernel
theorem dX10_whole_1 : decode cX10_whole 1 = .ok (.istore_n 2, 1) := by decide +kernel
theorem dX10_whole_2 : decode cX10_whole 2 = .ok (.iconst 0, 1) := by decide +kernel
theorem dX10_whole_3 : decode cX10_whole 3 = .ok (.istore_n 3, 1) := by decide +kernel
theorem dX10_whole_4 : decode cX10_whole 4 = .ok (.iload_n 3, 1) := by decide +kernel
theorem dX10_whole_5 : decode cX10_whole 5 = .ok (.iload_n 1, 1) := by decide +kernel
theorem dX10_whole_6 : decode cX10_whole 6 = .ok (.if_icmp .ge 16, 3) := by decide +kernel
theorem dX10_whole_9 : decode cX10_whole 9 = .ok (.iload_n 2, 1) := by decide +kernel
theorem dX10_whole_10 : decode cX10_whole 10 = .ok (.aload_n 0, 1) := by decide +kernel
theorem dX10_whole_11 : decode cX10_whole 11 = .ok (.getfield 142, 3) := by decide +kernel
theorem dX10_whole_14 : decode cX10_whole 14 = .ok (.imul, 1) := by decide +kernel
theorem dX10_whole_15 : decode cX10_whole 15 = .ok (.istore_n 2, 1) := by decide +kernel
theorem dX10_whole_16 : decode cX10_whole 16 = .ok (.iinc 3 1, 3) := by decide +kernel
theorem dX10_whole_19 : decode cX10_whole 19 = .ok (.goto (-15), 3) := by decide +kernel
theorem dX10_whole_22 : decode cX10_whole 22 = .ok (.iload_n 2, 1) := by decide +kernel
theorem dX10_whole_23 : decode cX10_whole 23 = .ok (.ireturn, 1) := by decide +kernel
theorem dX10_apartOf_0 : decode cX10_apartOf 0 = .ok (.aload_n 0, 1) := by decide +kernel
theorem dX10_apartOf_1 : decode cX10_apartOf 1 = .ok (.iload_n 1, 1) := by decide +kernel
theorem dX10_apartOf_2 : decode cX10_apartOf 2 = .ok (.invokevirtual 226, 3) := by decide +kernel
theorem dX10_apartOf_5 : decode cX10_apartOf 5 = .ok (.aload_n 0, 1) := by decide +kernel
theorem dX10_apartOf_6 : decode cX10_apartOf 6 = .ok (.getfield 62, 3) := by decide +kernel
theorem dX10_apartOf_9 : decode cX10_apartOf 9 = .ok (.aload_n 0, 1) := by decide +kernel
theorem dX10_apartOf_10 : decode cX10_apartOf 10 = .ok (.invokevirtual 211, 3) := by decide +kernel
theorem dX10_apartOf_13 : decode cX10_apartOf 13 = .ok (.iaload, 1) := by decide +kernel
theorem dX10_apartOf_14 : decode cX10_apartOf 14 = .ok (.aload_n 0, 1) := by decide +kernel
theorem dX10_apartOf_15 : decode cX10_apartOf 15 = .ok (.iload_n 1, 1) := by decide +kernel
theorem dX10_apartOf_16 : decode cX10_apartOf 16 = .ok (.invokevirtual 229, 3) := by decide +kernel
theorem dX10_apartOf_19 : decode cX10_apartOf 19 = .ok (.iload_n 2, 1) := by decide +kernel
theorem dX10_apartOf_20 : decode cX10_apartOf 20 = .ok (.invokestatic 232, 3) := by decide +kernel
theorem dX10_apartOf_23 : decode cX10_apartOf 23 = .ok (.ireturn, 1) := by decide +kernel
theorem dX10_apart_0 : decode cX10_apart 0 = .ok (.aload_n 0, 1) := by decide +kernel
theorem dX10_apart_1 : decode cX10_apart 1 = .ok (.getfield 142, 3) := by decide +kernel
theorem dX10_apart_4 : decode cX10_apart 4 = .ok (.ifCond .ne 6, 3) := by decide +kernel
theorem dX10_apart_7 : decode cX10_apart 7 = .ok (.bipush (-103), 2) := by decide +kernel
theorem dX10_apart_9 : decode cX10_apart 9 = .ok (.ireturn, 1) := by decide +kernel
theorem dX10_apart_10 : decode cX10_apart 10 = .ok (.iload_n 1, 1) := by decide +kernel
theorem dX10_apart_11 : decode cX10_apart 11 = .ok (.iconst 0, 1) := by decide +kernel
theorem dX10_apart_12 : decode cX10_apart 12 = .ok (.iconst 5, 1) := by decide +kernel
theorem dX10_apart_13 : decode cX10_apart 13 = .ok (.invokestatic 96, 3) := by decide +kernel
theorem dX10_apart_16 : decode cX10_apart 16 = .ok (.ifCond .eq 21, 3) := by decide +kernel
theorem dX10_apart_19 : decode cX10_apart 19 = .ok (.iload_n 2, 1) := by decide +kernel
theorem dX10_apart_20 : decode cX10_apart 20 = .ok (.iconst 0, 1) := by decide +kernel
theorem dX10_apart_21 : decode cX10_apart 21 = .ok (.iconst 1, 1) := by decide +kernel
theorem dX10_apart_22 : decode cX10_apart 22 = .ok (.invokestatic 96, 3) := by decide +kernel
theorem dX10_apart_25 : decode cX10_apart 25 = .ok (.ifCond .eq 12, 3) := by decide +kernel
theorem dX10_apart_28 : decode cX10_apart 28 = .ok (.aload_n 0, 1) := by decide +kernel
theorem dX10_apart_29 : decode cX10_apart 29 = .ok (.iload_n 1, 1) := by decide +kernel
theorem dX10_apart_30 : decode cX10_apart 30 = .ok (.iload_n 2, 1) := by decide +kernel
theorem dX10_apart_31 : decode cX10_apart 31 = .ok (.invokevirtual 236, 3) := by decide +kernel
theorem dX10_apart_34 : decode cX10_apart 34 = .ok (.goto 5, 3) := by decide +kernel
theorem dX10_apart_37 : decode cX10_apart 37 = .ok (.bipush (-102), 2) := by decide +kernel
theorem dX10_apart_39 : decode cX10_apart 39 = .ok (.ireturn, 1) := by decide +kernel
theorem dX10_chooseOf_0 : decode cX10_chooseOf 0 = .ok (.aload_n 0, 1) := by decide +kernel
theorem dX10_chooseOf_1 : decode cX10_chooseOf 1 = .ok (.iload_n 2, 1) := by decide +kernel
theorem dX10_chooseOf_2 : decode cX10_chooseOf 2 = .ok (.iconst 1, 1) := by decide +kernel
theorem dX10_chooseOf_3 : decode cX10_chooseOf 3 = .ok (.isub, 1) := by decide +kernel
theorem dX10_chooseOf_4 : decode cX10_chooseOf 4 = .ok (.invokevirtual 226, 3) := by decide +kernel
theorem dX10_chooseOf_7 : decode cX10_chooseOf 7 = .ok (.iconst (-1), 1) := by decide +kernel
theorem dX10_chooseOf_8 : decode cX10_chooseOf 8 = .ok (.istore_n 3, 1) := by decide +kernel
theorem dX10_chooseOf_9 : decode cX10_chooseOf 9 = .ok (.iconst 0, 1) := by decide +kernel
theorem dX10_chooseOf_10 : decode cX10_chooseOf 10 = .ok (.istore 4, 2) := by decide +kernel
theorem dX10_chooseOf_12 : decode cX10_chooseOf 12 = .ok (.iload 4, 2) := by decide +kernel
theorem dX10_chooseOf_14 : decode cX10_chooseOf 14 = .ok (.iconst 2, 1) := by decide +kernel
theorem dX10_chooseOf_15 : decode cX10_chooseOf 15 = .ok (.if_icmp .ge 62, 3) := by decide +kernel
theorem dX10_chooseOf_18 : decode cX10_chooseOf 18 = .ok (.aload_n 0, 1) := by decide +kernel
theorem dX10_chooseOf_19 : decode cX10_chooseOf 19 = .ok (.getfield 62, 3) := by decide +kernel
theorem dX10_chooseOf_22 : decode cX10_chooseOf 22 = .ok (.aload_n 0, 1) := by decide +kernel
theorem dX10_chooseOf_23 : decode cX10_chooseOf 23 = .ok (.aload_n 0, 1) := by decide +kernel
theorem dX10_chooseOf_24 : decode cX10_chooseOf 24 = .ok (.invokevirtual 211, 3) := by decide +kernel
theorem dX10_chooseOf_27 : decode cX10_chooseOf 27 = .ok (.aload_n 0, 1) := by decide +kernel
theorem dX10_chooseOf_28 : decode cX10_chooseOf 28 = .ok (.iload_n 1, 1) := by decide +kernel
theorem dX10_chooseOf_29 : decode cX10_chooseOf 29 = .ok (.iload 4, 2) := by decide +kernel
theorem dX10_chooseOf_31 : decode cX10_chooseOf 31 = .ok (.invokevirtual 214, 3) := by decide +kernel
theorem dX10_chooseOf_34 : decode cX10_chooseOf 34 = .ok (.invokevirtual 217, 3) := by decide +kernel
theorem dX10_chooseOf_37 : decode cX10_chooseOf 37 = .ok (.iaload, 1) := by decide +kernel
theorem dX10_chooseOf_38 : decode cX10_chooseOf 38 = .ok (.istore 5, 2) := by decide +kernel
theorem dX10_chooseOf_40 : decode cX10_chooseOf 40 = .ok (.iload 5, 2) := by decide +kernel
theorem dX10_chooseOf_42 : decode cX10_chooseOf 42 = .ok (.aload_n 0, 1) := by decide +kernel
theorem dX10_chooseOf_43 : decode cX10_chooseOf 43 = .ok (.getfield 62, 3) := by decide +kernel
theorem dX10_chooseOf_46 : decode cX10_chooseOf 46 = .ok (.aload_n 0, 1) := by decide +kernel
theorem dX10_chooseOf_47 : decode cX10_chooseOf 47 = .ok (.aload_n 0, 1) := by decide +kernel
theorem dX10_chooseOf_48 : decode cX10_chooseOf 48 = .ok (.invokevirtual 211, 3) := by decide +kernel
theorem dX10_chooseOf_51 : decode cX10_chooseOf 51 = .ok (.aload_n 0, 1) := by decide +kernel
theorem dX10_chooseOf_52 : decode cX10_chooseOf 52 = .ok (.iload_n 1, 1) := by decide +kernel
theorem dX10_chooseOf_53 : decode cX10_chooseOf 53 = .ok (.iload_n 3, 1) := by decide +kernel
theorem dX10_chooseOf_54 : decode cX10_chooseOf 54 = .ok (.invokevirtual 214, 3) := by decide +kernel
theorem dX10_chooseOf_57 : decode cX10_chooseOf 57 = .ok (.invokevirtual 217, 3) := by decide +kernel
theorem dX10_chooseOf_60 : decode cX10_chooseOf 60 = .ok (.iaload, 1) := by decide +kernel
theorem dX10_chooseOf_61 : decode cX10_chooseOf 61 = .ok (.if_icmp .le 8, 3) := by decide +kernel
theorem dX10_chooseOf_64 : decode cX10_chooseOf 64 = .ok (.iload 4, 2) := by decide +kernel
theorem dX10_chooseOf_66 : decode cX10_chooseOf 66 = .ok (.goto 4, 3) := by decide +kernel
theorem dX10_chooseOf_69 : decode cX10_chooseOf 69 = .ok (.iload_n 3, 1) := by decide +kernel
theorem dX10_chooseOf_70 : decode cX10_chooseOf 70 = .ok (.istore_n 3, 1) := by decide +kernel
theorem dX10_chooseOf_71 : decode cX10_chooseOf 71 = .ok (.iinc 4 1, 3) := by decide +kernel
theorem dX10_chooseOf_74 : decode cX10_chooseOf 74 = .ok (.goto (-62), 3) := by decide +kernel
theorem dX10_chooseOf_77 : decode cX10_chooseOf 77 = .ok (.iload_n 3, 1) := by decide +kernel
theorem dX10_chooseOf_78 : decode cX10_chooseOf 78 = .ok (.ireturn, 1) := by decide +kernel
theorem dX10_choose_0 : decode cX10_choose 0 = .ok (.aload_n 0, 1) := by decide +kernel
theorem dX10_choose_1 : decode cX10_choose 1 = .ok (.iload_n 1, 1) := by decide +kernel
theorem dX10_choose_2 : decode cX10_choose 2 = .ok (.invokevirtual 165, 3) := by decide +kernel
theorem dX10_choose_5 : decode cX10_choose 5 = .ok (.ifCond .ne 6, 3) := by decide +kernel
theorem dX10_choose_8 : decode cX10_choose 8 = .ok (.bipush (-101), 2) := by decide +kernel
theorem dX10_choose_10 : decode cX10_choose 10 = .ok (.ireturn, 1) := by decide +kernel
theorem dX10_choose_11 : decode cX10_choose 11 = .ok (.iload_n 2, 1) := by decide +kernel
theorem dX10_choose_12 : decode cX10_choose 12 = .ok (.iconst 1, 1) := by decide +kernel
theorem dX10_choose_13 : decode cX10_choose 13 = .ok (.iconst 5, 1) := by decide +kernel
theorem dX10_choose_14 : decode cX10_choose 14 = .ok (.invokestatic 96, 3) := by decide +kernel
theorem dX10_choose_17 : decode cX10_choose 17 = .ok (.ifCond .eq 12, 3) := by decide +kernel
theorem dX10_choose_20 : decode cX10_choose 20 = .ok (.aload_n 0, 1) := by decide +kernel
theorem dX10_choose_21 : decode cX10_choose 21 = .ok (.iload_n 1, 1) := by decide +kernel
theorem dX10_choose_22 : decode cX10_choose 22 = .ok (.iload_n 2, 1) := by decide +kernel
theorem dX10_choose_23 : decode cX10_choose 23 = .ok (.invokevirtual 239, 3) := by decide +kernel
theorem dX10_choose_26 : decode cX10_choose 26 = .ok (.goto 5, 3) := by decide +kernel
theorem dX10_choose_29 : decode cX10_choose 29 = .ok (.bipush (-102), 2) := by decide +kernel
theorem dX10_choose_31 : decode cX10_choose 31 = .ok (.ireturn, 1) := by decide +kernel
theorem dX10_draw_0 : decode cX10_draw 0 = .ok (.aload_n 0, 1) := by decide +kernel
theorem dX10_draw_1 : decode cX10_draw 1 = .ok (.ldc2_w 242, 3) := by decide +kernel
theorem dX10_draw_4 : decode cX10_draw 4 = .ok (.aload_n 0, 1) := by decide +kernel
theorem dX10_draw_5 : decode cX10_draw 5 = .ok (.getfield 26, 3) := by decide +kernel
theorem dX10_draw_8 : decode cX10_draw 8 = .ok (.lmul, 1) := by decide +kernel
theorem dX10_draw_9 : decode cX10_draw 9 = .ok (.ldc2_w 244, 3) := by decide +kernel
theorem dX10_draw_12 : decode cX10_draw 12 = .ok (.ladd, 1) := by decide +kernel
theorem dX10_draw_13 : decode cX10_draw 13 = .ok (.ldc2_w 246, 3) := by decide +kernel
theorem dX10_draw_16 : decode cX10_draw 16 = .ok (.land, 1) := by decide +kernel
theorem dX10_draw_17 : decode cX10_draw 17 = .ok (.putfield 26, 3) := by decide +kernel
theorem dX10_draw_20 : decode cX10_draw 20 = .ok (.aload_n 0, 1) := by decide +kernel
theorem dX10_draw_21 : decode cX10_draw 21 = .ok (.getfield 26, 3) := by decide +kernel
theorem dX10_draw_24 : decode cX10_draw 24 = .ok (.ldc2_w 248, 3) := by decide +kernel
theorem dX10_draw_27 : decode cX10_draw 27 = .ok (.ldiv, 1) := by decide +kernel
theorem dX10_draw_28 : decode cX10_draw 28 = .ok (.aload_n 0, 1) := by decide +kernel
theorem dX10_draw_29 : decode cX10_draw 29 = .ok (.getfield 142, 3) := by decide +kernel
theorem dX10_draw_32 : decode cX10_draw 32 = .ok (.i2l, 1) := by decide +kernel
theorem dX10_draw_33 : decode cX10_draw 33 = .ok (.lrem, 1) := by decide +kernel
theorem dX10_draw_34 : decode cX10_draw 34 = .ok (.l2i, 1) := by decide +kernel
theorem dX10_draw_35 : decode cX10_draw 35 = .ok (.ireturn, 1) := by decide +kernel
theorem dX10_nights_0 : decode cX10_nights 0 = .ok (.aload_n 0, 1) := by decide +kernel
theorem dX10_nights_1 : decode cX10_nights 1 = .ok (.getfield 142, 3) := by decide +kernel
theorem dX10_nights_4 : decode cX10_nights 4 = .ok (.ifCond .ne 6, 3) := by decide +kernel
theorem dX10_nights_7 : decode cX10_nights 7 = .ok (.bipush (-103), 2) := by decide +kernel
theorem dX10_nights_9 : decode cX10_nights 9 = .ok (.ireturn, 1) := by decide +kernel
theorem dX10_nights_10 : decode cX10_nights 10 = .ok (.iload_n 1, 1) := by decide +kernel
theorem dX10_nights_11 : decode cX10_nights 11 = .ok (.iconst 1, 1) := by decide +kernel
theorem dX10_nights_12 : decode cX10_nights 12 = .ok (.bipush 60, 2) := by decide +kernel
theorem dX10_nights_14 : decode cX10_nights 14 = .ok (.invokestatic 96, 3) := by decide +kernel
theorem dX10_nights_17 : decode cX10_nights 17 = .ok (.ifCond .eq 12, 3) := by decide +kernel
theorem dX10_nights_20 : decode cX10_nights 20 = .ok (.iload_n 2, 1) := by decide +kernel
theorem dX10_nights_21 : decode cX10_nights 21 = .ok (.iconst 0, 1) := by decide +kernel
theorem dX10_nights_22 : decode cX10_nights 22 = .ok (.iconst 1, 1) := by decide +kernel
theorem dX10_nights_23 : decode cX10_nights 23 = .ok (.invokestatic 96, 3) := by decide +kernel
theorem dX10_nights_26 : decode cX10_nights 26 = .ok (.ifCond .ne 6, 3) := by decide +kernel
theorem dX10_nights_29 : decode cX10_nights 29 = .ok (.bipush (-102), 2) := by decide +kernel
theorem dX10_nights_31 : decode cX10_nights 31 = .ok (.ireturn, 1) := by decide +kernel
theorem dX10_nights_32 : decode cX10_nights 32 = .ok (.iconst 0, 1) := by decide +kernel
theorem dX10_nights_33 : decode cX10_nights 33 = .ok (.istore_n 3, 1) := by decide +kernel
theorem dX10_nights_34 : decode cX10_nights 34 = .ok (.iconst 0, 1) := by decide +kernel
theorem dX10_nights_35 : decode cX10_nights 35 = .ok (.istore 4, 2) := by decide +kernel
theorem dX10_nights_37 : decode cX10_nights 37 = .ok (.iload 4, 2) := by decide +kernel
theorem dX10_nights_39 : decode cX10_nights 39 = .ok (.iload_n 1, 1) := by decide +kernel
theorem dX10_nights_40 : decode cX10_nights 40 = .ok (.if_icmp .ge 56, 3) := by decide +kernel
theorem dX10_nights_43 : decode cX10_nights 43 = .ok (.aload_n 0, 1) := by decide +kernel
theorem dX10_nights_44 : decode cX10_nights 44 = .ok (.invokevirtual 250, 3) := by decide +kernel
theorem dX10_nights_47 : decode cX10_nights 47 = .ok (.istore 5, 2) := by decide +kernel
theorem dX10_nights_49 : decode cX10_nights 49 = .ok (.aload_n 0, 1) := by decide +kernel
theorem dX10_nights_50 : decode cX10_nights 50 = .ok (.iload 5, 2) := by decide +kernel
theorem dX10_nights_52 : decode cX10_nights 52 = .ok (.iload_n 2, 1) := by decide +kernel
theorem dX10_nights_53 : decode cX10_nights 53 = .ok (.ifCond .ne 7, 3) := by decide +kernel
theorem dX10_nights_56 : decode cX10_nights 56 = .ok (.iconst 0, 1) := by decide +kernel
theorem dX10_nights_57 : decode cX10_nights 57 = .ok (.goto 10, 3) := by decide +kernel
theorem dX10_nights_60 : decode cX10_nights 60 = .ok (.aload_n 0, 1) := by decide +kernel
theorem dX10_nights_61 : decode cX10_nights 61 = .ok (.iload 5, 2) := by decide +kernel
theorem dX10_nights_63 : decode cX10_nights 63 = .ok (.iconst 2, 1) := by decide +kernel
theorem dX10_nights_64 : decode cX10_nights 64 = .ok (.invokevirtual 239, 3) := by decide +kernel
theorem dX10_nights_67 : decode cX10_nights 67 = .ok (.invokevirtual 220, 3) := by decide +kernel
theorem dX10_nights_70 : decode cX10_nights 70 = .ok (.pop, 1) := by decide +kernel
theorem dX10_nights_71 : decode cX10_nights 71 = .ok (.iload_n 3, 1) := by decide +kernel
theorem dX10_nights_72 : decode cX10_nights 72 = .ok (.aload_n 0, 1) := by decide +kernel
theorem dX10_nights_73 : decode cX10_nights 73 = .ok (.aload_n 0, 1) := by decide +kernel
theorem dX10_nights_74 : decode cX10_nights 74 = .ok (.getfield 17, 3) := by decide +kernel
theorem dX10_nights_77 : decode cX10_nights 77 = .ok (.invokevirtual 176, 3) := by decide +kernel
theorem dX10_nights_80 : decode cX10_nights 80 = .ok (.ifCond .le 7, 3) := by decide +kernel
theorem dX10_nights_83 : decode cX10_nights 83 = .ok (.iconst 1, 1) := by decide +kernel
theorem dX10_nights_84 : decode cX10_nights 84 = .ok (.goto 4, 3) := by decide +kernel
theorem dX10_nights_87 : decode cX10_nights 87 = .ok (.iconst 0, 1) := by decide +kernel
theorem dX10_nights_88 : decode cX10_nights 88 = .ok (.iadd, 1) := by decide +kernel
theorem dX10_nights_89 : decode cX10_nights 89 = .ok (.istore_n 3, 1) := by decide +kernel
theorem dX10_nights_90 : decode cX10_nights 90 = .ok (.iinc 4 1, 3) := by decide +kernel
theorem dX10_nights_93 : decode cX10_nights 93 = .ok (.goto (-56), 3) := by decide +kernel
theorem dX10_nights_96 : decode cX10_nights 96 = .ok (.iload_n 3, 1) := by decide +kernel
theorem dX10_nights_97 : decode cX10_nights 97 = .ok (.ireturn, 1) := by decide +kernel
theorem dX10_seed_0 : decode cX10_seed 0 = .ok (.iload_n 1, 1) := by decide +kernel
theorem dX10_seed_1 : decode cX10_seed 1 = .ok (.ifCond .ge 6, 3) := by decide +kernel
theorem dX10_seed_4 : decode cX10_seed 4 = .ok (.bipush (-102), 2) := by decide +kernel
theorem dX10_seed_6 : decode cX10_seed 6 = .ok (.ireturn, 1) := by decide +kernel
theorem dX10_seed_7 : decode cX10_seed 7 = .ok (.aload_n 0, 1) := by decide +kernel
theorem dX10_seed_8 : decode cX10_seed 8 = .ok (.getfield 26, 3) := by decide +kernel
theorem dX10_seed_11 : decode cX10_seed 11 = .ok (.l2i, 1) := by decide +kernel
theorem dX10_seed_12 : decode cX10_seed 12 = .ok (.istore_n 2, 1) := by decide +kernel
theorem dX10_seed_13 : decode cX10_seed 13 = .ok (.aload_n 0, 1) := by decide +kernel
theorem dX10_seed_14 : decode cX10_seed 14 = .ok (.iload_n 1, 1) := by decide +kernel
theorem dX10_seed_15 : decode cX10_seed 15 = .ok (.i2l, 1) := by decide +kernel
theorem dX10_seed_16 : decode cX10_seed 16 = .ok (.putfield 26, 3) := by decide +kernel
theorem dX10_seed_19 : decode cX10_seed 19 = .ok (.iload_n 2, 1) := by decide +kernel
theorem dX10_seed_20 : decode cX10_seed 20 = .ok (.ireturn, 1) := by decide +kernel
theorem dX10_fewestNow_0 : decode cX10_fewestNow 0 = .ok (.iconst 0, 1) := by decide +kernel
theorem dX10_fewestNow_1 : decode cX10_fewestNow 1 = .ok (.istore_n 1, 1) := by decide +kernel
theorem dX10_fewestNow_2 : decode cX10_fewestNow 2 = .ok (.iload_n 1, 1) := by decide +kernel
theorem dX10_fewestNow_3 : decode cX10_fewestNow 3 = .ok (.aload_n 0, 1) := by decide +kernel
theorem dX10_fewestNow_4 : decode cX10_fewestNow 4 = .ok (.getfield 189, 3) := by decide +kernel
theorem dX10_fewestNow_7 : decode cX10_fewestNow 7 = .ok (.if_icmp .ge 17, 3) := by decide +kernel
theorem dX10_fewestNow_10 : decode cX10_fewestNow 10 = .ok (.aload_n 0, 1) := by decide +kernel
theorem dX10_fewestNow_11 : decode cX10_fewestNow 11 = .ok (.getfield 68, 3) := by decide +kernel
theorem dX10_fewestNow_14 : decode cX10_fewestNow 14 = .ok (.iload_n 1, 1) := by decide +kernel
theorem dX10_fewestNow_15 : decode cX10_fewestNow 15 = .ok (.ldc 253, 2) := by decide +kernel
theorem dX10_fewestNow_17 : decode cX10_fewestNow 17 = .ok (.iastore, 1) := by decide +kernel
theorem dX10_fewestNow_18 : decode cX10_fewestNow 18 = .ok (.iinc 1 1, 3) := by decide +kernel
theorem dX10_fewestNow_21 : decode cX10_fewestNow 21 = .ok (.goto (-19), 3) := by decide +kernel
theorem dX10_fewestNow_24 : decode cX10_fewestNow 24 = .ok (.aload_n 0, 1) := by decide +kernel
theorem dX10_fewestNow_25 : decode cX10_fewestNow 25 = .ok (.getfield 68, 3) := by decide +kernel
theorem dX10_fewestNow_28 : decode cX10_fewestNow 28 = .ok (.aload_n 0, 1) := by decide +kernel
theorem dX10_fewestNow_29 : decode cX10_fewestNow 29 = .ok (.invokevirtual 211, 3) := by decide +kernel
theorem dX10_fewestNow_32 : decode cX10_fewestNow 32 = .ok (.iconst 0, 1) := by decide +kernel
theorem dX10_fewestNow_33 : decode cX10_fewestNow 33 = .ok (.iastore, 1) := by decide +kernel
theorem dX10_fewestNow_34 : decode cX10_fewestNow 34 = .ok (.aload_n 0, 1) := by decide +kernel
theorem dX10_fewestNow_35 : decode cX10_fewestNow 35 = .ok (.getfield 71, 3) := by decide +kernel
theorem dX10_fewestNow_38 : decode cX10_fewestNow 38 = .ok (.iconst 0, 1) := by decide +kernel
theorem dX10_fewestNow_39 : decode cX10_fewestNow 39 = .ok (.aload_n 0, 1) := by decide +kernel
theorem dX10_fewestNow_40 : decode cX10_fewestNow 40 = .ok (.invokevirtual 211, 3) := by decide +kernel
theorem dX10_fewestNow_43 : decode cX10_fewestNow 43 = .ok (.iastore, 1) := by decide +kernel
theorem dX10_fewestNow_44 : decode cX10_fewestNow 44 = .ok (.iconst 1, 1) := by decide +kernel
theorem dX10_fewestNow_45 : decode cX10_fewestNow 45 = .ok (.istore_n 1, 1) := by decide +kernel
theorem dX10_fewestNow_46 : decode cX10_fewestNow 46 = .ok (.iconst 0, 1) := by decide +kernel
theorem dX10_fewestNow_47 : decode cX10_fewestNow 47 = .ok (.istore_n 2, 1) := by decide +kernel
theorem dX10_fewestNow_48 : decode cX10_fewestNow 48 = .ok (.iload_n 2, 1) := by decide +kernel
theorem dX10_fewestNow_49 : decode cX10_fewestNow 49 = .ok (.iload_n 1, 1) := by decide +kernel
theorem dX10_fewestNow_50 : decode cX10_fewestNow 50 = .ok (.if_icmp .ge 81, 3) := by decide +kernel
theorem dX10_fewestNow_53 : decode cX10_fewestNow 53 = .ok (.iconst 0, 1) := by decide +kernel
theorem dX10_fewestNow_54 : decode cX10_fewestNow 54 = .ok (.istore_n 3, 1) := by decide +kernel
theorem dX10_fewestNow_55 : decode cX10_fewestNow 55 = .ok (.iload_n 3, 1) := by decide +kernel
theorem dX10_fewestNow_56 : decode cX10_fewestNow 56 = .ok (.aload_n 0, 1) := by decide +kernel
theorem dX10_fewestNow_57 : decode cX10_fewestNow 57 = .ok (.getfield 142, 3) := by decide +kernel
theorem dX10_fewestNow_60 : decode cX10_fewestNow 60 = .ok (.if_icmp .ge 65, 3) := by decide +kernel
theorem dX10_fewestNow_63 : decode cX10_fewestNow 63 = .ok (.aload_n 0, 1) := by decide +kernel
theorem dX10_fewestNow_64 : decode cX10_fewestNow 64 = .ok (.aload_n 0, 1) := by decide +kernel
theorem dX10_fewestNow_65 : decode cX10_fewestNow 65 = .ok (.getfield 71, 3) := by decide +kernel
theorem dX10_fewestNow_68 : decode cX10_fewestNow 68 = .ok (.iload_n 2, 1) := by decide +kernel
theorem dX10_fewestNow_69 : decode cX10_fewestNow 69 = .ok (.iaload, 1) := by decide +kernel
theorem dX10_fewestNow_70 : decode cX10_fewestNow 70 = .ok (.iload_n 3, 1) := by decide +kernel
theorem dX10_fewestNow_71 : decode cX10_fewestNow 71 = .ok (.invokevirtual 217, 3) := by decide +kernel
theorem dX10_fewestNow_74 : decode cX10_fewestNow 74 = .ok (.istore 4, 2) := by decide +kernel
theorem dX10_fewestNow_76 : decode cX10_fewestNow 76 = .ok (.aload_n 0, 1) := by decide +kernel
theorem dX10_fewestNow_77 : decode cX10_fewestNow 77 = .ok (.getfield 68, 3) := by decide +kernel
theorem dX10_fewestNow_80 : decode cX10_fewestNow 80 = .ok (.iload 4, 2) := by decide +kernel
theorem dX10_fewestNow_82 : decode cX10_fewestNow 82 = .ok (.iaload, 1) := by decide +kernel
theorem dX10_fewestNow_83 : decode cX10_fewestNow 83 = .ok (.ldc 253, 2) := by decide +kernel
theorem dX10_fewestNow_85 : decode cX10_fewestNow 85 = .ok (.if_icmp .ne 34, 3) := by decide +kernel
theorem dX10_fewestNow_88 : decode cX10_fewestNow 88 = .ok (.aload_n 0, 1) := by decide +kernel
theorem dX10_fewestNow_89 : decode cX10_fewestNow 89 = .ok (.getfield 68, 3) := by decide +kernel
theorem dX10_fewestNow_92 : decode cX10_fewestNow 92 = .ok (.iload 4, 2) := by decide +kernel
theorem dX10_fewestNow_94 : decode cX10_fewestNow 94 = .ok (.aload_n 0, 1) := by decide +kernel
theorem dX10_fewestNow_95 : decode cX10_fewestNow 95 = .ok (.getfield 68, 3) := by decide +kernel
theorem dX10_fewestNow_98 : decode cX10_fewestNow 98 = .ok (.aload_n 0, 1) := by decide +kernel
theorem dX10_fewestNow_99 : decode cX10_fewestNow 99 = .ok (.getfield 71, 3) := by decide +kernel
theorem dX10_fewestNow_102 : decode cX10_fewestNow 102 = .ok (.iload_n 2, 1) := by decide +kernel
theorem dX10_fewestNow_103 : decode cX10_fewestNow 103 = .ok (.iaload, 1) := by decide +kernel
theorem dX10_fewestNow_104 : decode cX10_fewestNow 104 = .ok (.iaload, 1) := by decide +kernel
theorem dX10_fewestNow_105 : decode cX10_fewestNow 105 = .ok (.iconst 1, 1) := by decide +kernel
theorem dX10_fewestNow_106 : decode cX10_fewestNow 106 = .ok (.iadd, 1) := by decide +kernel
theorem dX10_fewestNow_107 : decode cX10_fewestNow 107 = .ok (.iastore, 1) := by decide +kernel
theorem dX10_fewestNow_108 : decode cX10_fewestNow 108 = .ok (.aload_n 0, 1) := by decide +kernel
theorem dX10_fewestNow_109 : decode cX10_fewestNow 109 = .ok (.getfield 71, 3) := by decide +kernel
theorem dX10_fewestNow_112 : decode cX10_fewestNow 112 = .ok (.iload_n 1, 1) := by decide +kernel
theorem dX10_fewestNow_113 : decode cX10_fewestNow 113 = .ok (.iload 4, 2) := by decide +kernel
theorem dX10_fewestNow_115 : decode cX10_fewestNow 115 = .ok (.iastore, 1) := by decide +kernel
theorem dX10_fewestNow_116 : decode cX10_fewestNow 116 = .ok (.iinc 1 1, 3) := by decide +kernel
theorem dX10_fewestNow_119 : decode cX10_fewestNow 119 = .ok (.iinc 3 1, 3) := by decide +kernel
theorem dX10_fewestNow_122 : decode cX10_fewestNow 122 = .ok (.goto (-67), 3) := by decide +kernel
theorem dX10_fewestNow_125 : decode cX10_fewestNow 125 = .ok (.iinc 2 1, 3) := by decide +kernel
theorem dX10_fewestNow_128 : decode cX10_fewestNow 128 = .ok (.goto (-80), 3) := by decide +kernel
theorem dX10_fewestNow_131 : decode cX10_fewestNow 131 = .ok (.aload_n 0, 1) := by decide +kernel
theorem dX10_fewestNow_132 : decode cX10_fewestNow 132 = .ok (.getfield 68, 3) := by decide +kernel
theorem dX10_fewestNow_135 : decode cX10_fewestNow 135 = .ok (.aload_n 0, 1) := by decide +kernel
theorem dX10_fewestNow_136 : decode cX10_fewestNow 136 = .ok (.getfield 53, 3) := by decide +kernel
theorem dX10_fewestNow_139 : decode cX10_fewestNow 139 = .ok (.aload_n 0, 1) := by decide +kernel
theorem dX10_fewestNow_140 : decode cX10_fewestNow 140 = .ok (.aload_n 0, 1) := by decide +kernel
theorem dX10_fewestNow_141 : decode cX10_fewestNow 141 = .ok (.getfield 23, 3) := by decide +kernel
theorem dX10_fewestNow_144 : decode cX10_fewestNow 144 = .ok (.invokevirtual 208, 3) := by decide +kernel
theorem dX10_fewestNow_147 : decode cX10_fewestNow 147 = .ok (.iaload, 1) := by decide +kernel
theorem dX10_fewestNow_148 : decode cX10_fewestNow 148 = .ok (.iaload, 1) := by decide +kernel
theorem dX10_fewestNow_149 : decode cX10_fewestNow 149 = .ok (.istore_n 2, 1) := by decide +kernel
theorem dX10_fewestNow_150 : decode cX10_fewestNow 150 = .ok (.iload_n 2, 1) := by decide +kernel
theorem dX10_fewestNow_151 : decode cX10_fewestNow 151 = .ok (.ldc 253, 2) := by decide +kernel
theorem dX10_fewestNow_153 : decode cX10_fewestNow 153 = .ok (.if_icmp .ne 7, 3) := by decide +kernel
theorem dX10_fewestNow_156 : decode cX10_fewestNow 156 = .ok (.iconst (-1), 1) := by decide +kernel
theorem dX10_fewestNow_157 : decode cX10_fewestNow 157 = .ok (.goto 4, 3) := by decide +kernel
theorem dX10_fewestNow_160 : decode cX10_fewestNow 160 = .ok (.iload_n 2, 1) := by decide +kernel
theorem dX10_fewestNow_161 : decode cX10_fewestNow 161 = .ok (.ireturn, 1) := by decide +kernel
theorem dX10_fewest_0 : decode cX10_fewest 0 = .ok (.aload_n 0, 1) := by decide +kernel
theorem dX10_fewest_1 : decode cX10_fewest 1 = .ok (.getfield 148, 3) := by decide +kernel
theorem dX10_fewest_4 : decode cX10_fewest 4 = .ok (.ifCond .eq 10, 3) := by decide +kernel
theorem dX10_fewest_7 : decode cX10_fewest 7 = .ok (.aload_n 0, 1) := by decide +kernel
theorem dX10_fewest_8 : decode cX10_fewest 8 = .ok (.invokevirtual 254, 3) := by decide +kernel
theorem dX10_fewest_11 : decode cX10_fewest 11 = .ok (.goto 5, 3) := by decide +kernel
theorem dX10_fewest_14 : decode cX10_fewest 14 = .ok (.bipush (-103), 2) := by decide +kernel
theorem dX10_fewest_16 : decode cX10_fewest 16 = .ok (.ireturn, 1) := by decide +kernel
theorem dX10_isSure_0 : decode cX10_isSure 0 = .ok (.iconst 1, 1) := by decide +kernel
theorem dX10_isSure_1 : decode cX10_isSure 1 = .ok (.istore_n 3, 1) := by decide +kernel
theorem dX10_isSure_2 : decode cX10_isSure 2 = .ok (.iconst 0, 1) := by decide +kernel
theorem dX10_isSure_3 : decode cX10_isSure 3 = .ok (.istore 4, 2) := by decide +kernel
theorem dX10_isSure_5 : decode cX10_isSure 5 = .ok (.iload 4, 2) := by decide +kernel
theorem dX10_isSure_7 : decode cX10_isSure 7 = .ok (.aload_n 0, 1) := by decide +kernel
theorem dX10_isSure_8 : decode cX10_isSure 8 = .ok (.getfield 142, 3) := by decide +kernel
theorem dX10_isSure_11 : decode cX10_isSure 11 = .ok (.if_icmp .ge 68, 3) := by decide +kernel
theorem dX10_isSure_14 : decode cX10_isSure 14 = .ok (.iload_n 3, 1) := by decide +kernel
theorem dX10_isSure_15 : decode cX10_isSure 15 = .ok (.ifCond .eq 64, 3) := by decide +kernel
theorem dX10_isSure_18 : decode cX10_isSure 18 = .ok (.iconst 0, 1) := by decide +kernel
theorem dX10_isSure_19 : decode cX10_isSure 19 = .ok (.istore 5, 2) := by decide +kernel
theorem dX10_isSure_21 : decode cX10_isSure 21 = .ok (.iconst (-1), 1) := by decide +kernel
theorem dX10_isSure_22 : decode cX10_isSure 22 = .ok (.istore 6, 2) := by decide +kernel
theorem dX10_isSure_24 : decode cX10_isSure 24 = .ok (.iload 6, 2) := by decide +kernel
theorem dX10_isSure_26 : decode cX10_isSure 26 = .ok (.iconst 2, 1) := by decide +kernel
theorem dX10_isSure_27 : decode cX10_isSure 27 = .ok (.if_icmp .ge 43, 3) := by decide +kernel
theorem dX10_isSure_30 : decode cX10_isSure 30 = .ok (.iload 5, 2) := by decide +kernel
theorem dX10_isSure_32 : decode cX10_isSure 32 = .ok (.ifCond .ne 38, 3) := by decide +kernel
theorem dX10_isSure_35 : decode cX10_isSure 35 = .ok (.aload_n 0, 1) := by decide +kernel
theorem dX10_isSure_36 : decode cX10_isSure 36 = .ok (.getfield 68, 3) := by decide +kernel
theorem dX10_isSure_39 : decode cX10_isSure 39 = .ok (.aload_n 0, 1) := by decide +kernel
theorem dX10_isSure_40 : decode cX10_isSure 40 = .ok (.iload_n 1, 1) := by decide +kernel
theorem dX10_isSure_41 : decode cX10_isSure 41 = .ok (.aload_n 0, 1) := by decide +kernel
theorem dX10_isSure_42 : decode cX10_isSure 42 = .ok (.iload 4, 2) := by decide +kernel
theorem dX10_isSure_44 : decode cX10_isSure 44 = .ok (.iload 6, 2) := by decide +kernel
theorem dX10_isSure_46 : decode cX10_isSure 46 = .ok (.invokevirtual 214, 3) := by decide +kernel
theorem dX10_isSure_49 : decode cX10_isSure 49 = .ok (.invokevirtual 217, 3) := by decide +kernel
theorem dX10_isSure_52 : decode cX10_isSure 52 = .ok (.iaload, 1) := by decide +kernel
theorem dX10_isSure_53 : decode cX10_isSure 53 = .ok (.iload_n 2, 1) := by decide +kernel
theorem dX10_isSure_54 : decode cX10_isSure 54 = .ok (.if_icmp .ge 7, 3) := by decide +kernel
theorem dX10_isSure_57 : decode cX10_isSure 57 = .ok (.iconst 1, 1) := by decide +kernel
theorem dX10_isSure_58 : decode cX10_isSure 58 = .ok (.goto 4, 3) := by decide +kernel
theorem dX10_isSure_61 : decode cX10_isSure 61 = .ok (.iconst 0, 1) := by decide +kernel
theorem dX10_isSure_62 : decode cX10_isSure 62 = .ok (.istore 5, 2) := by decide +kernel
theorem dX10_isSure_64 : decode cX10_isSure 64 = .ok (.iinc 6 1, 3) := by decide +kernel
theorem dX10_isSure_67 : decode cX10_isSure 67 = .ok (.goto (-43), 3) := by decide +kernel
theorem dX10_isSure_70 : decode cX10_isSure 70 = .ok (.iload 5, 2) := by decide +kernel
theorem dX10_isSure_72 : decode cX10_isSure 72 = .ok (.istore_n 3, 1) := by decide +kernel
theorem dX10_isSure_73 : decode cX10_isSure 73 = .ok (.iinc 4 1, 3) := by decide +kernel
theorem dX10_isSure_76 : decode cX10_isSure 76 = .ok (.goto (-71), 3) := by decide +kernel
theorem dX10_isSure_79 : decode cX10_isSure 79 = .ok (.iload_n 3, 1) := by decide +kernel
theorem dX10_isSure_80 : decode cX10_isSure 80 = .ok (.ireturn, 1) := by decide +kernel
theorem dX10_surelyNow_0 : decode cX10_surelyNow 0 = .ok (.iconst 0, 1) := by decide +kernel
theorem dX10_surelyNow_1 : decode cX10_surelyNow 1 = .ok (.istore_n 1, 1) := by decide +kernel
theorem dX10_surelyNow_2 : decode cX10_surelyNow 2 = .ok (.iload_n 1, 1) := by decide +kernel
theorem dX10_surelyNow_3 : decode cX10_surelyNow 3 = .ok (.aload_n 0, 1) := by decide +kernel
theorem dX10_surelyNow_4 : decode cX10_surelyNow 4 = .ok (.getfield 189, 3) := by decide +kernel
theorem dX10_surelyNow_7 : decode cX10_surelyNow 7 = .ok (.if_icmp .ge 38, 3) := by decide +kernel
theorem dX10_surelyNow_10 : decode cX10_surelyNow 10 = .ok (.aload_n 0, 1) := by decide +kernel
theorem dX10_surelyNow_11 : decode cX10_surelyNow 11 = .ok (.getfield 68, 3) := by decide +kernel
theorem dX10_surelyNow_14 : decode cX10_surelyNow 14 = .ok (.iload_n 1, 1) := by decide +kernel
theorem dX10_surelyNow_15 : decode cX10_surelyNow 15 = .ok (.aload_n 0, 1) := by decide +kernel
theorem dX10_surelyNow_16 : decode cX10_surelyNow 16 = .ok (.getfield 49, 3) := by decide +kernel
theorem dX10_surelyNow_19 : decode cX10_surelyNow 19 = .ok (.iload_n 1, 1) := by decide +kernel
theorem dX10_surelyNow_20 : decode cX10_surelyNow 20 = .ok (.iaload, 1) := by decide +kernel
theorem dX10_surelyNow_21 : decode cX10_surelyNow 21 = .ok (.aload_n 0, 1) := by decide +kernel
theorem dX10_surelyNow_22 : decode cX10_surelyNow 22 = .ok (.aload_n 0, 1) := by decide +kernel
theorem dX10_surelyNow_23 : decode cX10_surelyNow 23 = .ok (.getfield 23, 3) := by decide +kernel
theorem dX10_surelyNow_26 : decode cX10_surelyNow 26 = .ok (.invokevirtual 208, 3) := by decide +kernel
theorem dX10_surelyNow_29 : decode cX10_surelyNow 29 = .ok (.if_icmp .ne 7, 3) := by decide +kernel
theorem dX10_surelyNow_32 : decode cX10_surelyNow 32 = .ok (.iconst 0, 1) := by decide +kernel
theorem dX10_surelyNow_33 : decode cX10_surelyNow 33 = .ok (.goto 5, 3) := by decide +kernel
theorem dX10_surelyNow_36 : decode cX10_surelyNow 36 = .ok (.ldc 253, 2) := by decide +kernel
theorem dX10_surelyNow_38 : decode cX10_surelyNow 38 = .ok (.iastore, 1) := by decide +kernel
theorem dX10_surelyNow_39 : decode cX10_surelyNow 39 = .ok (.iinc 1 1, 3) := by decide +kernel
theorem dX10_surelyNow_42 : decode cX10_surelyNow 42 = .ok (.goto (-40), 3) := by decide +kernel
theorem dX10_surelyNow_45 : decode cX10_surelyNow 45 = .ok (.iconst 1, 1) := by decide +kernel
theorem dX10_surelyNow_46 : decode cX10_surelyNow 46 = .ok (.istore_n 1, 1) := by decide +kernel
theorem dX10_surelyNow_47 : decode cX10_surelyNow 47 = .ok (.iconst 1, 1) := by decide +kernel
theorem dX10_surelyNow_48 : decode cX10_surelyNow 48 = .ok (.istore_n 2, 1) := by decide +kernel
theorem dX10_surelyNow_49 : decode cX10_surelyNow 49 = .ok (.iload_n 1, 1) := by decide +kernel
theorem dX10_surelyNow_50 : decode cX10_surelyNow 50 = .ok (.ifCond .eq 56, 3) := by decide +kernel
theorem dX10_surelyNow_53 : decode cX10_surelyNow 53 = .ok (.iconst 0, 1) := by decide +kernel
theorem dX10_surelyNow_54 : decode cX10_surelyNow 54 = .ok (.istore_n 1, 1) := by decide +kernel
theorem dX10_surelyNow_55 : decode cX10_surelyNow 55 = .ok (.iconst 0, 1) := by decide +kernel
theorem dX10_surelyNow_56 : decode cX10_surelyNow 56 = .ok (.istore_n 3, 1) := by decide +kernel
theorem dX10_surelyNow_57 : decode cX10_surelyNow 57 = .ok (.iload_n 3, 1) := by decide +kernel
theorem dX10_surelyNow_58 : decode cX10_surelyNow 58 = .ok (.aload_n 0, 1) := by decide +kernel
theorem dX10_surelyNow_59 : decode cX10_surelyNow 59 = .ok (.getfield 189, 3) := by decide +kernel
theorem dX10_surelyNow_62 : decode cX10_surelyNow 62 = .ok (.if_icmp .ge 38, 3) := by decide +kernel
theorem dX10_surelyNow_65 : decode cX10_surelyNow 65 = .ok (.aload_n 0, 1) := by decide +kernel
theorem dX10_surelyNow_66 : decode cX10_surelyNow 66 = .ok (.getfield 68, 3) := by decide +kernel
theorem dX10_surelyNow_69 : decode cX10_surelyNow 69 = .ok (.iload_n 3, 1) := by decide +kernel
theorem dX10_surelyNow_70 : decode cX10_surelyNow 70 = .ok (.iaload, 1) := by decide +kernel
theorem dX10_surelyNow_71 : decode cX10_surelyNow 71 = .ok (.ldc 253, 2) := by decide +kernel
theorem dX10_surelyNow_73 : decode cX10_surelyNow 73 = .ok (.if_icmp .ne 21, 3) := by decide +kernel
theorem dX10_surelyNow_76 : decode cX10_surelyNow 76 = .ok (.aload_n 0, 1) := by decide +kernel
theorem dX10_surelyNow_77 : decode cX10_surelyNow 77 = .ok (.iload_n 3, 1) := by decide +kernel
theorem dX10_surelyNow_78 : decode cX10_surelyNow 78 = .ok (.iload_n 2, 1) := by decide +kernel
theorem dX10_surelyNow_79 : decode cX10_surelyNow 79 = .ok (.invokevirtual 257, 3) := by decide +kernel
theorem dX10_surelyNow_82 : decode cX10_surelyNow 82 = .ok (.ifCond .eq 12, 3) := by decide +kernel
theorem dX10_surelyNow_85 : decode cX10_surelyNow 85 = .ok (.aload_n 0, 1) := by decide +kernel
theorem dX10_surelyNow_86 : decode cX10_surelyNow 86 = .ok (.getfield 68, 3) := by decide +kernel
theorem dX10_surelyNow_89 : decode cX10_surelyNow 89 = .ok (.iload_n 3, 1) := by decide +kernel
theorem dX10_surelyNow_90 : decode cX10_surelyNow 90 = .ok (.iload_n 2, 1) := by decide +kernel
theorem dX10_surelyNow_91 : decode cX10_surelyNow 91 = .ok (.iastore, 1) := by decide +kernel
theorem dX10_surelyNow_92 : decode cX10_surelyNow 92 = .ok (.iconst 1, 1) := by decide +kernel
theorem dX10_surelyNow_93 : decode cX10_surelyNow 93 = .ok (.istore_n 1, 1) := by decide +kernel
theorem dX10_surelyNow_94 : decode cX10_surelyNow 94 = .ok (.iinc 3 1, 3) := by decide +kernel
theorem dX10_surelyNow_97 : decode cX10_surelyNow 97 = .ok (.goto (-40), 3) := by decide +kernel
theorem dX10_surelyNow_100 : decode cX10_surelyNow 100 = .ok (.iinc 2 1, 3) := by decide +kernel
theorem dX10_surelyNow_103 : decode cX10_surelyNow 103 = .ok (.goto (-54), 3) := by decide +kernel
theorem dX10_surelyNow_106 : decode cX10_surelyNow 106 = .ok (.aload_n 0, 1) := by decide +kernel
theorem dX10_surelyNow_107 : decode cX10_surelyNow 107 = .ok (.getfield 68, 3) := by decide +kernel
theorem dX10_surelyNow_110 : decode cX10_surelyNow 110 = .ok (.aload_n 0, 1) := by decide +kernel
theorem dX10_surelyNow_111 : decode cX10_surelyNow 111 = .ok (.invokevirtual 211, 3) := by decide +kernel
theorem dX10_surelyNow_114 : decode cX10_surelyNow 114 = .ok (.iaload, 1) := by decide +kernel
theorem dX10_surelyNow_115 : decode cX10_surelyNow 115 = .ok (.istore_n 2, 1) := by decide +kernel
theorem dX10_surelyNow_116 : decode cX10_surelyNow 116 = .ok (.iload_n 2, 1) := by decide +kernel
theorem dX10_surelyNow_117 : decode cX10_surelyNow 117 = .ok (.ldc 253, 2) := by decide +kernel
theorem dX10_surelyNow_119 : decode cX10_surelyNow 119 = .ok (.if_icmp .ne 7, 3) := by decide +kernel
theorem dX10_surelyNow_122 : decode cX10_surelyNow 122 = .ok (.iconst (-1), 1) := by decide +kernel
theorem dX10_surelyNow_123 : decode cX10_surelyNow 123 = .ok (.goto 4, 3) := by decide +kernel
theorem dX10_surelyNow_126 : decode cX10_surelyNow 126 = .ok (.iload_n 2, 1) := by decide +kernel
theorem dX10_surelyNow_127 : decode cX10_surelyNow 127 = .ok (.ireturn, 1) := by decide +kernel
theorem dX10_surely_0 : decode cX10_surely 0 = .ok (.aload_n 0, 1) := by decide +kernel
theorem dX10_surely_1 : decode cX10_surely 1 = .ok (.getfield 148, 3) := by decide +kernel
theorem dX10_surely_4 : decode cX10_surely 4 = .ok (.ifCond .eq 10, 3) := by decide +kernel
theorem dX10_surely_7 : decode cX10_surely 7 = .ok (.aload_n 0, 1) := by decide +kernel
theorem dX10_surely_8 : decode cX10_surely 8 = .ok (.invokevirtual 261, 3) := by decide +kernel
theorem dX10_surely_11 : decode cX10_surely 11 = .ok (.goto 5, 3) := by decide +kernel
theorem dX10_surely_14 : decode cX10_surely 14 = .ok (.bipush (-103), 2) := by decide +kernel
theorem dX10_surely_16 : decode cX10_surely 16 = .ok (.ireturn, 1) := by decide +kernel
theorem dX10_isStillPlace_0 : decode cX10_isStillPlace 0 = .ok (.aload_n 0, 1) := by decide +kernel
theorem dX10_isStillPlace_1 : decode cX10_isStillPlace 1 = .ok (.aload_n 0, 1) := by decide +kernel
theorem dX10_isStillPlace_2 : decode cX10_isStillPlace 2 = .ok (.getfield 17, 3) := by decide +kernel
theorem dX10_isStillPlace_5 : decode cX10_isStillPlace 5 = .ok (.iload_n 1, 1) := by decide +kernel
theorem dX10_isStillPlace_6 : decode cX10_isStillPlace 6 = .ok (.iaload, 1) := by decide +kernel
theorem dX10_isStillPlace_7 : decode cX10_isStillPlace 7 = .ok (.invokevirtual 199, 3) := by decide +kernel
theorem dX10_isStillPlace_10 : decode cX10_isStillPlace 10 = .ok (.ireturn, 1) := by decide +kernel
theorem dX10_oddsOf_0 : decode cX10_oddsOf 0 = .ok (.iconst 0, 1) := by decide +kernel
theorem dX10_oddsOf_1 : decode cX10_oddsOf 1 = .ok (.istore 4, 2) := by decide +kernel
theorem dX10_oddsOf_3 : decode cX10_oddsOf 3 = .ok (.iload 4, 2) := by decide +kernel
theorem dX10_oddsOf_5 : decode cX10_oddsOf 5 = .ok (.aload_n 0, 1) := by decide +kernel
theorem dX10_oddsOf_6 : decode cX10_oddsOf 6 = .ok (.getfield 142, 3) := by decide +kernel
theorem dX10_oddsOf_9 : decode cX10_oddsOf 9 = .ok (.if_icmp .ge 35, 3) := by decide +kernel
theorem dX10_oddsOf_12 : decode cX10_oddsOf 12 = .ok (.aload_n 0, 1) := by decide +kernel
theorem dX10_oddsOf_13 : decode cX10_oddsOf 13 = .ok (.getfield 74, 3) := by decide +kernel
theorem dX10_oddsOf_16 : decode cX10_oddsOf 16 = .ok (.iload 4, 2) := by decide +kernel
theorem dX10_oddsOf_18 : decode cX10_oddsOf 18 = .ok (.iload 4, 2) := by decide +kernel
theorem dX10_oddsOf_20 : decode cX10_oddsOf 20 = .ok (.aload_n 0, 1) := by decide +kernel
theorem dX10_oddsOf_21 : decode cX10_oddsOf 21 = .ok (.aload_n 0, 1) := by decide +kernel
theorem dX10_oddsOf_22 : decode cX10_oddsOf 22 = .ok (.getfield 17, 3) := by decide +kernel
theorem dX10_oddsOf_25 : decode cX10_oddsOf 25 = .ok (.iload_n 1, 1) := by decide +kernel
theorem dX10_oddsOf_26 : decode cX10_oddsOf 26 = .ok (.invokevirtual 157, 3) := by decide +kernel
theorem dX10_oddsOf_29 : decode cX10_oddsOf 29 = .ok (.if_icmp .ne 7, 3) := by decide +kernel
theorem dX10_oddsOf_32 : decode cX10_oddsOf 32 = .ok (.iconst 1, 1) := by decide +kernel
theorem dX10_oddsOf_33 : decode cX10_oddsOf 33 = .ok (.goto 4, 3) := by decide +kernel
theorem dX10_oddsOf_36 : decode cX10_oddsOf 36 = .ok (.iconst 0, 1) := by decide +kernel
theorem dX10_oddsOf_37 : decode cX10_oddsOf 37 = .ok (.iastore, 1) := by decide +kernel
theorem dX10_oddsOf_38 : decode cX10_oddsOf 38 = .ok (.iinc 4 1, 3) := by decide +kernel
theorem dX10_oddsOf_41 : decode cX10_oddsOf 41 = .ok (.goto (-38), 3) := by decide +kernel
theorem dX10_oddsOf_44 : decode cX10_oddsOf 44 = .ok (.iconst 0, 1) := by decide +kernel
theorem dX10_oddsOf_45 : decode cX10_oddsOf 45 = .ok (.istore 4, 2) := by decide +kernel
theorem dX10_oddsOf_47 : decode cX10_oddsOf 47 = .ok (.iload 4, 2) := by decide +kernel
theorem dX10_oddsOf_49 : decode cX10_oddsOf 49 = .ok (.iload_n 3, 1) := by decide +kernel
theorem dX10_oddsOf_50 : decode cX10_oddsOf 50 = .ok (.if_icmp .ge 192, 3) := by decide +kernel
theorem dX10_oddsOf_53 : decode cX10_oddsOf 53 = .ok (.iconst 0, 1) := by decide +kernel
theorem dX10_oddsOf_54 : decode cX10_oddsOf 54 = .ok (.istore 5, 2) := by decide +kernel
theorem dX10_oddsOf_56 : decode cX10_oddsOf 56 = .ok (.iload 5, 2) := by decide +kernel
theorem dX10_oddsOf_58 : decode cX10_oddsOf 58 = .ok (.aload_n 0, 1) := by decide +kernel
theorem dX10_oddsOf_59 : decode cX10_oddsOf 59 = .ok (.getfield 142, 3) := by decide +kernel
theorem dX10_oddsOf_62 : decode cX10_oddsOf 62 = .ok (.if_icmp .ge 17, 3) := by decide +kernel
theorem dX10_oddsOf_65 : decode cX10_oddsOf 65 = .ok (.aload_n 0, 1) := by decide +kernel
theorem dX10_oddsOf_66 : decode cX10_oddsOf 66 = .ok (.getfield 77, 3) := by decide +kernel
theorem dX10_oddsOf_69 : decode cX10_oddsOf 69 = .ok (.iload 5, 2) := by decide +kernel
theorem dX10_oddsOf_71 : decode cX10_oddsOf 71 = .ok (.iconst 0, 1) := by decide +kernel
theorem dX10_oddsOf_72 : decode cX10_oddsOf 72 = .ok (.iastore, 1) := by decide +kernel
theorem dX10_oddsOf_73 : decode cX10_oddsOf 73 = .ok (.iinc 5 1, 3) := by decide +kernel
theorem dX10_oddsOf_76 : decode cX10_oddsOf 76 = .ok (.goto (-20), 3) := by decide +kernel
theorem dX10_oddsOf_79 : decode cX10_oddsOf 79 = .ok (.iconst 0, 1) := by decide +kernel
theorem dX10_oddsOf_80 : decode cX10_oddsOf 80 = .ok (.istore 5, 2) := by decide +kernel
theorem dX10_oddsOf_82 : decode cX10_oddsOf 82 = .ok (.iload 5, 2) := by decide +kernel
theorem dX10_oddsOf_84 : decode cX10_oddsOf 84 = .ok (.aload_n 0, 1) := by decide +kernel
theorem dX10_oddsOf_85 : decode cX10_oddsOf 85 = .ok (.getfield 142, 3) := by decide +kernel
theorem dX10_oddsOf_88 : decode cX10_oddsOf 88 = .ok (.if_icmp .ge 116, 3) := by decide +kernel
theorem dX10_oddsOf_91 : decode cX10_oddsOf 91 = .ok (.iconst 0, 1) := by decide +kernel
theorem dX10_oddsOf_92 : decode cX10_oddsOf 92 = .ok (.istore 6, 2) := by decide +kernel
theorem dX10_oddsOf_94 : decode cX10_oddsOf 94 = .ok (.iload 6, 2) := by decide +kernel
theorem dX10_oddsOf_96 : decode cX10_oddsOf 96 = .ok (.aload_n 0, 1) := by decide +kernel
theorem dX10_oddsOf_97 : decode cX10_oddsOf 97 = .ok (.getfield 142, 3) := by decide +kernel
theorem dX10_oddsOf_100 : decode cX10_oddsOf 100 = .ok (.if_icmp .ge 98, 3) := by decide +kernel
theorem dX10_oddsOf_103 : decode cX10_oddsOf 103 = .ok (.iload 6, 2) := by decide +kernel
theorem dX10_oddsOf_105 : decode cX10_oddsOf 105 = .ok (.iconst 1, 1) := by decide +kernel
theorem dX10_oddsOf_106 : decode cX10_oddsOf 106 = .ok (.iadd, 1) := by decide +kernel
theorem dX10_oddsOf_107 : decode cX10_oddsOf 107 = .ok (.aload_n 0, 1) := by decide +kernel
theorem dX10_oddsOf_108 : decode cX10_oddsOf 108 = .ok (.getfield 142, 3) := by decide +kernel
theorem dX10_oddsOf_111 : decode cX10_oddsOf 111 = .ok (.irem, 1) := by decide +kernel
theorem dX10_oddsOf_112 : decode cX10_oddsOf 112 = .ok (.istore 7, 2) := by decide +kernel
theorem dX10_oddsOf_114 : decode cX10_oddsOf 114 = .ok (.iload 5, 2) := by decide +kernel
theorem dX10_oddsOf_116 : decode cX10_oddsOf 116 = .ok (.iload 6, 2) := by decide +kernel
theorem dX10_oddsOf_118 : decode cX10_oddsOf 118 = .ok (.if_icmp .eq 10, 3) := by decide +kernel
theorem dX10_oddsOf_121 : decode cX10_oddsOf 121 = .ok (.iload 5, 2) := by decide +kernel
theorem dX10_oddsOf_123 : decode cX10_oddsOf 123 = .ok (.iload 7, 2) := by decide +kernel
theorem dX10_oddsOf_125 : decode cX10_oddsOf 125 = .ok (.if_icmp .ne 25, 3) := by decide +kernel
theorem dX10_oddsOf_128 : decode cX10_oddsOf 128 = .ok (.aload_n 0, 1) := by decide +kernel
theorem dX10_oddsOf_129 : decode cX10_oddsOf 129 = .ok (.iload 6, 2) := by decide +kernel
theorem dX10_oddsOf_131 : decode cX10_oddsOf 131 = .ok (.invokevirtual 264, 3) := by decide +kernel
theorem dX10_oddsOf_134 : decode cX10_oddsOf 134 = .ok (.ifCond .ne 16, 3) := by decide +kernel
theorem dX10_oddsOf_137 : decode cX10_oddsOf 137 = .ok (.aload_n 0, 1) := by decide +kernel
theorem dX10_oddsOf_138 : decode cX10_oddsOf 138 = .ok (.iload 7, 2) := by decide +kernel
theorem dX10_oddsOf_140 : decode cX10_oddsOf 140 = .ok (.invokevirtual 264, 3) := by decide +kernel
theorem dX10_oddsOf_143 : decode cX10_oddsOf 143 = .ok (.ifCond .ne 7, 3) := by decide +kernel
theorem dX10_oddsOf_146 : decode cX10_oddsOf 146 = .ok (.iconst 1, 1) := by decide +kernel
theorem dX10_oddsOf_147 : decode cX10_oddsOf 147 = .ok (.goto 4, 3) := by decide +kernel
theorem dX10_oddsOf_150 : decode cX10_oddsOf 150 = .ok (.iconst 0, 1) := by decide +kernel
theorem dX10_oddsOf_151 : decode cX10_oddsOf 151 = .ok (.istore 8, 2) := by decide +kernel
theorem dX10_oddsOf_153 : decode cX10_oddsOf 153 = .ok (.aload_n 0, 1) := by decide +kernel
theorem dX10_oddsOf_154 : decode cX10_oddsOf 154 = .ok (.getfield 77, 3) := by decide +kernel
theorem dX10_oddsOf_157 : decode cX10_oddsOf 157 = .ok (.iload 8, 2) := by decide +kernel
theorem dX10_oddsOf_159 : decode cX10_oddsOf 159 = .ok (.ifCond .ne 8, 3) := by decide +kernel
theorem dX10_oddsOf_162 : decode cX10_oddsOf 162 = .ok (.iload 5, 2) := by decide +kernel
theorem dX10_oddsOf_164 : decode cX10_oddsOf 164 = .ok (.goto 17, 3) := by decide +kernel
theorem dX10_oddsOf_167 : decode cX10_oddsOf 167 = .ok (.iload 5, 2) := by decide +kernel
theorem dX10_oddsOf_169 : decode cX10_oddsOf 169 = .ok (.iload 6, 2) := by decide +kernel
theorem dX10_oddsOf_171 : decode cX10_oddsOf 171 = .ok (.if_icmp .ne 8, 3) := by decide +kernel
theorem dX10_oddsOf_174 : decode cX10_oddsOf 174 = .ok (.iload 7, 2) := by decide +kernel
theorem dX10_oddsOf_176 : decode cX10_oddsOf 176 = .ok (.goto 5, 3) := by decide +kernel
theorem dX10_oddsOf_179 : decode cX10_oddsOf 179 = .ok (.iload 6, 2) := by decide +kernel
theorem dX10_oddsOf_181 : decode cX10_oddsOf 181 = .ok (.dup2, 1) := by decide +kernel
theorem dX10_oddsOf_182 : decode cX10_oddsOf 182 = .ok (.iaload, 1) := by decide +kernel
theorem dX10_oddsOf_183 : decode cX10_oddsOf 183 = .ok (.aload_n 0, 1) := by decide +kernel
theorem dX10_oddsOf_184 : decode cX10_oddsOf 184 = .ok (.getfield 74, 3) := by decide +kernel
theorem dX10_oddsOf_187 : decode cX10_oddsOf 187 = .ok (.iload 5, 2) := by decide +kernel
theorem dX10_oddsOf_189 : decode cX10_oddsOf 189 = .ok (.iaload, 1) := by decide +kernel
theorem dX10_oddsOf_190 : decode cX10_oddsOf 190 = .ok (.iadd, 1) := by decide +kernel
theorem dX10_oddsOf_191 : decode cX10_oddsOf 191 = .ok (.iastore, 1) := by decide +kernel
theorem dX10_oddsOf_192 : decode cX10_oddsOf 192 = .ok (.iinc 6 1, 3) := by decide +kernel
theorem dX10_oddsOf_195 : decode cX10_oddsOf 195 = .ok (.goto (-101), 3) := by decide +kernel
theorem dX10_oddsOf_198 : decode cX10_oddsOf 198 = .ok (.iinc 5 1, 3) := by decide +kernel
theorem dX10_oddsOf_201 : decode cX10_oddsOf 201 = .ok (.goto (-119), 3) := by decide +kernel
theorem dX10_oddsOf_204 : decode cX10_oddsOf 204 = .ok (.iconst 0, 1) := by decide +kernel
theorem dX10_oddsOf_205 : decode cX10_oddsOf 205 = .ok (.istore 5, 2) := by decide +kernel
theorem dX10_oddsOf_207 : decode cX10_oddsOf 207 = .ok (.iload 5, 2) := by decide +kernel
theorem dX10_oddsOf_209 : decode cX10_oddsOf 209 = .ok (.aload_n 0, 1) := by decide +kernel
theorem dX10_oddsOf_210 : decode cX10_oddsOf 210 = .ok (.getfield 142, 3) := by decide +kernel
theorem dX10_oddsOf_213 : decode cX10_oddsOf 213 = .ok (.if_icmp .ge 23, 3) := by decide +kernel
theorem dX10_oddsOf_216 : decode cX10_oddsOf 216 = .ok (.aload_n 0, 1) := by decide +kernel
theorem dX10_oddsOf_217 : decode cX10_oddsOf 217 = .ok (.getfield 74, 3) := by decide +kernel
theorem dX10_oddsOf_220 : decode cX10_oddsOf 220 = .ok (.iload 5, 2) := by decide +kernel
theorem dX10_oddsOf_222 : decode cX10_oddsOf 222 = .ok (.aload_n 0, 1) := by decide +kernel
theorem dX10_oddsOf_223 : decode cX10_oddsOf 223 = .ok (.getfield 77, 3) := by decide +kernel
theorem dX10_oddsOf_226 : decode cX10_oddsOf 226 = .ok (.iload 5, 2) := by decide +kernel
theorem dX10_oddsOf_228 : decode cX10_oddsOf 228 = .ok (.iaload, 1) := by decide +kernel
theorem dX10_oddsOf_229 : decode cX10_oddsOf 229 = .ok (.iastore, 1) := by decide +kernel
theorem dX10_oddsOf_230 : decode cX10_oddsOf 230 = .ok (.iinc 5 1, 3) := by decide +kernel
theorem dX10_oddsOf_233 : decode cX10_oddsOf 233 = .ok (.goto (-26), 3) := by decide +kernel
theorem dX10_oddsOf_236 : decode cX10_oddsOf 236 = .ok (.iinc 4 1, 3) := by decide +kernel
theorem dX10_oddsOf_239 : decode cX10_oddsOf 239 = .ok (.goto (-192), 3) := by decide +kernel
theorem dX10_oddsOf_242 : decode cX10_oddsOf 242 = .ok (.aload_n 0, 1) := by decide +kernel
theorem dX10_oddsOf_243 : decode cX10_oddsOf 243 = .ok (.getfield 74, 3) := by decide +kernel
theorem dX10_oddsOf_246 : decode cX10_oddsOf 246 = .ok (.iload_n 2, 1) := by decide +kernel
theorem dX10_oddsOf_247 : decode cX10_oddsOf 247 = .ok (.iaload, 1) := by decide +kernel
theorem dX10_oddsOf_248 : decode cX10_oddsOf 248 = .ok (.ireturn, 1) := by decide +kernel
theorem dX10_odds_0 : decode cX10_odds 0 = .ok (.aload_n 0, 1) := by decide +kernel
theorem dX10_odds_1 : decode cX10_odds 1 = .ok (.iload_n 1, 1) := by decide +kernel
theorem dX10_odds_2 : decode cX10_odds 2 = .ok (.invokevirtual 165, 3) := by decide +kernel
theorem dX10_odds_5 : decode cX10_odds 5 = .ok (.ifCond .eq 11, 3) := by decide +kernel
theorem dX10_odds_8 : decode cX10_odds 8 = .ok (.aload_n 0, 1) := by decide +kernel
theorem dX10_odds_9 : decode cX10_odds 9 = .ok (.iload_n 2, 1) := by decide +kernel
theorem dX10_odds_10 : decode cX10_odds 10 = .ok (.invokevirtual 165, 3) := by decide +kernel
theorem dX10_odds_13 : decode cX10_odds 13 = .ok (.ifCond .ne 6, 3) := by decide +kernel
theorem dX10_odds_16 : decode cX10_odds 16 = .ok (.bipush (-101), 2) := by decide +kernel
theorem dX10_odds_18 : decode cX10_odds 18 = .ok (.ireturn, 1) := by decide +kernel
theorem dX10_odds_19 : decode cX10_odds 19 = .ok (.iload_n 3, 1) := by decide +kernel
theorem dX10_odds_20 : decode cX10_odds 20 = .ok (.iconst 0, 1) := by decide +kernel
theorem dX10_odds_21 : decode cX10_odds 21 = .ok (.bipush 8, 2) := by decide +kernel
theorem dX10_odds_23 : decode cX10_odds 23 = .ok (.invokestatic 96, 3) := by decide +kernel
theorem dX10_odds_26 : decode cX10_odds 26 = .ok (.ifCond .eq 13, 3) := by decide +kernel
theorem dX10_odds_29 : decode cX10_odds 29 = .ok (.iload 4, 2) := by decide +kernel
theorem dX10_odds_31 : decode cX10_odds 31 = .ok (.iconst 0, 1) := by decide +kernel
theorem dX10_odds_32 : decode cX10_odds 32 = .ok (.iconst 1, 1) := by decide +kernel
theorem dX10_odds_33 : decode cX10_odds 33 = .ok (.invokestatic 96, 3) := by decide +kernel
theorem dX10_odds_36 : decode cX10_odds 36 = .ok (.ifCond .ne 6, 3) := by decide +kernel
theorem dX10_odds_39 : decode cX10_odds 39 = .ok (.bipush (-102), 2) := by decide +kernel
theorem dX10_odds_41 : decode cX10_odds 41 = .ok (.ireturn, 1) := by decide +kernel
theorem dX10_odds_42 : decode cX10_odds 42 = .ok (.aload_n 0, 1) := by decide +kernel
theorem dX10_odds_43 : decode cX10_odds 43 = .ok (.iload_n 1, 1) := by decide +kernel
theorem dX10_odds_44 : decode cX10_odds 44 = .ok (.iload_n 2, 1) := by decide +kernel
theorem dX10_odds_45 : decode cX10_odds 45 = .ok (.iload_n 3, 1) := by decide +kernel
theorem dX10_odds_46 : decode cX10_odds 46 = .ok (.invokevirtual 267, 3) := by decide +kernel
theorem dX10_odds_49 : decode cX10_odds 49 = .ok (.aload_n 0, 1) := by decide +kernel
theorem dX10_odds_50 : decode cX10_odds 50 = .ok (.iload_n 3, 1) := by decide +kernel
theorem dX10_odds_51 : decode cX10_odds 51 = .ok (.invokevirtual 229, 3) := by decide +kernel
theorem dX10_odds_54 : decode cX10_odds 54 = .ok (.iload 4, 2) := by decide +kernel
theorem dX10_odds_56 : decode cX10_odds 56 = .ok (.invokestatic 232, 3) := by decide +kernel
theorem dX10_odds_59 : decode cX10_odds 59 = .ok (.ireturn, 1) := by decide +kernel
theorem dX10_waysOf_0 : decode cX10_waysOf 0 = .ok (.iconst 0, 1) := by decide +kernel
theorem dX10_waysOf_1 : decode cX10_waysOf 1 = .ok (.istore_n 3, 1) := by decide +kernel
theorem dX10_waysOf_2 : decode cX10_waysOf 2 = .ok (.iload_n 3, 1) := by decide +kernel
theorem dX10_waysOf_3 : decode cX10_waysOf 3 = .ok (.aload_n 0, 1) := by decide +kernel
theorem dX10_waysOf_4 : decode cX10_waysOf 4 = .ok (.getfield 189, 3) := by decide +kernel
theorem dX10_waysOf_7 : decode cX10_waysOf 7 = .ok (.if_icmp .ge 24, 3) := by decide +kernel
theorem dX10_waysOf_10 : decode cX10_waysOf 10 = .ok (.aload_n 0, 1) := by decide +kernel
theorem dX10_waysOf_11 : decode cX10_waysOf 11 = .ok (.getfield 80, 3) := by decide +kernel
theorem dX10_waysOf_14 : decode cX10_waysOf 14 = .ok (.iload_n 3, 1) := by decide +kernel
theorem dX10_waysOf_15 : decode cX10_waysOf 15 = .ok (.iload_n 3, 1) := by decide +kernel
theorem dX10_waysOf_16 : decode cX10_waysOf 16 = .ok (.ifCond .ne 7, 3) := by decide +kernel
theorem dX10_waysOf_19 : decode cX10_waysOf 19 = .ok (.lconst 1, 1) := by decide +kernel
theorem dX10_waysOf_20 : decode cX10_waysOf 20 = .ok (.goto 4, 3) := by decide +kernel
theorem dX10_waysOf_23 : decode cX10_waysOf 23 = .ok (.lconst 0, 1) := by decide +kernel
theorem dX10_waysOf_24 : decode cX10_waysOf 24 = .ok (.lastore, 1) := by decide +kernel
theorem dX10_waysOf_25 : decode cX10_waysOf 25 = .ok (.iinc 3 1, 3) := by decide +kernel
theorem dX10_waysOf_28 : decode cX10_waysOf 28 = .ok (.goto (-26), 3) := by decide +kernel
theorem dX10_waysOf_31 : decode cX10_waysOf 31 = .ok (.iconst 0, 1) := by decide +kernel
theorem dX10_waysOf_32 : decode cX10_waysOf 32 = .ok (.istore_n 3, 1) := by decide +kernel
theorem dX10_waysOf_33 : decode cX10_waysOf 33 = .ok (.iload_n 3, 1) := by decide +kernel
theorem dX10_waysOf_34 : decode cX10_waysOf 34 = .ok (.iload_n 1, 1) := by decide +kernel
theorem dX10_waysOf_35 : decode cX10_waysOf 35 = .ok (.if_icmp .ge 164, 3) := by decide +kernel
theorem dX10_waysOf_38 : decode cX10_waysOf 38 = .ok (.iconst 0, 1) := by decide +kernel
theorem dX10_waysOf_39 : decode cX10_waysOf 39 = .ok (.istore 4, 2) := by decide +kernel
theorem dX10_waysOf_41 : decode cX10_waysOf 41 = .ok (.iload 4, 2) := by decide +kernel
theorem dX10_waysOf_43 : decode cX10_waysOf 43 = .ok (.aload_n 0, 1) := by decide +kernel
theorem dX10_waysOf_44 : decode cX10_waysOf 44 = .ok (.getfield 189, 3) := by decide +kernel
theorem dX10_waysOf_47 : decode cX10_waysOf 47 = .ok (.if_icmp .ge 17, 3) := by decide +kernel
theorem dX10_waysOf_50 : decode cX10_waysOf 50 = .ok (.aload_n 0, 1) := by decide +kernel
theorem dX10_waysOf_51 : decode cX10_waysOf 51 = .ok (.getfield 84, 3) := by decide +kernel
theorem dX10_waysOf_54 : decode cX10_waysOf 54 = .ok (.iload 4, 2) := by decide +kernel
theorem dX10_waysOf_56 : decode cX10_waysOf 56 = .ok (.lconst 0, 1) := by decide +kernel
theorem dX10_waysOf_57 : decode cX10_waysOf 57 = .ok (.lastore, 1) := by decide +kernel
theorem dX10_waysOf_58 : decode cX10_waysOf 58 = .ok (.iinc 4 1, 3) := by decide +kernel
theorem dX10_waysOf_61 : decode cX10_waysOf 61 = .ok (.goto (-20), 3) := by decide +kernel
theorem dX10_waysOf_64 : decode cX10_waysOf 64 = .ok (.iconst 0, 1) := by decide +kernel
theorem dX10_waysOf_65 : decode cX10_waysOf 65 = .ok (.istore 4, 2) := by decide +kernel
theorem dX10_waysOf_67 : decode cX10_waysOf 67 = .ok (.iload 4, 2) := by decide +kernel
theorem dX10_waysOf_69 : decode cX10_waysOf 69 = .ok (.aload_n 0, 1) := by decide +kernel
theorem dX10_waysOf_70 : decode cX10_waysOf 70 = .ok (.getfield 189, 3) := by decide +kernel
theorem dX10_waysOf_73 : decode cX10_waysOf 73 = .ok (.if_icmp .ge 88, 3) := by decide +kernel
theorem dX10_waysOf_76 : decode cX10_waysOf 76 = .ok (.iconst 0, 1) := by decide +kernel
theorem dX10_waysOf_77 : decode cX10_waysOf 77 = .ok (.istore 5, 2) := by decide +kernel
theorem dX10_waysOf_79 : decode cX10_waysOf 79 = .ok (.iload 5, 2) := by decide +kernel
theorem dX10_waysOf_81 : decode cX10_waysOf 81 = .ok (.aload_n 0, 1) := by decide +kernel
theorem dX10_waysOf_82 : decode cX10_waysOf 82 = .ok (.getfield 142, 3) := by decide +kernel
theorem dX10_waysOf_85 : decode cX10_waysOf 85 = .ok (.if_icmp .ge 70, 3) := by decide +kernel
theorem dX10_waysOf_88 : decode cX10_waysOf 88 = .ok (.aload_n 0, 1) := by decide +kernel
theorem dX10_waysOf_89 : decode cX10_waysOf 89 = .ok (.getfield 80, 3) := by decide +kernel
theorem dX10_waysOf_92 : decode cX10_waysOf 92 = .ok (.iload 4, 2) := by decide +kernel
theorem dX10_waysOf_94 : decode cX10_waysOf 94 = .ok (.laload, 1) := by decide +kernel
theorem dX10_waysOf_95 : decode cX10_waysOf 95 = .ok (.lconst 0, 1) := by decide +kernel
theorem dX10_waysOf_96 : decode cX10_waysOf 96 = .ok (.lcmp, 1) := by decide +kernel
theorem dX10_waysOf_97 : decode cX10_waysOf 97 = .ok (.ifCond .le 58, 3) := by decide +kernel
theorem dX10_waysOf_100 : decode cX10_waysOf 100 = .ok (.iload 5, 2) := by decide +kernel
theorem dX10_waysOf_102 : decode cX10_waysOf 102 = .ok (.iload_n 2, 1) := by decide +kernel
theorem dX10_waysOf_103 : decode cX10_waysOf 103 = .ok (.if_icmp .ne 8, 3) := by decide +kernel
theorem dX10_waysOf_106 : decode cX10_waysOf 106 = .ok (.iload 4, 2) := by decide +kernel
theorem dX10_waysOf_108 : decode cX10_waysOf 108 = .ok (.goto 11, 3) := by decide +kernel
theorem dX10_waysOf_111 : decode cX10_waysOf 111 = .ok (.aload_n 0, 1) := by decide +kernel
theorem dX10_waysOf_112 : decode cX10_waysOf 112 = .ok (.iload 4, 2) := by decide +kernel
theorem dX10_waysOf_114 : decode cX10_waysOf 114 = .ok (.iload 5, 2) := by decide +kernel
theorem dX10_waysOf_116 : decode cX10_waysOf 116 = .ok (.invokevirtual 217, 3) := by decide +kernel
theorem dX10_waysOf_119 : decode cX10_waysOf 119 = .ok (.istore 6, 2) := by decide +kernel
theorem dX10_waysOf_121 : decode cX10_waysOf 121 = .ok (.aload_n 0, 1) := by decide +kernel
theorem dX10_waysOf_122 : decode cX10_waysOf 122 = .ok (.getfield 84, 3) := by decide +kernel
theorem dX10_waysOf_125 : decode cX10_waysOf 125 = .ok (.iload 6, 2) := by decide +kernel
theorem dX10_waysOf_127 : decode cX10_waysOf 127 = .ok (.dup2, 1) := by decide +kernel
theorem dX10_waysOf_128 : decode cX10_waysOf 128 = .ok (.laload, 1) := by decide +kernel
theorem dX10_waysOf_129 : decode cX10_waysOf 129 = .ok (.iload 6, 2) := by decide +kernel
theorem dX10_waysOf_131 : decode cX10_waysOf 131 = .ok (.iload 4, 2) := by decide +kernel
theorem dX10_waysOf_133 : decode cX10_waysOf 133 = .ok (.if_icmp .ne 7, 3) := by decide +kernel
theorem dX10_waysOf_136 : decode cX10_waysOf 136 = .ok (.lconst 0, 1) := by decide +kernel
theorem dX10_waysOf_137 : decode cX10_waysOf 137 = .ok (.goto 10, 3) := by decide +kernel
theorem dX10_waysOf_140 : decode cX10_waysOf 140 = .ok (.aload_n 0, 1) := by decide +kernel
theorem dX10_waysOf_141 : decode cX10_waysOf 141 = .ok (.getfield 80, 3) := by decide +kernel
theorem dX10_waysOf_144 : decode cX10_waysOf 144 = .ok (.iload 4, 2) := by decide +kernel
theorem dX10_waysOf_146 : decode cX10_waysOf 146 = .ok (.laload, 1) := by decide +kernel
theorem dX10_waysOf_147 : decode cX10_waysOf 147 = .ok (.ladd, 1) := by decide +kernel
theorem dX10_waysOf_148 : decode cX10_waysOf 148 = .ok (.lastore, 1) := by decide +kernel
theorem dX10_waysOf_149 : decode cX10_waysOf 149 = .ok (.iinc 5 1, 3) := by decide +kernel
theorem dX10_waysOf_152 : decode cX10_waysOf 152 = .ok (.goto (-73), 3) := by decide +kernel
theorem dX10_waysOf_155 : decode cX10_waysOf 155 = .ok (.iinc 4 1, 3) := by decide +kernel
theorem dX10_waysOf_158 : decode cX10_waysOf 158 = .ok (.goto (-91), 3) := by decide +kernel
theorem dX10_waysOf_161 : decode cX10_waysOf 161 = .ok (.iconst 0, 1) := by decide +kernel
theorem dX10_waysOf_162 : decode cX10_waysOf 162 = .ok (.istore 4, 2) := by decide +kernel
theorem dX10_waysOf_164 : decode cX10_waysOf 164 = .ok (.iload 4, 2) := by decide +kernel
theorem dX10_waysOf_166 : decode cX10_waysOf 166 = .ok (.aload_n 0, 1) := by decide +kernel
theorem dX10_waysOf_167 : decode cX10_waysOf 167 = .ok (.getfield 189, 3) := by decide +kernel
theorem dX10_waysOf_170 : decode cX10_waysOf 170 = .ok (.if_icmp .ge 23, 3) := by decide +kernel
theorem dX10_waysOf_173 : decode cX10_waysOf 173 = .ok (.aload_n 0, 1) := by decide +kernel
theorem dX10_waysOf_174 : decode cX10_waysOf 174 = .ok (.getfield 80, 3) := by decide +kernel
theorem dX10_waysOf_177 : decode cX10_waysOf 177 = .ok (.iload 4, 2) := by decide +kernel
theorem dX10_waysOf_179 : decode cX10_waysOf 179 = .ok (.aload_n 0, 1) := by decide +kernel
theorem dX10_waysOf_180 : decode cX10_waysOf 180 = .ok (.getfield 84, 3) := by decide +kernel
theorem dX10_waysOf_183 : decode cX10_waysOf 183 = .ok (.iload 4, 2) := by decide +kernel
theorem dX10_waysOf_185 : decode cX10_waysOf 185 = .ok (.laload, 1) := by decide +kernel
theorem dX10_waysOf_186 : decode cX10_waysOf 186 = .ok (.lastore, 1) := by decide +kernel
theorem dX10_waysOf_187 : decode cX10_waysOf 187 = .ok (.iinc 4 1, 3) := by decide +kernel
theorem dX10_waysOf_190 : decode cX10_waysOf 190 = .ok (.goto (-26), 3) := by decide +kernel
theorem dX10_waysOf_193 : decode cX10_waysOf 193 = .ok (.iinc 3 1, 3) := by decide +kernel
theorem dX10_waysOf_196 : decode cX10_waysOf 196 = .ok (.goto (-163), 3) := by decide +kernel
theorem dX10_waysOf_199 : decode cX10_waysOf 199 = .ok (.aload_n 0, 1) := by decide +kernel
theorem dX10_waysOf_200 : decode cX10_waysOf 200 = .ok (.getfield 80, 3) := by decide +kernel
theorem dX10_waysOf_203 : decode cX10_waysOf 203 = .ok (.aload_n 0, 1) := by decide +kernel
theorem dX10_waysOf_204 : decode cX10_waysOf 204 = .ok (.invokevirtual 211, 3) := by decide +kernel
theorem dX10_waysOf_207 : decode cX10_waysOf 207 = .ok (.laload, 1) := by decide +kernel
theorem dX10_waysOf_208 : decode cX10_waysOf 208 = .ok (.lreturn, 1) := by decide +kernel
theorem dX10_ways_0 : decode cX10_ways 0 = .ok (.aload_n 0, 1) := by decide +kernel
theorem dX10_ways_1 : decode cX10_ways 1 = .ok (.getfield 142, 3) := by decide +kernel
theorem dX10_ways_4 : decode cX10_ways 4 = .ok (.ifCond .ne 7, 3) := by decide +kernel
theorem dX10_ways_7 : decode cX10_ways 7 = .ok (.ldc2_w 270, 3) := by decide +kernel
theorem dX10_ways_10 : decode cX10_ways 10 = .ok (.lreturn, 1) := by decide +kernel
theorem dX10_ways_11 : decode cX10_ways 11 = .ok (.iload_n 1, 1) := by decide +kernel
theorem dX10_ways_12 : decode cX10_ways 12 = .ok (.iconst 0, 1) := by decide +kernel
theorem dX10_ways_13 : decode cX10_ways 13 = .ok (.bipush 12, 2) := by decide +kernel
theorem dX10_ways_15 : decode cX10_ways 15 = .ok (.invokestatic 96, 3) := by decide +kernel
theorem dX10_ways_18 : decode cX10_ways 18 = .ok (.ifCond .eq 12, 3) := by decide +kernel
theorem dX10_ways_21 : decode cX10_ways 21 = .ok (.aload_n 0, 1) := by decide +kernel
theorem dX10_ways_22 : decode cX10_ways 22 = .ok (.iload_n 1, 1) := by decide +kernel
theorem dX10_ways_23 : decode cX10_ways 23 = .ok (.iconst (-1), 1) := by decide +kernel
theorem dX10_ways_24 : decode cX10_ways 24 = .ok (.invokevirtual 272, 3) := by decide +kernel
theorem dX10_ways_27 : decode cX10_ways 27 = .ok (.goto 6, 3) := by decide +kernel
theorem dX10_ways_30 : decode cX10_ways 30 = .ok (.ldc2_w 276, 3) := by decide +kernel
theorem dX10_ways_33 : decode cX10_ways 33 = .ok (.lreturn, 1) := by decide +kernel
theorem dX10_mustOf_0 : decode cX10_mustOf 0 = .ok (.iconst 0, 1) := by decide +kernel
theorem dX10_mustOf_1 : decode cX10_mustOf 1 = .ok (.istore_n 2, 1) := by decide +kernel
theorem dX10_mustOf_2 : decode cX10_mustOf 2 = .ok (.aload_n 0, 1) := by decide +kernel
theorem dX10_mustOf_3 : decode cX10_mustOf 3 = .ok (.iload_n 1, 1) := by decide +kernel
theorem dX10_mustOf_4 : decode cX10_mustOf 4 = .ok (.iconst (-1), 1) := by decide +kernel
theorem dX10_mustOf_5 : decode cX10_mustOf 5 = .ok (.invokevirtual 272, 3) := by decide +kernel
theorem dX10_mustOf_8 : decode cX10_mustOf 8 = .ok (.lconst 0, 1) := by decide +kernel
theorem dX10_mustOf_9 : decode cX10_mustOf 9 = .ok (.lcmp, 1) := by decide +kernel
theorem dX10_mustOf_10 : decode cX10_mustOf 10 = .ok (.ifCond .le 7, 3) := by decide +kernel
theorem dX10_mustOf_13 : decode cX10_mustOf 13 = .ok (.iconst 1, 1) := by decide +kernel
theorem dX10_mustOf_14 : decode cX10_mustOf 14 = .ok (.goto 4, 3) := by decide +kernel
theorem dX10_mustOf_17 : decode cX10_mustOf 17 = .ok (.iconst 0, 1) := by decide +kernel
theorem dX10_mustOf_18 : decode cX10_mustOf 18 = .ok (.istore_n 3, 1) := by decide +kernel
theorem dX10_mustOf_19 : decode cX10_mustOf 19 = .ok (.iconst 0, 1) := by decide +kernel
theorem dX10_mustOf_20 : decode cX10_mustOf 20 = .ok (.istore 4, 2) := by decide +kernel
theorem dX10_mustOf_22 : decode cX10_mustOf 22 = .ok (.iload 4, 2) := by decide +kernel
theorem dX10_mustOf_24 : decode cX10_mustOf 24 = .ok (.aload_n 0, 1) := by decide +kernel
theorem dX10_mustOf_25 : decode cX10_mustOf 25 = .ok (.getfield 142, 3) := by decide +kernel
theorem dX10_mustOf_28 : decode cX10_mustOf 28 = .ok (.if_icmp .ge 36, 3) := by decide +kernel
theorem dX10_mustOf_31 : decode cX10_mustOf 31 = .ok (.iload_n 3, 1) := by decide +kernel
theorem dX10_mustOf_32 : decode cX10_mustOf 32 = .ok (.ifCond .eq 32, 3) := by decide +kernel
theorem dX10_mustOf_35 : decode cX10_mustOf 35 = .ok (.iload_n 2, 1) := by decide +kernel
theorem dX10_mustOf_36 : decode cX10_mustOf 36 = .ok (.aload_n 0, 1) := by decide +kernel
theorem dX10_mustOf_37 : decode cX10_mustOf 37 = .ok (.iload_n 1, 1) := by decide +kernel
theorem dX10_mustOf_38 : decode cX10_mustOf 38 = .ok (.iload 4, 2) := by decide +kernel
theorem dX10_mustOf_40 : decode cX10_mustOf 40 = .ok (.invokevirtual 272, 3) := by decide +kernel
theorem dX10_mustOf_43 : decode cX10_mustOf 43 = .ok (.lconst 0, 1) := by decide +kernel
theorem dX10_mustOf_44 : decode cX10_mustOf 44 = .ok (.lcmp, 1) := by decide +kernel
theorem dX10_mustOf_45 : decode cX10_mustOf 45 = .ok (.ifCond .ne 10, 3) := by decide +kernel
theorem dX10_mustOf_48 : decode cX10_mustOf 48 = .ok (.iconst 1, 1) := by decide +kernel
theorem dX10_mustOf_49 : decode cX10_mustOf 49 = .ok (.iload 4, 2) := by decide +kernel
theorem dX10_mustOf_51 : decode cX10_mustOf 51 = .ok (.ishl, 1) := by decide +kernel
theorem dX10_mustOf_52 : decode cX10_mustOf 52 = .ok (.goto 4, 3) := by decide +kernel
theorem dX10_mustOf_55 : decode cX10_mustOf 55 = .ok (.iconst 0, 1) := by decide +kernel
theorem dX10_mustOf_56 : decode cX10_mustOf 56 = .ok (.ior, 1) := by decide +kernel
theorem dX10_mustOf_57 : decode cX10_mustOf 57 = .ok (.istore_n 2, 1) := by decide +kernel
theorem dX10_mustOf_58 : decode cX10_mustOf 58 = .ok (.iinc 4 1, 3) := by decide +kernel
theorem dX10_mustOf_61 : decode cX10_mustOf 61 = .ok (.goto (-39), 3) := by decide +kernel
theorem dX10_mustOf_64 : decode cX10_mustOf 64 = .ok (.iload_n 2, 1) := by decide +kernel
theorem dX10_mustOf_65 : decode cX10_mustOf 65 = .ok (.ireturn, 1) := by decide +kernel
theorem dX10_must_0 : decode cX10_must 0 = .ok (.aload_n 0, 1) := by decide +kernel
theorem dX10_must_1 : decode cX10_must 1 = .ok (.getfield 142, 3) := by decide +kernel
theorem dX10_must_4 : decode cX10_must 4 = .ok (.ifCond .ne 6, 3) := by decide +kernel
theorem dX10_must_7 : decode cX10_must 7 = .ok (.bipush (-103), 2) := by decide +kernel
theorem dX10_must_9 : decode cX10_must 9 = .ok (.ireturn, 1) := by decide +kernel
theorem dX10_must_10 : decode cX10_must 10 = .ok (.iload_n 1, 1) := by decide +kernel
theorem dX10_must_11 : decode cX10_must 11 = .ok (.iconst 0, 1) := by decide +kernel
theorem dX10_must_12 : decode cX10_must 12 = .ok (.bipush 12, 2) := by decide +kernel
theorem dX10_must_14 : decode cX10_must 14 = .ok (.invokestatic 96, 3) := by decide +kernel
theorem dX10_must_17 : decode cX10_must 17 = .ok (.ifCond .eq 11, 3) := by decide +kernel
theorem dX10_must_20 : decode cX10_must 20 = .ok (.aload_n 0, 1) := by decide +kernel
theorem dX10_must_21 : decode cX10_must 21 = .ok (.iload_n 1, 1) := by decide +kernel
theorem dX10_must_22 : decode cX10_must 22 = .ok (.invokevirtual 278, 3) := by decide +kernel
theorem dX10_must_25 : decode cX10_must 25 = .ok (.goto 5, 3) := by decide +kernel
theorem dX10_must_28 : decode cX10_must 28 = .ok (.bipush (-102), 2) := by decide +kernel
theorem dX10_must_30 : decode cX10_must 30 = .ok (.ireturn, 1) := by decide +kernel
theorem dX10_image_0 : decode cX10_image 0 = .ok (.aload_n 0, 1) := by decide +kernel
theorem dX10_image_1 : decode cX10_image 1 = .ok (.getfield 142, 3) := by decide +kernel
theorem dX10_image_4 : decode cX10_image 4 = .ok (.ifCond .ne 6, 3) := by decide +kernel
theorem dX10_image_7 : decode cX10_image 7 = .ok (.bipush (-103), 2) := by decide +kernel
theorem dX10_image_9 : decode cX10_image 9 = .ok (.ireturn, 1) := by decide +kernel
theorem dX10_image_10 : decode cX10_image 10 = .ok (.aload_n 0, 1) := by decide +kernel
theorem dX10_image_11 : decode cX10_image 11 = .ok (.iconst 1, 1) := by decide +kernel
theorem dX10_image_12 : decode cX10_image 12 = .ok (.putfield 281, 3) := by decide +kernel
theorem dX10_image_15 : decode cX10_image 15 = .ok (.aload_n 0, 1) := by decide +kernel
theorem dX10_image_16 : decode cX10_image 16 = .ok (.aload_n 0, 1) := by decide +kernel
theorem dX10_image_17 : decode cX10_image 17 = .ok (.getfield 151, 3) := by decide +kernel
theorem dX10_image_20 : decode cX10_image 20 = .ok (.putfield 284, 3) := by decide +kernel
theorem dX10_image_23 : decode cX10_image 23 = .ok (.aload_n 0, 1) := by decide +kernel
theorem dX10_image_24 : decode cX10_image 24 = .ok (.aload_n 0, 1) := by decide +kernel
theorem dX10_image_25 : decode cX10_image 25 = .ok (.getfield 145, 3) := by decide +kernel
theorem dX10_image_28 : decode cX10_image 28 = .ok (.putfield 287, 3) := by decide +kernel
theorem dX10_image_31 : decode cX10_image 31 = .ok (.aload_n 0, 1) := by decide +kernel
theorem dX10_image_32 : decode cX10_image 32 = .ok (.aload_n 0, 1) := by decide +kernel
theorem dX10_image_33 : decode cX10_image 33 = .ok (.getfield 26, 3) := by decide +kernel
theorem dX10_image_36 : decode cX10_image 36 = .ok (.putfield 290, 3) := by decide +kernel
theorem dX10_image_39 : decode cX10_image 39 = .ok (.iconst 0, 1) := by decide +kernel
theorem dX10_image_40 : decode cX10_image 40 = .ok (.istore_n 1, 1) := by decide +kernel
theorem dX10_image_41 : decode cX10_image 41 = .ok (.iload_n 1, 1) := by decide +kernel
theorem dX10_image_42 : decode cX10_image 42 = .ok (.bipush 6, 2) := by decide +kernel
theorem dX10_image_44 : decode cX10_image 44 = .ok (.if_icmp .ge 33, 3) := by decide +kernel
theorem dX10_image_47 : decode cX10_image 47 = .ok (.aload_n 0, 1) := by decide +kernel
theorem dX10_image_48 : decode cX10_image 48 = .ok (.getfield 34, 3) := by decide +kernel
theorem dX10_image_51 : decode cX10_image 51 = .ok (.iload_n 1, 1) := by decide +kernel
theorem dX10_image_52 : decode cX10_image 52 = .ok (.aload_n 0, 1) := by decide +kernel
theorem dX10_image_53 : decode cX10_image 53 = .ok (.getfield 17, 3) := by decide +kernel
theorem dX10_image_56 : decode cX10_image 56 = .ok (.iload_n 1, 1) := by decide +kernel
theorem dX10_image_57 : decode cX10_image 57 = .ok (.iaload, 1) := by decide +kernel
theorem dX10_image_58 : decode cX10_image 58 = .ok (.iastore, 1) := by decide +kernel
theorem dX10_image_59 : decode cX10_image 59 = .ok (.aload_n 0, 1) := by decide +kernel
theorem dX10_image_60 : decode cX10_image 60 = .ok (.getfield 37, 3) := by decide +kernel
theorem dX10_image_63 : decode cX10_image 63 = .ok (.iload_n 1, 1) := by decide +kernel
theorem dX10_image_64 : decode cX10_image 64 = .ok (.aload_n 0, 1) := by decide +kernel
theorem dX10_image_65 : decode cX10_image 65 = .ok (.getfield 20, 3) := by decide +kernel
theorem dX10_image_68 : decode cX10_image 68 = .ok (.iload_n 1, 1) := by decide +kernel
theorem dX10_image_69 : decode cX10_image 69 = .ok (.iaload, 1) := by decide +kernel
theorem dX10_image_70 : decode cX10_image 70 = .ok (.iastore, 1) := by decide +kernel
theorem dX10_image_71 : decode cX10_image 71 = .ok (.iinc 1 1, 3) := by decide +kernel
theorem dX10_image_74 : decode cX10_image 74 = .ok (.goto (-33), 3) := by decide +kernel
theorem dX10_image_77 : decode cX10_image 77 = .ok (.aload_n 0, 1) := by decide +kernel
theorem dX10_image_78 : decode cX10_image 78 = .ok (.getfield 145, 3) := by decide +kernel
theorem dX10_image_81 : decode cX10_image 81 = .ok (.ireturn, 1) := by decide +kernel
theorem dX10_restore_0 : decode cX10_restore 0 = .ok (.aload_n 0, 1) := by decide +kernel
theorem dX10_restore_1 : decode cX10_restore 1 = .ok (.getfield 281, 3) := by decide +kernel
theorem dX10_restore_4 : decode cX10_restore 4 = .ok (.ifCond .eq 14, 3) := by decide +kernel
theorem dX10_restore_7 : decode cX10_restore 7 = .ok (.aload_n 0, 1) := by decide +kernel
theorem dX10_restore_8 : decode cX10_restore 8 = .ok (.getfield 284, 3) := by decide +kernel
theorem dX10_restore_11 : decode cX10_restore 11 = .ok (.aload_n 0, 1) := by decide +kernel
theorem dX10_restore_12 : decode cX10_restore 12 = .ok (.getfield 151, 3) := by decide +kernel
theorem dX10_restore_15 : decode cX10_restore 15 = .ok (.if_icmp .eq 6, 3) := by decide +kernel
theorem dX10_restore_18 : decode cX10_restore 18 = .ok (.bipush (-103), 2) := by decide +kernel
theorem dX10_restore_20 : decode cX10_restore 20 = .ok (.ireturn, 1) := by decide +kernel
theorem dX10_restore_21 : decode cX10_restore 21 = .ok (.aload_n 0, 1) := by decide +kernel
theorem dX10_restore_22 : decode cX10_restore 22 = .ok (.aload_n 0, 1) := by decide +kernel
theorem dX10_restore_23 : decode cX10_restore 23 = .ok (.getfield 287, 3) := by decide +kernel
theorem dX10_restore_26 : decode cX10_restore 26 = .ok (.putfield 145, 3) := by decide +kernel
theorem dX10_restore_29 : decode cX10_restore 29 = .ok (.aload_n 0, 1) := by decide +kernel
theorem dX10_restore_30 : decode cX10_restore 30 = .ok (.aload_n 0, 1) := by decide +kernel
theorem dX10_restore_31 : decode cX10_restore 31 = .ok (.getfield 290, 3) := by decide +kernel
theorem dX10_restore_34 : decode cX10_restore 34 = .ok (.putfield 26, 3) := by decide +kernel
theorem dX10_restore_37 : decode cX10_restore 37 = .ok (.iconst 0, 1) := by decide +kernel
theorem dX10_restore_38 : decode cX10_restore 38 = .ok (.istore_n 1, 1) := by decide +kernel
theorem dX10_restore_39 : decode cX10_restore 39 = .ok (.iload_n 1, 1) := by decide +kernel
theorem dX10_restore_40 : decode cX10_restore 40 = .ok (.bipush 6, 2) := by decide +kernel
theorem dX10_restore_42 : decode cX10_restore 42 = .ok (.if_icmp .ge 33, 3) := by decide +kernel
theorem dX10_restore_45 : decode cX10_restore 45 = .ok (.aload_n 0, 1) := by decide +kernel
theorem dX10_restore_46 : decode cX10_restore 46 = .ok (.getfield 17, 3) := by decide +kernel
theorem dX10_restore_49 : decode cX10_restore 49 = .ok (.iload_n 1, 1) := by decide +kernel
theorem dX10_restore_50 : decode cX10_restore 50 = .ok (.aload_n 0, 1) := by decide +kernel
theorem dX10_restore_51 : decode cX10_restore 51 = .ok (.getfield 34, 3) := by decide +kernel
theorem dX10_restore_54 : decode cX10_restore 54 = .ok (.iload_n 1, 1) := by decide +kernel
theorem dX10_restore_55 : decode cX10_restore 55 = .ok (.iaload, 1) := by decide +kernel
theorem dX10_restore_56 : decode cX10_restore 56 = .ok (.iastore, 1) := by decide +kernel
theorem dX10_restore_57 : decode cX10_restore 57 = .ok (.aload_n 0, 1) := by decide +kernel
theorem dX10_restore_58 : decode cX10_restore 58 = .ok (.getfield 20, 3) := by decide +kernel
theorem dX10_restore_61 : decode cX10_restore 61 = .ok (.iload_n 1, 1) := by decide +kernel
theorem dX10_restore_62 : decode cX10_restore 62 = .ok (.aload_n 0, 1) := by decide +kernel
theorem dX10_restore_63 : decode cX10_restore 63 = .ok (.getfield 37, 3) := by decide +kernel
theorem dX10_restore_66 : decode cX10_restore 66 = .ok (.iload_n 1, 1) := by decide +kernel
theorem dX10_restore_67 : decode cX10_restore 67 = .ok (.iaload, 1) := by decide +kernel
theorem dX10_restore_68 : decode cX10_restore 68 = .ok (.iastore, 1) := by decide +kernel
theorem dX10_restore_69 : decode cX10_restore 69 = .ok (.iinc 1 1, 3) := by decide +kernel
theorem dX10_restore_72 : decode cX10_restore 72 = .ok (.goto (-33), 3) := by decide +kernel
theorem dX10_restore_75 : decode cX10_restore 75 = .ok (.aload_n 0, 1) := by decide +kernel
theorem dX10_restore_76 : decode cX10_restore 76 = .ok (.getfield 145, 3) := by decide +kernel
theorem dX10_restore_79 : decode cX10_restore 79 = .ok (.ireturn, 1) := by decide +kernel
theorem dX10_feudMany_0 : decode cX10_feudMany 0 = .ok (.iconst 0, 1) := by decide +kernel
theorem dX10_feudMany_1 : decode cX10_feudMany 1 = .ok (.istore_n 1, 1) := by decide +kernel
theorem dX10_feudMany_2 : decode cX10_feudMany 2 = .ok (.iconst 0, 1) := by decide +kernel
theorem dX10_feudMany_3 : decode cX10_feudMany 3 = .ok (.istore_n 2, 1) := by decide +kernel
theorem dX10_feudMany_4 : decode cX10_feudMany 4 = .ok (.iload_n 2, 1) := by decide +kernel
theorem dX10_feudMany_5 : decode cX10_feudMany 5 = .ok (.aload_n 0, 1) := by decide +kernel
theorem dX10_feudMany_6 : decode cX10_feudMany 6 = .ok (.getfield 142, 3) := by decide +kernel
theorem dX10_feudMany_9 : decode cX10_feudMany 9 = .ok (.if_icmp .ge 49, 3) := by decide +kernel
theorem dX10_feudMany_12 : decode cX10_feudMany 12 = .ok (.iload_n 2, 1) := by decide +kernel
theorem dX10_feudMany_13 : decode cX10_feudMany 13 = .ok (.iconst 1, 1) := by decide +kernel
theorem dX10_feudMany_14 : decode cX10_feudMany 14 = .ok (.iadd, 1) := by decide +kernel
theorem dX10_feudMany_15 : decode cX10_feudMany 15 = .ok (.istore_n 3, 1) := by decide +kernel
theorem dX10_feudMany_16 : decode cX10_feudMany 16 = .ok (.iload_n 3, 1) := by decide +kernel
theorem dX10_feudMany_17 : decode cX10_feudMany 17 = .ok (.aload_n 0, 1) := by decide +kernel
theorem dX10_feudMany_18 : decode cX10_feudMany 18 = .ok (.getfield 142, 3) := by decide +kernel
theorem dX10_feudMany_21 : decode cX10_feudMany 21 = .ok (.if_icmp .ge 31, 3) := by decide +kernel
theorem dX10_feudMany_24 : decode cX10_feudMany 24 = .ok (.iload_n 1, 1) := by decide +kernel
theorem dX10_feudMany_25 : decode cX10_feudMany 25 = .ok (.aload_n 0, 1) := by decide +kernel
theorem dX10_feudMany_26 : decode cX10_feudMany 26 = .ok (.getfield 13, 3) := by decide +kernel
theorem dX10_feudMany_29 : decode cX10_feudMany 29 = .ok (.bipush 6, 2) := by decide +kernel
theorem dX10_feudMany_31 : decode cX10_feudMany 31 = .ok (.iload_n 2, 1) := by decide +kernel
theorem dX10_feudMany_32 : decode cX10_feudMany 32 = .ok (.imul, 1) := by decide +kernel
theorem dX10_feudMany_33 : decode cX10_feudMany 33 = .ok (.iload_n 3, 1) := by decide +kernel
theorem dX10_feudMany_34 : decode cX10_feudMany 34 = .ok (.iadd, 1) := by decide +kernel
theorem dX10_feudMany_35 : decode cX10_feudMany 35 = .ok (.baload, 1) := by decide +kernel
theorem dX10_feudMany_36 : decode cX10_feudMany 36 = .ok (.ifCond .eq 7, 3) := by decide +kernel
theorem dX10_feudMany_39 : decode cX10_feudMany 39 = .ok (.iconst 1, 1) := by decide +kernel
theorem dX10_feudMany_40 : decode cX10_feudMany 40 = .ok (.goto 4, 3) := by decide +kernel
theorem dX10_feudMany_43 : decode cX10_feudMany 43 = .ok (.iconst 0, 1) := by decide +kernel
theorem dX10_feudMany_44 : decode cX10_feudMany 44 = .ok (.iadd, 1) := by decide +kernel
theorem dX10_feudMany_45 : decode cX10_feudMany 45 = .ok (.istore_n 1, 1) := by decide +kernel
theorem dX10_feudMany_46 : decode cX10_feudMany 46 = .ok (.iinc 3 1, 3) := by decide +kernel
theorem dX10_feudMany_49 : decode cX10_feudMany 49 = .ok (.goto (-33), 3) := by decide +kernel
theorem dX10_feudMany_52 : decode cX10_feudMany 52 = .ok (.iinc 2 1, 3) := by decide +kernel
theorem dX10_feudMany_55 : decode cX10_feudMany 55 = .ok (.goto (-51), 3) := by decide +kernel
theorem dX10_feudMany_58 : decode cX10_feudMany 58 = .ok (.iload_n 1, 1) := by decide +kernel
theorem dX10_feudMany_59 : decode cX10_feudMany 59 = .ok (.ireturn, 1) := by decide +kernel
theorem dX10_howMany_0 : decode cX10_howMany 0 = .ok (.iload_n 1, 1) := by decide +kernel
theorem dX10_howMany_1 : decode cX10_howMany 1 = .ok (.tableswitch 70 0 5 #[39, 44, 49, 54, 60, 65], 39) := by decide +kernel
theorem dX10_howMany_40 : decode cX10_howMany 40 = .ok (.aload_n 0, 1) := by decide +kernel
theorem dX10_howMany_41 : decode cX10_howMany 41 = .ok (.getfield 142, 3) := by decide +kernel
theorem dX10_howMany_44 : decode cX10_howMany 44 = .ok (.ireturn, 1) := by decide +kernel
theorem dX10_howMany_45 : decode cX10_howMany 45 = .ok (.aload_n 0, 1) := by decide +kernel
theorem dX10_howMany_46 : decode cX10_howMany 46 = .ok (.invokevirtual 293, 3) := by decide +kernel
theorem dX10_howMany_49 : decode cX10_howMany 49 = .ok (.ireturn, 1) := by decide +kernel
theorem dX10_howMany_50 : decode cX10_howMany 50 = .ok (.aload_n 0, 1) := by decide +kernel
theorem dX10_howMany_51 : decode cX10_howMany 51 = .ok (.getfield 145, 3) := by decide +kernel
theorem dX10_howMany_54 : decode cX10_howMany 54 = .ok (.ireturn, 1) := by decide +kernel
theorem dX10_howMany_55 : decode cX10_howMany 55 = .ok (.aload_n 0, 1) := by decide +kernel
theorem dX10_howMany_56 : decode cX10_howMany 56 = .ok (.getfield 26, 3) := by decide +kernel
theorem dX10_howMany_59 : decode cX10_howMany 59 = .ok (.l2i, 1) := by decide +kernel
theorem dX10_howMany_60 : decode cX10_howMany 60 = .ok (.ireturn, 1) := by decide +kernel
theorem dX10_howMany_61 : decode cX10_howMany 61 = .ok (.aload_n 0, 1) := by decide +kernel
theorem dX10_howMany_62 : decode cX10_howMany 62 = .ok (.getfield 89, 3) := by decide +kernel
theorem dX10_howMany_65 : decode cX10_howMany 65 = .ok (.ireturn, 1) := by decide +kernel
theorem dX10_howMany_66 : decode cX10_howMany 66 = .ok (.aload_n 0, 1) := by decide +kernel
theorem dX10_howMany_67 : decode cX10_howMany 67 = .ok (.getfield 151, 3) := by decide +kernel
theorem dX10_howMany_70 : decode cX10_howMany 70 = .ok (.ireturn, 1) := by decide +kernel
theorem dX10_howMany_71 : decode cX10_howMany 71 = .ok (.bipush (-102), 2) := by decide +kernel
theorem dX10_howMany_73 : decode cX10_howMany 73 = .ok (.ireturn, 1) := by decide +kernel
theorem dX10_count_0 : decode cX10_count 0 = .ok (.aload_n 0, 1) := by decide +kernel
theorem dX10_count_1 : decode cX10_count 1 = .ok (.iload_n 1, 1) := by decide +kernel
theorem dX10_count_2 : decode cX10_count 2 = .ok (.invokevirtual 296, 3) := by decide +kernel
theorem dX10_count_5 : decode cX10_count 5 = .ok (.ireturn, 1) := by decide +kernel
theorem dX10_mix_0 : decode cX10_mix 0 = .ok (.aload_n 0, 1) := by decide +kernel
theorem dX10_mix_1 : decode cX10_mix 1 = .ok (.ldc2_w 299, 3) := by decide +kernel
theorem dX10_mix_4 : decode cX10_mix 4 = .ok (.aload_n 0, 1) := by decide +kernel
theorem dX10_mix_5 : decode cX10_mix 5 = .ok (.getfield 301, 3) := by decide +kernel
theorem dX10_mix_8 : decode cX10_mix 8 = .ok (.lmul, 1) := by decide +kernel
theorem dX10_mix_9 : decode cX10_mix 9 = .ok (.lload_n 1, 1) := by decide +kernel
theorem dX10_mix_10 : decode cX10_mix 10 = .ok (.ladd, 1) := by decide +kernel
theorem dX10_mix_11 : decode cX10_mix 11 = .ok (.putfield 301, 3) := by decide +kernel
theorem dX10_mix_14 : decode cX10_mix 14 = .ok (.return_, 1) := by decide +kernel
theorem dX10_mixHouse_0 : decode cX10_mixHouse 0 = .ok (.iconst 0, 1) := by decide +kernel
theorem dX10_mixHouse_1 : decode cX10_mixHouse 1 = .ok (.istore_n 2, 1) := by decide +kernel
theorem dX10_mixHouse_2 : decode cX10_mixHouse 2 = .ok (.iload_n 2, 1) := by decide +kernel
theorem dX10_mixHouse_3 : decode cX10_mixHouse 3 = .ok (.iconst 4, 1) := by decide +kernel
theorem dX10_mixHouse_4 : decode cX10_mixHouse 4 = .ok (.if_icmp .ge 20, 3) := by decide +kernel
theorem dX10_mixHouse_7 : decode cX10_mixHouse 7 = .ok (.aload_n 0, 1) := by decide +kernel
theorem dX10_mixHouse_8 : decode cX10_mixHouse 8 = .ok (.aload_n 0, 1) := by decide +kernel
theorem dX10_mixHouse_9 : decode cX10_mixHouse 9 = .ok (.iload_n 1, 1) := by decide +kernel
theorem dX10_mixHouse_10 : decode cX10_mixHouse 10 = .ok (.iload_n 2, 1) := by decide +kernel
theorem dX10_mixHouse_11 : decode cX10_mixHouse 11 = .ok (.invokevirtual 173, 3) := by decide +kernel
theorem dX10_mixHouse_14 : decode cX10_mixHouse 14 = .ok (.i2l, 1) := by decide +kernel
theorem dX10_mixHouse_15 : decode cX10_mixHouse 15 = .ok (.invokevirtual 304, 3) := by decide +kernel
theorem dX10_mixHouse_18 : decode cX10_mixHouse 18 = .ok (.iinc 2 1, 3) := by decide +kernel
theorem dX10_mixHouse_21 : decode cX10_mixHouse 21 = .ok (.goto (-19), 3) := by decide +kernel
theorem dX10_mixHouse_24 : decode cX10_mixHouse 24 = .ok (.iconst 0, 1) := by decide +kernel
theorem dX10_mixHouse_25 : decode cX10_mixHouse 25 = .ok (.istore_n 2, 1) := by decide +kernel
theorem dX10_mixHouse_26 : decode cX10_mixHouse 26 = .ok (.iload_n 2, 1) := by decide +kernel
theorem dX10_mixHouse_27 : decode cX10_mixHouse 27 = .ok (.aload_n 0, 1) := by decide +kernel
theorem dX10_mixHouse_28 : decode cX10_mixHouse 28 = .ok (.getfield 142, 3) := by decide +kernel
theorem dX10_mixHouse_31 : decode cX10_mixHouse 31 = .ok (.if_icmp .ge 32, 3) := by decide +kernel
theorem dX10_mixHouse_34 : decode cX10_mixHouse 34 = .ok (.aload_n 0, 1) := by decide +kernel
theorem dX10_mixHouse_35 : decode cX10_mixHouse 35 = .ok (.aload_n 0, 1) := by decide +kernel
theorem dX10_mixHouse_36 : decode cX10_mixHouse 36 = .ok (.getfield 13, 3) := by decide +kernel
theorem dX10_mixHouse_39 : decode cX10_mixHouse 39 = .ok (.bipush 6, 2) := by decide +kernel
theorem dX10_mixHouse_41 : decode cX10_mixHouse 41 = .ok (.iload_n 1, 1) := by decide +kernel
theorem dX10_mixHouse_42 : decode cX10_mixHouse 42 = .ok (.imul, 1) := by decide +kernel
theorem dX10_mixHouse_43 : decode cX10_mixHouse 43 = .ok (.iload_n 2, 1) := by decide +kernel
theorem dX10_mixHouse_44 : decode cX10_mixHouse 44 = .ok (.iadd, 1) := by decide +kernel
theorem dX10_mixHouse_45 : decode cX10_mixHouse 45 = .ok (.baload, 1) := by decide +kernel
theorem dX10_mixHouse_46 : decode cX10_mixHouse 46 = .ok (.ifCond .eq 7, 3) := by decide +kernel
theorem dX10_mixHouse_49 : decode cX10_mixHouse 49 = .ok (.lconst 1, 1) := by decide +kernel
theorem dX10_mixHouse_50 : decode cX10_mixHouse 50 = .ok (.goto 4, 3) := by decide +kernel
theorem dX10_mixHouse_53 : decode cX10_mixHouse 53 = .ok (.lconst 0, 1) := by decide +kernel
theorem dX10_mixHouse_54 : decode cX10_mixHouse 54 = .ok (.invokevirtual 304, 3) := by decide +kernel
theorem dX10_mixHouse_57 : decode cX10_mixHouse 57 = .ok (.iinc 2 1, 3) := by decide +kernel
theorem dX10_mixHouse_60 : decode cX10_mixHouse 60 = .ok (.goto (-34), 3) := by decide +kernel
theorem dX10_mixHouse_63 : decode cX10_mixHouse 63 = .ok (.aload_n 0, 1) := by decide +kernel
theorem dX10_mixHouse_64 : decode cX10_mixHouse 64 = .ok (.aload_n 0, 1) := by decide +kernel
theorem dX10_mixHouse_65 : decode cX10_mixHouse 65 = .ok (.iload_n 1, 1) := by decide +kernel
theorem dX10_mixHouse_66 : decode cX10_mixHouse 66 = .ok (.invokevirtual 186, 3) := by decide +kernel
theorem dX10_mixHouse_69 : decode cX10_mixHouse 69 = .ok (.i2l, 1) := by decide +kernel
theorem dX10_mixHouse_70 : decode cX10_mixHouse 70 = .ok (.invokevirtual 304, 3) := by decide +kernel
theorem dX10_mixHouse_73 : decode cX10_mixHouse 73 = .ok (.return_, 1) := by decide +kernel
theorem dX10_digest_0 : decode cX10_digest 0 = .ok (.aload_n 0, 1) := by decide +kernel
theorem dX10_digest_1 : decode cX10_digest 1 = .ok (.ldc2_w 308, 3) := by decide +kernel
theorem dX10_digest_4 : decode cX10_digest 4 = .ok (.putfield 301, 3) := by decide +kernel
theorem dX10_digest_7 : decode cX10_digest 7 = .ok (.iconst 0, 1) := by decide +kernel
theorem dX10_digest_8 : decode cX10_digest 8 = .ok (.istore_n 1, 1) := by decide +kernel
theorem dX10_digest_9 : decode cX10_digest 9 = .ok (.iload_n 1, 1) := by decide +kernel
theorem dX10_digest_10 : decode cX10_digest 10 = .ok (.aload_n 0, 1) := by decide +kernel
theorem dX10_digest_11 : decode cX10_digest 11 = .ok (.getfield 142, 3) := by decide +kernel
theorem dX10_digest_14 : decode cX10_digest 14 = .ok (.if_icmp .ge 14, 3) := by decide +kernel
theorem dX10_digest_17 : decode cX10_digest 17 = .ok (.aload_n 0, 1) := by decide +kernel
theorem dX10_digest_18 : decode cX10_digest 18 = .ok (.iload_n 1, 1) := by decide +kernel
theorem dX10_digest_19 : decode cX10_digest 19 = .ok (.invokevirtual 310, 3) := by decide +kernel
theorem dX10_digest_22 : decode cX10_digest 22 = .ok (.iinc 1 1, 3) := by decide +kernel
theorem dX10_digest_25 : decode cX10_digest 25 = .ok (.goto (-16), 3) := by decide +kernel
theorem dX10_digest_28 : decode cX10_digest 28 = .ok (.aload_n 0, 1) := by decide +kernel
theorem dX10_digest_29 : decode cX10_digest 29 = .ok (.getfield 142, 3) := by decide +kernel
theorem dX10_digest_32 : decode cX10_digest 32 = .ok (.ifCond .le 67, 3) := by decide +kernel
theorem dX10_digest_35 : decode cX10_digest 35 = .ok (.aload_n 0, 1) := by decide +kernel
theorem dX10_digest_36 : decode cX10_digest 36 = .ok (.aload_n 0, 1) := by decide +kernel
theorem dX10_digest_37 : decode cX10_digest 37 = .ok (.aload_n 0, 1) := by decide +kernel
theorem dX10_digest_38 : decode cX10_digest 38 = .ok (.getfield 17, 3) := by decide +kernel
theorem dX10_digest_41 : decode cX10_digest 41 = .ok (.invokevirtual 176, 3) := by decide +kernel
theorem dX10_digest_44 : decode cX10_digest 44 = .ok (.i2l, 1) := by decide +kernel
theorem dX10_digest_45 : decode cX10_digest 45 = .ok (.invokevirtual 304, 3) := by decide +kernel
theorem dX10_digest_48 : decode cX10_digest 48 = .ok (.aload_n 0, 1) := by decide +kernel
theorem dX10_digest_49 : decode cX10_digest 49 = .ok (.aload_n 0, 1) := by decide +kernel
theorem dX10_digest_50 : decode cX10_digest 50 = .ok (.invokevirtual 180, 3) := by decide +kernel
theorem dX10_digest_53 : decode cX10_digest 53 = .ok (.i2l, 1) := by decide +kernel
theorem dX10_digest_54 : decode cX10_digest 54 = .ok (.invokevirtual 304, 3) := by decide +kernel
theorem dX10_digest_57 : decode cX10_digest 57 = .ok (.aload_n 0, 1) := by decide +kernel
theorem dX10_digest_58 : decode cX10_digest 58 = .ok (.aload_n 0, 1) := by decide +kernel
theorem dX10_digest_59 : decode cX10_digest 59 = .ok (.iconst 2, 1) := by decide +kernel
theorem dX10_digest_60 : decode cX10_digest 60 = .ok (.iconst 0, 1) := by decide +kernel
theorem dX10_digest_61 : decode cX10_digest 61 = .ok (.invokevirtual 236, 3) := by decide +kernel
theorem dX10_digest_64 : decode cX10_digest 64 = .ok (.i2l, 1) := by decide +kernel
theorem dX10_digest_65 : decode cX10_digest 65 = .ok (.invokevirtual 304, 3) := by decide +kernel
theorem dX10_digest_68 : decode cX10_digest 68 = .ok (.aload_n 0, 1) := by decide +kernel
theorem dX10_digest_69 : decode cX10_digest 69 = .ok (.aload_n 0, 1) := by decide +kernel
theorem dX10_digest_70 : decode cX10_digest 70 = .ok (.iconst 2, 1) := by decide +kernel
theorem dX10_digest_71 : decode cX10_digest 71 = .ok (.iconst 1, 1) := by decide +kernel
theorem dX10_digest_72 : decode cX10_digest 72 = .ok (.invokevirtual 236, 3) := by decide +kernel
theorem dX10_digest_75 : decode cX10_digest 75 = .ok (.i2l, 1) := by decide +kernel
theorem dX10_digest_76 : decode cX10_digest 76 = .ok (.invokevirtual 304, 3) := by decide +kernel
theorem dX10_digest_79 : decode cX10_digest 79 = .ok (.aload_n 0, 1) := by decide +kernel
theorem dX10_digest_80 : decode cX10_digest 80 = .ok (.aload_n 0, 1) := by decide +kernel
theorem dX10_digest_81 : decode cX10_digest 81 = .ok (.iconst 3, 1) := by decide +kernel
theorem dX10_digest_82 : decode cX10_digest 82 = .ok (.iconst (-1), 1) := by decide +kernel
theorem dX10_digest_83 : decode cX10_digest 83 = .ok (.invokevirtual 272, 3) := by decide +kernel
theorem dX10_digest_86 : decode cX10_digest 86 = .ok (.invokevirtual 304, 3) := by decide +kernel
theorem dX10_digest_89 : decode cX10_digest 89 = .ok (.aload_n 0, 1) := by decide +kernel
theorem dX10_digest_90 : decode cX10_digest 90 = .ok (.aload_n 0, 1) := by decide +kernel
theorem dX10_digest_91 : decode cX10_digest 91 = .ok (.iconst 3, 1) := by decide +kernel
theorem dX10_digest_92 : decode cX10_digest 92 = .ok (.invokevirtual 278, 3) := by decide +kernel
theorem dX10_digest_95 : decode cX10_digest 95 = .ok (.i2l, 1) := by decide +kernel
theorem dX10_digest_96 : decode cX10_digest 96 = .ok (.invokevirtual 304, 3) := by decide +kernel
theorem dX10_digest_99 : decode cX10_digest 99 = .ok (.aload_n 0, 1) := by decide +kernel
theorem dX10_digest_100 : decode cX10_digest 100 = .ok (.getfield 148, 3) := by decide +kernel
theorem dX10_digest_103 : decode cX10_digest 103 = .ok (.ifCond .eq 21, 3) := by decide +kernel
theorem dX10_digest_106 : decode cX10_digest 106 = .ok (.aload_n 0, 1) := by decide +kernel
theorem dX10_digest_107 : decode cX10_digest 107 = .ok (.aload_n 0, 1) := by decide +kernel
theorem dX10_digest_108 : decode cX10_digest 108 = .ok (.invokevirtual 254, 3) := by decide +kernel
theorem dX10_digest_111 : decode cX10_digest 111 = .ok (.i2l, 1) := by decide +kernel
theorem dX10_digest_112 : decode cX10_digest 112 = .ok (.invokevirtual 304, 3) := by decide +kernel
theorem dX10_digest_115 : decode cX10_digest 115 = .ok (.aload_n 0, 1) := by decide +kernel
theorem dX10_digest_116 : decode cX10_digest 116 = .ok (.aload_n 0, 1) := by decide +kernel
theorem dX10_digest_117 : decode cX10_digest 117 = .ok (.invokevirtual 261, 3) := by decide +kernel
theorem dX10_digest_120 : decode cX10_digest 120 = .ok (.i2l, 1) := by decide +kernel
theorem dX10_digest_121 : decode cX10_digest 121 = .ok (.invokevirtual 304, 3) := by decide +kernel
theorem dX10_digest_124 : decode cX10_digest 124 = .ok (.iconst 0, 1) := by decide +kernel
theorem dX10_digest_125 : decode cX10_digest 125 = .ok (.istore_n 1, 1) := by decide +kernel
theorem dX10_digest_126 : decode cX10_digest 126 = .ok (.iload_n 1, 1) := by decide +kernel
theorem dX10_digest_127 : decode cX10_digest 127 = .ok (.aload_n 0, 1) := by decide +kernel
theorem dX10_digest_128 : decode cX10_digest 128 = .ok (.getfield 89, 3) := by decide +kernel
theorem dX10_digest_131 : decode cX10_digest 131 = .ok (.if_icmp .ge 20, 3) := by decide +kernel
theorem dX10_digest_134 : decode cX10_digest 134 = .ok (.aload_n 0, 1) := by decide +kernel
theorem dX10_digest_135 : decode cX10_digest 135 = .ok (.aload_n 0, 1) := by decide +kernel
theorem dX10_digest_136 : decode cX10_digest 136 = .ok (.getfield 30, 3) := by decide +kernel
theorem dX10_digest_139 : decode cX10_digest 139 = .ok (.iload_n 1, 1) := by decide +kernel
theorem dX10_digest_140 : decode cX10_digest 140 = .ok (.baload, 1) := by decide +kernel
theorem dX10_digest_141 : decode cX10_digest 141 = .ok (.i2l, 1) := by decide +kernel
theorem dX10_digest_142 : decode cX10_digest 142 = .ok (.invokevirtual 304, 3) := by decide +kernel
theorem dX10_digest_145 : decode cX10_digest 145 = .ok (.iinc 1 1, 3) := by decide +kernel
theorem dX10_digest_148 : decode cX10_digest 148 = .ok (.goto (-22), 3) := by decide +kernel
theorem dX10_digest_151 : decode cX10_digest 151 = .ok (.iconst 0, 1) := by decide +kernel
theorem dX10_digest_152 : decode cX10_digest 152 = .ok (.istore_n 1, 1) := by decide +kernel
theorem dX10_digest_153 : decode cX10_digest 153 = .ok (.iload_n 1, 1) := by decide +kernel
theorem dX10_digest_154 : decode cX10_digest 154 = .ok (.bipush 6, 2) := by decide +kernel
theorem dX10_digest_156 : decode cX10_digest 156 = .ok (.if_icmp .ge 19, 3) := by decide +kernel
theorem dX10_digest_159 : decode cX10_digest 159 = .ok (.aload_n 0, 1) := by decide +kernel
theorem dX10_digest_160 : decode cX10_digest 160 = .ok (.aload_n 0, 1) := by decide +kernel
theorem dX10_digest_161 : decode cX10_digest 161 = .ok (.iload_n 1, 1) := by decide +kernel
theorem dX10_digest_162 : decode cX10_digest 162 = .ok (.invokevirtual 296, 3) := by decide +kernel
theorem dX10_digest_165 : decode cX10_digest 165 = .ok (.i2l, 1) := by decide +kernel
theorem dX10_digest_166 : decode cX10_digest 166 = .ok (.invokevirtual 304, 3) := by decide +kernel
theorem dX10_digest_169 : decode cX10_digest 169 = .ok (.iinc 1 1, 3) := by decide +kernel
theorem dX10_digest_172 : decode cX10_digest 172 = .ok (.goto (-19), 3) := by decide +kernel
theorem dX10_digest_175 : decode cX10_digest 175 = .ok (.aload_n 0, 1) := by decide +kernel
theorem dX10_digest_176 : decode cX10_digest 176 = .ok (.getfield 301, 3) := by decide +kernel
theorem dX10_digest_179 : decode cX10_digest 179 = .ok (.lreturn, 1) := by decide +kernel
