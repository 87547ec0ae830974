theorem dX0_init_0 : decode cX0_init 0 = .ok (.aload_n 0, 1) := by decide +kernel
theorem dX0_init_1 : decode cX0_init 1 = .ok (.invokespecial 3, 3) := by decide +kernel
theorem dX0_init_4 : decode cX0_init 4 = .ok (.aload_n 0, 1) := by decide +kernel
theorem dX0_init_5 : decode cX0_init 5 = .ok (.aload_n 1, 1) := by decide +kernel
theorem dX0_init_6 : decode cX0_init 6 = .ok (.putfield 9, 3) := by decide +kernel
theorem dX0_init_9 : decode cX0_init 9 = .ok (.aload_n 0, 1) := by decide +kernel
theorem dX0_init_10 : decode cX0_init 10 = .ok (.sipush 576, 3) := by decide +kernel
theorem dX0_init_13 : decode cX0_init 13 = .ok (.newarray .long, 2) := by decide +kernel
theorem dX0_init_15 : decode cX0_init 15 = .ok (.putfield 15, 3) := by decide +kernel
theorem dX0_init_18 : decode cX0_init 18 = .ok (.aload_n 0, 1) := by decide +kernel
theorem dX0_init_19 : decode cX0_init 19 = .ok (.bipush 40, 2) := by decide +kernel
theorem dX0_init_21 : decode cX0_init 21 = .ok (.newarray .long, 2) := by decide +kernel
theorem dX0_init_23 : decode cX0_init 23 = .ok (.putfield 19, 3) := by decide +kernel
theorem dX0_init_26 : decode cX0_init 26 = .ok (.aload_n 0, 1) := by decide +kernel
theorem dX0_init_27 : decode cX0_init 27 = .ok (.iconst 0, 1) := by decide +kernel
theorem dX0_init_28 : decode cX0_init 28 = .ok (.putfield 22, 3) := by decide +kernel
theorem dX0_init_31 : decode cX0_init 31 = .ok (.aload_n 0, 1) := by decide +kernel
theorem dX0_init_32 : decode cX0_init 32 = .ok (.iconst 0, 1) := by decide +kernel
theorem dX0_init_33 : decode cX0_init 33 = .ok (.putfield 26, 3) := by decide +kernel
theorem dX0_init_36 : decode cX0_init 36 = .ok (.return_, 1) := by decide +kernel
theorem dX0_fill_0 : decode cX0_fill 0 = .ok (.aload_n 0, 1) := by decide +kernel
theorem dX0_fill_1 : decode cX0_fill 1 = .ok (.aload_n 0, 1) := by decide +kernel
theorem dX0_fill_2 : decode cX0_fill 2 = .ok (.getfield 9, 3) := by decide +kernel
theorem dX0_fill_5 : decode cX0_fill 5 = .ok (.getfield 29, 3) := by decide +kernel
theorem dX0_fill_8 : decode cX0_fill 8 = .ok (.putfield 22, 3) := by decide +kernel
theorem dX0_fill_11 : decode cX0_fill 11 = .ok (.aload_n 0, 1) := by decide +kernel
theorem dX0_fill_12 : decode cX0_fill 12 = .ok (.aload_n 0, 1) := by decide +kernel
theorem dX0_fill_13 : decode cX0_fill 13 = .ok (.getfield 22, 3) := by decide +kernel
theorem dX0_fill_16 : decode cX0_fill 16 = .ok (.bipush 6, 2) := by decide +kernel
theorem dX0_fill_18 : decode cX0_fill 18 = .ok (.if_icmp .gt 7, 3) := by decide +kernel
theorem dX0_fill_21 : decode cX0_fill 21 = .ok (.iconst 1, 1) := by decide +kernel
theorem dX0_fill_22 : decode cX0_fill 22 = .ok (.goto 12, 3) := by decide +kernel
theorem dX0_fill_25 : decode cX0_fill 25 = .ok (.iconst 1, 1) := by decide +kernel
theorem dX0_fill_26 : decode cX0_fill 26 = .ok (.aload_n 0, 1) := by decide +kernel
theorem dX0_fill_27 : decode cX0_fill 27 = .ok (.getfield 22, 3) := by decide +kernel
theorem dX0_fill_30 : decode cX0_fill 30 = .ok (.bipush 6, 2) := by decide +kernel
theorem dX0_fill_32 : decode cX0_fill 32 = .ok (.isub, 1) := by decide +kernel
theorem dX0_fill_33 : decode cX0_fill 33 = .ok (.ishl, 1) := by decide +kernel
theorem dX0_fill_34 : decode cX0_fill 34 = .ok (.putfield 26, 3) := by decide +kernel
theorem dX0_fill_37 : decode cX0_fill 37 = .ok (.iconst 0, 1) := by decide +kernel
theorem dX0_fill_38 : decode cX0_fill 38 = .ok (.istore_n 1, 1) := by decide +kernel
theorem dX0_fill_39 : decode cX0_fill 39 = .ok (.iload_n 1, 1) := by decide +kernel
theorem dX0_fill_40 : decode cX0_fill 40 = .ok (.bipush 8, 2) := by decide +kernel
theorem dX0_fill_42 : decode cX0_fill 42 = .ok (.if_icmp .ge 31, 3) := by decide +kernel
theorem dX0_fill_45 : decode cX0_fill 45 = .ok (.iconst 0, 1) := by decide +kernel
theorem dX0_fill_46 : decode cX0_fill 46 = .ok (.istore_n 2, 1) := by decide +kernel
theorem dX0_fill_47 : decode cX0_fill 47 = .ok (.iload_n 2, 1) := by decide +kernel
theorem dX0_fill_48 : decode cX0_fill 48 = .ok (.aload_n 0, 1) := by decide +kernel
theorem dX0_fill_49 : decode cX0_fill 49 = .ok (.getfield 26, 3) := by decide +kernel
theorem dX0_fill_52 : decode cX0_fill 52 = .ok (.if_icmp .ge 15, 3) := by decide +kernel
theorem dX0_fill_55 : decode cX0_fill 55 = .ok (.aload_n 0, 1) := by decide +kernel
theorem dX0_fill_56 : decode cX0_fill 56 = .ok (.iload_n 1, 1) := by decide +kernel
theorem dX0_fill_57 : decode cX0_fill 57 = .ok (.iload_n 2, 1) := by decide +kernel
theorem dX0_fill_58 : decode cX0_fill 58 = .ok (.invokevirtual 32, 3) := by decide +kernel
theorem dX0_fill_61 : decode cX0_fill 61 = .ok (.iinc 2 1, 3) := by decide +kernel
theorem dX0_fill_64 : decode cX0_fill 64 = .ok (.goto (-17), 3) := by decide +kernel
theorem dX0_fill_67 : decode cX0_fill 67 = .ok (.iinc 1 1, 3) := by decide +kernel
theorem dX0_fill_70 : decode cX0_fill 70 = .ok (.goto (-31), 3) := by decide +kernel
theorem dX0_fill_73 : decode cX0_fill 73 = .ok (.return_, 1) := by decide +kernel
theorem dX0_fillWord_0 : decode cX0_fillWord 0 = .ok (.iconst 0, 1) := by decide +kernel
theorem dX0_fillWord_1 : decode cX0_fillWord 1 = .ok (.istore_n 3, 1) := by decide +kernel
theorem dX0_fillWord_2 : decode cX0_fillWord 2 = .ok (.iload_n 3, 1) := by decide +kernel
theorem dX0_fillWord_3 : decode cX0_fillWord 3 = .ok (.aload_n 0, 1) := by decide +kernel
theorem dX0_fillWord_4 : decode cX0_fillWord 4 = .ok (.getfield 9, 3) := by decide +kernel
theorem dX0_fillWord_7 : decode cX0_fillWord 7 = .ok (.getfield 36, 3) := by decide +kernel
theorem dX0_fillWord_10 : decode cX0_fillWord 10 = .ok (.if_icmp .ge 65, 3) := by decide +kernel
theorem dX0_fillWord_13 : decode cX0_fillWord 13 = .ok (.aload_n 0, 1) := by decide +kernel
theorem dX0_fillWord_14 : decode cX0_fillWord 14 = .ok (.getfield 9, 3) := by decide +kernel
theorem dX0_fillWord_17 : decode cX0_fillWord 17 = .ok (.getfield 39, 3) := by decide +kernel
theorem dX0_fillWord_20 : decode cX0_fillWord 20 = .ok (.iload_n 3, 1) := by decide +kernel
theorem dX0_fillWord_21 : decode cX0_fillWord 21 = .ok (.aaload, 1) := by decide +kernel
theorem dX0_fillWord_22 : decode cX0_fillWord 22 = .ok (.astore 4, 2) := by decide +kernel
theorem dX0_fillWord_24 : decode cX0_fillWord 24 = .ok (.aload_n 0, 1) := by decide +kernel
theorem dX0_fillWord_25 : decode cX0_fillWord 25 = .ok (.getfield 19, 3) := by decide +kernel
theorem dX0_fillWord_28 : decode cX0_fillWord 28 = .ok (.iload_n 3, 1) := by decide +kernel
theorem dX0_fillWord_29 : decode cX0_fillWord 29 = .ok (.aload_n 0, 1) := by decide +kernel
theorem dX0_fillWord_30 : decode cX0_fillWord 30 = .ok (.aload 4, 2) := by decide +kernel
theorem dX0_fillWord_32 : decode cX0_fillWord 32 = .ok (.iload_n 1, 1) := by decide +kernel
theorem dX0_fillWord_33 : decode cX0_fillWord 33 = .ok (.iload_n 2, 1) := by decide +kernel
theorem dX0_fillWord_34 : decode cX0_fillWord 34 = .ok (.invokevirtual 43, 3) := by decide +kernel
theorem dX0_fillWord_37 : decode cX0_fillWord 37 = .ok (.lastore, 1) := by decide +kernel
theorem dX0_fillWord_38 : decode cX0_fillWord 38 = .ok (.aload 4, 2) := by decide +kernel
theorem dX0_fillWord_40 : decode cX0_fillWord 40 = .ok (.getfield 47, 3) := by decide +kernel
theorem dX0_fillWord_43 : decode cX0_fillWord 43 = .ok (.iconst (-1), 1) := by decide +kernel
theorem dX0_fillWord_44 : decode cX0_fillWord 44 = .ok (.if_icmp .eq 25, 3) := by decide +kernel
theorem dX0_fillWord_47 : decode cX0_fillWord 47 = .ok (.aload_n 0, 1) := by decide +kernel
theorem dX0_fillWord_48 : decode cX0_fillWord 48 = .ok (.getfield 15, 3) := by decide +kernel
theorem dX0_fillWord_51 : decode cX0_fillWord 51 = .ok (.iload_n 1, 1) := by decide +kernel
theorem dX0_fillWord_52 : decode cX0_fillWord 52 = .ok (.aload 4, 2) := by decide +kernel
theorem dX0_fillWord_54 : decode cX0_fillWord 54 = .ok (.getfield 47, 3) := by decide +kernel
theorem dX0_fillWord_57 : decode cX0_fillWord 57 = .ok (.invokestatic 52, 3) := by decide +kernel
theorem dX0_fillWord_60 : decode cX0_fillWord 60 = .ok (.iload_n 2, 1) := by decide +kernel
theorem dX0_fillWord_61 : decode cX0_fillWord 61 = .ok (.iadd, 1) := by decide +kernel
theorem dX0_fillWord_62 : decode cX0_fillWord 62 = .ok (.aload_n 0, 1) := by decide +kernel
theorem dX0_fillWord_63 : decode cX0_fillWord 63 = .ok (.getfield 19, 3) := by decide +kernel
theorem dX0_fillWord_66 : decode cX0_fillWord 66 = .ok (.iload_n 3, 1) := by decide +kernel
theorem dX0_fillWord_67 : decode cX0_fillWord 67 = .ok (.laload, 1) := by decide +kernel
theorem dX0_fillWord_68 : decode cX0_fillWord 68 = .ok (.lastore, 1) := by decide +kernel
theorem dX0_fillWord_69 : decode cX0_fillWord 69 = .ok (.iinc 3 1, 3) := by decide +kernel
theorem dX0_fillWord_72 : decode cX0_fillWord 72 = .ok (.goto (-70), 3) := by decide +kernel
theorem dX0_fillWord_75 : decode cX0_fillWord 75 = .ok (.return_, 1) := by decide +kernel
theorem dX0_row_0 : decode cX0_row 0 = .ok (.iload_n 0, 1) := by decide +kernel
theorem dX0_row_1 : decode cX0_row 1 = .ok (.bipush 9, 2) := by decide +kernel
theorem dX0_row_3 : decode cX0_row 3 = .ok (.imul, 1) := by decide +kernel
theorem dX0_row_4 : decode cX0_row 4 = .ok (.iload_n 1, 1) := by decide +kernel
theorem dX0_row_5 : decode cX0_row 5 = .ok (.iadd, 1) := by decide +kernel
theorem dX0_row_6 : decode cX0_row 6 = .ok (.bipush 8, 2) := by decide +kernel
theorem dX0_row_8 : decode cX0_row 8 = .ok (.imul, 1) := by decide +kernel
theorem dX0_row_9 : decode cX0_row 9 = .ok (.ireturn, 1) := by decide +kernel
theorem dX0_with_0 : decode cX0_with 0 = .ok (.iload_n 0, 1) := by decide +kernel
theorem dX0_with_1 : decode cX0_with 1 = .ok (.ifCond .ge 5, 3) := by decide +kernel
theorem dX0_with_4 : decode cX0_with 4 = .ok (.lconst 0, 1) := by decide +kernel
theorem dX0_with_5 : decode cX0_with 5 = .ok (.lreturn, 1) := by decide +kernel
theorem dX0_with_6 : decode cX0_with 6 = .ok (.iload_n 0, 1) := by decide +kernel
theorem dX0_with_7 : decode cX0_with 7 = .ok (.bipush 6, 2) := by decide +kernel
theorem dX0_with_9 : decode cX0_with 9 = .ok (.if_icmp .ge 9, 3) := by decide +kernel
theorem dX0_with_12 : decode cX0_with 12 = .ok (.getstatic 56, 3) := by decide +kernel
theorem dX0_with_15 : decode cX0_with 15 = .ok (.iload_n 0, 1) := by decide +kernel
theorem dX0_with_16 : decode cX0_with 16 = .ok (.laload, 1) := by decide +kernel
theorem dX0_with_17 : decode cX0_with 17 = .ok (.lreturn, 1) := by decide +kernel
theorem dX0_with_18 : decode cX0_with 18 = .ok (.iload_n 1, 1) := by decide +kernel
theorem dX0_with_19 : decode cX0_with 19 = .ok (.iload_n 0, 1) := by decide +kernel
theorem dX0_with_20 : decode cX0_with 20 = .ok (.bipush 6, 2) := by decide +kernel
theorem dX0_with_22 : decode cX0_with 22 = .ok (.isub, 1) := by decide +kernel
theorem dX0_with_23 : decode cX0_with 23 = .ok (.ishr, 1) := by decide +kernel
theorem dX0_with_24 : decode cX0_with 24 = .ok (.iconst 1, 1) := by decide +kernel
theorem dX0_with_25 : decode cX0_with 25 = .ok (.iand, 1) := by decide +kernel
theorem dX0_with_26 : decode cX0_with 26 = .ok (.ifCond .eq 9, 3) := by decide +kernel
theorem dX0_with_29 : decode cX0_with 29 = .ok (.ldc2_w 59, 3) := by decide +kernel
theorem dX0_with_32 : decode cX0_with 32 = .ok (.goto 4, 3) := by decide +kernel
theorem dX0_with_35 : decode cX0_with 35 = .ok (.lconst 0, 1) := by decide +kernel
theorem dX0_with_36 : decode cX0_with 36 = .ok (.lreturn, 1) := by decide +kernel
theorem dX0_askedByNode_0 : decode cX0_askedByNode 0 = .ok (.aload_n 1, 1) := by decide +kernel
theorem dX0_askedByNode_1 : decode cX0_askedByNode 1 = .ok (.getfield 61, 3) := by decide +kernel
theorem dX0_askedByNode_4 : decode cX0_askedByNode 4 = .ok (.lookupswitch 220 #[(38, 107), (58, 193), (62, 176), (71, 88), (87, 147), (88, 68), (124, 127)], 68) := by decide +kernel
theorem dX0_askedByNode_72 : decode cX0_askedByNode 72 = .ok (.aload_n 0, 1) := by decide +kernel
theorem dX0_askedByNode_73 : decode cX0_askedByNode 73 = .ok (.getfield 9, 3) := by decide +kernel
theorem dX0_askedByNode_76 : decode cX0_askedByNode 76 = .ok (.getfield 39, 3) := by decide +kernel
theorem dX0_askedByNode_79 : decode cX0_askedByNode 79 = .ok (.aload_n 1, 1) := by decide +kernel
theorem dX0_askedByNode_80 : decode cX0_askedByNode 80 = .ok (.getfield 65, 3) := by decide +kernel
theorem dX0_askedByNode_83 : decode cX0_askedByNode 83 = .ok (.aaload, 1) := by decide +kernel
theorem dX0_askedByNode_84 : decode cX0_askedByNode 84 = .ok (.getfield 47, 3) := by decide +kernel
theorem dX0_askedByNode_87 : decode cX0_askedByNode 87 = .ok (.iload_n 3, 1) := by decide +kernel
theorem dX0_askedByNode_88 : decode cX0_askedByNode 88 = .ok (.invokestatic 68, 3) := by decide +kernel
theorem dX0_askedByNode_91 : decode cX0_askedByNode 91 = .ok (.lreturn, 1) := by decide +kernel
theorem dX0_askedByNode_92 : decode cX0_askedByNode 92 = .ok (.aload_n 0, 1) := by decide +kernel
theorem dX0_askedByNode_93 : decode cX0_askedByNode 93 = .ok (.getfield 19, 3) := by decide +kernel
theorem dX0_askedByNode_96 : decode cX0_askedByNode 96 = .ok (.aload_n 1, 1) := by decide +kernel
theorem dX0_askedByNode_97 : decode cX0_askedByNode 97 = .ok (.getfield 65, 3) := by decide +kernel
theorem dX0_askedByNode_100 : decode cX0_askedByNode 100 = .ok (.laload, 1) := by decide +kernel
theorem dX0_askedByNode_101 : decode cX0_askedByNode 101 = .ok (.aload_n 1, 1) := by decide +kernel
theorem dX0_askedByNode_102 : decode cX0_askedByNode 102 = .ok (.getfield 47, 3) := by decide +kernel
theorem dX0_askedByNode_105 : decode cX0_askedByNode 105 = .ok (.iload_n 3, 1) := by decide +kernel
theorem dX0_askedByNode_106 : decode cX0_askedByNode 106 = .ok (.invokestatic 68, 3) := by decide +kernel
theorem dX0_askedByNode_109 : decode cX0_askedByNode 109 = .ok (.land, 1) := by decide +kernel
theorem dX0_askedByNode_110 : decode cX0_askedByNode 110 = .ok (.lreturn, 1) := by decide +kernel
theorem dX0_askedByNode_111 : decode cX0_askedByNode 111 = .ok (.aload_n 0, 1) := by decide +kernel
theorem dX0_askedByNode_112 : decode cX0_askedByNode 112 = .ok (.getfield 19, 3) := by decide +kernel
theorem dX0_askedByNode_115 : decode cX0_askedByNode 115 = .ok (.aload_n 1, 1) := by decide +kernel
theorem dX0_askedByNode_116 : decode cX0_askedByNode 116 = .ok (.getfield 65, 3) := by decide +kernel
theorem dX0_askedByNode_119 : decode cX0_askedByNode 119 = .ok (.laload, 1) := by decide +kernel
theorem dX0_askedByNode_120 : decode cX0_askedByNode 120 = .ok (.aload_n 0, 1) := by decide +kernel
theorem dX0_askedByNode_121 : decode cX0_askedByNode 121 = .ok (.getfield 19, 3) := by decide +kernel
theorem dX0_askedByNode_124 : decode cX0_askedByNode 124 = .ok (.aload_n 1, 1) := by decide +kernel
theorem dX0_askedByNode_125 : decode cX0_askedByNode 125 = .ok (.getfield 72, 3) := by decide +kernel
theorem dX0_askedByNode_128 : decode cX0_askedByNode 128 = .ok (.laload, 1) := by decide +kernel
theorem dX0_askedByNode_129 : decode cX0_askedByNode 129 = .ok (.land, 1) := by decide +kernel
theorem dX0_askedByNode_130 : decode cX0_askedByNode 130 = .ok (.lreturn, 1) := by decide +kernel
theorem dX0_askedByNode_131 : decode cX0_askedByNode 131 = .ok (.aload_n 0, 1) := by decide +kernel
theorem dX0_askedByNode_132 : decode cX0_askedByNode 132 = .ok (.getfield 19, 3) := by decide +kernel
theorem dX0_askedByNode_135 : decode cX0_askedByNode 135 = .ok (.aload_n 1, 1) := by decide +kernel
theorem dX0_askedByNode_136 : decode cX0_askedByNode 136 = .ok (.getfield 65, 3) := by decide +kernel
theorem dX0_askedByNode_139 : decode cX0_askedByNode 139 = .ok (.laload, 1) := by decide +kernel
theorem dX0_askedByNode_140 : decode cX0_askedByNode 140 = .ok (.aload_n 0, 1) := by decide +kernel
theorem dX0_askedByNode_141 : decode cX0_askedByNode 141 = .ok (.getfield 19, 3) := by decide +kernel
theorem dX0_askedByNode_144 : decode cX0_askedByNode 144 = .ok (.aload_n 1, 1) := by decide +kernel
theorem dX0_askedByNode_145 : decode cX0_askedByNode 145 = .ok (.getfield 72, 3) := by decide +kernel
theorem dX0_askedByNode_148 : decode cX0_askedByNode 148 = .ok (.laload, 1) := by decide +kernel
theorem dX0_askedByNode_149 : decode cX0_askedByNode 149 = .ok (.lor, 1) := by decide +kernel
theorem dX0_askedByNode_150 : decode cX0_askedByNode 150 = .ok (.lreturn, 1) := by decide +kernel
theorem dX0_askedByNode_151 : decode cX0_askedByNode 151 = .ok (.aload_n 0, 1) := by decide +kernel
theorem dX0_askedByNode_152 : decode cX0_askedByNode 152 = .ok (.getfield 19, 3) := by decide +kernel
theorem dX0_askedByNode_155 : decode cX0_askedByNode 155 = .ok (.aload_n 1, 1) := by decide +kernel
theorem dX0_askedByNode_156 : decode cX0_askedByNode 156 = .ok (.getfield 72, 3) := by decide +kernel
theorem dX0_askedByNode_159 : decode cX0_askedByNode 159 = .ok (.laload, 1) := by decide +kernel
theorem dX0_askedByNode_160 : decode cX0_askedByNode 160 = .ok (.aload_n 0, 1) := by decide +kernel
theorem dX0_askedByNode_161 : decode cX0_askedByNode 161 = .ok (.getfield 19, 3) := by decide +kernel
theorem dX0_askedByNode_164 : decode cX0_askedByNode 164 = .ok (.aload_n 1, 1) := by decide +kernel
theorem dX0_askedByNode_165 : decode cX0_askedByNode 165 = .ok (.getfield 65, 3) := by decide +kernel
theorem dX0_askedByNode_168 : decode cX0_askedByNode 168 = .ok (.laload, 1) := by decide +kernel
theorem dX0_askedByNode_169 : decode cX0_askedByNode 169 = .ok (.aload_n 1, 1) := by decide +kernel
theorem dX0_askedByNode_170 : decode cX0_askedByNode 170 = .ok (.getfield 47, 3) := by decide +kernel
theorem dX0_askedByNode_173 : decode cX0_askedByNode 173 = .ok (.iload_n 3, 1) := by decide +kernel
theorem dX0_askedByNode_174 : decode cX0_askedByNode 174 = .ok (.invokestatic 68, 3) := by decide +kernel
theorem dX0_askedByNode_177 : decode cX0_askedByNode 177 = .ok (.land, 1) := by decide +kernel
theorem dX0_askedByNode_178 : decode cX0_askedByNode 178 = .ok (.lor, 1) := by decide +kernel
theorem dX0_askedByNode_179 : decode cX0_askedByNode 179 = .ok (.lreturn, 1) := by decide +kernel
theorem dX0_askedByNode_180 : decode cX0_askedByNode 180 = .ok (.aload_n 0, 1) := by decide +kernel
theorem dX0_askedByNode_181 : decode cX0_askedByNode 181 = .ok (.aload_n 1, 1) := by decide +kernel
theorem dX0_askedByNode_182 : decode cX0_askedByNode 182 = .ok (.aload_n 0, 1) := by decide +kernel
theorem dX0_askedByNode_183 : decode cX0_askedByNode 183 = .ok (.getfield 19, 3) := by decide +kernel
theorem dX0_askedByNode_186 : decode cX0_askedByNode 186 = .ok (.aload_n 1, 1) := by decide +kernel
theorem dX0_askedByNode_187 : decode cX0_askedByNode 187 = .ok (.getfield 65, 3) := by decide +kernel
theorem dX0_askedByNode_190 : decode cX0_askedByNode 190 = .ok (.laload, 1) := by decide +kernel
theorem dX0_askedByNode_191 : decode cX0_askedByNode 191 = .ok (.iload_n 2, 1) := by decide +kernel
theorem dX0_askedByNode_192 : decode cX0_askedByNode 192 = .ok (.iload_n 3, 1) := by decide +kernel
theorem dX0_askedByNode_193 : decode cX0_askedByNode 193 = .ok (.invokevirtual 75, 3) := by decide +kernel
theorem dX0_askedByNode_196 : decode cX0_askedByNode 196 = .ok (.lreturn, 1) := by decide +kernel
theorem dX0_askedByNode_197 : decode cX0_askedByNode 197 = .ok (.aload_n 0, 1) := by decide +kernel
theorem dX0_askedByNode_198 : decode cX0_askedByNode 198 = .ok (.aload_n 1, 1) := by decide +kernel
theorem dX0_askedByNode_199 : decode cX0_askedByNode 199 = .ok (.aload_n 0, 1) := by decide +kernel
theorem dX0_askedByNode_200 : decode cX0_askedByNode 200 = .ok (.getfield 9, 3) := by decide +kernel
theorem dX0_askedByNode_203 : decode cX0_askedByNode 203 = .ok (.getfield 39, 3) := by decide +kernel
theorem dX0_askedByNode_206 : decode cX0_askedByNode 206 = .ok (.aload_n 1, 1) := by decide +kernel
theorem dX0_askedByNode_207 : decode cX0_askedByNode 207 = .ok (.getfield 65, 3) := by decide +kernel
theorem dX0_askedByNode_210 : decode cX0_askedByNode 210 = .ok (.aaload, 1) := by decide +kernel
theorem dX0_askedByNode_211 : decode cX0_askedByNode 211 = .ok (.getfield 47, 3) := by decide +kernel
theorem dX0_askedByNode_214 : decode cX0_askedByNode 214 = .ok (.iload_n 3, 1) := by decide +kernel
theorem dX0_askedByNode_215 : decode cX0_askedByNode 215 = .ok (.invokestatic 68, 3) := by decide +kernel
theorem dX0_askedByNode_218 : decode cX0_askedByNode 218 = .ok (.iload_n 2, 1) := by decide +kernel
theorem dX0_askedByNode_219 : decode cX0_askedByNode 219 = .ok (.iload_n 3, 1) := by decide +kernel
theorem dX0_askedByNode_220 : decode cX0_askedByNode 220 = .ok (.invokevirtual 75, 3) := by decide +kernel
theorem dX0_askedByNode_223 : decode cX0_askedByNode 223 = .ok (.lreturn, 1) := by decide +kernel
theorem dX0_askedByNode_224 : decode cX0_askedByNode 224 = .ok (.aload_n 1, 1) := by decide +kernel
theorem dX0_askedByNode_225 : decode cX0_askedByNode 225 = .ok (.getfield 79, 3) := by decide +kernel
theorem dX0_askedByNode_228 : decode cX0_askedByNode 228 = .ok (.iload_n 2, 1) := by decide +kernel
theorem dX0_askedByNode_229 : decode cX0_askedByNode 229 = .ok (.invokestatic 82, 3) := by decide +kernel
theorem dX0_askedByNode_232 : decode cX0_askedByNode 232 = .ok (.ifCond .eq 9, 3) := by decide +kernel
theorem dX0_askedByNode_235 : decode cX0_askedByNode 235 = .ok (.ldc2_w 59, 3) := by decide +kernel
theorem dX0_askedByNode_238 : decode cX0_askedByNode 238 = .ok (.goto 4, 3) := by decide +kernel
theorem dX0_askedByNode_241 : decode cX0_askedByNode 241 = .ok (.lconst 0, 1) := by decide +kernel
theorem dX0_askedByNode_242 : decode cX0_askedByNode 242 = .ok (.lreturn, 1) := by decide +kernel
theorem dX0_askedByRule_0 : decode cX0_askedByRule 0 = .ok (.ldc2_w 59, 3) := by decide +kernel
theorem dX0_askedByRule_3 : decode cX0_askedByRule 3 = .ok (.lstore 6, 2) := by decide +kernel
theorem dX0_askedByRule_5 : decode cX0_askedByRule 5 = .ok (.aload_n 1, 1) := by decide +kernel
theorem dX0_askedByRule_6 : decode cX0_askedByRule 6 = .ok (.getfield 86, 3) := by decide +kernel
theorem dX0_askedByRule_9 : decode cX0_askedByRule 9 = .ok (.istore 8, 2) := by decide +kernel
theorem dX0_askedByRule_11 : decode cX0_askedByRule 11 = .ok (.iload 8, 2) := by decide +kernel
theorem dX0_askedByRule_13 : decode cX0_askedByRule 13 = .ok (.aload_n 1, 1) := by decide +kernel
theorem dX0_askedByRule_14 : decode cX0_askedByRule 14 = .ok (.getfield 89, 3) := by decide +kernel
theorem dX0_askedByRule_17 : decode cX0_askedByRule 17 = .ok (.if_icmp .ge 116, 3) := by decide +kernel
theorem dX0_askedByRule_20 : decode cX0_askedByRule 20 = .ok (.ldc2_w 59, 3) := by decide +kernel
theorem dX0_askedByRule_23 : decode cX0_askedByRule 23 = .ok (.lstore 9, 2) := by decide +kernel
theorem dX0_askedByRule_25 : decode cX0_askedByRule 25 = .ok (.aload_n 0, 1) := by decide +kernel
theorem dX0_askedByRule_26 : decode cX0_askedByRule 26 = .ok (.getfield 9, 3) := by decide +kernel
theorem dX0_askedByRule_29 : decode cX0_askedByRule 29 = .ok (.getfield 92, 3) := by decide +kernel
theorem dX0_askedByRule_32 : decode cX0_askedByRule 32 = .ok (.iload 8, 2) := by decide +kernel
theorem dX0_askedByRule_34 : decode cX0_askedByRule 34 = .ok (.iaload, 1) := by decide +kernel
theorem dX0_askedByRule_35 : decode cX0_askedByRule 35 = .ok (.iload 4, 2) := by decide +kernel
theorem dX0_askedByRule_37 : decode cX0_askedByRule 37 = .ok (.invokestatic 82, 3) := by decide +kernel
theorem dX0_askedByRule_40 : decode cX0_askedByRule 40 = .ok (.ifCond .eq 45, 3) := by decide +kernel
theorem dX0_askedByRule_43 : decode cX0_askedByRule 43 = .ok (.aload_n 0, 1) := by decide +kernel
theorem dX0_askedByRule_44 : decode cX0_askedByRule 44 = .ok (.aload_n 0, 1) := by decide +kernel
theorem dX0_askedByRule_45 : decode cX0_askedByRule 45 = .ok (.getfield 9, 3) := by decide +kernel
theorem dX0_askedByRule_48 : decode cX0_askedByRule 48 = .ok (.getfield 96, 3) := by decide +kernel
theorem dX0_askedByRule_51 : decode cX0_askedByRule 51 = .ok (.iload 8, 2) := by decide +kernel
theorem dX0_askedByRule_53 : decode cX0_askedByRule 53 = .ok (.iaload, 1) := by decide +kernel
theorem dX0_askedByRule_54 : decode cX0_askedByRule 54 = .ok (.iload 5, 2) := by decide +kernel
theorem dX0_askedByRule_56 : decode cX0_askedByRule 56 = .ok (.invokevirtual 99, 3) := by decide +kernel
theorem dX0_askedByRule_59 : decode cX0_askedByRule 59 = .ok (.lstore 9, 2) := by decide +kernel
theorem dX0_askedByRule_61 : decode cX0_askedByRule 61 = .ok (.lload 9, 2) := by decide +kernel
theorem dX0_askedByRule_63 : decode cX0_askedByRule 63 = .ok (.aload_n 1, 1) := by decide +kernel
theorem dX0_askedByRule_64 : decode cX0_askedByRule 64 = .ok (.getfield 102, 3) := by decide +kernel
theorem dX0_askedByRule_67 : decode cX0_askedByRule 67 = .ok (.iload 8, 2) := by decide +kernel
theorem dX0_askedByRule_69 : decode cX0_askedByRule 69 = .ok (.invokestatic 82, 3) := by decide +kernel
theorem dX0_askedByRule_72 : decode cX0_askedByRule 72 = .ok (.ifCond .eq 7, 3) := by decide +kernel
theorem dX0_askedByRule_75 : decode cX0_askedByRule 75 = .ok (.lload_n 2, 1) := by decide +kernel
theorem dX0_askedByRule_76 : decode cX0_askedByRule 76 = .ok (.goto 6, 3) := by decide +kernel
theorem dX0_askedByRule_79 : decode cX0_askedByRule 79 = .ok (.ldc2_w 59, 3) := by decide +kernel
theorem dX0_askedByRule_82 : decode cX0_askedByRule 82 = .ok (.land, 1) := by decide +kernel
theorem dX0_askedByRule_83 : decode cX0_askedByRule 83 = .ok (.lstore 9, 2) := by decide +kernel
theorem dX0_askedByRule_85 : decode cX0_askedByRule 85 = .ok (.aload_n 0, 1) := by decide +kernel
theorem dX0_askedByRule_86 : decode cX0_askedByRule 86 = .ok (.getfield 15, 3) := by decide +kernel
theorem dX0_askedByRule_89 : decode cX0_askedByRule 89 = .ok (.iload 4, 2) := by decide +kernel
theorem dX0_askedByRule_91 : decode cX0_askedByRule 91 = .ok (.iload 8, 2) := by decide +kernel
theorem dX0_askedByRule_93 : decode cX0_askedByRule 93 = .ok (.invokestatic 52, 3) := by decide +kernel
theorem dX0_askedByRule_96 : decode cX0_askedByRule 96 = .ok (.iload 5, 2) := by decide +kernel
theorem dX0_askedByRule_98 : decode cX0_askedByRule 98 = .ok (.iadd, 1) := by decide +kernel
theorem dX0_askedByRule_99 : decode cX0_askedByRule 99 = .ok (.lload 9, 2) := by decide +kernel
theorem dX0_askedByRule_101 : decode cX0_askedByRule 101 = .ok (.lastore, 1) := by decide +kernel
theorem dX0_askedByRule_102 : decode cX0_askedByRule 102 = .ok (.lload 6, 2) := by decide +kernel
theorem dX0_askedByRule_104 : decode cX0_askedByRule 104 = .ok (.aload_n 1, 1) := by decide +kernel
theorem dX0_askedByRule_105 : decode cX0_askedByRule 105 = .ok (.getfield 105, 3) := by decide +kernel
theorem dX0_askedByRule_108 : decode cX0_askedByRule 108 = .ok (.iload 8, 2) := by decide +kernel
theorem dX0_askedByRule_110 : decode cX0_askedByRule 110 = .ok (.invokestatic 82, 3) := by decide +kernel
theorem dX0_askedByRule_113 : decode cX0_askedByRule 113 = .ok (.ifCond .eq 8, 3) := by decide +kernel
theorem dX0_askedByRule_116 : decode cX0_askedByRule 116 = .ok (.lload 9, 2) := by decide +kernel
theorem dX0_askedByRule_118 : decode cX0_askedByRule 118 = .ok (.goto 6, 3) := by decide +kernel
theorem dX0_askedByRule_121 : decode cX0_askedByRule 121 = .ok (.ldc2_w 59, 3) := by decide +kernel
theorem dX0_askedByRule_124 : decode cX0_askedByRule 124 = .ok (.land, 1) := by decide +kernel
theorem dX0_askedByRule_125 : decode cX0_askedByRule 125 = .ok (.lstore 6, 2) := by decide +kernel
theorem dX0_askedByRule_127 : decode cX0_askedByRule 127 = .ok (.iinc 8 1, 3) := by decide +kernel
theorem dX0_askedByRule_130 : decode cX0_askedByRule 130 = .ok (.goto (-119), 3) := by decide +kernel
theorem dX0_askedByRule_133 : decode cX0_askedByRule 133 = .ok (.lload 6, 2) := by decide +kernel
theorem dX0_askedByRule_135 : decode cX0_askedByRule 135 = .ok (.lreturn, 1) := by decide +kernel
theorem dX0_withAll_0 : decode cX0_withAll 0 = .ok (.ldc2_w 59, 3) := by decide +kernel
theorem dX0_withAll_3 : decode cX0_withAll 3 = .ok (.lstore_n 3, 1) := by decide +kernel
theorem dX0_withAll_4 : decode cX0_withAll 4 = .ok (.iconst 0, 1) := by decide +kernel
theorem dX0_withAll_5 : decode cX0_withAll 5 = .ok (.istore 5, 2) := by decide +kernel
theorem dX0_withAll_7 : decode cX0_withAll 7 = .ok (.iload 5, 2) := by decide +kernel
theorem dX0_withAll_9 : decode cX0_withAll 9 = .ok (.aload_n 0, 1) := by decide +kernel
theorem dX0_withAll_10 : decode cX0_withAll 10 = .ok (.getfield 22, 3) := by decide +kernel
theorem dX0_withAll_13 : decode cX0_withAll 13 = .ok (.if_icmp .ge 27, 3) := by decide +kernel
theorem dX0_withAll_16 : decode cX0_withAll 16 = .ok (.iload_n 1, 1) := by decide +kernel
theorem dX0_withAll_17 : decode cX0_withAll 17 = .ok (.iload 5, 2) := by decide +kernel
theorem dX0_withAll_19 : decode cX0_withAll 19 = .ok (.invokestatic 82, 3) := by decide +kernel
theorem dX0_withAll_22 : decode cX0_withAll 22 = .ok (.ifCond .eq 12, 3) := by decide +kernel
theorem dX0_withAll_25 : decode cX0_withAll 25 = .ok (.lload_n 3, 1) := by decide +kernel
theorem dX0_withAll_26 : decode cX0_withAll 26 = .ok (.iload 5, 2) := by decide +kernel
theorem dX0_withAll_28 : decode cX0_withAll 28 = .ok (.iload_n 2, 1) := by decide +kernel
theorem dX0_withAll_29 : decode cX0_withAll 29 = .ok (.invokestatic 68, 3) := by decide +kernel
theorem dX0_withAll_32 : decode cX0_withAll 32 = .ok (.land, 1) := by decide +kernel
theorem dX0_withAll_33 : decode cX0_withAll 33 = .ok (.lstore_n 3, 1) := by decide +kernel
theorem dX0_withAll_34 : decode cX0_withAll 34 = .ok (.iinc 5 1, 3) := by decide +kernel
theorem dX0_withAll_37 : decode cX0_withAll 37 = .ok (.goto (-30), 3) := by decide +kernel
theorem dX0_withAll_40 : decode cX0_withAll 40 = .ok (.lload_n 3, 1) := by decide +kernel
theorem dX0_withAll_41 : decode cX0_withAll 41 = .ok (.lreturn, 1) := by decide +kernel
theorem dX0_askedByAll_0 : decode cX0_askedByAll 0 = .ok (.ldc2_w 59, 3) := by decide +kernel
theorem dX0_askedByAll_3 : decode cX0_askedByAll 3 = .ok (.lstore 4, 2) := by decide +kernel
theorem dX0_askedByAll_5 : decode cX0_askedByAll 5 = .ok (.iconst 0, 1) := by decide +kernel
theorem dX0_askedByAll_6 : decode cX0_askedByAll 6 = .ok (.istore 6, 2) := by decide +kernel
theorem dX0_askedByAll_8 : decode cX0_askedByAll 8 = .ok (.iload 6, 2) := by decide +kernel
theorem dX0_askedByAll_10 : decode cX0_askedByAll 10 = .ok (.aload_n 0, 1) := by decide +kernel
theorem dX0_askedByAll_11 : decode cX0_askedByAll 11 = .ok (.getfield 22, 3) := by decide +kernel
theorem dX0_askedByAll_14 : decode cX0_askedByAll 14 = .ok (.if_icmp .ge 43, 3) := by decide +kernel
theorem dX0_askedByAll_17 : decode cX0_askedByAll 17 = .ok (.lload 4, 2) := by decide +kernel
theorem dX0_askedByAll_19 : decode cX0_askedByAll 19 = .ok (.lconst 0, 1) := by decide +kernel
theorem dX0_askedByAll_20 : decode cX0_askedByAll 20 = .ok (.lcmp, 1) := by decide +kernel
theorem dX0_askedByAll_21 : decode cX0_askedByAll 21 = .ok (.ifCond .eq 36, 3) := by decide +kernel
theorem dX0_askedByAll_24 : decode cX0_askedByAll 24 = .ok (.iload_n 1, 1) := by decide +kernel
theorem dX0_askedByAll_25 : decode cX0_askedByAll 25 = .ok (.iload 6, 2) := by decide +kernel
theorem dX0_askedByAll_27 : decode cX0_askedByAll 27 = .ok (.invokestatic 82, 3) := by decide +kernel
theorem dX0_askedByAll_30 : decode cX0_askedByAll 30 = .ok (.ifCond .eq 21, 3) := by decide +kernel
theorem dX0_askedByAll_33 : decode cX0_askedByAll 33 = .ok (.lload 4, 2) := by decide +kernel
theorem dX0_askedByAll_35 : decode cX0_askedByAll 35 = .ok (.aload_n 0, 1) := by decide +kernel
theorem dX0_askedByAll_36 : decode cX0_askedByAll 36 = .ok (.getfield 15, 3) := by decide +kernel
theorem dX0_askedByAll_39 : decode cX0_askedByAll 39 = .ok (.iload_n 2, 1) := by decide +kernel
theorem dX0_askedByAll_40 : decode cX0_askedByAll 40 = .ok (.iload 6, 2) := by decide +kernel
theorem dX0_askedByAll_42 : decode cX0_askedByAll 42 = .ok (.invokestatic 52, 3) := by decide +kernel
theorem dX0_askedByAll_45 : decode cX0_askedByAll 45 = .ok (.iload_n 3, 1) := by decide +kernel
theorem dX0_askedByAll_46 : decode cX0_askedByAll 46 = .ok (.iadd, 1) := by decide +kernel
theorem dX0_askedByAll_47 : decode cX0_askedByAll 47 = .ok (.laload, 1) := by decide +kernel
theorem dX0_askedByAll_48 : decode cX0_askedByAll 48 = .ok (.land, 1) := by decide +kernel
theorem dX0_askedByAll_49 : decode cX0_askedByAll 49 = .ok (.lstore 4, 2) := by decide +kernel
theorem dX0_askedByAll_51 : decode cX0_askedByAll 51 = .ok (.iinc 6 1, 3) := by decide +kernel
theorem dX0_askedByAll_54 : decode cX0_askedByAll 54 = .ok (.goto (-46), 3) := by decide +kernel
theorem dX0_askedByAll_57 : decode cX0_askedByAll 57 = .ok (.lload 4, 2) := by decide +kernel
theorem dX0_askedByAll_59 : decode cX0_askedByAll 59 = .ok (.lreturn, 1) := by decide +kernel
theorem dX1_init_0 : decode cX1_init 0 = .ok (.aload_n 0, 1) := by decide +kernel
theorem dX1_init_1 : decode cX1_init 1 = .ok (.invokespecial 3, 3) := by decide +kernel
theorem dX1_init_4 : decode cX1_init 4 = .ok (.aload_n 0, 1) := by decide +kernel
theorem dX1_init_5 : decode cX1_init 5 = .ok (.bipush 40, 2) := by decide +kernel
theorem dX1_init_7 : decode cX1_init 7 = .ok (.anewarray 9, 3) := by decide +kernel
theorem dX1_init_10 : decode cX1_init 10 = .ok (.putfield 11, 3) := by decide +kernel
theorem dX1_init_13 : decode cX1_init 13 = .ok (.iconst 0, 1) := by decide +kernel
theorem dX1_init_14 : decode cX1_init 14 = .ok (.istore_n 1, 1) := by decide +kernel
theorem dX1_init_15 : decode cX1_init 15 = .ok (.iload_n 1, 1) := by decide +kernel
theorem dX1_init_16 : decode cX1_init 16 = .ok (.bipush 40, 2) := by decide +kernel
theorem dX1_init_18 : decode cX1_init 18 = .ok (.if_icmp .ge 22, 3) := by decide +kernel
theorem dX1_init_21 : decode cX1_init 21 = .ok (.aload_n 0, 1) := by decide +kernel
theorem dX1_init_22 : decode cX1_init 22 = .ok (.getfield 11, 3) := by decide +kernel
theorem dX1_init_25 : decode cX1_init 25 = .ok (.iload_n 1, 1) := by decide +kernel
theorem dX1_init_26 : decode cX1_init 26 = .ok (.new 9, 3) := by decide +kernel
theorem dX1_init_29 : decode cX1_init 29 = .ok (.dup, 1) := by decide +kernel
theorem dX1_init_30 : decode cX1_init 30 = .ok (.invokespecial 17, 3) := by decide +kernel
theorem dX1_init_33 : decode cX1_init 33 = .ok (.aastore, 1) := by decide +kernel
theorem dX1_init_34 : decode cX1_init 34 = .ok (.iinc 1 1, 3) := by decide +kernel
theorem dX1_init_37 : decode cX1_init 37 = .ok (.goto (-22), 3) := by decide +kernel
theorem dX1_init_40 : decode cX1_init 40 = .ok (.aload_n 0, 1) := by decide +kernel
theorem dX1_init_41 : decode cX1_init 41 = .ok (.bipush 9, 2) := by decide +kernel
theorem dX1_init_43 : decode cX1_init 43 = .ok (.newarray .int, 2) := by decide +kernel
theorem dX1_init_45 : decode cX1_init 45 = .ok (.putfield 18, 3) := by decide +kernel
theorem dX1_init_48 : decode cX1_init 48 = .ok (.aload_n 0, 1) := by decide +kernel
theorem dX1_init_49 : decode cX1_init 49 = .ok (.bipush 9, 2) := by decide +kernel
theorem dX1_init_51 : decode cX1_init 51 = .ok (.newarray .int, 2) := by decide +kernel
theorem dX1_init_53 : decode cX1_init 53 = .ok (.putfield 22, 3) := by decide +kernel
theorem dX1_init_56 : decode cX1_init 56 = .ok (.aload_n 0, 1) := by decide +kernel
theorem dX1_init_57 : decode cX1_init 57 = .ok (.iconst 0, 1) := by decide +kernel
theorem dX1_init_58 : decode cX1_init 58 = .ok (.putfield 25, 3) := by decide +kernel
theorem dX1_init_61 : decode cX1_init 61 = .ok (.aload_n 0, 1) := by decide +kernel
theorem dX1_init_62 : decode cX1_init 62 = .ok (.iconst 0, 1) := by decide +kernel
theorem dX1_init_63 : decode cX1_init 63 = .ok (.putfield 29, 3) := by decide +kernel
theorem dX1_init_66 : decode cX1_init 66 = .ok (.aload_n 0, 1) := by decide +kernel
theorem dX1_init_67 : decode cX1_init 67 = .ok (.iconst 1, 1) := by decide +kernel
theorem dX1_init_68 : decode cX1_init 68 = .ok (.putfield 32, 3) := by decide +kernel
theorem dX1_init_71 : decode cX1_init 71 = .ok (.return_, 1) := by decide +kernel
theorem dX1_clear_0 : decode cX1_clear 0 = .ok (.aload_n 0, 1) := by decide +kernel
theorem dX1_clear_1 : decode cX1_clear 1 = .ok (.iconst 0, 1) := by decide +kernel
theorem dX1_clear_2 : decode cX1_clear 2 = .ok (.putfield 25, 3) := by decide +kernel
theorem dX1_clear_5 : decode cX1_clear 5 = .ok (.aload_n 0, 1) := by decide +kernel
theorem dX1_clear_6 : decode cX1_clear 6 = .ok (.iconst 0, 1) := by decide +kernel
theorem dX1_clear_7 : decode cX1_clear 7 = .ok (.putfield 29, 3) := by decide +kernel
theorem dX1_clear_10 : decode cX1_clear 10 = .ok (.aload_n 0, 1) := by decide +kernel
theorem dX1_clear_11 : decode cX1_clear 11 = .ok (.iconst 1, 1) := by decide +kernel
theorem dX1_clear_12 : decode cX1_clear 12 = .ok (.putfield 32, 3) := by decide +kernel
theorem dX1_clear_15 : decode cX1_clear 15 = .ok (.return_, 1) := by decide +kernel
theorem dX1_add_0 : decode cX1_add 0 = .ok (.aload_n 0, 1) := by decide +kernel
theorem dX1_add_1 : decode cX1_add 1 = .ok (.getfield 25, 3) := by decide +kernel
theorem dX1_add_4 : decode cX1_add 4 = .ok (.bipush 40, 2) := by decide +kernel
theorem dX1_add_6 : decode cX1_add 6 = .ok (.if_icmp .lt 10, 3) := by decide +kernel
theorem dX1_add_9 : decode cX1_add 9 = .ok (.aload_n 0, 1) := by decide +kernel
theorem dX1_add_10 : decode cX1_add 10 = .ok (.iconst 0, 1) := by decide +kernel
theorem dX1_add_11 : decode cX1_add 11 = .ok (.putfield 32, 3) := by decide +kernel
theorem dX1_add_14 : decode cX1_add 14 = .ok (.iconst 0, 1) := by decide +kernel
theorem dX1_add_15 : decode cX1_add 15 = .ok (.ireturn, 1) := by decide +kernel
theorem dX1_add_16 : decode cX1_add 16 = .ok (.aload_n 0, 1) := by decide +kernel
theorem dX1_add_17 : decode cX1_add 17 = .ok (.getfield 11, 3) := by decide +kernel
theorem dX1_add_20 : decode cX1_add 20 = .ok (.aload_n 0, 1) := by decide +kernel
theorem dX1_add_21 : decode cX1_add 21 = .ok (.getfield 25, 3) := by decide +kernel
theorem dX1_add_24 : decode cX1_add 24 = .ok (.aaload, 1) := by decide +kernel
theorem dX1_add_25 : decode cX1_add 25 = .ok (.astore 4, 2) := by decide +kernel
theorem dX1_add_27 : decode cX1_add 27 = .ok (.aload 4, 2) := by decide +kernel
theorem dX1_add_29 : decode cX1_add 29 = .ok (.iload_n 1, 1) := by decide +kernel
theorem dX1_add_30 : decode cX1_add 30 = .ok (.putfield 36, 3) := by decide +kernel
theorem dX1_add_33 : decode cX1_add 33 = .ok (.aload 4, 2) := by decide +kernel
theorem dX1_add_35 : decode cX1_add 35 = .ok (.iload_n 2, 1) := by decide +kernel
theorem dX1_add_36 : decode cX1_add 36 = .ok (.putfield 40, 3) := by decide +kernel
theorem dX1_add_39 : decode cX1_add 39 = .ok (.aload 4, 2) := by decide +kernel
theorem dX1_add_41 : decode cX1_add 41 = .ok (.iload_n 3, 1) := by decide +kernel
theorem dX1_add_42 : decode cX1_add 42 = .ok (.putfield 43, 3) := by decide +kernel
theorem dX1_add_45 : decode cX1_add 45 = .ok (.aload 4, 2) := by decide +kernel
theorem dX1_add_47 : decode cX1_add 47 = .ok (.iconst (-1), 1) := by decide +kernel
theorem dX1_add_48 : decode cX1_add 48 = .ok (.putfield 46, 3) := by decide +kernel
theorem dX1_add_51 : decode cX1_add 51 = .ok (.aload_n 0, 1) := by decide +kernel
theorem dX1_add_52 : decode cX1_add 52 = .ok (.dup, 1) := by decide +kernel
theorem dX1_add_53 : decode cX1_add 53 = .ok (.getfield 25, 3) := by decide +kernel
theorem dX1_add_56 : decode cX1_add 56 = .ok (.iconst 1, 1) := by decide +kernel
theorem dX1_add_57 : decode cX1_add 57 = .ok (.iadd, 1) := by decide +kernel
theorem dX1_add_58 : decode cX1_add 58 = .ok (.putfield 25, 3) := by decide +kernel
theorem dX1_add_61 : decode cX1_add 61 = .ok (.aload_n 0, 1) := by decide +kernel
theorem dX1_add_62 : decode cX1_add 62 = .ok (.getfield 25, 3) := by decide +kernel
theorem dX1_add_65 : decode cX1_add 65 = .ok (.iconst 1, 1) := by decide +kernel
theorem dX1_add_66 : decode cX1_add 66 = .ok (.isub, 1) := by decide +kernel
theorem dX1_add_67 : decode cX1_add 67 = .ok (.ireturn, 1) := by decide +kernel
theorem dX1_addBoolean_0 : decode cX1_addBoolean 0 = .ok (.aload_n 0, 1) := by decide +kernel
theorem dX1_addBoolean_1 : decode cX1_addBoolean 1 = .ok (.bipush 33, 2) := by decide +kernel
theorem dX1_addBoolean_3 : decode cX1_addBoolean 3 = .ok (.iconst (-1), 1) := by decide +kernel
theorem dX1_addBoolean_4 : decode cX1_addBoolean 4 = .ok (.iconst (-1), 1) := by decide +kernel
theorem dX1_addBoolean_5 : decode cX1_addBoolean 5 = .ok (.invokevirtual 49, 3) := by decide +kernel
theorem dX1_addBoolean_8 : decode cX1_addBoolean 8 = .ok (.istore_n 2, 1) := by decide +kernel
theorem dX1_addBoolean_9 : decode cX1_addBoolean 9 = .ok (.aload_n 0, 1) := by decide +kernel
theorem dX1_addBoolean_10 : decode cX1_addBoolean 10 = .ok (.getfield 11, 3) := by decide +kernel
theorem dX1_addBoolean_13 : decode cX1_addBoolean 13 = .ok (.iload_n 2, 1) := by decide +kernel
theorem dX1_addBoolean_14 : decode cX1_addBoolean 14 = .ok (.aaload, 1) := by decide +kernel
theorem dX1_addBoolean_15 : decode cX1_addBoolean 15 = .ok (.iload_n 1, 1) := by decide +kernel
theorem dX1_addBoolean_16 : decode cX1_addBoolean 16 = .ok (.putfield 53, 3) := by decide +kernel
theorem dX1_addBoolean_19 : decode cX1_addBoolean 19 = .ok (.iload_n 2, 1) := by decide +kernel
theorem dX1_addBoolean_20 : decode cX1_addBoolean 20 = .ok (.ireturn, 1) := by decide +kernel
theorem dX1_oblige_0 : decode cX1_oblige 0 = .ok (.aload_n 0, 1) := by decide +kernel
theorem dX1_oblige_1 : decode cX1_oblige 1 = .ok (.getfield 11, 3) := by decide +kernel
theorem dX1_oblige_4 : decode cX1_oblige 4 = .ok (.iload_n 1, 1) := by decide +kernel
theorem dX1_oblige_5 : decode cX1_oblige 5 = .ok (.aaload, 1) := by decide +kernel
theorem dX1_oblige_6 : decode cX1_oblige 6 = .ok (.getfield 46, 3) := by decide +kernel
theorem dX1_oblige_9 : decode cX1_oblige 9 = .ok (.iconst (-1), 1) := by decide +kernel
theorem dX1_oblige_10 : decode cX1_oblige 10 = .ok (.if_icmp .ne 16, 3) := by decide +kernel
theorem dX1_oblige_13 : decode cX1_oblige 13 = .ok (.aload_n 0, 1) := by decide +kernel
theorem dX1_oblige_14 : decode cX1_oblige 14 = .ok (.getfield 11, 3) := by decide +kernel
theorem dX1_oblige_17 : decode cX1_oblige 17 = .ok (.iload_n 1, 1) := by decide +kernel
theorem dX1_oblige_18 : decode cX1_oblige 18 = .ok (.aaload, 1) := by decide +kernel
theorem dX1_oblige_19 : decode cX1_oblige 19 = .ok (.aload_n 0, 1) := by decide +kernel
theorem dX1_oblige_20 : decode cX1_oblige 20 = .ok (.invokevirtual 56, 3) := by decide +kernel
theorem dX1_oblige_23 : decode cX1_oblige 23 = .ok (.putfield 46, 3) := by decide +kernel
theorem dX1_oblige_26 : decode cX1_oblige 26 = .ok (.return_, 1) := by decide +kernel
theorem dX1_newObligation_0 : decode cX1_newObligation 0 = .ok (.aload_n 0, 1) := by decide +kernel
theorem dX1_newObligation_1 : decode cX1_newObligation 1 = .ok (.getfield 29, 3) := by decide +kernel
theorem dX1_newObligation_4 : decode cX1_newObligation 4 = .ok (.bipush 9, 2) := by decide +kernel
theorem dX1_newObligation_6 : decode cX1_newObligation 6 = .ok (.if_icmp .lt 10, 3) := by decide +kernel
theorem dX1_newObligation_9 : decode cX1_newObligation 9 = .ok (.aload_n 0, 1) := by decide +kernel
theorem dX1_newObligation_10 : decode cX1_newObligation 10 = .ok (.iconst 0, 1) := by decide +kernel
theorem dX1_newObligation_11 : decode cX1_newObligation 11 = .ok (.putfield 32, 3) := by decide +kernel
theorem dX1_newObligation_14 : decode cX1_newObligation 14 = .ok (.iconst (-1), 1) := by decide +kernel
theorem dX1_newObligation_15 : decode cX1_newObligation 15 = .ok (.ireturn, 1) := by decide +kernel
theorem dX1_newObligation_16 : decode cX1_newObligation 16 = .ok (.aload_n 0, 1) := by decide +kernel
theorem dX1_newObligation_17 : decode cX1_newObligation 17 = .ok (.dup, 1) := by decide +kernel
theorem dX1_newObligation_18 : decode cX1_newObligation 18 = .ok (.getfield 29, 3) := by decide +kernel
theorem dX1_newObligation_21 : decode cX1_newObligation 21 = .ok (.iconst 1, 1) := by decide +kernel
theorem dX1_newObligation_22 : decode cX1_newObligation 22 = .ok (.iadd, 1) := by decide +kernel
theorem dX1_newObligation_23 : decode cX1_newObligation 23 = .ok (.putfield 29, 3) := by decide +kernel
theorem dX1_newObligation_26 : decode cX1_newObligation 26 = .ok (.aload_n 0, 1) := by decide +kernel
theorem dX1_newObligation_27 : decode cX1_newObligation 27 = .ok (.getfield 29, 3) := by decide +kernel
theorem dX1_newObligation_30 : decode cX1_newObligation 30 = .ok (.iconst 1, 1) := by decide +kernel
theorem dX1_newObligation_31 : decode cX1_newObligation 31 = .ok (.isub, 1) := by decide +kernel
theorem dX1_newObligation_32 : decode cX1_newObligation 32 = .ok (.ireturn, 1) := by decide +kernel
theorem dX1_addPlace_0 : decode cX1_addPlace 0 = .ok (.aload_n 0, 1) := by decide +kernel
theorem dX1_addPlace_1 : decode cX1_addPlace 1 = .ok (.invokevirtual 56, 3) := by decide +kernel
theorem dX1_addPlace_4 : decode cX1_addPlace 4 = .ok (.istore_n 2, 1) := by decide +kernel
theorem dX1_addPlace_5 : decode cX1_addPlace 5 = .ok (.iload_n 2, 1) := by decide +kernel
theorem dX1_addPlace_6 : decode cX1_addPlace 6 = .ok (.iconst (-1), 1) := by decide +kernel
theorem dX1_addPlace_7 : decode cX1_addPlace 7 = .ok (.if_icmp .ne 5, 3) := by decide +kernel
theorem dX1_addPlace_10 : decode cX1_addPlace 10 = .ok (.iconst 0, 1) := by decide +kernel
theorem dX1_addPlace_11 : decode cX1_addPlace 11 = .ok (.ireturn, 1) := by decide +kernel
theorem dX1_addPlace_12 : decode cX1_addPlace 12 = .ok (.aload_n 0, 1) := by decide +kernel
theorem dX1_addPlace_13 : decode cX1_addPlace 13 = .ok (.getfield 18, 3) := by decide +kernel
theorem dX1_addPlace_16 : decode cX1_addPlace 16 = .ok (.iload_n 2, 1) := by decide +kernel
theorem dX1_addPlace_17 : decode cX1_addPlace 17 = .ok (.iload_n 1, 1) := by decide +kernel
theorem dX1_addPlace_18 : decode cX1_addPlace 18 = .ok (.iastore, 1) := by decide +kernel
theorem dX1_addPlace_19 : decode cX1_addPlace 19 = .ok (.aload_n 0, 1) := by decide +kernel
theorem dX1_addPlace_20 : decode cX1_addPlace 20 = .ok (.getfield 22, 3) := by decide +kernel
theorem dX1_addPlace_23 : decode cX1_addPlace 23 = .ok (.iload_n 2, 1) := by decide +kernel
theorem dX1_addPlace_24 : decode cX1_addPlace 24 = .ok (.iconst 0, 1) := by decide +kernel
theorem dX1_addPlace_25 : decode cX1_addPlace 25 = .ok (.iastore, 1) := by decide +kernel
theorem dX1_addPlace_26 : decode cX1_addPlace 26 = .ok (.iconst 1, 1) := by decide +kernel
theorem dX1_addPlace_27 : decode cX1_addPlace 27 = .ok (.iload_n 2, 1) := by decide +kernel
theorem dX1_addPlace_28 : decode cX1_addPlace 28 = .ok (.ishl, 1) := by decide +kernel
theorem dX1_addPlace_29 : decode cX1_addPlace 29 = .ok (.ireturn, 1) := by decide +kernel
theorem dX1_link_0 : decode cX1_link 0 = .ok (.iconst 0, 1) := by decide +kernel
theorem dX1_link_1 : decode cX1_link 1 = .ok (.istore_n 3, 1) := by decide +kernel
theorem dX1_link_2 : decode cX1_link 2 = .ok (.iload_n 3, 1) := by decide +kernel
theorem dX1_link_3 : decode cX1_link 3 = .ok (.aload_n 0, 1) := by decide +kernel
theorem dX1_link_4 : decode cX1_link 4 = .ok (.getfield 29, 3) := by decide +kernel
theorem dX1_link_7 : decode cX1_link 7 = .ok (.if_icmp .ge 27, 3) := by decide +kernel
theorem dX1_link_10 : decode cX1_link 10 = .ok (.iload_n 1, 1) := by decide +kernel
theorem dX1_link_11 : decode cX1_link 11 = .ok (.iload_n 3, 1) := by decide +kernel
theorem dX1_link_12 : decode cX1_link 12 = .ok (.invokestatic 60, 3) := by decide +kernel
theorem dX1_link_15 : decode cX1_link 15 = .ok (.ifCond .eq 13, 3) := by decide +kernel
theorem dX1_link_18 : decode cX1_link 18 = .ok (.aload_n 0, 1) := by decide +kernel
theorem dX1_link_19 : decode cX1_link 19 = .ok (.getfield 22, 3) := by decide +kernel
theorem dX1_link_22 : decode cX1_link 22 = .ok (.iload_n 3, 1) := by decide +kernel
theorem dX1_link_23 : decode cX1_link 23 = .ok (.dup2, 1) := by decide +kernel
theorem dX1_link_24 : decode cX1_link 24 = .ok (.iaload, 1) := by decide +kernel
theorem dX1_link_25 : decode cX1_link 25 = .ok (.iload_n 2, 1) := by decide +kernel
theorem dX1_link_26 : decode cX1_link 26 = .ok (.ior, 1) := by decide +kernel
theorem dX1_link_27 : decode cX1_link 27 = .ok (.iastore, 1) := by decide +kernel
theorem dX1_link_28 : decode cX1_link 28 = .ok (.iinc 3 1, 3) := by decide +kernel
theorem dX1_link_31 : decode cX1_link 31 = .ok (.goto (-29), 3) := by decide +kernel
theorem dX1_link_34 : decode cX1_link 34 = .ok (.return_, 1) := by decide +kernel
theorem dX1_copyPlaces_0 : decode cX1_copyPlaces 0 = .ok (.aload_n 0, 1) := by decide +kernel
theorem dX1_copyPlaces_1 : decode cX1_copyPlaces 1 = .ok (.getfield 29, 3) := by decide +kernel
theorem dX1_copyPlaces_4 : decode cX1_copyPlaces 4 = .ok (.iload_n 1, 1) := by decide +kernel
theorem dX1_copyPlaces_5 : decode cX1_copyPlaces 5 = .ok (.isub, 1) := by decide +kernel
theorem dX1_copyPlaces_6 : decode cX1_copyPlaces 6 = .ok (.istore_n 3, 1) := by decide +kernel
theorem dX1_copyPlaces_7 : decode cX1_copyPlaces 7 = .ok (.iload_n 1, 1) := by decide +kernel
theorem dX1_copyPlaces_8 : decode cX1_copyPlaces 8 = .ok (.iload_n 3, 1) := by decide +kernel
theorem dX1_copyPlaces_9 : decode cX1_copyPlaces 9 = .ok (.iload_n 2, 1) := by decide +kernel
theorem dX1_copyPlaces_10 : decode cX1_copyPlaces 10 = .ok (.imul, 1) := by decide +kernel
theorem dX1_copyPlaces_11 : decode cX1_copyPlaces 11 = .ok (.iadd, 1) := by decide +kernel
theorem dX1_copyPlaces_12 : decode cX1_copyPlaces 12 = .ok (.bipush 9, 2) := by decide +kernel
theorem dX1_copyPlaces_14 : decode cX1_copyPlaces 14 = .ok (.if_icmp .le 8, 3) := by decide +kernel
theorem dX1_copyPlaces_17 : decode cX1_copyPlaces 17 = .ok (.aload_n 0, 1) := by decide +kernel
theorem dX1_copyPlaces_18 : decode cX1_copyPlaces 18 = .ok (.iconst 0, 1) := by decide +kernel
theorem dX1_copyPlaces_19 : decode cX1_copyPlaces 19 = .ok (.putfield 32, 3) := by decide +kernel
theorem dX1_copyPlaces_22 : decode cX1_copyPlaces 22 = .ok (.aload_n 0, 1) := by decide +kernel
theorem dX1_copyPlaces_23 : decode cX1_copyPlaces 23 = .ok (.getfield 32, 3) := by decide +kernel
theorem dX1_copyPlaces_26 : decode cX1_copyPlaces 26 = .ok (.ifCond .ne 4, 3) := by decide +kernel
theorem dX1_copyPlaces_29 : decode cX1_copyPlaces 29 = .ok (.return_, 1) := by decide +kernel
theorem dX1_copyPlaces_30 : decode cX1_copyPlaces 30 = .ok (.iconst 1, 1) := by decide +kernel
theorem dX1_copyPlaces_31 : decode cX1_copyPlaces 31 = .ok (.istore 4, 2) := by decide +kernel
theorem dX1_copyPlaces_33 : decode cX1_copyPlaces 33 = .ok (.iload 4, 2) := by decide +kernel
theorem dX1_copyPlaces_35 : decode cX1_copyPlaces 35 = .ok (.iload_n 2, 1) := by decide +kernel
theorem dX1_copyPlaces_36 : decode cX1_copyPlaces 36 = .ok (.if_icmp .ge 69, 3) := by decide +kernel
theorem dX1_copyPlaces_39 : decode cX1_copyPlaces 39 = .ok (.iload 4, 2) := by decide +kernel
theorem dX1_copyPlaces_41 : decode cX1_copyPlaces 41 = .ok (.iload_n 3, 1) := by decide +kernel
theorem dX1_copyPlaces_42 : decode cX1_copyPlaces 42 = .ok (.imul, 1) := by decide +kernel
theorem dX1_copyPlaces_43 : decode cX1_copyPlaces 43 = .ok (.istore 5, 2) := by decide +kernel
theorem dX1_copyPlaces_45 : decode cX1_copyPlaces 45 = .ok (.iload_n 1, 1) := by decide +kernel
theorem dX1_copyPlaces_46 : decode cX1_copyPlaces 46 = .ok (.istore 6, 2) := by decide +kernel
theorem dX1_copyPlaces_48 : decode cX1_copyPlaces 48 = .ok (.iload 6, 2) := by decide +kernel
theorem dX1_copyPlaces_50 : decode cX1_copyPlaces 50 = .ok (.iload_n 1, 1) := by decide +kernel
theorem dX1_copyPlaces_51 : decode cX1_copyPlaces 51 = .ok (.iload_n 3, 1) := by decide +kernel
theorem dX1_copyPlaces_52 : decode cX1_copyPlaces 52 = .ok (.iadd, 1) := by decide +kernel
theorem dX1_copyPlaces_53 : decode cX1_copyPlaces 53 = .ok (.if_icmp .ge 46, 3) := by decide +kernel
theorem dX1_copyPlaces_56 : decode cX1_copyPlaces 56 = .ok (.aload_n 0, 1) := by decide +kernel
theorem dX1_copyPlaces_57 : decode cX1_copyPlaces 57 = .ok (.getfield 18, 3) := by decide +kernel
theorem dX1_copyPlaces_60 : decode cX1_copyPlaces 60 = .ok (.iload 6, 2) := by decide +kernel
theorem dX1_copyPlaces_62 : decode cX1_copyPlaces 62 = .ok (.iload 5, 2) := by decide +kernel
theorem dX1_copyPlaces_64 : decode cX1_copyPlaces 64 = .ok (.iadd, 1) := by decide +kernel
theorem dX1_copyPlaces_65 : decode cX1_copyPlaces 65 = .ok (.aload_n 0, 1) := by decide +kernel
theorem dX1_copyPlaces_66 : decode cX1_copyPlaces 66 = .ok (.getfield 18, 3) := by decide +kernel
theorem dX1_copyPlaces_69 : decode cX1_copyPlaces 69 = .ok (.iload 6, 2) := by decide +kernel
theorem dX1_copyPlaces_71 : decode cX1_copyPlaces 71 = .ok (.iaload, 1) := by decide +kernel
theorem dX1_copyPlaces_72 : decode cX1_copyPlaces 72 = .ok (.iastore, 1) := by decide +kernel
theorem dX1_copyPlaces_73 : decode cX1_copyPlaces 73 = .ok (.aload_n 0, 1) := by decide +kernel
theorem dX1_copyPlaces_74 : decode cX1_copyPlaces 74 = .ok (.getfield 22, 3) := by decide +kernel
theorem dX1_copyPlaces_77 : decode cX1_copyPlaces 77 = .ok (.iload 6, 2) := by decide +kernel
theorem dX1_copyPlaces_79 : decode cX1_copyPlaces 79 = .ok (.iload 5, 2) := by decide +kernel
theorem dX1_copyPlaces_81 : decode cX1_copyPlaces 81 = .ok (.iadd, 1) := by decide +kernel
theorem dX1_copyPlaces_82 : decode cX1_copyPlaces 82 = .ok (.aload_n 0, 1) := by decide +kernel
theorem dX1_copyPlaces_83 : decode cX1_copyPlaces 83 = .ok (.getfield 22, 3) := by decide +kernel
theorem dX1_copyPlaces_86 : decode cX1_copyPlaces 86 = .ok (.iload 6, 2) := by decide +kernel
theorem dX1_copyPlaces_88 : decode cX1_copyPlaces 88 = .ok (.iaload, 1) := by decide +kernel
theorem dX1_copyPlaces_89 : decode cX1_copyPlaces 89 = .ok (.iload 5, 2) := by decide +kernel
theorem dX1_copyPlaces_91 : decode cX1_copyPlaces 91 = .ok (.ishl, 1) := by decide +kernel
theorem dX1_copyPlaces_92 : decode cX1_copyPlaces 92 = .ok (.iastore, 1) := by decide +kernel
theorem dX1_copyPlaces_93 : decode cX1_copyPlaces 93 = .ok (.iinc 6 1, 3) := by decide +kernel
theorem dX1_copyPlaces_96 : decode cX1_copyPlaces 96 = .ok (.goto (-48), 3) := by decide +kernel
theorem dX1_copyPlaces_99 : decode cX1_copyPlaces 99 = .ok (.iinc 4 1, 3) := by decide +kernel
theorem dX1_copyPlaces_102 : decode cX1_copyPlaces 102 = .ok (.goto (-69), 3) := by decide +kernel
theorem dX1_copyPlaces_105 : decode cX1_copyPlaces 105 = .ok (.aload_n 0, 1) := by decide +kernel
theorem dX1_copyPlaces_106 : decode cX1_copyPlaces 106 = .ok (.iload_n 1, 1) := by decide +kernel
theorem dX1_copyPlaces_107 : decode cX1_copyPlaces 107 = .ok (.iload_n 3, 1) := by decide +kernel
theorem dX1_copyPlaces_108 : decode cX1_copyPlaces 108 = .ok (.iload_n 2, 1) := by decide +kernel
theorem dX1_copyPlaces_109 : decode cX1_copyPlaces 109 = .ok (.imul, 1) := by decide +kernel
theorem dX1_copyPlaces_110 : decode cX1_copyPlaces 110 = .ok (.iadd, 1) := by decide +kernel
theorem dX1_copyPlaces_111 : decode cX1_copyPlaces 111 = .ok (.putfield 29, 3) := by decide +kernel
theorem dX1_copyPlaces_114 : decode cX1_copyPlaces 114 = .ok (.return_, 1) := by decide +kernel
theorem dX1_wholeObligation_0 : decode cX1_wholeObligation 0 = .ok (.aload_n 0, 1) := by decide +kernel
theorem dX1_wholeObligation_1 : decode cX1_wholeObligation 1 = .ok (.getfield 25, 3) := by decide +kernel
theorem dX1_wholeObligation_4 : decode cX1_wholeObligation 4 = .ok (.ifCond .le 20, 3) := by decide +kernel
theorem dX1_wholeObligation_7 : decode cX1_wholeObligation 7 = .ok (.aload_n 0, 1) := by decide +kernel
theorem dX1_wholeObligation_8 : decode cX1_wholeObligation 8 = .ok (.getfield 11, 3) := by decide +kernel
theorem dX1_wholeObligation_11 : decode cX1_wholeObligation 11 = .ok (.aload_n 0, 1) := by decide +kernel
theorem dX1_wholeObligation_12 : decode cX1_wholeObligation 12 = .ok (.getfield 25, 3) := by decide +kernel
theorem dX1_wholeObligation_15 : decode cX1_wholeObligation 15 = .ok (.iconst 1, 1) := by decide +kernel
theorem dX1_wholeObligation_16 : decode cX1_wholeObligation 16 = .ok (.isub, 1) := by decide +kernel
theorem dX1_wholeObligation_17 : decode cX1_wholeObligation 17 = .ok (.aaload, 1) := by decide +kernel
theorem dX1_wholeObligation_18 : decode cX1_wholeObligation 18 = .ok (.getfield 46, 3) := by decide +kernel
theorem dX1_wholeObligation_21 : decode cX1_wholeObligation 21 = .ok (.goto 4, 3) := by decide +kernel
theorem dX1_wholeObligation_24 : decode cX1_wholeObligation 24 = .ok (.iconst (-1), 1) := by decide +kernel
theorem dX1_wholeObligation_25 : decode cX1_wholeObligation 25 = .ok (.ireturn, 1) := by decide +kernel
theorem dX2_init_0 : decode cX2_init 0 = .ok (.aload_n 0, 1) := by decide +kernel
theorem dX2_init_1 : decode cX2_init 1 = .ok (.invokespecial 5, 3) := by decide +kernel
theorem dX2_init_4 : decode cX2_init 4 = .ok (.aload_n 0, 1) := by decide +kernel
theorem dX2_init_5 : decode cX2_init 5 = .ok (.aload_n 1, 1) := by decide +kernel
theorem dX2_init_6 : decode cX2_init 6 = .ok (.putfield 11, 3) := by decide +kernel
theorem dX2_init_9 : decode cX2_init 9 = .ok (.aload_n 0, 1) := by decide +kernel
theorem dX2_init_10 : decode cX2_init 10 = .ok (.iconst 1, 1) := by decide +kernel
theorem dX2_init_11 : decode cX2_init 11 = .ok (.putfield 15, 3) := by decide +kernel
theorem dX2_init_14 : decode cX2_init 14 = .ok (.aload_n 0, 1) := by decide +kernel
theorem dX2_init_15 : decode cX2_init 15 = .ok (.iconst (-1), 1) := by decide +kernel
theorem dX2_init_16 : decode cX2_init 16 = .ok (.putfield 19, 3) := by decide +kernel
theorem dX2_init_19 : decode cX2_init 19 = .ok (.aload_n 0, 1) := by decide +kernel
theorem dX2_init_20 : decode cX2_init 20 = .ok (.sipush 3584, 3) := by decide +kernel
theorem dX2_init_23 : decode cX2_init 23 = .ok (.newarray .int, 2) := by decide +kernel
theorem dX2_init_25 : decode cX2_init 25 = .ok (.putfield 22, 3) := by decide +kernel
theorem dX2_init_28 : decode cX2_init 28 = .ok (.aload_n 0, 1) := by decide +kernel
theorem dX2_init_29 : decode cX2_init 29 = .ok (.sipush 1792, 3) := by decide +kernel
theorem dX2_init_32 : decode cX2_init 32 = .ok (.newarray .int, 2) := by decide +kernel
theorem dX2_init_34 : decode cX2_init 34 = .ok (.putfield 26, 3) := by decide +kernel
theorem dX2_init_37 : decode cX2_init 37 = .ok (.aload_n 0, 1) := by decide +kernel
theorem dX2_init_38 : decode cX2_init 38 = .ok (.iconst 0, 1) := by decide +kernel
theorem dX2_init_39 : decode cX2_init 39 = .ok (.putfield 29, 3) := by decide +kernel
theorem dX2_init_42 : decode cX2_init 42 = .ok (.return_, 1) := by decide +kernel
theorem dX2_renew_0 : decode cX2_renew 0 = .ok (.aload_n 0, 1) := by decide +kernel
theorem dX2_renew_1 : decode cX2_renew 1 = .ok (.iconst 1, 1) := by decide +kernel
theorem dX2_renew_2 : decode cX2_renew 2 = .ok (.putfield 15, 3) := by decide +kernel
theorem dX2_renew_5 : decode cX2_renew 5 = .ok (.iconst 2, 1) := by decide +kernel
theorem dX2_renew_6 : decode cX2_renew 6 = .ok (.istore_n 1, 1) := by decide +kernel
theorem dX2_renew_7 : decode cX2_renew 7 = .ok (.iload_n 1, 1) := by decide +kernel
theorem dX2_renew_8 : decode cX2_renew 8 = .ok (.bipush 6, 2) := by decide +kernel
theorem dX2_renew_10 : decode cX2_renew 10 = .ok (.if_icmp .gt 29, 3) := by decide +kernel
theorem dX2_renew_13 : decode cX2_renew 13 = .ok (.iconst 1, 1) := by decide +kernel
theorem dX2_renew_14 : decode cX2_renew 14 = .ok (.iload_n 1, 1) := by decide +kernel
theorem dX2_renew_15 : decode cX2_renew 15 = .ok (.iconst 1, 1) := by decide +kernel
theorem dX2_renew_16 : decode cX2_renew 16 = .ok (.isub, 1) := by decide +kernel
theorem dX2_renew_17 : decode cX2_renew 17 = .ok (.ishl, 1) := by decide +kernel
theorem dX2_renew_18 : decode cX2_renew 18 = .ok (.aload_n 0, 1) := by decide +kernel
theorem dX2_renew_19 : decode cX2_renew 19 = .ok (.getfield 11, 3) := by decide +kernel
theorem dX2_renew_22 : decode cX2_renew 22 = .ok (.getfield 32, 3) := by decide +kernel
theorem dX2_renew_25 : decode cX2_renew 25 = .ok (.if_icmp .gt 8, 3) := by decide +kernel
theorem dX2_renew_28 : decode cX2_renew 28 = .ok (.aload_n 0, 1) := by decide +kernel
theorem dX2_renew_29 : decode cX2_renew 29 = .ok (.iload_n 1, 1) := by decide +kernel
theorem dX2_renew_30 : decode cX2_renew 30 = .ok (.putfield 15, 3) := by decide +kernel
theorem dX2_renew_33 : decode cX2_renew 33 = .ok (.iinc 1 1, 3) := by decide +kernel
theorem dX2_renew_36 : decode cX2_renew 36 = .ok (.goto (-29), 3) := by decide +kernel
theorem dX2_renew_39 : decode cX2_renew 39 = .ok (.aload_n 0, 1) := by decide +kernel
theorem dX2_renew_40 : decode cX2_renew 40 = .ok (.iconst (-1), 1) := by decide +kernel
theorem dX2_renew_41 : decode cX2_renew 41 = .ok (.putfield 19, 3) := by decide +kernel
theorem dX2_renew_44 : decode cX2_renew 44 = .ok (.return_, 1) := by decide +kernel
theorem dX2_codes_0 : decode cX2_codes 0 = .ok (.iconst 1, 1) := by decide +kernel
theorem dX2_codes_1 : decode cX2_codes 1 = .ok (.aload_n 0, 1) := by decide +kernel
theorem dX2_codes_2 : decode cX2_codes 2 = .ok (.getfield 15, 3) := by decide +kernel
theorem dX2_codes_5 : decode cX2_codes 5 = .ok (.ishl, 1) := by decide +kernel
theorem dX2_codes_6 : decode cX2_codes 6 = .ok (.ireturn, 1) := by decide +kernel
theorem dX2_isOn_0 : decode cX2_isOn 0 = .ok (.aload_n 0, 1) := by decide +kernel
theorem dX2_isOn_1 : decode cX2_isOn 1 = .ok (.getfield 11, 3) := by decide +kernel
theorem dX2_isOn_4 : decode cX2_isOn 4 = .ok (.iload_n 2, 1) := by decide +kernel
theorem dX2_isOn_5 : decode cX2_isOn 5 = .ok (.iload_n 3, 1) := by decide +kernel
theorem dX2_isOn_6 : decode cX2_isOn 6 = .ok (.invokevirtual 37, 3) := by decide +kernel
theorem dX2_isOn_9 : decode cX2_isOn 9 = .ok (.istore 4, 2) := by decide +kernel
theorem dX2_isOn_11 : decode cX2_isOn 11 = .ok (.iload 4, 2) := by decide +kernel
theorem dX2_isOn_13 : decode cX2_isOn 13 = .ok (.iconst (-1), 1) := by decide +kernel
theorem dX2_isOn_14 : decode cX2_isOn 14 = .ok (.if_icmp .ne 7, 3) := by decide +kernel
theorem dX2_isOn_17 : decode cX2_isOn 17 = .ok (.iconst 1, 1) := by decide +kernel
theorem dX2_isOn_18 : decode cX2_isOn 18 = .ok (.goto 4, 3) := by decide +kernel
theorem dX2_isOn_21 : decode cX2_isOn 21 = .ok (.iconst 0, 1) := by decide +kernel
theorem dX2_isOn_22 : decode cX2_isOn 22 = .ok (.istore 5, 2) := by decide +kernel
theorem dX2_isOn_24 : decode cX2_isOn 24 = .ok (.iload 5, 2) := by decide +kernel
theorem dX2_isOn_26 : decode cX2_isOn 26 = .ok (.ifCond .eq 13, 3) := by decide +kernel
theorem dX2_isOn_29 : decode cX2_isOn 29 = .ok (.aload_n 0, 1) := by decide +kernel
theorem dX2_isOn_30 : decode cX2_isOn 30 = .ok (.getfield 11, 3) := by decide +kernel
theorem dX2_isOn_33 : decode cX2_isOn 33 = .ok (.getfield 32, 3) := by decide +kernel
theorem dX2_isOn_36 : decode cX2_isOn 36 = .ok (.goto 5, 3) := by decide +kernel
theorem dX2_isOn_39 : decode cX2_isOn 39 = .ok (.iload 4, 2) := by decide +kernel
theorem dX2_isOn_41 : decode cX2_isOn 41 = .ok (.istore 6, 2) := by decide +kernel
theorem dX2_isOn_43 : decode cX2_isOn 43 = .ok (.iload_n 1, 1) := by decide +kernel
theorem dX2_isOn_44 : decode cX2_isOn 44 = .ok (.aload_n 0, 1) := by decide +kernel
theorem dX2_isOn_45 : decode cX2_isOn 45 = .ok (.getfield 15, 3) := by decide +kernel
theorem dX2_isOn_48 : decode cX2_isOn 48 = .ok (.if_icmp .ne 8, 3) := by decide +kernel
theorem dX2_isOn_51 : decode cX2_isOn 51 = .ok (.iload 5, 2) := by decide +kernel
theorem dX2_isOn_53 : decode cX2_isOn 53 = .ok (.goto 9, 3) := by decide +kernel
theorem dX2_isOn_56 : decode cX2_isOn 56 = .ok (.iload 6, 2) := by decide +kernel
theorem dX2_isOn_58 : decode cX2_isOn 58 = .ok (.iload_n 1, 1) := by decide +kernel
theorem dX2_isOn_59 : decode cX2_isOn 59 = .ok (.invokestatic 41, 3) := by decide +kernel
theorem dX2_isOn_62 : decode cX2_isOn 62 = .ok (.ireturn, 1) := by decide +kernel
theorem dX2_gates_0 : decode cX2_gates 0 = .ok (.aload_n 0, 1) := by decide +kernel
theorem dX2_gates_1 : decode cX2_gates 1 = .ok (.getfield 19, 3) := by decide +kernel
theorem dX2_gates_4 : decode cX2_gates 4 = .ok (.iconst (-1), 1) := by decide +kernel
theorem dX2_gates_5 : decode cX2_gates 5 = .ok (.if_icmp .ne 11, 3) := by decide +kernel
theorem dX2_gates_8 : decode cX2_gates 8 = .ok (.aload_n 0, 1) := by decide +kernel
theorem dX2_gates_9 : decode cX2_gates 9 = .ok (.aload_n 0, 1) := by decide +kernel
theorem dX2_gates_10 : decode cX2_gates 10 = .ok (.invokevirtual 45, 3) := by decide +kernel
theorem dX2_gates_13 : decode cX2_gates 13 = .ok (.putfield 19, 3) := by decide +kernel
theorem dX2_gates_16 : decode cX2_gates 16 = .ok (.aload_n 0, 1) := by decide +kernel
theorem dX2_gates_17 : decode cX2_gates 17 = .ok (.getfield 19, 3) := by decide +kernel
theorem dX2_gates_20 : decode cX2_gates 20 = .ok (.ireturn, 1) := by decide +kernel
theorem dX2_countGates_0 : decode cX2_countGates 0 = .ok (.iconst 3, 1) := by decide +kernel
theorem dX2_countGates_1 : decode cX2_countGates 1 = .ok (.aload_n 0, 1) := by decide +kernel
theorem dX2_countGates_2 : decode cX2_countGates 2 = .ok (.getfield 15, 3) := by decide +kernel
theorem dX2_countGates_5 : decode cX2_countGates 5 = .ok (.iadd, 1) := by decide +kernel
theorem dX2_countGates_6 : decode cX2_countGates 6 = .ok (.istore_n 1, 1) := by decide +kernel
theorem dX2_countGates_7 : decode cX2_countGates 7 = .ok (.aload_n 0, 1) := by decide +kernel
theorem dX2_countGates_8 : decode cX2_countGates 8 = .ok (.invokevirtual 49, 3) := by decide +kernel
theorem dX2_countGates_11 : decode cX2_countGates 11 = .ok (.istore_n 2, 1) := by decide +kernel
theorem dX2_countGates_12 : decode cX2_countGates 12 = .ok (.iconst 0, 1) := by decide +kernel
theorem dX2_countGates_13 : decode cX2_countGates 13 = .ok (.istore_n 3, 1) := by decide +kernel
theorem dX2_countGates_14 : decode cX2_countGates 14 = .ok (.iconst 0, 1) := by decide +kernel
theorem dX2_countGates_15 : decode cX2_countGates 15 = .ok (.istore 4, 2) := by decide +kernel
theorem dX2_countGates_17 : decode cX2_countGates 17 = .ok (.iload 4, 2) := by decide +kernel
theorem dX2_countGates_19 : decode cX2_countGates 19 = .ok (.iload_n 1, 1) := by decide +kernel
theorem dX2_countGates_20 : decode cX2_countGates 20 = .ok (.if_icmp .ge 74, 3) := by decide +kernel
theorem dX2_countGates_23 : decode cX2_countGates 23 = .ok (.aload_n 0, 1) := by decide +kernel
theorem dX2_countGates_24 : decode cX2_countGates 24 = .ok (.iconst 0, 1) := by decide +kernel
theorem dX2_countGates_25 : decode cX2_countGates 25 = .ok (.putfield 29, 3) := by decide +kernel
theorem dX2_countGates_28 : decode cX2_countGates 28 = .ok (.iload_n 2, 1) := by decide +kernel
theorem dX2_countGates_29 : decode cX2_countGates 29 = .ok (.iconst 2, 1) := by decide +kernel
theorem dX2_countGates_30 : decode cX2_countGates 30 = .ok (.idiv, 1) := by decide +kernel
theorem dX2_countGates_31 : decode cX2_countGates 31 = .ok (.istore_n 2, 1) := by decide +kernel
theorem dX2_countGates_32 : decode cX2_countGates 32 = .ok (.iconst 0, 1) := by decide +kernel
theorem dX2_countGates_33 : decode cX2_countGates 33 = .ok (.istore 5, 2) := by decide +kernel
theorem dX2_countGates_35 : decode cX2_countGates 35 = .ok (.iload 5, 2) := by decide +kernel
theorem dX2_countGates_37 : decode cX2_countGates 37 = .ok (.iload_n 2, 1) := by decide +kernel
theorem dX2_countGates_38 : decode cX2_countGates 38 = .ok (.if_icmp .ge 43, 3) := by decide +kernel
theorem dX2_countGates_41 : decode cX2_countGates 41 = .ok (.aload_n 0, 1) := by decide +kernel
theorem dX2_countGates_42 : decode cX2_countGates 42 = .ok (.getfield 22, 3) := by decide +kernel
theorem dX2_countGates_45 : decode cX2_countGates 45 = .ok (.iload 5, 2) := by decide +kernel
theorem dX2_countGates_47 : decode cX2_countGates 47 = .ok (.aload_n 0, 1) := by decide +kernel
theorem dX2_countGates_48 : decode cX2_countGates 48 = .ok (.aload_n 0, 1) := by decide +kernel
theorem dX2_countGates_49 : decode cX2_countGates 49 = .ok (.getfield 22, 3) := by decide +kernel
theorem dX2_countGates_52 : decode cX2_countGates 52 = .ok (.iconst 2, 1) := by decide +kernel
theorem dX2_countGates_53 : decode cX2_countGates 53 = .ok (.iload 5, 2) := by decide +kernel
theorem dX2_countGates_55 : decode cX2_countGates 55 = .ok (.imul, 1) := by decide +kernel
theorem dX2_countGates_56 : decode cX2_countGates 56 = .ok (.iaload, 1) := by decide +kernel
theorem dX2_countGates_57 : decode cX2_countGates 57 = .ok (.aload_n 0, 1) := by decide +kernel
theorem dX2_countGates_58 : decode cX2_countGates 58 = .ok (.getfield 22, 3) := by decide +kernel
theorem dX2_countGates_61 : decode cX2_countGates 61 = .ok (.iconst 2, 1) := by decide +kernel
theorem dX2_countGates_62 : decode cX2_countGates 62 = .ok (.iload 5, 2) := by decide +kernel
theorem dX2_countGates_64 : decode cX2_countGates 64 = .ok (.imul, 1) := by decide +kernel
theorem dX2_countGates_65 : decode cX2_countGates 65 = .ok (.iconst 1, 1) := by decide +kernel
theorem dX2_countGates_66 : decode cX2_countGates 66 = .ok (.iadd, 1) := by decide +kernel
theorem dX2_countGates_67 : decode cX2_countGates 67 = .ok (.iaload, 1) := by decide +kernel
theorem dX2_countGates_68 : decode cX2_countGates 68 = .ok (.iload_n 3, 1) := by decide +kernel
theorem dX2_countGates_69 : decode cX2_countGates 69 = .ok (.iconst 2, 1) := by decide +kernel
theorem dX2_countGates_70 : decode cX2_countGates 70 = .ok (.iadd, 1) := by decide +kernel
theorem dX2_countGates_71 : decode cX2_countGates 71 = .ok (.invokevirtual 52, 3) := by decide +kernel
theorem dX2_countGates_74 : decode cX2_countGates 74 = .ok (.iastore, 1) := by decide +kernel
theorem dX2_countGates_75 : decode cX2_countGates 75 = .ok (.iinc 5 1, 3) := by decide +kernel
theorem dX2_countGates_78 : decode cX2_countGates 78 = .ok (.goto (-43), 3) := by decide +kernel
theorem dX2_countGates_81 : decode cX2_countGates 81 = .ok (.iload_n 3, 1) := by decide +kernel
theorem dX2_countGates_82 : decode cX2_countGates 82 = .ok (.aload_n 0, 1) := by decide +kernel
theorem dX2_countGates_83 : decode cX2_countGates 83 = .ok (.getfield 29, 3) := by decide +kernel
theorem dX2_countGates_86 : decode cX2_countGates 86 = .ok (.iadd, 1) := by decide +kernel
theorem dX2_countGates_87 : decode cX2_countGates 87 = .ok (.istore_n 3, 1) := by decide +kernel
theorem dX2_countGates_88 : decode cX2_countGates 88 = .ok (.iinc 4 1, 3) := by decide +kernel
theorem dX2_countGates_91 : decode cX2_countGates 91 = .ok (.goto (-74), 3) := by decide +kernel
theorem dX2_countGates_94 : decode cX2_countGates 94 = .ok (.iload_n 3, 1) := by decide +kernel
theorem dX2_countGates_95 : decode cX2_countGates 95 = .ok (.ireturn, 1) := by decide +kernel
theorem dX2_fillCells_0 : decode cX2_fillCells 0 = .ok (.iconst 0, 1) := by decide +kernel
theorem dX2_fillCells_1 : decode cX2_fillCells 1 = .ok (.istore_n 1, 1) := by decide +kernel
theorem dX2_fillCells_2 : decode cX2_fillCells 2 = .ok (.iconst 0, 1) := by decide +kernel
theorem dX2_fillCells_3 : decode cX2_fillCells 3 = .ok (.istore_n 2, 1) := by decide +kernel
theorem dX2_fillCells_4 : decode cX2_fillCells 4 = .ok (.iload_n 2, 1) := by decide +kernel
theorem dX2_fillCells_5 : decode cX2_fillCells 5 = .ok (.aload_n 0, 1) := by decide +kernel
theorem dX2_fillCells_6 : decode cX2_fillCells 6 = .ok (.getfield 15, 3) := by decide +kernel
theorem dX2_fillCells_9 : decode cX2_fillCells 9 = .ok (.if_icmp .gt 82, 3) := by decide +kernel
theorem dX2_fillCells_12 : decode cX2_fillCells 12 = .ok (.iconst 0, 1) := by decide +kernel
theorem dX2_fillCells_13 : decode cX2_fillCells 13 = .ok (.istore_n 3, 1) := by decide +kernel
theorem dX2_fillCells_14 : decode cX2_fillCells 14 = .ok (.iload_n 3, 1) := by decide +kernel
theorem dX2_fillCells_15 : decode cX2_fillCells 15 = .ok (.bipush 8, 2) := by decide +kernel
theorem dX2_fillCells_17 : decode cX2_fillCells 17 = .ok (.if_icmp .ge 68, 3) := by decide +kernel
theorem dX2_fillCells_20 : decode cX2_fillCells 20 = .ok (.iload_n 3, 1) := by decide +kernel
theorem dX2_fillCells_21 : decode cX2_fillCells 21 = .ok (.iconst 1, 1) := by decide +kernel
theorem dX2_fillCells_22 : decode cX2_fillCells 22 = .ok (.iand, 1) := by decide +kernel
theorem dX2_fillCells_23 : decode cX2_fillCells 23 = .ok (.iconst 2, 1) := by decide +kernel
theorem dX2_fillCells_24 : decode cX2_fillCells 24 = .ok (.ishl, 1) := by decide +kernel
theorem dX2_fillCells_25 : decode cX2_fillCells 25 = .ok (.iload_n 3, 1) := by decide +kernel
theorem dX2_fillCells_26 : decode cX2_fillCells 26 = .ok (.iconst 2, 1) := by decide +kernel
theorem dX2_fillCells_27 : decode cX2_fillCells 27 = .ok (.iand, 1) := by decide +kernel
theorem dX2_fillCells_28 : decode cX2_fillCells 28 = .ok (.ior, 1) := by decide +kernel
theorem dX2_fillCells_29 : decode cX2_fillCells 29 = .ok (.iload_n 3, 1) := by decide +kernel
theorem dX2_fillCells_30 : decode cX2_fillCells 30 = .ok (.iconst 2, 1) := by decide +kernel
theorem dX2_fillCells_31 : decode cX2_fillCells 31 = .ok (.ishr, 1) := by decide +kernel
theorem dX2_fillCells_32 : decode cX2_fillCells 32 = .ok (.ior, 1) := by decide +kernel
theorem dX2_fillCells_33 : decode cX2_fillCells 33 = .ok (.istore 4, 2) := by decide +kernel
theorem dX2_fillCells_35 : decode cX2_fillCells 35 = .ok (.iconst 0, 1) := by decide +kernel
theorem dX2_fillCells_36 : decode cX2_fillCells 36 = .ok (.istore 5, 2) := by decide +kernel
theorem dX2_fillCells_38 : decode cX2_fillCells 38 = .ok (.iload 5, 2) := by decide +kernel
theorem dX2_fillCells_40 : decode cX2_fillCells 40 = .ok (.aload_n 0, 1) := by decide +kernel
theorem dX2_fillCells_41 : decode cX2_fillCells 41 = .ok (.invokevirtual 56, 3) := by decide +kernel
theorem dX2_fillCells_44 : decode cX2_fillCells 44 = .ok (.if_icmp .ge 35, 3) := by decide +kernel
theorem dX2_fillCells_47 : decode cX2_fillCells 47 = .ok (.aload_n 0, 1) := by decide +kernel
theorem dX2_fillCells_48 : decode cX2_fillCells 48 = .ok (.getfield 22, 3) := by decide +kernel
theorem dX2_fillCells_51 : decode cX2_fillCells 51 = .ok (.iload_n 1, 1) := by decide +kernel
theorem dX2_fillCells_52 : decode cX2_fillCells 52 = .ok (.aload_n 0, 1) := by decide +kernel
theorem dX2_fillCells_53 : decode cX2_fillCells 53 = .ok (.iload_n 2, 1) := by decide +kernel
theorem dX2_fillCells_54 : decode cX2_fillCells 54 = .ok (.iload 5, 2) := by decide +kernel
theorem dX2_fillCells_56 : decode cX2_fillCells 56 = .ok (.iload 4, 2) := by decide +kernel
theorem dX2_fillCells_58 : decode cX2_fillCells 58 = .ok (.invokevirtual 59, 3) := by decide +kernel
theorem dX2_fillCells_61 : decode cX2_fillCells 61 = .ok (.ifCond .eq 7, 3) := by decide +kernel
theorem dX2_fillCells_64 : decode cX2_fillCells 64 = .ok (.iconst 1, 1) := by decide +kernel
theorem dX2_fillCells_65 : decode cX2_fillCells 65 = .ok (.goto 4, 3) := by decide +kernel
theorem dX2_fillCells_68 : decode cX2_fillCells 68 = .ok (.iconst 0, 1) := by decide +kernel
theorem dX2_fillCells_69 : decode cX2_fillCells 69 = .ok (.iastore, 1) := by decide +kernel
theorem dX2_fillCells_70 : decode cX2_fillCells 70 = .ok (.iinc 1 1, 3) := by decide +kernel
theorem dX2_fillCells_73 : decode cX2_fillCells 73 = .ok (.iinc 5 1, 3) := by decide +kernel
theorem dX2_fillCells_76 : decode cX2_fillCells 76 = .ok (.goto (-38), 3) := by decide +kernel
theorem dX2_fillCells_79 : decode cX2_fillCells 79 = .ok (.iinc 3 1, 3) := by decide +kernel
theorem dX2_fillCells_82 : decode cX2_fillCells 82 = .ok (.goto (-68), 3) := by decide +kernel
theorem dX2_fillCells_85 : decode cX2_fillCells 85 = .ok (.iinc 2 1, 3) := by decide +kernel
theorem dX2_fillCells_88 : decode cX2_fillCells 88 = .ok (.goto (-84), 3) := by decide +kernel
theorem dX2_fillCells_91 : decode cX2_fillCells 91 = .ok (.iload_n 1, 1) := by decide +kernel
theorem dX2_fillCells_92 : decode cX2_fillCells 92 = .ok (.ireturn, 1) := by decide +kernel
theorem dX2_join_0 : decode cX2_join 0 = .ok (.iload_n 1, 1) := by decide +kernel
theorem dX2_join_1 : decode cX2_join 1 = .ok (.iload_n 2, 1) := by decide +kernel
theorem dX2_join_2 : decode cX2_join 2 = .ok (.if_icmp .ne 5, 3) := by decide +kernel
theorem dX2_join_5 : decode cX2_join 5 = .ok (.iload_n 1, 1) := by decide +kernel
theorem dX2_join_6 : decode cX2_join 6 = .ok (.ireturn, 1) := by decide +kernel
theorem dX2_join_7 : decode cX2_join 7 = .ok (.iload_n 1, 1) := by decide +kernel
theorem dX2_join_8 : decode cX2_join 8 = .ok (.sipush 7168, 3) := by decide +kernel
theorem dX2_join_11 : decode cX2_join 11 = .ok (.imul, 1) := by decide +kernel
theorem dX2_join_12 : decode cX2_join 12 = .ok (.iload_n 2, 1) := by decide +kernel
theorem dX2_join_13 : decode cX2_join 13 = .ok (.iadd, 1) := by decide +kernel
theorem dX2_join_14 : decode cX2_join 14 = .ok (.istore 4, 2) := by decide +kernel
theorem dX2_join_16 : decode cX2_join 16 = .ok (.iconst 0, 1) := by decide +kernel
theorem dX2_join_17 : decode cX2_join 17 = .ok (.istore 5, 2) := by decide +kernel
theorem dX2_join_19 : decode cX2_join 19 = .ok (.iload 5, 2) := by decide +kernel
theorem dX2_join_21 : decode cX2_join 21 = .ok (.aload_n 0, 1) := by decide +kernel
theorem dX2_join_22 : decode cX2_join 22 = .ok (.getfield 29, 3) := by decide +kernel
theorem dX2_join_25 : decode cX2_join 25 = .ok (.if_icmp .ge 26, 3) := by decide +kernel
theorem dX2_join_28 : decode cX2_join 28 = .ok (.aload_n 0, 1) := by decide +kernel
theorem dX2_join_29 : decode cX2_join 29 = .ok (.getfield 26, 3) := by decide +kernel
theorem dX2_join_32 : decode cX2_join 32 = .ok (.iload 5, 2) := by decide +kernel
theorem dX2_join_34 : decode cX2_join 34 = .ok (.iaload, 1) := by decide +kernel
theorem dX2_join_35 : decode cX2_join 35 = .ok (.iload 4, 2) := by decide +kernel
theorem dX2_join_37 : decode cX2_join 37 = .ok (.if_icmp .ne 8, 3) := by decide +kernel
theorem dX2_join_40 : decode cX2_join 40 = .ok (.iload_n 3, 1) := by decide +kernel
theorem dX2_join_41 : decode cX2_join 41 = .ok (.iload 5, 2) := by decide +kernel
theorem dX2_join_43 : decode cX2_join 43 = .ok (.iadd, 1) := by decide +kernel
theorem dX2_join_44 : decode cX2_join 44 = .ok (.ireturn, 1) := by decide +kernel
theorem dX2_join_45 : decode cX2_join 45 = .ok (.iinc 5 1, 3) := by decide +kernel
theorem dX2_join_48 : decode cX2_join 48 = .ok (.goto (-29), 3) := by decide +kernel
theorem dX2_join_51 : decode cX2_join 51 = .ok (.aload_n 0, 1) := by decide +kernel
theorem dX2_join_52 : decode cX2_join 52 = .ok (.getfield 26, 3) := by decide +kernel
theorem dX2_join_55 : decode cX2_join 55 = .ok (.aload_n 0, 1) := by decide +kernel
theorem dX2_join_56 : decode cX2_join 56 = .ok (.getfield 29, 3) := by decide +kernel
theorem dX2_join_59 : decode cX2_join 59 = .ok (.iload 4, 2) := by decide +kernel
theorem dX2_join_61 : decode cX2_join 61 = .ok (.iastore, 1) := by decide +kernel
theorem dX2_join_62 : decode cX2_join 62 = .ok (.aload_n 0, 1) := by decide +kernel
theorem dX2_join_63 : decode cX2_join 63 = .ok (.dup, 1) := by decide +kernel
theorem dX2_join_64 : decode cX2_join 64 = .ok (.getfield 29, 3) := by decide +kernel
theorem dX2_join_67 : decode cX2_join 67 = .ok (.iconst 1, 1) := by decide +kernel
theorem dX2_join_68 : decode cX2_join 68 = .ok (.iadd, 1) := by decide +kernel
theorem dX2_join_69 : decode cX2_join 69 = .ok (.putfield 29, 3) := by decide +kernel
theorem dX2_join_72 : decode cX2_join 72 = .ok (.iload_n 3, 1) := by decide +kernel
theorem dX2_join_73 : decode cX2_join 73 = .ok (.aload_n 0, 1) := by decide +kernel
theorem dX2_join_74 : decode cX2_join 74 = .ok (.getfield 29, 3) := by decide +kernel
theorem dX2_join_77 : decode cX2_join 77 = .ok (.iadd, 1) := by decide +kernel
theorem dX2_join_78 : decode cX2_join 78 = .ok (.iconst 1, 1) := by decide +kernel
theorem dX2_join_79 : decode cX2_join 79 = .ok (.isub, 1) := by decide +kernel
theorem dX2_join_80 : decode cX2_join 80 = .ok (.ireturn, 1) := by decide +kernel
theorem dX3_init_0 : decode cX3_init 0 = .ok (.aload_n 0, 1) := by decide +kernel
theorem dX3_init_1 : decode cX3_init 1 = .ok (.invokespecial 3, 3) := by decide +kernel
theorem dX3_init_4 : decode cX3_init 4 = .ok (.aload_n 0, 1) := by decide +kernel
theorem dX3_init_5 : decode cX3_init 5 = .ok (.aload_n 1, 1) := by decide +kernel
theorem dX3_init_6 : decode cX3_init 6 = .ok (.putfield 9, 3) := by decide +kernel
theorem dX3_init_9 : decode cX3_init 9 = .ok (.aload_n 0, 1) := by decide +kernel
theorem dX3_init_10 : decode cX3_init 10 = .ok (.sipush 328, 3) := by decide +kernel
theorem dX3_init_13 : decode cX3_init 13 = .ok (.newarray .long, 2) := by decide +kernel
theorem dX3_init_15 : decode cX3_init 15 = .ok (.putfield 15, 3) := by decide +kernel
theorem dX3_init_18 : decode cX3_init 18 = .ok (.aload_n 0, 1) := by decide +kernel
theorem dX3_init_19 : decode cX3_init 19 = .ok (.sipush 320, 3) := by decide +kernel
theorem dX3_init_22 : decode cX3_init 22 = .ok (.newarray .int, 2) := by decide +kernel
theorem dX3_init_24 : decode cX3_init 24 = .ok (.putfield 19, 3) := by decide +kernel
theorem dX3_init_27 : decode cX3_init 27 = .ok (.aload_n 0, 1) := by decide +kernel
theorem dX3_init_28 : decode cX3_init 28 = .ok (.sipush 512, 3) := by decide +kernel
theorem dX3_init_31 : decode cX3_init 31 = .ok (.newarray .int, 2) := by decide +kernel
theorem dX3_init_33 : decode cX3_init 33 = .ok (.putfield 23, 3) := by decide +kernel
theorem dX3_init_36 : decode cX3_init 36 = .ok (.aload_n 0, 1) := by decide +kernel
theorem dX3_init_37 : decode cX3_init 37 = .ok (.iconst 0, 1) := by decide +kernel
theorem dX3_init_38 : decode cX3_init 38 = .ok (.putfield 26, 3) := by decide +kernel
theorem dX3_init_41 : decode cX3_init 41 = .ok (.aload_n 0, 1) := by decide +kernel
theorem dX3_init_42 : decode cX3_init 42 = .ok (.iconst 0, 1) := by decide +kernel
theorem dX3_init_43 : decode cX3_init 43 = .ok (.putfield 30, 3) := by decide +kernel
theorem dX3_init_46 : decode cX3_init 46 = .ok (.aload_n 0, 1) := by decide +kernel
theorem dX3_init_47 : decode cX3_init 47 = .ok (.iconst 0, 1) := by decide +kernel
theorem dX3_init_48 : decode cX3_init 48 = .ok (.putfield 33, 3) := by decide +kernel
theorem dX3_init_51 : decode cX3_init 51 = .ok (.return_, 1) := by decide +kernel
theorem dX3_explore_0 : decode cX3_explore 0 = .ok (.aload_n 0, 1) := by decide +kernel
theorem dX3_explore_1 : decode cX3_explore 1 = .ok (.aload_n 0, 1) := by decide +kernel
theorem dX3_explore_2 : decode cX3_explore 2 = .ok (.getfield 9, 3) := by decide +kernel
theorem dX3_explore_5 : decode cX3_explore 5 = .ok (.getfield 36, 3) := by decide +kernel
theorem dX3_explore_8 : decode cX3_explore 8 = .ok (.putfield 30, 3) := by decide +kernel
theorem dX3_explore_11 : decode cX3_explore 11 = .ok (.aload_n 0, 1) := by decide +kernel
theorem dX3_explore_12 : decode cX3_explore 12 = .ok (.iconst 1, 1) := by decide +kernel
theorem dX3_explore_13 : decode cX3_explore 13 = .ok (.putfield 33, 3) := by decide +kernel
theorem dX3_explore_16 : decode cX3_explore 16 = .ok (.iconst 0, 1) := by decide +kernel
theorem dX3_explore_17 : decode cX3_explore 17 = .ok (.istore_n 2, 1) := by decide +kernel
theorem dX3_explore_18 : decode cX3_explore 18 = .ok (.iload_n 2, 1) := by decide +kernel
theorem dX3_explore_19 : decode cX3_explore 19 = .ok (.aload_n 0, 1) := by decide +kernel
theorem dX3_explore_20 : decode cX3_explore 20 = .ok (.getfield 30, 3) := by decide +kernel
theorem dX3_explore_23 : decode cX3_explore 23 = .ok (.if_icmp .ge 20, 3) := by decide +kernel
theorem dX3_explore_26 : decode cX3_explore 26 = .ok (.aload_n 0, 1) := by decide +kernel
theorem dX3_explore_27 : decode cX3_explore 27 = .ok (.getfield 15, 3) := by decide +kernel
theorem dX3_explore_30 : decode cX3_explore 30 = .ok (.iload_n 2, 1) := by decide +kernel
theorem dX3_explore_31 : decode cX3_explore 31 = .ok (.iload_n 1, 1) := by decide +kernel
theorem dX3_explore_32 : decode cX3_explore 32 = .ok (.iload_n 2, 1) := by decide +kernel
theorem dX3_explore_33 : decode cX3_explore 33 = .ok (.invokestatic 39, 3) := by decide +kernel
theorem dX3_explore_36 : decode cX3_explore 36 = .ok (.lastore, 1) := by decide +kernel
theorem dX3_explore_37 : decode cX3_explore 37 = .ok (.iinc 2 1, 3) := by decide +kernel
theorem dX3_explore_40 : decode cX3_explore 40 = .ok (.goto (-22), 3) := by decide +kernel
theorem dX3_explore_43 : decode cX3_explore 43 = .ok (.iconst 0, 1) := by decide +kernel
theorem dX3_explore_44 : decode cX3_explore 44 = .ok (.istore_n 2, 1) := by decide +kernel
theorem dX3_explore_45 : decode cX3_explore 45 = .ok (.iload_n 2, 1) := by decide +kernel
theorem dX3_explore_46 : decode cX3_explore 46 = .ok (.aload_n 0, 1) := by decide +kernel
theorem dX3_explore_47 : decode cX3_explore 47 = .ok (.getfield 33, 3) := by decide +kernel
theorem dX3_explore_50 : decode cX3_explore 50 = .ok (.if_icmp .ge 82, 3) := by decide +kernel
theorem dX3_explore_53 : decode cX3_explore 53 = .ok (.iload_n 2, 1) := by decide +kernel
theorem dX3_explore_54 : decode cX3_explore 54 = .ok (.bipush 40, 2) := by decide +kernel
theorem dX3_explore_56 : decode cX3_explore 56 = .ok (.if_icmp .ge 76, 3) := by decide +kernel
theorem dX3_explore_59 : decode cX3_explore 59 = .ok (.aload_n 0, 1) := by decide +kernel
theorem dX3_explore_60 : decode cX3_explore 60 = .ok (.iload_n 2, 1) := by decide +kernel
theorem dX3_explore_61 : decode cX3_explore 61 = .ok (.invokevirtual 43, 3) := by decide +kernel
theorem dX3_explore_64 : decode cX3_explore 64 = .ok (.iconst 0, 1) := by decide +kernel
theorem dX3_explore_65 : decode cX3_explore 65 = .ok (.istore_n 3, 1) := by decide +kernel
theorem dX3_explore_66 : decode cX3_explore 66 = .ok (.iload_n 3, 1) := by decide +kernel
theorem dX3_explore_67 : decode cX3_explore 67 = .ok (.bipush 8, 2) := by decide +kernel
theorem dX3_explore_69 : decode cX3_explore 69 = .ok (.if_icmp .ge 57, 3) := by decide +kernel
theorem dX3_explore_72 : decode cX3_explore 72 = .ok (.aload_n 0, 1) := by decide +kernel
theorem dX3_explore_73 : decode cX3_explore 73 = .ok (.iload_n 3, 1) := by decide +kernel
theorem dX3_explore_74 : decode cX3_explore 74 = .ok (.invokevirtual 47, 3) := by decide +kernel
theorem dX3_explore_77 : decode cX3_explore 77 = .ok (.aload_n 0, 1) := by decide +kernel
theorem dX3_explore_78 : decode cX3_explore 78 = .ok (.invokevirtual 50, 3) := by decide +kernel
theorem dX3_explore_81 : decode cX3_explore 81 = .ok (.istore 4, 2) := by decide +kernel
theorem dX3_explore_83 : decode cX3_explore 83 = .ok (.iload 4, 2) := by decide +kernel
theorem dX3_explore_85 : decode cX3_explore 85 = .ok (.bipush 40, 2) := by decide +kernel
theorem dX3_explore_87 : decode cX3_explore 87 = .ok (.if_icmp .lt 5, 3) := by decide +kernel
theorem dX3_explore_90 : decode cX3_explore 90 = .ok (.iconst 0, 1) := by decide +kernel
theorem dX3_explore_91 : decode cX3_explore 91 = .ok (.ireturn, 1) := by decide +kernel
theorem dX3_explore_92 : decode cX3_explore 92 = .ok (.aload_n 0, 1) := by decide +kernel
theorem dX3_explore_93 : decode cX3_explore 93 = .ok (.getfield 19, 3) := by decide +kernel
theorem dX3_explore_96 : decode cX3_explore 96 = .ok (.iload_n 2, 1) := by decide +kernel
theorem dX3_explore_97 : decode cX3_explore 97 = .ok (.bipush 8, 2) := by decide +kernel
theorem dX3_explore_99 : decode cX3_explore 99 = .ok (.imul, 1) := by decide +kernel
theorem dX3_explore_100 : decode cX3_explore 100 = .ok (.iload_n 3, 1) := by decide +kernel
theorem dX3_explore_101 : decode cX3_explore 101 = .ok (.iadd, 1) := by decide +kernel
theorem dX3_explore_102 : decode cX3_explore 102 = .ok (.iload 4, 2) := by decide +kernel
theorem dX3_explore_104 : decode cX3_explore 104 = .ok (.iastore, 1) := by decide +kernel
theorem dX3_explore_105 : decode cX3_explore 105 = .ok (.aload_n 0, 1) := by decide +kernel
theorem dX3_explore_106 : decode cX3_explore 106 = .ok (.aload_n 0, 1) := by decide +kernel
theorem dX3_explore_107 : decode cX3_explore 107 = .ok (.getfield 33, 3) := by decide +kernel
theorem dX3_explore_110 : decode cX3_explore 110 = .ok (.iload 4, 2) := by decide +kernel
theorem dX3_explore_112 : decode cX3_explore 112 = .ok (.iconst 1, 1) := by decide +kernel
theorem dX3_explore_113 : decode cX3_explore 113 = .ok (.iadd, 1) := by decide +kernel
theorem dX3_explore_114 : decode cX3_explore 114 = .ok (.invokestatic 54, 3) := by decide +kernel
theorem dX3_explore_117 : decode cX3_explore 117 = .ok (.putfield 33, 3) := by decide +kernel
theorem dX3_explore_120 : decode cX3_explore 120 = .ok (.iinc 3 1, 3) := by decide +kernel
theorem dX3_explore_123 : decode cX3_explore 123 = .ok (.goto (-57), 3) := by decide +kernel
theorem dX3_explore_126 : decode cX3_explore 126 = .ok (.iinc 2 1, 3) := by decide +kernel
theorem dX3_explore_129 : decode cX3_explore 129 = .ok (.goto (-84), 3) := by decide +kernel
theorem dX3_explore_132 : decode cX3_explore 132 = .ok (.iconst 1, 1) := by decide +kernel
theorem dX3_explore_133 : decode cX3_explore 133 = .ok (.ireturn, 1) := by decide +kernel
theorem dX3_lead_0 : decode cX3_lead 0 = .ok (.aload_n 0, 1) := by decide +kernel
theorem dX3_lead_1 : decode cX3_lead 1 = .ok (.getfield 19, 3) := by decide +kernel
theorem dX3_lead_4 : decode cX3_lead 4 = .ok (.iload_n 1, 1) := by decide +kernel
theorem dX3_lead_5 : decode cX3_lead 5 = .ok (.bipush 8, 2) := by decide +kernel
theorem dX3_lead_7 : decode cX3_lead 7 = .ok (.imul, 1) := by decide +kernel
theorem dX3_lead_8 : decode cX3_lead 8 = .ok (.iload_n 2, 1) := by decide +kernel
theorem dX3_lead_9 : decode cX3_lead 9 = .ok (.iadd, 1) := by decide +kernel
theorem dX3_lead_10 : decode cX3_lead 10 = .ok (.iaload, 1) := by decide +kernel
theorem dX3_lead_11 : decode cX3_lead 11 = .ok (.ireturn, 1) := by decide +kernel
theorem dX3_findLeastSets_0 : decode cX3_findLeastSets 0 = .ok (.aload_n 0, 1) := by decide +kernel
theorem dX3_findLeastSets_1 : decode cX3_findLeastSets 1 = .ok (.iconst 0, 1) := by decide +kernel
theorem dX3_findLeastSets_2 : decode cX3_findLeastSets 2 = .ok (.putfield 26, 3) := by decide +kernel
theorem dX3_findLeastSets_5 : decode cX3_findLeastSets 5 = .ok (.iconst 0, 1) := by decide +kernel
theorem dX3_findLeastSets_6 : decode cX3_findLeastSets 6 = .ok (.istore_n 2, 1) := by decide +kernel
theorem dX3_findLeastSets_7 : decode cX3_findLeastSets 7 = .ok (.iload_n 2, 1) := by decide +kernel
theorem dX3_findLeastSets_8 : decode cX3_findLeastSets 8 = .ok (.aload_n 0, 1) := by decide +kernel
theorem dX3_findLeastSets_9 : decode cX3_findLeastSets 9 = .ok (.getfield 30, 3) := by decide +kernel
theorem dX3_findLeastSets_12 : decode cX3_findLeastSets 12 = .ok (.if_icmp .ge 81, 3) := by decide +kernel
theorem dX3_findLeastSets_15 : decode cX3_findLeastSets 15 = .ok (.aload_n 0, 1) := by decide +kernel
theorem dX3_findLeastSets_16 : decode cX3_findLeastSets 16 = .ok (.iload_n 1, 1) := by decide +kernel
theorem dX3_findLeastSets_17 : decode cX3_findLeastSets 17 = .ok (.bipush 8, 2) := by decide +kernel
theorem dX3_findLeastSets_19 : decode cX3_findLeastSets 19 = .ok (.imul, 1) := by decide +kernel
theorem dX3_findLeastSets_20 : decode cX3_findLeastSets 20 = .ok (.iload_n 2, 1) := by decide +kernel
theorem dX3_findLeastSets_21 : decode cX3_findLeastSets 21 = .ok (.invokevirtual 60, 3) := by decide +kernel
theorem dX3_findLeastSets_24 : decode cX3_findLeastSets 24 = .ok (.lstore_n 3, 1) := by decide +kernel
theorem dX3_findLeastSets_25 : decode cX3_findLeastSets 25 = .ok (.iconst 0, 1) := by decide +kernel
theorem dX3_findLeastSets_26 : decode cX3_findLeastSets 26 = .ok (.istore 5, 2) := by decide +kernel
theorem dX3_findLeastSets_28 : decode cX3_findLeastSets 28 = .ok (.iload 5, 2) := by decide +kernel
theorem dX3_findLeastSets_30 : decode cX3_findLeastSets 30 = .ok (.bipush 64, 2) := by decide +kernel
theorem dX3_findLeastSets_32 : decode cX3_findLeastSets 32 = .ok (.if_icmp .ge 55, 3) := by decide +kernel
theorem dX3_findLeastSets_35 : decode cX3_findLeastSets 35 = .ok (.lload_n 3, 1) := by decide +kernel
theorem dX3_findLeastSets_36 : decode cX3_findLeastSets 36 = .ok (.iload 5, 2) := by decide +kernel
theorem dX3_findLeastSets_38 : decode cX3_findLeastSets 38 = .ok (.lushr, 1) := by decide +kernel
theorem dX3_findLeastSets_39 : decode cX3_findLeastSets 39 = .ok (.lconst 0, 1) := by decide +kernel
theorem dX3_findLeastSets_40 : decode cX3_findLeastSets 40 = .ok (.lcmp, 1) := by decide +kernel
theorem dX3_findLeastSets_41 : decode cX3_findLeastSets 41 = .ok (.ifCond .eq 46, 3) := by decide +kernel
theorem dX3_findLeastSets_44 : decode cX3_findLeastSets 44 = .ok (.lload_n 3, 1) := by decide +kernel
theorem dX3_findLeastSets_45 : decode cX3_findLeastSets 45 = .ok (.iload 5, 2) := by decide +kernel
theorem dX3_findLeastSets_47 : decode cX3_findLeastSets 47 = .ok (.lushr, 1) := by decide +kernel
theorem dX3_findLeastSets_48 : decode cX3_findLeastSets 48 = .ok (.lconst 1, 1) := by decide +kernel
theorem dX3_findLeastSets_49 : decode cX3_findLeastSets 49 = .ok (.land, 1) := by decide +kernel
theorem dX3_findLeastSets_50 : decode cX3_findLeastSets 50 = .ok (.lconst 0, 1) := by decide +kernel
theorem dX3_findLeastSets_51 : decode cX3_findLeastSets 51 = .ok (.lcmp, 1) := by decide +kernel
theorem dX3_findLeastSets_52 : decode cX3_findLeastSets 52 = .ok (.ifCond .eq 29, 3) := by decide +kernel
theorem dX3_findLeastSets_55 : decode cX3_findLeastSets 55 = .ok (.aload_n 0, 1) := by decide +kernel
theorem dX3_findLeastSets_56 : decode cX3_findLeastSets 56 = .ok (.getfield 23, 3) := by decide +kernel
theorem dX3_findLeastSets_59 : decode cX3_findLeastSets 59 = .ok (.aload_n 0, 1) := by decide +kernel
theorem dX3_findLeastSets_60 : decode cX3_findLeastSets 60 = .ok (.getfield 26, 3) := by decide +kernel
theorem dX3_findLeastSets_63 : decode cX3_findLeastSets 63 = .ok (.iload_n 2, 1) := by decide +kernel
theorem dX3_findLeastSets_64 : decode cX3_findLeastSets 64 = .ok (.bipush 6, 2) := by decide +kernel
theorem dX3_findLeastSets_66 : decode cX3_findLeastSets 66 = .ok (.ishl, 1) := by decide +kernel
theorem dX3_findLeastSets_67 : decode cX3_findLeastSets 67 = .ok (.iload 5, 2) := by decide +kernel
theorem dX3_findLeastSets_69 : decode cX3_findLeastSets 69 = .ok (.ior, 1) := by decide +kernel
theorem dX3_findLeastSets_70 : decode cX3_findLeastSets 70 = .ok (.iastore, 1) := by decide +kernel
theorem dX3_findLeastSets_71 : decode cX3_findLeastSets 71 = .ok (.aload_n 0, 1) := by decide +kernel
theorem dX3_findLeastSets_72 : decode cX3_findLeastSets 72 = .ok (.dup, 1) := by decide +kernel
theorem dX3_findLeastSets_73 : decode cX3_findLeastSets 73 = .ok (.getfield 26, 3) := by decide +kernel
theorem dX3_findLeastSets_76 : decode cX3_findLeastSets 76 = .ok (.iconst 1, 1) := by decide +kernel
theorem dX3_findLeastSets_77 : decode cX3_findLeastSets 77 = .ok (.iadd, 1) := by decide +kernel
theorem dX3_findLeastSets_78 : decode cX3_findLeastSets 78 = .ok (.putfield 26, 3) := by decide +kernel
theorem dX3_findLeastSets_81 : decode cX3_findLeastSets 81 = .ok (.iinc 5 1, 3) := by decide +kernel
theorem dX3_findLeastSets_84 : decode cX3_findLeastSets 84 = .ok (.goto (-56), 3) := by decide +kernel
theorem dX3_findLeastSets_87 : decode cX3_findLeastSets 87 = .ok (.iinc 2 1, 3) := by decide +kernel
theorem dX3_findLeastSets_90 : decode cX3_findLeastSets 90 = .ok (.goto (-83), 3) := by decide +kernel
theorem dX3_findLeastSets_93 : decode cX3_findLeastSets 93 = .ok (.return_, 1) := by decide +kernel
theorem dX3_leastIn_0 : decode cX3_leastIn 0 = .ok (.aload_n 0, 1) := by decide +kernel
theorem dX3_leastIn_1 : decode cX3_leastIn 1 = .ok (.getfield 15, 3) := by decide +kernel
theorem dX3_leastIn_4 : decode cX3_leastIn 4 = .ok (.iload_n 1, 1) := by decide +kernel
theorem dX3_leastIn_5 : decode cX3_leastIn 5 = .ok (.iload_n 2, 1) := by decide +kernel
theorem dX3_leastIn_6 : decode cX3_leastIn 6 = .ok (.iadd, 1) := by decide +kernel
theorem dX3_leastIn_7 : decode cX3_leastIn 7 = .ok (.laload, 1) := by decide +kernel
theorem dX3_leastIn_8 : decode cX3_leastIn 8 = .ok (.lstore_n 3, 1) := by decide +kernel
theorem dX3_leastIn_9 : decode cX3_leastIn 9 = .ok (.lconst 0, 1) := by decide +kernel
theorem dX3_leastIn_10 : decode cX3_leastIn 10 = .ok (.lstore 5, 2) := by decide +kernel
theorem dX3_leastIn_12 : decode cX3_leastIn 12 = .ok (.iconst 0, 1) := by decide +kernel
theorem dX3_leastIn_13 : decode cX3_leastIn 13 = .ok (.istore 7, 2) := by decide +kernel
theorem dX3_leastIn_15 : decode cX3_leastIn 15 = .ok (.iload 7, 2) := by decide +kernel
theorem dX3_leastIn_17 : decode cX3_leastIn 17 = .ok (.bipush 6, 2) := by decide +kernel
theorem dX3_leastIn_19 : decode cX3_leastIn 19 = .ok (.if_icmp .ge 31, 3) := by decide +kernel
theorem dX3_leastIn_22 : decode cX3_leastIn 22 = .ok (.lload 5, 2) := by decide +kernel
theorem dX3_leastIn_24 : decode cX3_leastIn 24 = .ok (.lload_n 3, 1) := by decide +kernel
theorem dX3_leastIn_25 : decode cX3_leastIn 25 = .ok (.getstatic 63, 3) := by decide +kernel
theorem dX3_leastIn_28 : decode cX3_leastIn 28 = .ok (.iload 7, 2) := by decide +kernel
theorem dX3_leastIn_30 : decode cX3_leastIn 30 = .ok (.laload, 1) := by decide +kernel
theorem dX3_leastIn_31 : decode cX3_leastIn 31 = .ok (.ldc2_w 66, 3) := by decide +kernel
theorem dX3_leastIn_34 : decode cX3_leastIn 34 = .ok (.lxor, 1) := by decide +kernel
theorem dX3_leastIn_35 : decode cX3_leastIn 35 = .ok (.land, 1) := by decide +kernel
theorem dX3_leastIn_36 : decode cX3_leastIn 36 = .ok (.iconst 1, 1) := by decide +kernel
theorem dX3_leastIn_37 : decode cX3_leastIn 37 = .ok (.iload 7, 2) := by decide +kernel
theorem dX3_leastIn_39 : decode cX3_leastIn 39 = .ok (.ishl, 1) := by decide +kernel
theorem dX3_leastIn_40 : decode cX3_leastIn 40 = .ok (.lshl, 1) := by decide +kernel
theorem dX3_leastIn_41 : decode cX3_leastIn 41 = .ok (.lor, 1) := by decide +kernel
theorem dX3_leastIn_42 : decode cX3_leastIn 42 = .ok (.lstore 5, 2) := by decide +kernel
theorem dX3_leastIn_44 : decode cX3_leastIn 44 = .ok (.iinc 7 1, 3) := by decide +kernel
theorem dX3_leastIn_47 : decode cX3_leastIn 47 = .ok (.goto (-32), 3) := by decide +kernel
theorem dX3_leastIn_50 : decode cX3_leastIn 50 = .ok (.iconst 1, 1) := by decide +kernel
theorem dX3_leastIn_51 : decode cX3_leastIn 51 = .ok (.istore 7, 2) := by decide +kernel
theorem dX3_leastIn_53 : decode cX3_leastIn 53 = .ok (.iload 7, 2) := by decide +kernel
theorem dX3_leastIn_55 : decode cX3_leastIn 55 = .ok (.aload_n 0, 1) := by decide +kernel
theorem dX3_leastIn_56 : decode cX3_leastIn 56 = .ok (.getfield 30, 3) := by decide +kernel
theorem dX3_leastIn_59 : decode cX3_leastIn 59 = .ok (.if_icmp .ge 35, 3) := by decide +kernel
theorem dX3_leastIn_62 : decode cX3_leastIn 62 = .ok (.iload_n 2, 1) := by decide +kernel
theorem dX3_leastIn_63 : decode cX3_leastIn 63 = .ok (.iload 7, 2) := by decide +kernel
theorem dX3_leastIn_65 : decode cX3_leastIn 65 = .ok (.iand, 1) := by decide +kernel
theorem dX3_leastIn_66 : decode cX3_leastIn 66 = .ok (.ifCond .eq 19, 3) := by decide +kernel
theorem dX3_leastIn_69 : decode cX3_leastIn 69 = .ok (.lload 5, 2) := by decide +kernel
theorem dX3_leastIn_71 : decode cX3_leastIn 71 = .ok (.aload_n 0, 1) := by decide +kernel
theorem dX3_leastIn_72 : decode cX3_leastIn 72 = .ok (.getfield 15, 3) := by decide +kernel
theorem dX3_leastIn_75 : decode cX3_leastIn 75 = .ok (.iload_n 1, 1) := by decide +kernel
theorem dX3_leastIn_76 : decode cX3_leastIn 76 = .ok (.iload_n 2, 1) := by decide +kernel
theorem dX3_leastIn_77 : decode cX3_leastIn 77 = .ok (.iadd, 1) := by decide +kernel
theorem dX3_leastIn_78 : decode cX3_leastIn 78 = .ok (.iload 7, 2) := by decide +kernel
theorem dX3_leastIn_80 : decode cX3_leastIn 80 = .ok (.isub, 1) := by decide +kernel
theorem dX3_leastIn_81 : decode cX3_leastIn 81 = .ok (.laload, 1) := by decide +kernel
theorem dX3_leastIn_82 : decode cX3_leastIn 82 = .ok (.lor, 1) := by decide +kernel
theorem dX3_leastIn_83 : decode cX3_leastIn 83 = .ok (.lstore 5, 2) := by decide +kernel
theorem dX3_leastIn_85 : decode cX3_leastIn 85 = .ok (.iload 7, 2) := by decide +kernel
theorem dX3_leastIn_87 : decode cX3_leastIn 87 = .ok (.iconst 1, 1) := by decide +kernel
theorem dX3_leastIn_88 : decode cX3_leastIn 88 = .ok (.ishl, 1) := by decide +kernel
theorem dX3_leastIn_89 : decode cX3_leastIn 89 = .ok (.istore 7, 2) := by decide +kernel
theorem dX3_leastIn_91 : decode cX3_leastIn 91 = .ok (.goto (-38), 3) := by decide +kernel
theorem dX3_leastIn_94 : decode cX3_leastIn 94 = .ok (.lload_n 3, 1) := by decide +kernel
theorem dX3_leastIn_95 : decode cX3_leastIn 95 = .ok (.lload 5, 2) := by decide +kernel
theorem dX3_leastIn_97 : decode cX3_leastIn 97 = .ok (.ldc2_w 66, 3) := by decide +kernel
theorem dX3_leastIn_100 : decode cX3_leastIn 100 = .ok (.lxor, 1) := by decide +kernel
theorem dX3_leastIn_101 : decode cX3_leastIn 101 = .ok (.land, 1) := by decide +kernel
theorem dX3_leastIn_102 : decode cX3_leastIn 102 = .ok (.lreturn, 1) := by decide +kernel
theorem dX3_putIn_0 : decode cX3_putIn 0 = .ok (.aload_n 0, 1) := by decide +kernel
theorem dX3_putIn_1 : decode cX3_putIn 1 = .ok (.getfield 33, 3) := by decide +kernel
theorem dX3_putIn_4 : decode cX3_putIn 4 = .ok (.bipush 8, 2) := by decide +kernel
theorem dX3_putIn_6 : decode cX3_putIn 6 = .ok (.imul, 1) := by decide +kernel
theorem dX3_putIn_7 : decode cX3_putIn 7 = .ok (.istore_n 2, 1) := by decide +kernel
theorem dX3_putIn_8 : decode cX3_putIn 8 = .ok (.iconst 0, 1) := by decide +kernel
theorem dX3_putIn_9 : decode cX3_putIn 9 = .ok (.istore_n 3, 1) := by decide +kernel
theorem dX3_putIn_10 : decode cX3_putIn 10 = .ok (.iload_n 3, 1) := by decide +kernel
theorem dX3_putIn_11 : decode cX3_putIn 11 = .ok (.aload_n 0, 1) := by decide +kernel
theorem dX3_putIn_12 : decode cX3_putIn 12 = .ok (.getfield 30, 3) := by decide +kernel
theorem dX3_putIn_15 : decode cX3_putIn 15 = .ok (.if_icmp .ge 70, 3) := by decide +kernel
theorem dX3_putIn_18 : decode cX3_putIn 18 = .ok (.lconst 0, 1) := by decide +kernel
theorem dX3_putIn_19 : decode cX3_putIn 19 = .ok (.lstore 4, 2) := by decide +kernel
theorem dX3_putIn_21 : decode cX3_putIn 21 = .ok (.iconst 0, 1) := by decide +kernel
theorem dX3_putIn_22 : decode cX3_putIn 22 = .ok (.istore 6, 2) := by decide +kernel
theorem dX3_putIn_24 : decode cX3_putIn 24 = .ok (.iload 6, 2) := by decide +kernel
theorem dX3_putIn_26 : decode cX3_putIn 26 = .ok (.aload_n 0, 1) := by decide +kernel
theorem dX3_putIn_27 : decode cX3_putIn 27 = .ok (.getfield 26, 3) := by decide +kernel
theorem dX3_putIn_30 : decode cX3_putIn 30 = .ok (.if_icmp .ge 39, 3) := by decide +kernel
theorem dX3_putIn_33 : decode cX3_putIn 33 = .ok (.lload 4, 2) := by decide +kernel
theorem dX3_putIn_35 : decode cX3_putIn 35 = .ok (.ldc2_w 66, 3) := by decide +kernel
theorem dX3_putIn_38 : decode cX3_putIn 38 = .ok (.lcmp, 1) := by decide +kernel
theorem dX3_putIn_39 : decode cX3_putIn 39 = .ok (.ifCond .eq 30, 3) := by decide +kernel
theorem dX3_putIn_42 : decode cX3_putIn 42 = .ok (.lload 4, 2) := by decide +kernel
theorem dX3_putIn_44 : decode cX3_putIn 44 = .ok (.aload_n 0, 1) := by decide +kernel
theorem dX3_putIn_45 : decode cX3_putIn 45 = .ok (.getfield 9, 3) := by decide +kernel
theorem dX3_putIn_48 : decode cX3_putIn 48 = .ok (.aload_n 0, 1) := by decide +kernel
theorem dX3_putIn_49 : decode cX3_putIn 49 = .ok (.getfield 23, 3) := by decide +kernel
theorem dX3_putIn_52 : decode cX3_putIn 52 = .ok (.iload 6, 2) := by decide +kernel
theorem dX3_putIn_54 : decode cX3_putIn 54 = .ok (.iaload, 1) := by decide +kernel
theorem dX3_putIn_55 : decode cX3_putIn 55 = .ok (.iload_n 1, 1) := by decide +kernel
theorem dX3_putIn_56 : decode cX3_putIn 56 = .ok (.iload_n 3, 1) := by decide +kernel
theorem dX3_putIn_57 : decode cX3_putIn 57 = .ok (.invokevirtual 68, 3) := by decide +kernel
theorem dX3_putIn_60 : decode cX3_putIn 60 = .ok (.lor, 1) := by decide +kernel
theorem dX3_putIn_61 : decode cX3_putIn 61 = .ok (.lstore 4, 2) := by decide +kernel
theorem dX3_putIn_63 : decode cX3_putIn 63 = .ok (.iinc 6 1, 3) := by decide +kernel
theorem dX3_putIn_66 : decode cX3_putIn 66 = .ok (.goto (-42), 3) := by decide +kernel
theorem dX3_putIn_69 : decode cX3_putIn 69 = .ok (.aload_n 0, 1) := by decide +kernel
theorem dX3_putIn_70 : decode cX3_putIn 70 = .ok (.getfield 15, 3) := by decide +kernel
theorem dX3_putIn_73 : decode cX3_putIn 73 = .ok (.iload_n 2, 1) := by decide +kernel
theorem dX3_putIn_74 : decode cX3_putIn 74 = .ok (.iload_n 3, 1) := by decide +kernel
theorem dX3_putIn_75 : decode cX3_putIn 75 = .ok (.iadd, 1) := by decide +kernel
theorem dX3_putIn_76 : decode cX3_putIn 76 = .ok (.lload 4, 2) := by decide +kernel
theorem dX3_putIn_78 : decode cX3_putIn 78 = .ok (.lastore, 1) := by decide +kernel
theorem dX3_putIn_79 : decode cX3_putIn 79 = .ok (.iinc 3 1, 3) := by decide +kernel
theorem dX3_putIn_82 : decode cX3_putIn 82 = .ok (.goto (-72), 3) := by decide +kernel
theorem dX3_putIn_85 : decode cX3_putIn 85 = .ok (.return_, 1) := by decide +kernel
theorem dX3_find_0 : decode cX3_find 0 = .ok (.iconst 0, 1) := by decide +kernel
theorem dX3_find_1 : decode cX3_find 1 = .ok (.istore_n 1, 1) := by decide +kernel
theorem dX3_find_2 : decode cX3_find 2 = .ok (.iload_n 1, 1) := by decide +kernel
theorem dX3_find_3 : decode cX3_find 3 = .ok (.aload_n 0, 1) := by decide +kernel
theorem dX3_find_4 : decode cX3_find 4 = .ok (.getfield 33, 3) := by decide +kernel
theorem dX3_find_7 : decode cX3_find 7 = .ok (.if_icmp .ge 23, 3) := by decide +kernel
theorem dX3_find_10 : decode cX3_find 10 = .ok (.aload_n 0, 1) := by decide +kernel
theorem dX3_find_11 : decode cX3_find 11 = .ok (.iload_n 1, 1) := by decide +kernel
theorem dX3_find_12 : decode cX3_find 12 = .ok (.aload_n 0, 1) := by decide +kernel
theorem dX3_find_13 : decode cX3_find 13 = .ok (.getfield 33, 3) := by decide +kernel
theorem dX3_find_16 : decode cX3_find 16 = .ok (.invokevirtual 72, 3) := by decide +kernel
theorem dX3_find_19 : decode cX3_find 19 = .ok (.ifCond .eq 5, 3) := by decide +kernel
theorem dX3_find_22 : decode cX3_find 22 = .ok (.iload_n 1, 1) := by decide +kernel
theorem dX3_find_23 : decode cX3_find 23 = .ok (.ireturn, 1) := by decide +kernel
theorem dX3_find_24 : decode cX3_find 24 = .ok (.iinc 1 1, 3) := by decide +kernel
theorem dX3_find_27 : decode cX3_find 27 = .ok (.goto (-25), 3) := by decide +kernel
theorem dX3_find_30 : decode cX3_find 30 = .ok (.aload_n 0, 1) := by decide +kernel
theorem dX3_find_31 : decode cX3_find 31 = .ok (.getfield 33, 3) := by decide +kernel
theorem dX3_find_34 : decode cX3_find 34 = .ok (.ireturn, 1) := by decide +kernel
theorem dX3_isSame_0 : decode cX3_isSame 0 = .ok (.iconst 0, 1) := by decide +kernel
theorem dX3_isSame_1 : decode cX3_isSame 1 = .ok (.istore_n 3, 1) := by decide +kernel
theorem dX3_isSame_2 : decode cX3_isSame 2 = .ok (.iload_n 3, 1) := by decide +kernel
theorem dX3_isSame_3 : decode cX3_isSame 3 = .ok (.aload_n 0, 1) := by decide +kernel
theorem dX3_isSame_4 : decode cX3_isSame 4 = .ok (.getfield 30, 3) := by decide +kernel
theorem dX3_isSame_7 : decode cX3_isSame 7 = .ok (.if_icmp .ge 37, 3) := by decide +kernel
theorem dX3_isSame_10 : decode cX3_isSame 10 = .ok (.aload_n 0, 1) := by decide +kernel
theorem dX3_isSame_11 : decode cX3_isSame 11 = .ok (.getfield 15, 3) := by decide +kernel
theorem dX3_isSame_14 : decode cX3_isSame 14 = .ok (.iload_n 1, 1) := by decide +kernel
theorem dX3_isSame_15 : decode cX3_isSame 15 = .ok (.bipush 8, 2) := by decide +kernel
theorem dX3_isSame_17 : decode cX3_isSame 17 = .ok (.imul, 1) := by decide +kernel
theorem dX3_isSame_18 : decode cX3_isSame 18 = .ok (.iload_n 3, 1) := by decide +kernel
theorem dX3_isSame_19 : decode cX3_isSame 19 = .ok (.iadd, 1) := by decide +kernel
theorem dX3_isSame_20 : decode cX3_isSame 20 = .ok (.laload, 1) := by decide +kernel
theorem dX3_isSame_21 : decode cX3_isSame 21 = .ok (.aload_n 0, 1) := by decide +kernel
theorem dX3_isSame_22 : decode cX3_isSame 22 = .ok (.getfield 15, 3) := by decide +kernel
theorem dX3_isSame_25 : decode cX3_isSame 25 = .ok (.iload_n 2, 1) := by decide +kernel
theorem dX3_isSame_26 : decode cX3_isSame 26 = .ok (.bipush 8, 2) := by decide +kernel
theorem dX3_isSame_28 : decode cX3_isSame 28 = .ok (.imul, 1) := by decide +kernel
theorem dX3_isSame_29 : decode cX3_isSame 29 = .ok (.iload_n 3, 1) := by decide +kernel
theorem dX3_isSame_30 : decode cX3_isSame 30 = .ok (.iadd, 1) := by decide +kernel
theorem dX3_isSame_31 : decode cX3_isSame 31 = .ok (.laload, 1) := by decide +kernel
theorem dX3_isSame_32 : decode cX3_isSame 32 = .ok (.lcmp, 1) := by decide +kernel
theorem dX3_isSame_33 : decode cX3_isSame 33 = .ok (.ifCond .eq 5, 3) := by decide +kernel
theorem dX3_isSame_36 : decode cX3_isSame 36 = .ok (.iconst 0, 1) := by decide +kernel
theorem dX3_isSame_37 : decode cX3_isSame 37 = .ok (.ireturn, 1) := by decide +kernel
theorem dX3_isSame_38 : decode cX3_isSame 38 = .ok (.iinc 3 1, 3) := by decide +kernel
theorem dX3_isSame_41 : decode cX3_isSame 41 = .ok (.goto (-39), 3) := by decide +kernel
theorem dX3_isSame_44 : decode cX3_isSame 44 = .ok (.iconst 1, 1) := by decide +kernel
theorem dX3_isSame_45 : decode cX3_isSame 45 = .ok (.ireturn, 1) := by decide +kernel
theorem dX3_isNever_0 : decode cX3_isNever 0 = .ok (.iconst 0, 1) := by decide +kernel
theorem dX3_isNever_1 : decode cX3_isNever 1 = .ok (.istore_n 2, 1) := by decide +kernel
theorem dX3_isNever_2 : decode cX3_isNever 2 = .ok (.iload_n 2, 1) := by decide +kernel
theorem dX3_isNever_3 : decode cX3_isNever 3 = .ok (.aload_n 0, 1) := by decide +kernel
theorem dX3_isNever_4 : decode cX3_isNever 4 = .ok (.getfield 30, 3) := by decide +kernel
theorem dX3_isNever_7 : decode cX3_isNever 7 = .ok (.if_icmp .ge 27, 3) := by decide +kernel
theorem dX3_isNever_10 : decode cX3_isNever 10 = .ok (.aload_n 0, 1) := by decide +kernel
theorem dX3_isNever_11 : decode cX3_isNever 11 = .ok (.getfield 15, 3) := by decide +kernel
theorem dX3_isNever_14 : decode cX3_isNever 14 = .ok (.iload_n 1, 1) := by decide +kernel
theorem dX3_isNever_15 : decode cX3_isNever 15 = .ok (.bipush 8, 2) := by decide +kernel
theorem dX3_isNever_17 : decode cX3_isNever 17 = .ok (.imul, 1) := by decide +kernel
theorem dX3_isNever_18 : decode cX3_isNever 18 = .ok (.iload_n 2, 1) := by decide +kernel
theorem dX3_isNever_19 : decode cX3_isNever 19 = .ok (.iadd, 1) := by decide +kernel
theorem dX3_isNever_20 : decode cX3_isNever 20 = .ok (.laload, 1) := by decide +kernel
theorem dX3_isNever_21 : decode cX3_isNever 21 = .ok (.lconst 0, 1) := by decide +kernel
theorem dX3_isNever_22 : decode cX3_isNever 22 = .ok (.lcmp, 1) := by decide +kernel
theorem dX3_isNever_23 : decode cX3_isNever 23 = .ok (.ifCond .eq 5, 3) := by decide +kernel
theorem dX3_isNever_26 : decode cX3_isNever 26 = .ok (.iconst 0, 1) := by decide +kernel
theorem dX3_isNever_27 : decode cX3_isNever 27 = .ok (.ireturn, 1) := by decide +kernel
theorem dX3_isNever_28 : decode cX3_isNever 28 = .ok (.iinc 2 1, 3) := by decide +kernel
theorem dX3_isNever_31 : decode cX3_isNever 31 = .ok (.goto (-29), 3) := by decide +kernel
theorem dX3_isNever_34 : decode cX3_isNever 34 = .ok (.iconst 1, 1) := by decide +kernel
theorem dX3_isNever_35 : decode cX3_isNever 35 = .ok (.ireturn, 1) := by decide +kernel
theorem dX4_init_0 : decode cX4_init 0 = .ok (.aload_n 0, 1) := by decide +kernel
theorem dX4_init_1 : decode cX4_init 1 = .ok (.invokespecial 3, 3) := by decide +kernel
theorem dX4_init_4 : decode cX4_init 4 = .ok (.aload_n 0, 1) := by decide +kernel
theorem dX4_init_5 : decode cX4_init 5 = .ok (.aload_n 1, 1) := by decide +kernel
theorem dX4_init_6 : decode cX4_init 6 = .ok (.putfield 9, 3) := by decide +kernel
theorem dX4_init_9 : decode cX4_init 9 = .ok (.aload_n 0, 1) := by decide +kernel
theorem dX4_init_10 : decode cX4_init 10 = .ok (.iconst 0, 1) := by decide +kernel
theorem dX4_init_11 : decode cX4_init 11 = .ok (.putfield 15, 3) := by decide +kernel
theorem dX4_init_14 : decode cX4_init 14 = .ok (.aload_n 0, 1) := by decide +kernel
theorem dX4_init_15 : decode cX4_init 15 = .ok (.sipush 320, 3) := by decide +kernel
theorem dX4_init_18 : decode cX4_init 18 = .ok (.newarray .int, 2) := by decide +kernel
theorem dX4_init_20 : decode cX4_init 20 = .ok (.putfield 19, 3) := by decide +kernel
theorem dX4_init_23 : decode cX4_init 23 = .ok (.aload_n 0, 1) := by decide +kernel
theorem dX4_init_24 : decode cX4_init 24 = .ok (.bipush 40, 2) := by decide +kernel
theorem dX4_init_26 : decode cX4_init 26 = .ok (.newarray .boolean, 2) := by decide +kernel
theorem dX4_init_28 : decode cX4_init 28 = .ok (.putfield 23, 3) := by decide +kernel
theorem dX4_init_31 : decode cX4_init 31 = .ok (.aload_n 0, 1) := by decide +kernel
theorem dX4_init_32 : decode cX4_init 32 = .ok (.bipush 40, 2) := by decide +kernel
theorem dX4_init_34 : decode cX4_init 34 = .ok (.newarray .int, 2) := by decide +kernel
theorem dX4_init_36 : decode cX4_init 36 = .ok (.putfield 27, 3) := by decide +kernel
theorem dX4_init_39 : decode cX4_init 39 = .ok (.aload_n 0, 1) := by decide +kernel
theorem dX4_init_40 : decode cX4_init 40 = .ok (.bipush 40, 2) := by decide +kernel
theorem dX4_init_42 : decode cX4_init 42 = .ok (.newarray .int, 2) := by decide +kernel
theorem dX4_init_44 : decode cX4_init 44 = .ok (.putfield 30, 3) := by decide +kernel
theorem dX4_init_47 : decode cX4_init 47 = .ok (.aload_n 0, 1) := by decide +kernel
theorem dX4_init_48 : decode cX4_init 48 = .ok (.bipush 40, 2) := by decide +kernel
theorem dX4_init_50 : decode cX4_init 50 = .ok (.newarray .int, 2) := by decide +kernel
theorem dX4_init_52 : decode cX4_init 52 = .ok (.putfield 33, 3) := by decide +kernel
theorem dX4_init_55 : decode cX4_init 55 = .ok (.aload_n 0, 1) := by decide +kernel
theorem dX4_init_56 : decode cX4_init 56 = .ok (.bipush 40, 2) := by decide +kernel
theorem dX4_init_58 : decode cX4_init 58 = .ok (.newarray .int, 2) := by decide +kernel
theorem dX4_init_60 : decode cX4_init 60 = .ok (.putfield 36, 3) := by decide +kernel
theorem dX4_init_63 : decode cX4_init 63 = .ok (.return_, 1) := by decide +kernel
theorem dX4_firstState_0 : decode cX4_firstState 0 = .ok (.aload_n 0, 1) := by decide +kernel
theorem dX4_firstState_1 : decode cX4_firstState 1 = .ok (.getfield 15, 3) := by decide +kernel
theorem dX4_firstState_4 : decode cX4_firstState 4 = .ok (.ifCond .le 7, 3) := by decide +kernel
theorem dX4_firstState_7 : decode cX4_firstState 7 = .ok (.iconst 0, 1) := by decide +kernel
theorem dX4_firstState_8 : decode cX4_firstState 8 = .ok (.goto 4, 3) := by decide +kernel
theorem dX4_firstState_11 : decode cX4_firstState 11 = .ok (.iconst (-1), 1) := by decide +kernel
theorem dX4_firstState_12 : decode cX4_firstState 12 = .ok (.ireturn, 1) := by decide +kernel
theorem dX4_after_0 : decode cX4_after 0 = .ok (.iload_n 1, 1) := by decide +kernel
theorem dX4_after_1 : decode cX4_after 1 = .ok (.ifCond .lt 11, 3) := by decide +kernel
theorem dX4_after_4 : decode cX4_after 4 = .ok (.iload_n 1, 1) := by decide +kernel
theorem dX4_after_5 : decode cX4_after 5 = .ok (.aload_n 0, 1) := by decide +kernel
theorem dX4_after_6 : decode cX4_after 6 = .ok (.getfield 15, 3) := by decide +kernel
theorem dX4_after_9 : decode cX4_after 9 = .ok (.if_icmp .lt 7, 3) := by decide +kernel
theorem dX4_after_12 : decode cX4_after 12 = .ok (.iconst (-1), 1) := by decide +kernel
theorem dX4_after_13 : decode cX4_after 13 = .ok (.goto 14, 3) := by decide +kernel
theorem dX4_after_16 : decode cX4_after 16 = .ok (.aload_n 0, 1) := by decide +kernel
theorem dX4_after_17 : decode cX4_after 17 = .ok (.getfield 19, 3) := by decide +kernel
theorem dX4_after_20 : decode cX4_after 20 = .ok (.iload_n 1, 1) := by decide +kernel
theorem dX4_after_21 : decode cX4_after 21 = .ok (.bipush 8, 2) := by decide +kernel
theorem dX4_after_23 : decode cX4_after 23 = .ok (.imul, 1) := by decide +kernel
theorem dX4_after_24 : decode cX4_after 24 = .ok (.iload_n 2, 1) := by decide +kernel
theorem dX4_after_25 : decode cX4_after 25 = .ok (.iadd, 1) := by decide +kernel
theorem dX4_after_26 : decode cX4_after 26 = .ok (.iaload, 1) := by decide +kernel
theorem dX4_after_27 : decode cX4_after 27 = .ok (.ireturn, 1) := by decide +kernel
theorem dX4_build_0 : decode cX4_build 0 = .ok (.aload_n 0, 1) := by decide +kernel
theorem dX4_build_1 : decode cX4_build 1 = .ok (.invokevirtual 39, 3) := by decide +kernel
theorem dX4_build_4 : decode cX4_build 4 = .ok (.aload_n 0, 1) := by decide +kernel
theorem dX4_build_5 : decode cX4_build 5 = .ok (.invokevirtual 42, 3) := by decide +kernel
theorem dX4_build_8 : decode cX4_build 8 = .ok (.aload_n 0, 1) := by decide +kernel
theorem dX4_build_9 : decode cX4_build 9 = .ok (.invokevirtual 45, 3) := by decide +kernel
theorem dX4_build_12 : decode cX4_build 12 = .ok (.return_, 1) := by decide +kernel
theorem dX4_markFailing_0 : decode cX4_markFailing 0 = .ok (.iconst 0, 1) := by decide +kernel
theorem dX4_markFailing_1 : decode cX4_markFailing 1 = .ok (.istore_n 1, 1) := by decide +kernel
theorem dX4_markFailing_2 : decode cX4_markFailing 2 = .ok (.iload_n 1, 1) := by decide +kernel
theorem dX4_markFailing_3 : decode cX4_markFailing 3 = .ok (.aload_n 0, 1) := by decide +kernel
theorem dX4_markFailing_4 : decode cX4_markFailing 4 = .ok (.getfield 9, 3) := by decide +kernel
theorem dX4_markFailing_7 : decode cX4_markFailing 7 = .ok (.getfield 48, 3) := by decide +kernel
theorem dX4_markFailing_10 : decode cX4_markFailing 10 = .ok (.if_icmp .ge 23, 3) := by decide +kernel
theorem dX4_markFailing_13 : decode cX4_markFailing 13 = .ok (.aload_n 0, 1) := by decide +kernel
theorem dX4_markFailing_14 : decode cX4_markFailing 14 = .ok (.getfield 23, 3) := by decide +kernel
theorem dX4_markFailing_17 : decode cX4_markFailing 17 = .ok (.iload_n 1, 1) := by decide +kernel
theorem dX4_markFailing_18 : decode cX4_markFailing 18 = .ok (.aload_n 0, 1) := by decide +kernel
theorem dX4_markFailing_19 : decode cX4_markFailing 19 = .ok (.getfield 9, 3) := by decide +kernel
theorem dX4_markFailing_22 : decode cX4_markFailing 22 = .ok (.iload_n 1, 1) := by decide +kernel
theorem dX4_markFailing_23 : decode cX4_markFailing 23 = .ok (.invokevirtual 53, 3) := by decide +kernel
theorem dX4_markFailing_26 : decode cX4_markFailing 26 = .ok (.bastore, 1) := by decide +kernel
theorem dX4_markFailing_27 : decode cX4_markFailing 27 = .ok (.iinc 1 1, 3) := by decide +kernel
theorem dX4_markFailing_30 : decode cX4_markFailing 30 = .ok (.goto (-28), 3) := by decide +kernel
theorem dX4_markFailing_33 : decode cX4_markFailing 33 = .ok (.iconst 1, 1) := by decide +kernel
theorem dX4_markFailing_34 : decode cX4_markFailing 34 = .ok (.istore_n 1, 1) := by decide +kernel
theorem dX4_markFailing_35 : decode cX4_markFailing 35 = .ok (.iconst 0, 1) := by decide +kernel
theorem dX4_markFailing_36 : decode cX4_markFailing 36 = .ok (.istore_n 2, 1) := by decide +kernel
theorem dX4_markFailing_37 : decode cX4_markFailing 37 = .ok (.iload_n 2, 1) := by decide +kernel
theorem dX4_markFailing_38 : decode cX4_markFailing 38 = .ok (.bipush 40, 2) := by decide +kernel
theorem dX4_markFailing_40 : decode cX4_markFailing 40 = .ok (.if_icmp .ge 60, 3) := by decide +kernel
theorem dX4_markFailing_43 : decode cX4_markFailing 43 = .ok (.iload_n 1, 1) := by decide +kernel
theorem dX4_markFailing_44 : decode cX4_markFailing 44 = .ok (.ifCond .eq 56, 3) := by decide +kernel
theorem dX4_markFailing_47 : decode cX4_markFailing 47 = .ok (.iconst 0, 1) := by decide +kernel
theorem dX4_markFailing_48 : decode cX4_markFailing 48 = .ok (.istore_n 1, 1) := by decide +kernel
theorem dX4_markFailing_49 : decode cX4_markFailing 49 = .ok (.iconst 0, 1) := by decide +kernel
theorem dX4_markFailing_50 : decode cX4_markFailing 50 = .ok (.istore_n 3, 1) := by decide +kernel
theorem dX4_markFailing_51 : decode cX4_markFailing 51 = .ok (.iload_n 3, 1) := by decide +kernel
theorem dX4_markFailing_52 : decode cX4_markFailing 52 = .ok (.aload_n 0, 1) := by decide +kernel
theorem dX4_markFailing_53 : decode cX4_markFailing 53 = .ok (.getfield 9, 3) := by decide +kernel
theorem dX4_markFailing_56 : decode cX4_markFailing 56 = .ok (.getfield 48, 3) := by decide +kernel
theorem dX4_markFailing_59 : decode cX4_markFailing 59 = .ok (.if_icmp .ge 35, 3) := by decide +kernel
theorem dX4_markFailing_62 : decode cX4_markFailing 62 = .ok (.aload_n 0, 1) := by decide +kernel
theorem dX4_markFailing_63 : decode cX4_markFailing 63 = .ok (.getfield 23, 3) := by decide +kernel
theorem dX4_markFailing_66 : decode cX4_markFailing 66 = .ok (.iload_n 3, 1) := by decide +kernel
theorem dX4_markFailing_67 : decode cX4_markFailing 67 = .ok (.baload, 1) := by decide +kernel
theorem dX4_markFailing_68 : decode cX4_markFailing 68 = .ok (.ifCond .ne 20, 3) := by decide +kernel
theorem dX4_markFailing_71 : decode cX4_markFailing 71 = .ok (.aload_n 0, 1) := by decide +kernel
theorem dX4_markFailing_72 : decode cX4_markFailing 72 = .ok (.iload_n 3, 1) := by decide +kernel
theorem dX4_markFailing_73 : decode cX4_markFailing 73 = .ok (.invokevirtual 57, 3) := by decide +kernel
theorem dX4_markFailing_76 : decode cX4_markFailing 76 = .ok (.ifCond .eq 12, 3) := by decide +kernel
theorem dX4_markFailing_79 : decode cX4_markFailing 79 = .ok (.aload_n 0, 1) := by decide +kernel
theorem dX4_markFailing_80 : decode cX4_markFailing 80 = .ok (.getfield 23, 3) := by decide +kernel
theorem dX4_markFailing_83 : decode cX4_markFailing 83 = .ok (.iload_n 3, 1) := by decide +kernel
theorem dX4_markFailing_84 : decode cX4_markFailing 84 = .ok (.iconst 1, 1) := by decide +kernel
theorem dX4_markFailing_85 : decode cX4_markFailing 85 = .ok (.bastore, 1) := by decide +kernel
theorem dX4_markFailing_86 : decode cX4_markFailing 86 = .ok (.iconst 1, 1) := by decide +kernel
theorem dX4_markFailing_87 : decode cX4_markFailing 87 = .ok (.istore_n 1, 1) := by decide +kernel
theorem dX4_markFailing_88 : decode cX4_markFailing 88 = .ok (.iinc 3 1, 3) := by decide +kernel
theorem dX4_markFailing_91 : decode cX4_markFailing 91 = .ok (.goto (-40), 3) := by decide +kernel
theorem dX4_markFailing_94 : decode cX4_markFailing 94 = .ok (.iinc 2 1, 3) := by decide +kernel
theorem dX4_markFailing_97 : decode cX4_markFailing 97 = .ok (.goto (-60), 3) := by decide +kernel
theorem dX4_markFailing_100 : decode cX4_markFailing 100 = .ok (.return_, 1) := by decide +kernel
theorem dX4_leadsToFailingOnly_0 : decode cX4_leadsToFailingOnly 0 = .ok (.iconst 0, 1) := by decide +kernel
theorem dX4_leadsToFailingOnly_1 : decode cX4_leadsToFailingOnly 1 = .ok (.istore_n 2, 1) := by decide +kernel
theorem dX4_leadsToFailingOnly_2 : decode cX4_leadsToFailingOnly 2 = .ok (.iload_n 2, 1) := by decide +kernel
theorem dX4_leadsToFailingOnly_3 : decode cX4_leadsToFailingOnly 3 = .ok (.bipush 8, 2) := by decide +kernel
theorem dX4_leadsToFailingOnly_5 : decode cX4_leadsToFailingOnly 5 = .ok (.if_icmp .ge 28, 3) := by decide +kernel
theorem dX4_leadsToFailingOnly_8 : decode cX4_leadsToFailingOnly 8 = .ok (.aload_n 0, 1) := by decide +kernel
theorem dX4_leadsToFailingOnly_9 : decode cX4_leadsToFailingOnly 9 = .ok (.getfield 23, 3) := by decide +kernel
theorem dX4_leadsToFailingOnly_12 : decode cX4_leadsToFailingOnly 12 = .ok (.aload_n 0, 1) := by decide +kernel
theorem dX4_leadsToFailingOnly_13 : decode cX4_leadsToFailingOnly 13 = .ok (.getfield 9, 3) := by decide +kernel
theorem dX4_leadsToFailingOnly_16 : decode cX4_leadsToFailingOnly 16 = .ok (.iload_n 1, 1) := by decide +kernel
theorem dX4_leadsToFailingOnly_17 : decode cX4_leadsToFailingOnly 17 = .ok (.iload_n 2, 1) := by decide +kernel
theorem dX4_leadsToFailingOnly_18 : decode cX4_leadsToFailingOnly 18 = .ok (.invokevirtual 60, 3) := by decide +kernel
theorem dX4_leadsToFailingOnly_21 : decode cX4_leadsToFailingOnly 21 = .ok (.baload, 1) := by decide +kernel
theorem dX4_leadsToFailingOnly_22 : decode cX4_leadsToFailingOnly 22 = .ok (.ifCond .ne 5, 3) := by decide +kernel
theorem dX4_leadsToFailingOnly_25 : decode cX4_leadsToFailingOnly 25 = .ok (.iconst 0, 1) := by decide +kernel
theorem dX4_leadsToFailingOnly_26 : decode cX4_leadsToFailingOnly 26 = .ok (.ireturn, 1) := by decide +kernel
theorem dX4_leadsToFailingOnly_27 : decode cX4_leadsToFailingOnly 27 = .ok (.iinc 2 1, 3) := by decide +kernel
theorem dX4_leadsToFailingOnly_30 : decode cX4_leadsToFailingOnly 30 = .ok (.goto (-28), 3) := by decide +kernel
theorem dX4_leadsToFailingOnly_33 : decode cX4_leadsToFailingOnly 33 = .ok (.iconst 1, 1) := by decide +kernel
theorem dX4_leadsToFailingOnly_34 : decode cX4_leadsToFailingOnly 34 = .ok (.ireturn, 1) := by decide +kernel
theorem dX4_groupConditions_0 : decode cX4_groupConditions 0 = .ok (.iconst 0, 1) := by decide +kernel
theorem dX4_groupConditions_1 : decode cX4_groupConditions 1 = .ok (.istore_n 1, 1) := by decide +kernel
theorem dX4_groupConditions_2 : decode cX4_groupConditions 2 = .ok (.iload_n 1, 1) := by decide +kernel
theorem dX4_groupConditions_3 : decode cX4_groupConditions 3 = .ok (.aload_n 0, 1) := by decide +kernel
theorem dX4_groupConditions_4 : decode cX4_groupConditions 4 = .ok (.getfield 9, 3) := by decide +kernel
theorem dX4_groupConditions_7 : decode cX4_groupConditions 7 = .ok (.getfield 48, 3) := by decide +kernel
theorem dX4_groupConditions_10 : decode cX4_groupConditions 10 = .ok (.if_icmp .ge 29, 3) := by decide +kernel
theorem dX4_groupConditions_13 : decode cX4_groupConditions 13 = .ok (.aload_n 0, 1) := by decide +kernel
theorem dX4_groupConditions_14 : decode cX4_groupConditions 14 = .ok (.getfield 27, 3) := by decide +kernel
theorem dX4_groupConditions_17 : decode cX4_groupConditions 17 = .ok (.iload_n 1, 1) := by decide +kernel
theorem dX4_groupConditions_18 : decode cX4_groupConditions 18 = .ok (.aload_n 0, 1) := by decide +kernel
theorem dX4_groupConditions_19 : decode cX4_groupConditions 19 = .ok (.getfield 23, 3) := by decide +kernel
theorem dX4_groupConditions_22 : decode cX4_groupConditions 22 = .ok (.iload_n 1, 1) := by decide +kernel
theorem dX4_groupConditions_23 : decode cX4_groupConditions 23 = .ok (.baload, 1) := by decide +kernel
theorem dX4_groupConditions_24 : decode cX4_groupConditions 24 = .ok (.ifCond .eq 7, 3) := by decide +kernel
theorem dX4_groupConditions_27 : decode cX4_groupConditions 27 = .ok (.iconst 1, 1) := by decide +kernel
theorem dX4_groupConditions_28 : decode cX4_groupConditions 28 = .ok (.goto 4, 3) := by decide +kernel
theorem dX4_groupConditions_31 : decode cX4_groupConditions 31 = .ok (.iconst 0, 1) := by decide +kernel
theorem dX4_groupConditions_32 : decode cX4_groupConditions 32 = .ok (.iastore, 1) := by decide +kernel
theorem dX4_groupConditions_33 : decode cX4_groupConditions 33 = .ok (.iinc 1 1, 3) := by decide +kernel
theorem dX4_groupConditions_36 : decode cX4_groupConditions 36 = .ok (.goto (-34), 3) := by decide +kernel
theorem dX4_groupConditions_39 : decode cX4_groupConditions 39 = .ok (.iconst 0, 1) := by decide +kernel
theorem dX4_groupConditions_40 : decode cX4_groupConditions 40 = .ok (.istore_n 1, 1) := by decide +kernel
theorem dX4_groupConditions_41 : decode cX4_groupConditions 41 = .ok (.iconst 1, 1) := by decide +kernel
theorem dX4_groupConditions_42 : decode cX4_groupConditions 42 = .ok (.istore_n 2, 1) := by decide +kernel
theorem dX4_groupConditions_43 : decode cX4_groupConditions 43 = .ok (.iconst 0, 1) := by decide +kernel
theorem dX4_groupConditions_44 : decode cX4_groupConditions 44 = .ok (.istore_n 3, 1) := by decide +kernel
theorem dX4_groupConditions_45 : decode cX4_groupConditions 45 = .ok (.iload_n 3, 1) := by decide +kernel
theorem dX4_groupConditions_46 : decode cX4_groupConditions 46 = .ok (.bipush 40, 2) := by decide +kernel
theorem dX4_groupConditions_48 : decode cX4_groupConditions 48 = .ok (.if_icmp .gt 33, 3) := by decide +kernel
theorem dX4_groupConditions_51 : decode cX4_groupConditions 51 = .ok (.iload_n 2, 1) := by decide +kernel
theorem dX4_groupConditions_52 : decode cX4_groupConditions 52 = .ok (.ifCond .eq 29, 3) := by decide +kernel
theorem dX4_groupConditions_55 : decode cX4_groupConditions 55 = .ok (.iload_n 1, 1) := by decide +kernel
theorem dX4_groupConditions_56 : decode cX4_groupConditions 56 = .ok (.istore 4, 2) := by decide +kernel
theorem dX4_groupConditions_58 : decode cX4_groupConditions 58 = .ok (.aload_n 0, 1) := by decide +kernel
theorem dX4_groupConditions_59 : decode cX4_groupConditions 59 = .ok (.invokevirtual 64, 3) := by decide +kernel
theorem dX4_groupConditions_62 : decode cX4_groupConditions 62 = .ok (.istore_n 1, 1) := by decide +kernel
theorem dX4_groupConditions_63 : decode cX4_groupConditions 63 = .ok (.iload_n 1, 1) := by decide +kernel
theorem dX4_groupConditions_64 : decode cX4_groupConditions 64 = .ok (.iload 4, 2) := by decide +kernel
theorem dX4_groupConditions_66 : decode cX4_groupConditions 66 = .ok (.if_icmp .le 7, 3) := by decide +kernel
theorem dX4_groupConditions_69 : decode cX4_groupConditions 69 = .ok (.iconst 1, 1) := by decide +kernel
theorem dX4_groupConditions_70 : decode cX4_groupConditions 70 = .ok (.goto 4, 3) := by decide +kernel
theorem dX4_groupConditions_73 : decode cX4_groupConditions 73 = .ok (.iconst 0, 1) := by decide +kernel
theorem dX4_groupConditions_74 : decode cX4_groupConditions 74 = .ok (.istore_n 2, 1) := by decide +kernel
theorem dX4_groupConditions_75 : decode cX4_groupConditions 75 = .ok (.iinc 3 1, 3) := by decide +kernel
theorem dX4_groupConditions_78 : decode cX4_groupConditions 78 = .ok (.goto (-33), 3) := by decide +kernel
theorem dX4_groupConditions_81 : decode cX4_groupConditions 81 = .ok (.return_, 1) := by decide +kernel
theorem dX4_refineGroups_0 : decode cX4_refineGroups 0 = .ok (.iconst 0, 1) := by decide +kernel
theorem dX4_refineGroups_1 : decode cX4_refineGroups 1 = .ok (.istore_n 1, 1) := by decide +kernel
theorem dX4_refineGroups_2 : decode cX4_refineGroups 2 = .ok (.iconst 0, 1) := by decide +kernel
theorem dX4_refineGroups_3 : decode cX4_refineGroups 3 = .ok (.istore_n 2, 1) := by decide +kernel
theorem dX4_refineGroups_4 : decode cX4_refineGroups 4 = .ok (.iload_n 2, 1) := by decide +kernel
theorem dX4_refineGroups_5 : decode cX4_refineGroups 5 = .ok (.aload_n 0, 1) := by decide +kernel
theorem dX4_refineGroups_6 : decode cX4_refineGroups 6 = .ok (.getfield 9, 3) := by decide +kernel
theorem dX4_refineGroups_9 : decode cX4_refineGroups 9 = .ok (.getfield 48, 3) := by decide +kernel
theorem dX4_refineGroups_12 : decode cX4_refineGroups 12 = .ok (.if_icmp .ge 33, 3) := by decide +kernel
theorem dX4_refineGroups_15 : decode cX4_refineGroups 15 = .ok (.aload_n 0, 1) := by decide +kernel
theorem dX4_refineGroups_16 : decode cX4_refineGroups 16 = .ok (.getfield 30, 3) := by decide +kernel
theorem dX4_refineGroups_19 : decode cX4_refineGroups 19 = .ok (.iload_n 2, 1) := by decide +kernel
theorem dX4_refineGroups_20 : decode cX4_refineGroups 20 = .ok (.aload_n 0, 1) := by decide +kernel
theorem dX4_refineGroups_21 : decode cX4_refineGroups 21 = .ok (.iload_n 2, 1) := by decide +kernel
theorem dX4_refineGroups_22 : decode cX4_refineGroups 22 = .ok (.invokevirtual 68, 3) := by decide +kernel
theorem dX4_refineGroups_25 : decode cX4_refineGroups 25 = .ok (.iastore, 1) := by decide +kernel
theorem dX4_refineGroups_26 : decode cX4_refineGroups 26 = .ok (.aload_n 0, 1) := by decide +kernel
theorem dX4_refineGroups_27 : decode cX4_refineGroups 27 = .ok (.getfield 30, 3) := by decide +kernel
theorem dX4_refineGroups_30 : decode cX4_refineGroups 30 = .ok (.iload_n 2, 1) := by decide +kernel
theorem dX4_refineGroups_31 : decode cX4_refineGroups 31 = .ok (.iaload, 1) := by decide +kernel
theorem dX4_refineGroups_32 : decode cX4_refineGroups 32 = .ok (.iload_n 2, 1) := by decide +kernel
theorem dX4_refineGroups_33 : decode cX4_refineGroups 33 = .ok (.if_icmp .ne 6, 3) := by decide +kernel
theorem dX4_refineGroups_36 : decode cX4_refineGroups 36 = .ok (.iinc 1 1, 3) := by decide +kernel
theorem dX4_refineGroups_39 : decode cX4_refineGroups 39 = .ok (.iinc 2 1, 3) := by decide +kernel
theorem dX4_refineGroups_42 : decode cX4_refineGroups 42 = .ok (.goto (-38), 3) := by decide +kernel
theorem dX4_refineGroups_45 : decode cX4_refineGroups 45 = .ok (.aload_n 0, 1) := by decide +kernel
theorem dX4_refineGroups_46 : decode cX4_refineGroups 46 = .ok (.getfield 30, 3) := by decide +kernel
theorem dX4_refineGroups_49 : decode cX4_refineGroups 49 = .ok (.iconst 0, 1) := by decide +kernel
theorem dX4_refineGroups_50 : decode cX4_refineGroups 50 = .ok (.aload_n 0, 1) := by decide +kernel
theorem dX4_refineGroups_51 : decode cX4_refineGroups 51 = .ok (.getfield 27, 3) := by decide +kernel
theorem dX4_refineGroups_54 : decode cX4_refineGroups 54 = .ok (.iconst 0, 1) := by decide +kernel
theorem dX4_refineGroups_55 : decode cX4_refineGroups 55 = .ok (.aload_n 0, 1) := by decide +kernel
theorem dX4_refineGroups_56 : decode cX4_refineGroups 56 = .ok (.getfield 9, 3) := by decide +kernel
theorem dX4_refineGroups_59 : decode cX4_refineGroups 59 = .ok (.getfield 48, 3) := by decide +kernel
theorem dX4_refineGroups_62 : decode cX4_refineGroups 62 = .ok (.invokestatic 72, 3) := by decide +kernel
theorem dX4_refineGroups_65 : decode cX4_refineGroups 65 = .ok (.iload_n 1, 1) := by decide +kernel
theorem dX4_refineGroups_66 : decode cX4_refineGroups 66 = .ok (.ireturn, 1) := by decide +kernel
theorem dX4_firstLike_0 : decode cX4_firstLike 0 = .ok (.iconst 0, 1) := by decide +kernel
theorem dX4_firstLike_1 : decode cX4_firstLike 1 = .ok (.istore_n 2, 1) := by decide +kernel
theorem dX4_firstLike_2 : decode cX4_firstLike 2 = .ok (.iload_n 2, 1) := by decide +kernel
theorem dX4_firstLike_3 : decode cX4_firstLike 3 = .ok (.iload_n 1, 1) := by decide +kernel
theorem dX4_firstLike_4 : decode cX4_firstLike 4 = .ok (.if_icmp .ge 30, 3) := by decide +kernel
theorem dX4_firstLike_7 : decode cX4_firstLike 7 = .ok (.aload_n 0, 1) := by decide +kernel
theorem dX4_firstLike_8 : decode cX4_firstLike 8 = .ok (.getfield 30, 3) := by decide +kernel
theorem dX4_firstLike_11 : decode cX4_firstLike 11 = .ok (.iload_n 2, 1) := by decide +kernel
theorem dX4_firstLike_12 : decode cX4_firstLike 12 = .ok (.iaload, 1) := by decide +kernel
theorem dX4_firstLike_13 : decode cX4_firstLike 13 = .ok (.iload_n 2, 1) := by decide +kernel
theorem dX4_firstLike_14 : decode cX4_firstLike 14 = .ok (.if_icmp .ne 14, 3) := by decide +kernel
theorem dX4_firstLike_17 : decode cX4_firstLike 17 = .ok (.aload_n 0, 1) := by decide +kernel
theorem dX4_firstLike_18 : decode cX4_firstLike 18 = .ok (.iload_n 2, 1) := by decide +kernel
theorem dX4_firstLike_19 : decode cX4_firstLike 19 = .ok (.iload_n 1, 1) := by decide +kernel
theorem dX4_firstLike_20 : decode cX4_firstLike 20 = .ok (.invokevirtual 78, 3) := by decide +kernel
theorem dX4_firstLike_23 : decode cX4_firstLike 23 = .ok (.ifCond .eq 5, 3) := by decide +kernel
theorem dX4_firstLike_26 : decode cX4_firstLike 26 = .ok (.iload_n 2, 1) := by decide +kernel
theorem dX4_firstLike_27 : decode cX4_firstLike 27 = .ok (.ireturn, 1) := by decide +kernel
theorem dX4_firstLike_28 : decode cX4_firstLike 28 = .ok (.iinc 2 1, 3) := by decide +kernel
theorem dX4_firstLike_31 : decode cX4_firstLike 31 = .ok (.goto (-29), 3) := by decide +kernel
theorem dX4_firstLike_34 : decode cX4_firstLike 34 = .ok (.iload_n 1, 1) := by decide +kernel
theorem dX4_firstLike_35 : decode cX4_firstLike 35 = .ok (.ireturn, 1) := by decide +kernel
theorem dX4_isLike_0 : decode cX4_isLike 0 = .ok (.aload_n 0, 1) := by decide +kernel
theorem dX4_isLike_1 : decode cX4_isLike 1 = .ok (.getfield 27, 3) := by decide +kernel
theorem dX4_isLike_4 : decode cX4_isLike 4 = .ok (.iload_n 1, 1) := by decide +kernel
theorem dX4_isLike_5 : decode cX4_isLike 5 = .ok (.iaload, 1) := by decide +kernel
theorem dX4_isLike_6 : decode cX4_isLike 6 = .ok (.aload_n 0, 1) := by decide +kernel
theorem dX4_isLike_7 : decode cX4_isLike 7 = .ok (.getfield 27, 3) := by decide +kernel
theorem dX4_isLike_10 : decode cX4_isLike 10 = .ok (.iload_n 2, 1) := by decide +kernel
theorem dX4_isLike_11 : decode cX4_isLike 11 = .ok (.iaload, 1) := by decide +kernel
theorem dX4_isLike_12 : decode cX4_isLike 12 = .ok (.if_icmp .eq 5, 3) := by decide +kernel
theorem dX4_isLike_15 : decode cX4_isLike 15 = .ok (.iconst 0, 1) := by decide +kernel
theorem dX4_isLike_16 : decode cX4_isLike 16 = .ok (.ireturn, 1) := by decide +kernel
theorem dX4_isLike_17 : decode cX4_isLike 17 = .ok (.iconst 0, 1) := by decide +kernel
theorem dX4_isLike_18 : decode cX4_isLike 18 = .ok (.istore_n 3, 1) := by decide +kernel
theorem dX4_isLike_19 : decode cX4_isLike 19 = .ok (.iload_n 3, 1) := by decide +kernel
theorem dX4_isLike_20 : decode cX4_isLike 20 = .ok (.bipush 8, 2) := by decide +kernel
theorem dX4_isLike_22 : decode cX4_isLike 22 = .ok (.if_icmp .ge 42, 3) := by decide +kernel
theorem dX4_isLike_25 : decode cX4_isLike 25 = .ok (.aload_n 0, 1) := by decide +kernel
theorem dX4_isLike_26 : decode cX4_isLike 26 = .ok (.getfield 27, 3) := by decide +kernel
theorem dX4_isLike_29 : decode cX4_isLike 29 = .ok (.aload_n 0, 1) := by decide +kernel
theorem dX4_isLike_30 : decode cX4_isLike 30 = .ok (.getfield 9, 3) := by decide +kernel
theorem dX4_isLike_33 : decode cX4_isLike 33 = .ok (.iload_n 1, 1) := by decide +kernel
theorem dX4_isLike_34 : decode cX4_isLike 34 = .ok (.iload_n 3, 1) := by decide +kernel
theorem dX4_isLike_35 : decode cX4_isLike 35 = .ok (.invokevirtual 60, 3) := by decide +kernel
theorem dX4_isLike_38 : decode cX4_isLike 38 = .ok (.iaload, 1) := by decide +kernel
theorem dX4_isLike_39 : decode cX4_isLike 39 = .ok (.aload_n 0, 1) := by decide +kernel
theorem dX4_isLike_40 : decode cX4_isLike 40 = .ok (.getfield 27, 3) := by decide +kernel
theorem dX4_isLike_43 : decode cX4_isLike 43 = .ok (.aload_n 0, 1) := by decide +kernel
theorem dX4_isLike_44 : decode cX4_isLike 44 = .ok (.getfield 9, 3) := by decide +kernel
theorem dX4_isLike_47 : decode cX4_isLike 47 = .ok (.iload_n 2, 1) := by decide +kernel
theorem dX4_isLike_48 : decode cX4_isLike 48 = .ok (.iload_n 3, 1) := by decide +kernel
theorem dX4_isLike_49 : decode cX4_isLike 49 = .ok (.invokevirtual 60, 3) := by decide +kernel
theorem dX4_isLike_52 : decode cX4_isLike 52 = .ok (.iaload, 1) := by decide +kernel
theorem dX4_isLike_53 : decode cX4_isLike 53 = .ok (.if_icmp .eq 5, 3) := by decide +kernel
theorem dX4_isLike_56 : decode cX4_isLike 56 = .ok (.iconst 0, 1) := by decide +kernel
theorem dX4_isLike_57 : decode cX4_isLike 57 = .ok (.ireturn, 1) := by decide +kernel
theorem dX4_isLike_58 : decode cX4_isLike 58 = .ok (.iinc 3 1, 3) := by decide +kernel
theorem dX4_isLike_61 : decode cX4_isLike 61 = .ok (.goto (-42), 3) := by decide +kernel
theorem dX4_isLike_64 : decode cX4_isLike 64 = .ok (.iconst 1, 1) := by decide +kernel
theorem dX4_isLike_65 : decode cX4_isLike 65 = .ok (.ireturn, 1) := by decide +kernel
theorem dX4_numberStates_0 : decode cX4_numberStates 0 = .ok (.aload_n 0, 1) := by decide +kernel
theorem dX4_numberStates_1 : decode cX4_numberStates 1 = .ok (.iconst 0, 1) := by decide +kernel
theorem dX4_numberStates_2 : decode cX4_numberStates 2 = .ok (.putfield 15, 3) := by decide +kernel
theorem dX4_numberStates_5 : decode cX4_numberStates 5 = .ok (.iconst 0, 1) := by decide +kernel
theorem dX4_numberStates_6 : decode cX4_numberStates 6 = .ok (.istore_n 1, 1) := by decide +kernel
theorem dX4_numberStates_7 : decode cX4_numberStates 7 = .ok (.iload_n 1, 1) := by decide +kernel
theorem dX4_numberStates_8 : decode cX4_numberStates 8 = .ok (.aload_n 0, 1) := by decide +kernel
theorem dX4_numberStates_9 : decode cX4_numberStates 9 = .ok (.getfield 9, 3) := by decide +kernel
theorem dX4_numberStates_12 : decode cX4_numberStates 12 = .ok (.getfield 48, 3) := by decide +kernel
theorem dX4_numberStates_15 : decode cX4_numberStates 15 = .ok (.if_icmp .ge 16, 3) := by decide +kernel
theorem dX4_numberStates_18 : decode cX4_numberStates 18 = .ok (.aload_n 0, 1) := by decide +kernel
theorem dX4_numberStates_19 : decode cX4_numberStates 19 = .ok (.getfield 33, 3) := by decide +kernel
theorem dX4_numberStates_22 : decode cX4_numberStates 22 = .ok (.iload_n 1, 1) := by decide +kernel
theorem dX4_numberStates_23 : decode cX4_numberStates 23 = .ok (.iconst (-1), 1) := by decide +kernel
theorem dX4_numberStates_24 : decode cX4_numberStates 24 = .ok (.iastore, 1) := by decide +kernel
theorem dX4_numberStates_25 : decode cX4_numberStates 25 = .ok (.iinc 1 1, 3) := by decide +kernel
theorem dX4_numberStates_28 : decode cX4_numberStates 28 = .ok (.goto (-21), 3) := by decide +kernel
theorem dX4_numberStates_31 : decode cX4_numberStates 31 = .ok (.aload_n 0, 1) := by decide +kernel
theorem dX4_numberStates_32 : decode cX4_numberStates 32 = .ok (.iconst 0, 1) := by decide +kernel
theorem dX4_numberStates_33 : decode cX4_numberStates 33 = .ok (.invokevirtual 82, 3) := by decide +kernel
theorem dX4_numberStates_36 : decode cX4_numberStates 36 = .ok (.pop, 1) := by decide +kernel
theorem dX4_numberStates_37 : decode cX4_numberStates 37 = .ok (.iconst 0, 1) := by decide +kernel
theorem dX4_numberStates_38 : decode cX4_numberStates 38 = .ok (.istore_n 1, 1) := by decide +kernel
theorem dX4_numberStates_39 : decode cX4_numberStates 39 = .ok (.iload_n 1, 1) := by decide +kernel
theorem dX4_numberStates_40 : decode cX4_numberStates 40 = .ok (.aload_n 0, 1) := by decide +kernel
theorem dX4_numberStates_41 : decode cX4_numberStates 41 = .ok (.getfield 15, 3) := by decide +kernel
theorem dX4_numberStates_44 : decode cX4_numberStates 44 = .ok (.if_icmp .ge 58, 3) := by decide +kernel
theorem dX4_numberStates_47 : decode cX4_numberStates 47 = .ok (.iload_n 1, 1) := by decide +kernel
theorem dX4_numberStates_48 : decode cX4_numberStates 48 = .ok (.bipush 40, 2) := by decide +kernel
theorem dX4_numberStates_50 : decode cX4_numberStates 50 = .ok (.if_icmp .ge 52, 3) := by decide +kernel
theorem dX4_numberStates_53 : decode cX4_numberStates 53 = .ok (.iconst 0, 1) := by decide +kernel
theorem dX4_numberStates_54 : decode cX4_numberStates 54 = .ok (.istore_n 2, 1) := by decide +kernel
theorem dX4_numberStates_55 : decode cX4_numberStates 55 = .ok (.iload_n 2, 1) := by decide +kernel
theorem dX4_numberStates_56 : decode cX4_numberStates 56 = .ok (.bipush 8, 2) := by decide +kernel
theorem dX4_numberStates_58 : decode cX4_numberStates 58 = .ok (.if_icmp .ge 38, 3) := by decide +kernel
theorem dX4_numberStates_61 : decode cX4_numberStates 61 = .ok (.aload_n 0, 1) := by decide +kernel
theorem dX4_numberStates_62 : decode cX4_numberStates 62 = .ok (.getfield 19, 3) := by decide +kernel
theorem dX4_numberStates_65 : decode cX4_numberStates 65 = .ok (.iload_n 1, 1) := by decide +kernel
theorem dX4_numberStates_66 : decode cX4_numberStates 66 = .ok (.bipush 8, 2) := by decide +kernel
theorem dX4_numberStates_68 : decode cX4_numberStates 68 = .ok (.imul, 1) := by decide +kernel
theorem dX4_numberStates_69 : decode cX4_numberStates 69 = .ok (.iload_n 2, 1) := by decide +kernel
theorem dX4_numberStates_70 : decode cX4_numberStates 70 = .ok (.iadd, 1) := by decide +kernel
theorem dX4_numberStates_71 : decode cX4_numberStates 71 = .ok (.aload_n 0, 1) := by decide +kernel
theorem dX4_numberStates_72 : decode cX4_numberStates 72 = .ok (.aload_n 0, 1) := by decide +kernel
theorem dX4_numberStates_73 : decode cX4_numberStates 73 = .ok (.getfield 9, 3) := by decide +kernel
theorem dX4_numberStates_76 : decode cX4_numberStates 76 = .ok (.aload_n 0, 1) := by decide +kernel
theorem dX4_numberStates_77 : decode cX4_numberStates 77 = .ok (.getfield 36, 3) := by decide +kernel
theorem dX4_numberStates_80 : decode cX4_numberStates 80 = .ok (.iload_n 1, 1) := by decide +kernel
theorem dX4_numberStates_81 : decode cX4_numberStates 81 = .ok (.iaload, 1) := by decide +kernel
theorem dX4_numberStates_82 : decode cX4_numberStates 82 = .ok (.iload_n 2, 1) := by decide +kernel
theorem dX4_numberStates_83 : decode cX4_numberStates 83 = .ok (.invokevirtual 60, 3) := by decide +kernel
theorem dX4_numberStates_86 : decode cX4_numberStates 86 = .ok (.invokevirtual 82, 3) := by decide +kernel
theorem dX4_numberStates_89 : decode cX4_numberStates 89 = .ok (.iastore, 1) := by decide +kernel
theorem dX4_numberStates_90 : decode cX4_numberStates 90 = .ok (.iinc 2 1, 3) := by decide +kernel
theorem dX4_numberStates_93 : decode cX4_numberStates 93 = .ok (.goto (-38), 3) := by decide +kernel
theorem dX4_numberStates_96 : decode cX4_numberStates 96 = .ok (.iinc 1 1, 3) := by decide +kernel
theorem dX4_numberStates_99 : decode cX4_numberStates 99 = .ok (.goto (-60), 3) := by decide +kernel
theorem dX4_numberStates_102 : decode cX4_numberStates 102 = .ok (.return_, 1) := by decide +kernel
theorem dX4_stateOf_0 : decode cX4_stateOf 0 = .ok (.aload_n 0, 1) := by decide +kernel
theorem dX4_stateOf_1 : decode cX4_stateOf 1 = .ok (.getfield 23, 3) := by decide +kernel
theorem dX4_stateOf_4 : decode cX4_stateOf 4 = .ok (.iload_n 1, 1) := by decide +kernel
theorem dX4_stateOf_5 : decode cX4_stateOf 5 = .ok (.baload, 1) := by decide +kernel
theorem dX4_stateOf_6 : decode cX4_stateOf 6 = .ok (.ifCond .eq 5, 3) := by decide +kernel
theorem dX4_stateOf_9 : decode cX4_stateOf 9 = .ok (.iconst (-1), 1) := by decide +kernel
theorem dX4_stateOf_10 : decode cX4_stateOf 10 = .ok (.ireturn, 1) := by decide +kernel
theorem dX4_stateOf_11 : decode cX4_stateOf 11 = .ok (.aload_n 0, 1) := by decide +kernel
theorem dX4_stateOf_12 : decode cX4_stateOf 12 = .ok (.getfield 27, 3) := by decide +kernel
theorem dX4_stateOf_15 : decode cX4_stateOf 15 = .ok (.iload_n 1, 1) := by decide +kernel
theorem dX4_stateOf_16 : decode cX4_stateOf 16 = .ok (.iaload, 1) := by decide +kernel
theorem dX4_stateOf_17 : decode cX4_stateOf 17 = .ok (.istore_n 2, 1) := by decide +kernel
theorem dX4_stateOf_18 : decode cX4_stateOf 18 = .ok (.aload_n 0, 1) := by decide +kernel
theorem dX4_stateOf_19 : decode cX4_stateOf 19 = .ok (.getfield 33, 3) := by decide +kernel
theorem dX4_stateOf_22 : decode cX4_stateOf 22 = .ok (.iload_n 2, 1) := by decide +kernel
theorem dX4_stateOf_23 : decode cX4_stateOf 23 = .ok (.iaload, 1) := by decide +kernel
theorem dX4_stateOf_24 : decode cX4_stateOf 24 = .ok (.iconst (-1), 1) := by decide +kernel
theorem dX4_stateOf_25 : decode cX4_stateOf 25 = .ok (.if_icmp .ne 42, 3) := by decide +kernel
theorem dX4_stateOf_28 : decode cX4_stateOf 28 = .ok (.aload_n 0, 1) := by decide +kernel
theorem dX4_stateOf_29 : decode cX4_stateOf 29 = .ok (.getfield 15, 3) := by decide +kernel
theorem dX4_stateOf_32 : decode cX4_stateOf 32 = .ok (.bipush 40, 2) := by decide +kernel
theorem dX4_stateOf_34 : decode cX4_stateOf 34 = .ok (.if_icmp .ge 33, 3) := by decide +kernel
theorem dX4_stateOf_37 : decode cX4_stateOf 37 = .ok (.aload_n 0, 1) := by decide +kernel
theorem dX4_stateOf_38 : decode cX4_stateOf 38 = .ok (.getfield 33, 3) := by decide +kernel
theorem dX4_stateOf_41 : decode cX4_stateOf 41 = .ok (.iload_n 2, 1) := by decide +kernel
theorem dX4_stateOf_42 : decode cX4_stateOf 42 = .ok (.aload_n 0, 1) := by decide +kernel
theorem dX4_stateOf_43 : decode cX4_stateOf 43 = .ok (.getfield 15, 3) := by decide +kernel
theorem dX4_stateOf_46 : decode cX4_stateOf 46 = .ok (.iastore, 1) := by decide +kernel
theorem dX4_stateOf_47 : decode cX4_stateOf 47 = .ok (.aload_n 0, 1) := by decide +kernel
theorem dX4_stateOf_48 : decode cX4_stateOf 48 = .ok (.getfield 36, 3) := by decide +kernel
theorem dX4_stateOf_51 : decode cX4_stateOf 51 = .ok (.aload_n 0, 1) := by decide +kernel
theorem dX4_stateOf_52 : decode cX4_stateOf 52 = .ok (.getfield 15, 3) := by decide +kernel
theorem dX4_stateOf_55 : decode cX4_stateOf 55 = .ok (.iload_n 2, 1) := by decide +kernel
theorem dX4_stateOf_56 : decode cX4_stateOf 56 = .ok (.iastore, 1) := by decide +kernel
theorem dX4_stateOf_57 : decode cX4_stateOf 57 = .ok (.aload_n 0, 1) := by decide +kernel
theorem dX4_stateOf_58 : decode cX4_stateOf 58 = .ok (.dup, 1) := by decide +kernel
theorem dX4_stateOf_59 : decode cX4_stateOf 59 = .ok (.getfield 15, 3) := by decide +kernel
theorem dX4_stateOf_62 : decode cX4_stateOf 62 = .ok (.iconst 1, 1) := by decide +kernel
theorem dX4_stateOf_63 : decode cX4_stateOf 63 = .ok (.iadd, 1) := by decide +kernel
theorem dX4_stateOf_64 : decode cX4_stateOf 64 = .ok (.putfield 15, 3) := by decide +kernel
theorem dX4_stateOf_67 : decode cX4_stateOf 67 = .ok (.aload_n 0, 1) := by decide +kernel
theorem dX4_stateOf_68 : decode cX4_stateOf 68 = .ok (.getfield 33, 3) := by decide +kernel
theorem dX4_stateOf_71 : decode cX4_stateOf 71 = .ok (.iload_n 2, 1) := by decide +kernel
theorem dX4_stateOf_72 : decode cX4_stateOf 72 = .ok (.iaload, 1) := by decide +kernel
theorem dX4_stateOf_73 : decode cX4_stateOf 73 = .ok (.ireturn, 1) := by decide +kernel
theorem dX5_init_0 : decode cX5_init 0 = .ok (.aload_n 0, 1) := by decide +kernel
theorem dX5_init_1 : decode cX5_init 1 = .ok (.invokespecial 1, 3) := by decide +kernel
theorem dX5_init_4 : decode cX5_init 4 = .ok (.return_, 1) := by decide +kernel
theorem dX6_init_0 : decode cX6_init 0 = .ok (.aload_n 0, 1) := by decide +kernel
theorem dX6_init_1 : decode cX6_init 1 = .ok (.invokespecial 3, 3) := by decide +kernel
theorem dX6_init_4 : decode cX6_init 4 = .ok (.aload_n 0, 1) := by decide +kernel
theorem dX6_init_5 : decode cX6_init 5 = .ok (.aload_n 1, 1) := by decide +kernel
theorem dX6_init_6 : decode cX6_init 6 = .ok (.putfield 9, 3) := by decide +kernel
theorem dX6_init_9 : decode cX6_init 9 = .ok (.aload_n 0, 1) := by decide +kernel
theorem dX6_init_10 : decode cX6_init 10 = .ok (.aload_n 2, 1) := by decide +kernel
theorem dX6_init_11 : decode cX6_init 11 = .ok (.putfield 15, 3) := by decide +kernel
theorem dX6_init_14 : decode cX6_init 14 = .ok (.aload_n 0, 1) := by decide +kernel
theorem dX6_init_15 : decode cX6_init 15 = .ok (.iconst 0, 1) := by decide +kernel
theorem dX6_init_16 : decode cX6_init 16 = .ok (.putfield 19, 3) := by decide +kernel
theorem dX6_init_19 : decode cX6_init 19 = .ok (.aload_n 0, 1) := by decide +kernel
theorem dX6_init_20 : decode cX6_init 20 = .ok (.iconst 0, 1) := by decide +kernel
theorem dX6_init_21 : decode cX6_init 21 = .ok (.putfield 23, 3) := by decide +kernel
theorem dX6_init_24 : decode cX6_init 24 = .ok (.aload_n 0, 1) := by decide +kernel
theorem dX6_init_25 : decode cX6_init 25 = .ok (.iconst (-1), 1) := by decide +kernel
theorem dX6_init_26 : decode cX6_init 26 = .ok (.putfield 26, 3) := by decide +kernel
theorem dX6_init_29 : decode cX6_init 29 = .ok (.return_, 1) := by decide +kernel
theorem dX6_readAll_0 : decode cX6_readAll 0 = .ok (.aload_n 0, 1) := by decide +kernel
theorem dX6_readAll_1 : decode cX6_readAll 1 = .ok (.iload_n 1, 1) := by decide +kernel
theorem dX6_readAll_2 : decode cX6_readAll 2 = .ok (.putfield 19, 3) := by decide +kernel
theorem dX6_readAll_5 : decode cX6_readAll 5 = .ok (.aload_n 0, 1) := by decide +kernel
theorem dX6_readAll_6 : decode cX6_readAll 6 = .ok (.iconst 0, 1) := by decide +kernel
theorem dX6_readAll_7 : decode cX6_readAll 7 = .ok (.putfield 23, 3) := by decide +kernel
theorem dX6_readAll_10 : decode cX6_readAll 10 = .ok (.aload_n 0, 1) := by decide +kernel
theorem dX6_readAll_11 : decode cX6_readAll 11 = .ok (.getfield 15, 3) := by decide +kernel
theorem dX6_readAll_14 : decode cX6_readAll 14 = .ok (.invokevirtual 29, 3) := by decide +kernel
theorem dX6_readAll_17 : decode cX6_readAll 17 = .ok (.aload_n 0, 1) := by decide +kernel
theorem dX6_readAll_18 : decode cX6_readAll 18 = .ok (.iconst 0, 1) := by decide +kernel
theorem dX6_readAll_19 : decode cX6_readAll 19 = .ok (.invokevirtual 34, 3) := by decide +kernel
theorem dX6_readAll_22 : decode cX6_readAll 22 = .ok (.istore_n 2, 1) := by decide +kernel
theorem dX6_readAll_23 : decode cX6_readAll 23 = .ok (.aload_n 0, 1) := by decide +kernel
theorem dX6_readAll_24 : decode cX6_readAll 24 = .ok (.aload_n 0, 1) := by decide +kernel
theorem dX6_readAll_25 : decode cX6_readAll 25 = .ok (.getfield 23, 3) := by decide +kernel
theorem dX6_readAll_28 : decode cX6_readAll 28 = .ok (.aload_n 0, 1) := by decide +kernel
theorem dX6_readAll_29 : decode cX6_readAll 29 = .ok (.getfield 19, 3) := by decide +kernel
theorem dX6_readAll_32 : decode cX6_readAll 32 = .ok (.if_icmp .ne 7, 3) := by decide +kernel
theorem dX6_readAll_35 : decode cX6_readAll 35 = .ok (.iconst 1, 1) := by decide +kernel
theorem dX6_readAll_36 : decode cX6_readAll 36 = .ok (.goto 4, 3) := by decide +kernel
theorem dX6_readAll_39 : decode cX6_readAll 39 = .ok (.iconst 0, 1) := by decide +kernel
theorem dX6_readAll_40 : decode cX6_readAll 40 = .ok (.invokevirtual 38, 3) := by decide +kernel
theorem dX6_readAll_43 : decode cX6_readAll 43 = .ok (.aload_n 0, 1) := by decide +kernel
theorem dX6_readAll_44 : decode cX6_readAll 44 = .ok (.getfield 15, 3) := by decide +kernel
theorem dX6_readAll_47 : decode cX6_readAll 47 = .ok (.iload_n 2, 1) := by decide +kernel
theorem dX6_readAll_48 : decode cX6_readAll 48 = .ok (.invokevirtual 42, 3) := by decide +kernel
theorem dX6_readAll_51 : decode cX6_readAll 51 = .ok (.return_, 1) := by decide +kernel
theorem dX6_require_0 : decode cX6_require 0 = .ok (.iload_n 1, 1) := by decide +kernel
theorem dX6_require_1 : decode cX6_require 1 = .ok (.ifCond .ne 21, 3) := by decide +kernel
theorem dX6_require_4 : decode cX6_require 4 = .ok (.aload_n 0, 1) := by decide +kernel
theorem dX6_require_5 : decode cX6_require 5 = .ok (.aload_n 0, 1) := by decide +kernel
theorem dX6_require_6 : decode cX6_require 6 = .ok (.getfield 23, 3) := by decide +kernel
theorem dX6_require_9 : decode cX6_require 9 = .ok (.putfield 26, 3) := by decide +kernel
theorem dX6_require_12 : decode cX6_require 12 = .ok (.new 46, 3) := by decide +kernel
theorem dX6_require_15 : decode cX6_require 15 = .ok (.dup, 1) := by decide +kernel
theorem dX6_require_16 : decode cX6_require 16 = .ok (.ldc 48, 2) := by decide +kernel
theorem dX6_require_18 : decode cX6_require 18 = .ok (.invokespecial 50, 3) := by decide +kernel
theorem dX6_require_21 : decode cX6_require 21 = .ok (.athrow, 1) := by decide +kernel
theorem dX6_require_22 : decode cX6_require 22 = .ok (.return_, 1) := by decide +kernel
theorem dX6_peek_0 : decode cX6_peek 0 = .ok (.aload_n 0, 1) := by decide +kernel
theorem dX6_peek_1 : decode cX6_peek 1 = .ok (.getfield 23, 3) := by decide +kernel
theorem dX6_peek_4 : decode cX6_peek 4 = .ok (.aload_n 0, 1) := by decide +kernel
theorem dX6_peek_5 : decode cX6_peek 5 = .ok (.getfield 19, 3) := by decide +kernel
theorem dX6_peek_8 : decode cX6_peek 8 = .ok (.if_icmp .ge 15, 3) := by decide +kernel
theorem dX6_peek_11 : decode cX6_peek 11 = .ok (.aload_n 0, 1) := by decide +kernel
theorem dX6_peek_12 : decode cX6_peek 12 = .ok (.getfield 9, 3) := by decide +kernel
theorem dX6_peek_15 : decode cX6_peek 15 = .ok (.aload_n 0, 1) := by decide +kernel
theorem dX6_peek_16 : decode cX6_peek 16 = .ok (.getfield 23, 3) := by decide +kernel
theorem dX6_peek_19 : decode cX6_peek 19 = .ok (.caload, 1) := by decide +kernel
theorem dX6_peek_20 : decode cX6_peek 20 = .ok (.goto 4, 3) := by decide +kernel
theorem dX6_peek_23 : decode cX6_peek 23 = .ok (.iconst 0, 1) := by decide +kernel
theorem dX6_peek_24 : decode cX6_peek 24 = .ok (.ireturn, 1) := by decide +kernel
theorem dX6_pass_0 : decode cX6_pass 0 = .ok (.aload_n 0, 1) := by decide +kernel
theorem dX6_pass_1 : decode cX6_pass 1 = .ok (.aload_n 0, 1) := by decide +kernel
theorem dX6_pass_2 : decode cX6_pass 2 = .ok (.invokevirtual 53, 3) := by decide +kernel
theorem dX6_pass_5 : decode cX6_pass 5 = .ok (.iload_n 1, 1) := by decide +kernel
theorem dX6_pass_6 : decode cX6_pass 6 = .ok (.if_icmp .ne 7, 3) := by decide +kernel
theorem dX6_pass_9 : decode cX6_pass 9 = .ok (.iconst 1, 1) := by decide +kernel
theorem dX6_pass_10 : decode cX6_pass 10 = .ok (.goto 4, 3) := by decide +kernel
theorem dX6_pass_13 : decode cX6_pass 13 = .ok (.iconst 0, 1) := by decide +kernel
theorem dX6_pass_14 : decode cX6_pass 14 = .ok (.invokevirtual 38, 3) := by decide +kernel
theorem dX6_pass_17 : decode cX6_pass 17 = .ok (.aload_n 0, 1) := by decide +kernel
theorem dX6_pass_18 : decode cX6_pass 18 = .ok (.dup, 1) := by decide +kernel
theorem dX6_pass_19 : decode cX6_pass 19 = .ok (.getfield 23, 3) := by decide +kernel
theorem dX6_pass_22 : decode cX6_pass 22 = .ok (.iconst 1, 1) := by decide +kernel
theorem dX6_pass_23 : decode cX6_pass 23 = .ok (.iadd, 1) := by decide +kernel
theorem dX6_pass_24 : decode cX6_pass 24 = .ok (.putfield 23, 3) := by decide +kernel
theorem dX6_pass_27 : decode cX6_pass 27 = .ok (.return_, 1) := by decide +kernel
theorem dX6_readProperty_0 : decode cX6_readProperty 0 = .ok (.aload_n 0, 1) := by decide +kernel
theorem dX6_readProperty_1 : decode cX6_readProperty 1 = .ok (.iload_n 1, 1) := by decide +kernel
theorem dX6_readProperty_2 : decode cX6_readProperty 2 = .ok (.bipush 12, 2) := by decide +kernel
theorem dX6_readProperty_4 : decode cX6_readProperty 4 = .ok (.if_icmp .gt 7, 3) := by decide +kernel
theorem dX6_readProperty_7 : decode cX6_readProperty 7 = .ok (.iconst 1, 1) := by decide +kernel
theorem dX6_readProperty_8 : decode cX6_readProperty 8 = .ok (.goto 4, 3) := by decide +kernel
theorem dX6_readProperty_11 : decode cX6_readProperty 11 = .ok (.iconst 0, 1) := by decide +kernel
theorem dX6_readProperty_12 : decode cX6_readProperty 12 = .ok (.invokevirtual 38, 3) := by decide +kernel
theorem dX6_readProperty_15 : decode cX6_readProperty 15 = .ok (.aload_n 0, 1) := by decide +kernel
theorem dX6_readProperty_16 : decode cX6_readProperty 16 = .ok (.invokevirtual 53, 3) := by decide +kernel
theorem dX6_readProperty_19 : decode cX6_readProperty 19 = .ok (.lookupswitch 65 #[(40, 59), (71, 41), (88, 47), (123, 53)], 41) := by decide +kernel
theorem dX6_readProperty_60 : decode cX6_readProperty 60 = .ok (.aload_n 0, 1) := by decide +kernel
theorem dX6_readProperty_61 : decode cX6_readProperty 61 = .ok (.iload_n 1, 1) := by decide +kernel
theorem dX6_readProperty_62 : decode cX6_readProperty 62 = .ok (.invokevirtual 57, 3) := by decide +kernel
theorem dX6_readProperty_65 : decode cX6_readProperty 65 = .ok (.ireturn, 1) := by decide +kernel
theorem dX6_readProperty_66 : decode cX6_readProperty 66 = .ok (.aload_n 0, 1) := by decide +kernel
theorem dX6_readProperty_67 : decode cX6_readProperty 67 = .ok (.iload_n 1, 1) := by decide +kernel
theorem dX6_readProperty_68 : decode cX6_readProperty 68 = .ok (.invokevirtual 60, 3) := by decide +kernel
theorem dX6_readProperty_71 : decode cX6_readProperty 71 = .ok (.ireturn, 1) := by decide +kernel
theorem dX6_readProperty_72 : decode cX6_readProperty 72 = .ok (.aload_n 0, 1) := by decide +kernel
theorem dX6_readProperty_73 : decode cX6_readProperty 73 = .ok (.iload_n 1, 1) := by decide +kernel
theorem dX6_readProperty_74 : decode cX6_readProperty 74 = .ok (.invokevirtual 63, 3) := by decide +kernel
theorem dX6_readProperty_77 : decode cX6_readProperty 77 = .ok (.ireturn, 1) := by decide +kernel
theorem dX6_readProperty_78 : decode cX6_readProperty 78 = .ok (.aload_n 0, 1) := by decide +kernel
theorem dX6_readProperty_79 : decode cX6_readProperty 79 = .ok (.iload_n 1, 1) := by decide +kernel
theorem dX6_readProperty_80 : decode cX6_readProperty 80 = .ok (.invokevirtual 66, 3) := by decide +kernel
theorem dX6_readProperty_83 : decode cX6_readProperty 83 = .ok (.ireturn, 1) := by decide +kernel
theorem dX6_readProperty_84 : decode cX6_readProperty 84 = .ok (.aload_n 0, 1) := by decide +kernel
theorem dX6_readProperty_85 : decode cX6_readProperty 85 = .ok (.getfield 15, 3) := by decide +kernel
theorem dX6_readProperty_88 : decode cX6_readProperty 88 = .ok (.aload_n 0, 1) := by decide +kernel
theorem dX6_readProperty_89 : decode cX6_readProperty 89 = .ok (.iload_n 1, 1) := by decide +kernel
theorem dX6_readProperty_90 : decode cX6_readProperty 90 = .ok (.invokevirtual 69, 3) := by decide +kernel
theorem dX6_readProperty_93 : decode cX6_readProperty 93 = .ok (.invokevirtual 72, 3) := by decide +kernel
theorem dX6_readProperty_96 : decode cX6_readProperty 96 = .ok (.ireturn, 1) := by decide +kernel
theorem dX6_readAlways_0 : decode cX6_readAlways 0 = .ok (.aload_n 0, 1) := by decide +kernel
theorem dX6_readAlways_1 : decode cX6_readAlways 1 = .ok (.bipush 71, 2) := by decide +kernel
theorem dX6_readAlways_3 : decode cX6_readAlways 3 = .ok (.invokevirtual 75, 3) := by decide +kernel
theorem dX6_readAlways_6 : decode cX6_readAlways 6 = .ok (.aload_n 0, 1) := by decide +kernel
theorem dX6_readAlways_7 : decode cX6_readAlways 7 = .ok (.iload_n 1, 1) := by decide +kernel
theorem dX6_readAlways_8 : decode cX6_readAlways 8 = .ok (.iconst 1, 1) := by decide +kernel
theorem dX6_readAlways_9 : decode cX6_readAlways 9 = .ok (.iadd, 1) := by decide +kernel
theorem dX6_readAlways_10 : decode cX6_readAlways 10 = .ok (.invokevirtual 34, 3) := by decide +kernel
theorem dX6_readAlways_13 : decode cX6_readAlways 13 = .ok (.istore_n 2, 1) := by decide +kernel
theorem dX6_readAlways_14 : decode cX6_readAlways 14 = .ok (.aload_n 0, 1) := by decide +kernel
theorem dX6_readAlways_15 : decode cX6_readAlways 15 = .ok (.getfield 15, 3) := by decide +kernel
theorem dX6_readAlways_18 : decode cX6_readAlways 18 = .ok (.bipush 71, 2) := by decide +kernel
theorem dX6_readAlways_20 : decode cX6_readAlways 20 = .ok (.iload_n 2, 1) := by decide +kernel
theorem dX6_readAlways_21 : decode cX6_readAlways 21 = .ok (.iconst (-1), 1) := by decide +kernel
theorem dX6_readAlways_22 : decode cX6_readAlways 22 = .ok (.invokevirtual 79, 3) := by decide +kernel
theorem dX6_readAlways_25 : decode cX6_readAlways 25 = .ok (.istore_n 3, 1) := by decide +kernel
theorem dX6_readAlways_26 : decode cX6_readAlways 26 = .ok (.aload_n 0, 1) := by decide +kernel
theorem dX6_readAlways_27 : decode cX6_readAlways 27 = .ok (.getfield 15, 3) := by decide +kernel
theorem dX6_readAlways_30 : decode cX6_readAlways 30 = .ok (.iload_n 3, 1) := by decide +kernel
theorem dX6_readAlways_31 : decode cX6_readAlways 31 = .ok (.invokevirtual 42, 3) := by decide +kernel
theorem dX6_readAlways_34 : decode cX6_readAlways 34 = .ok (.iload_n 3, 1) := by decide +kernel
theorem dX6_readAlways_35 : decode cX6_readAlways 35 = .ok (.ireturn, 1) := by decide +kernel
theorem dX6_readBehind_0 : decode cX6_readBehind 0 = .ok (.aload_n 0, 1) := by decide +kernel
theorem dX6_readBehind_1 : decode cX6_readBehind 1 = .ok (.bipush 88, 2) := by decide +kernel
theorem dX6_readBehind_3 : decode cX6_readBehind 3 = .ok (.invokevirtual 75, 3) := by decide +kernel
theorem dX6_readBehind_6 : decode cX6_readBehind 6 = .ok (.aload_n 0, 1) := by decide +kernel
theorem dX6_readBehind_7 : decode cX6_readBehind 7 = .ok (.iload_n 1, 1) := by decide +kernel
theorem dX6_readBehind_8 : decode cX6_readBehind 8 = .ok (.iconst 1, 1) := by decide +kernel
theorem dX6_readBehind_9 : decode cX6_readBehind 9 = .ok (.iadd, 1) := by decide +kernel
theorem dX6_readBehind_10 : decode cX6_readBehind 10 = .ok (.invokevirtual 34, 3) := by decide +kernel
theorem dX6_readBehind_13 : decode cX6_readBehind 13 = .ok (.istore_n 2, 1) := by decide +kernel
theorem dX6_readBehind_14 : decode cX6_readBehind 14 = .ok (.aload_n 0, 1) := by decide +kernel
theorem dX6_readBehind_15 : decode cX6_readBehind 15 = .ok (.getfield 15, 3) := by decide +kernel
theorem dX6_readBehind_18 : decode cX6_readBehind 18 = .ok (.iload_n 2, 1) := by decide +kernel
theorem dX6_readBehind_19 : decode cX6_readBehind 19 = .ok (.invokevirtual 42, 3) := by decide +kernel
theorem dX6_readBehind_22 : decode cX6_readBehind 22 = .ok (.aload_n 0, 1) := by decide +kernel
theorem dX6_readBehind_23 : decode cX6_readBehind 23 = .ok (.getfield 15, 3) := by decide +kernel
theorem dX6_readBehind_26 : decode cX6_readBehind 26 = .ok (.bipush 88, 2) := by decide +kernel
theorem dX6_readBehind_28 : decode cX6_readBehind 28 = .ok (.iload_n 2, 1) := by decide +kernel
theorem dX6_readBehind_29 : decode cX6_readBehind 29 = .ok (.iconst (-1), 1) := by decide +kernel
theorem dX6_readBehind_30 : decode cX6_readBehind 30 = .ok (.invokevirtual 79, 3) := by decide +kernel
theorem dX6_readBehind_33 : decode cX6_readBehind 33 = .ok (.ireturn, 1) := by decide +kernel
theorem dX6_readPair_0 : decode cX6_readPair 0 = .ok (.aload_n 0, 1) := by decide +kernel
theorem dX6_readPair_1 : decode cX6_readPair 1 = .ok (.bipush 40, 2) := by decide +kernel
theorem dX6_readPair_3 : decode cX6_readPair 3 = .ok (.invokevirtual 75, 3) := by decide +kernel
theorem dX6_readPair_6 : decode cX6_readPair 6 = .ok (.aload_n 0, 1) := by decide +kernel
theorem dX6_readPair_7 : decode cX6_readPair 7 = .ok (.iload_n 1, 1) := by decide +kernel
theorem dX6_readPair_8 : decode cX6_readPair 8 = .ok (.iconst 1, 1) := by decide +kernel
theorem dX6_readPair_9 : decode cX6_readPair 9 = .ok (.iadd, 1) := by decide +kernel
theorem dX6_readPair_10 : decode cX6_readPair 10 = .ok (.invokevirtual 34, 3) := by decide +kernel
theorem dX6_readPair_13 : decode cX6_readPair 13 = .ok (.istore_n 2, 1) := by decide +kernel
theorem dX6_readPair_14 : decode cX6_readPair 14 = .ok (.aload_n 0, 1) := by decide +kernel
theorem dX6_readPair_15 : decode cX6_readPair 15 = .ok (.invokevirtual 53, 3) := by decide +kernel
theorem dX6_readPair_18 : decode cX6_readPair 18 = .ok (.istore_n 3, 1) := by decide +kernel
theorem dX6_readPair_19 : decode cX6_readPair 19 = .ok (.aload_n 0, 1) := by decide +kernel
theorem dX6_readPair_20 : decode cX6_readPair 20 = .ok (.iload_n 3, 1) := by decide +kernel
theorem dX6_readPair_21 : decode cX6_readPair 21 = .ok (.bipush 38, 2) := by decide +kernel
theorem dX6_readPair_23 : decode cX6_readPair 23 = .ok (.if_icmp .eq 15, 3) := by decide +kernel
theorem dX6_readPair_26 : decode cX6_readPair 26 = .ok (.iload_n 3, 1) := by decide +kernel
theorem dX6_readPair_27 : decode cX6_readPair 27 = .ok (.bipush 124, 2) := by decide +kernel
theorem dX6_readPair_29 : decode cX6_readPair 29 = .ok (.if_icmp .eq 9, 3) := by decide +kernel
theorem dX6_readPair_32 : decode cX6_readPair 32 = .ok (.iload_n 3, 1) := by decide +kernel
theorem dX6_readPair_33 : decode cX6_readPair 33 = .ok (.bipush 87, 2) := by decide +kernel
theorem dX6_readPair_35 : decode cX6_readPair 35 = .ok (.if_icmp .ne 7, 3) := by decide +kernel
theorem dX6_readPair_38 : decode cX6_readPair 38 = .ok (.iconst 1, 1) := by decide +kernel
theorem dX6_readPair_39 : decode cX6_readPair 39 = .ok (.goto 4, 3) := by decide +kernel
theorem dX6_readPair_42 : decode cX6_readPair 42 = .ok (.iconst 0, 1) := by decide +kernel
theorem dX6_readPair_43 : decode cX6_readPair 43 = .ok (.invokevirtual 38, 3) := by decide +kernel
theorem dX6_readPair_46 : decode cX6_readPair 46 = .ok (.aload_n 0, 1) := by decide +kernel
theorem dX6_readPair_47 : decode cX6_readPair 47 = .ok (.dup, 1) := by decide +kernel
theorem dX6_readPair_48 : decode cX6_readPair 48 = .ok (.getfield 23, 3) := by decide +kernel
theorem dX6_readPair_51 : decode cX6_readPair 51 = .ok (.iconst 1, 1) := by decide +kernel
theorem dX6_readPair_52 : decode cX6_readPair 52 = .ok (.iadd, 1) := by decide +kernel
theorem dX6_readPair_53 : decode cX6_readPair 53 = .ok (.putfield 23, 3) := by decide +kernel
theorem dX6_readPair_56 : decode cX6_readPair 56 = .ok (.aload_n 0, 1) := by decide +kernel
theorem dX6_readPair_57 : decode cX6_readPair 57 = .ok (.iload_n 1, 1) := by decide +kernel
theorem dX6_readPair_58 : decode cX6_readPair 58 = .ok (.iconst 1, 1) := by decide +kernel
theorem dX6_readPair_59 : decode cX6_readPair 59 = .ok (.iadd, 1) := by decide +kernel
theorem dX6_readPair_60 : decode cX6_readPair 60 = .ok (.invokevirtual 34, 3) := by decide +kernel
theorem dX6_readPair_63 : decode cX6_readPair 63 = .ok (.istore 4, 2) := by decide +kernel
theorem dX6_readPair_65 : decode cX6_readPair 65 = .ok (.aload_n 0, 1) := by decide +kernel
theorem dX6_readPair_66 : decode cX6_readPair 66 = .ok (.bipush 41, 2) := by decide +kernel
theorem dX6_readPair_68 : decode cX6_readPair 68 = .ok (.invokevirtual 75, 3) := by decide +kernel
theorem dX6_readPair_71 : decode cX6_readPair 71 = .ok (.aload_n 0, 1) := by decide +kernel
theorem dX6_readPair_72 : decode cX6_readPair 72 = .ok (.getfield 15, 3) := by decide +kernel
theorem dX6_readPair_75 : decode cX6_readPair 75 = .ok (.iload_n 3, 1) := by decide +kernel
theorem dX6_readPair_76 : decode cX6_readPair 76 = .ok (.iload_n 2, 1) := by decide +kernel
theorem dX6_readPair_77 : decode cX6_readPair 77 = .ok (.iload 4, 2) := by decide +kernel
theorem dX6_readPair_79 : decode cX6_readPair 79 = .ok (.invokevirtual 79, 3) := by decide +kernel
theorem dX6_readPair_82 : decode cX6_readPair 82 = .ok (.istore 5, 2) := by decide +kernel
theorem dX6_readPair_84 : decode cX6_readPair 84 = .ok (.iload_n 3, 1) := by decide +kernel
theorem dX6_readPair_85 : decode cX6_readPair 85 = .ok (.bipush 87, 2) := by decide +kernel
theorem dX6_readPair_87 : decode cX6_readPair 87 = .ok (.if_icmp .ne 12, 3) := by decide +kernel
theorem dX6_readPair_90 : decode cX6_readPair 90 = .ok (.aload_n 0, 1) := by decide +kernel
theorem dX6_readPair_91 : decode cX6_readPair 91 = .ok (.getfield 15, 3) := by decide +kernel
theorem dX6_readPair_94 : decode cX6_readPair 94 = .ok (.iload 5, 2) := by decide +kernel
theorem dX6_readPair_96 : decode cX6_readPair 96 = .ok (.invokevirtual 42, 3) := by decide +kernel
theorem dX6_readPair_99 : decode cX6_readPair 99 = .ok (.iload 5, 2) := by decide +kernel
theorem dX6_readPair_101 : decode cX6_readPair 101 = .ok (.ireturn, 1) := by decide +kernel
theorem dX6_readRule_0 : decode cX6_readRule 0 = .ok (.aload_n 0, 1) := by decide +kernel
theorem dX6_readRule_1 : decode cX6_readRule 1 = .ok (.bipush 123, 2) := by decide +kernel
theorem dX6_readRule_3 : decode cX6_readRule 3 = .ok (.invokevirtual 75, 3) := by decide +kernel
theorem dX6_readRule_6 : decode cX6_readRule 6 = .ok (.aload_n 0, 1) := by decide +kernel
theorem dX6_readRule_7 : decode cX6_readRule 7 = .ok (.getfield 15, 3) := by decide +kernel
theorem dX6_readRule_10 : decode cX6_readRule 10 = .ok (.getfield 83, 3) := by decide +kernel
theorem dX6_readRule_13 : decode cX6_readRule 13 = .ok (.istore_n 2, 1) := by decide +kernel
theorem dX6_readRule_14 : decode cX6_readRule 14 = .ok (.aload_n 0, 1) := by decide +kernel
theorem dX6_readRule_15 : decode cX6_readRule 15 = .ok (.iload_n 1, 1) := by decide +kernel
theorem dX6_readRule_16 : decode cX6_readRule 16 = .ok (.iconst 1, 1) := by decide +kernel
theorem dX6_readRule_17 : decode cX6_readRule 17 = .ok (.iadd, 1) := by decide +kernel
theorem dX6_readRule_18 : decode cX6_readRule 18 = .ok (.invokevirtual 86, 3) := by decide +kernel
theorem dX6_readRule_21 : decode cX6_readRule 21 = .ok (.aload_n 0, 1) := by decide +kernel
theorem dX6_readRule_22 : decode cX6_readRule 22 = .ok (.getfield 15, 3) := by decide +kernel
theorem dX6_readRule_25 : decode cX6_readRule 25 = .ok (.getfield 83, 3) := by decide +kernel
theorem dX6_readRule_28 : decode cX6_readRule 28 = .ok (.istore_n 3, 1) := by decide +kernel
theorem dX6_readRule_29 : decode cX6_readRule 29 = .ok (.aload_n 0, 1) := by decide +kernel
theorem dX6_readRule_30 : decode cX6_readRule 30 = .ok (.getfield 89, 3) := by decide +kernel
theorem dX6_readRule_33 : decode cX6_readRule 33 = .ok (.istore 4, 2) := by decide +kernel
theorem dX6_readRule_35 : decode cX6_readRule 35 = .ok (.aload_n 0, 1) := by decide +kernel
theorem dX6_readRule_36 : decode cX6_readRule 36 = .ok (.getfield 92, 3) := by decide +kernel
theorem dX6_readRule_39 : decode cX6_readRule 39 = .ok (.istore 5, 2) := by decide +kernel
theorem dX6_readRule_41 : decode cX6_readRule 41 = .ok (.aload_n 0, 1) := by decide +kernel
theorem dX6_readRule_42 : decode cX6_readRule 42 = .ok (.bipush 125, 2) := by decide +kernel
theorem dX6_readRule_44 : decode cX6_readRule 44 = .ok (.invokevirtual 75, 3) := by decide +kernel
theorem dX6_readRule_47 : decode cX6_readRule 47 = .ok (.aload_n 0, 1) := by decide +kernel
theorem dX6_readRule_48 : decode cX6_readRule 48 = .ok (.invokevirtual 53, 3) := by decide +kernel
theorem dX6_readRule_51 : decode cX6_readRule 51 = .ok (.istore 6, 2) := by decide +kernel
theorem dX6_readRule_53 : decode cX6_readRule 53 = .ok (.aload_n 0, 1) := by decide +kernel
theorem dX6_readRule_54 : decode cX6_readRule 54 = .ok (.iload 6, 2) := by decide +kernel
theorem dX6_readRule_56 : decode cX6_readRule 56 = .ok (.bipush 62, 2) := by decide +kernel
theorem dX6_readRule_58 : decode cX6_readRule 58 = .ok (.if_icmp .eq 10, 3) := by decide +kernel
theorem dX6_readRule_61 : decode cX6_readRule 61 = .ok (.iload 6, 2) := by decide +kernel
theorem dX6_readRule_63 : decode cX6_readRule 63 = .ok (.bipush 58, 2) := by decide +kernel
theorem dX6_readRule_65 : decode cX6_readRule 65 = .ok (.if_icmp .ne 7, 3) := by decide +kernel
theorem dX6_readRule_68 : decode cX6_readRule 68 = .ok (.iconst 1, 1) := by decide +kernel
theorem dX6_readRule_69 : decode cX6_readRule 69 = .ok (.goto 4, 3) := by decide +kernel
theorem dX6_readRule_72 : decode cX6_readRule 72 = .ok (.iconst 0, 1) := by decide +kernel
theorem dX6_readRule_73 : decode cX6_readRule 73 = .ok (.invokevirtual 38, 3) := by decide +kernel
theorem dX6_readRule_76 : decode cX6_readRule 76 = .ok (.aload_n 0, 1) := by decide +kernel
theorem dX6_readRule_77 : decode cX6_readRule 77 = .ok (.dup, 1) := by decide +kernel
theorem dX6_readRule_78 : decode cX6_readRule 78 = .ok (.getfield 23, 3) := by decide +kernel
theorem dX6_readRule_81 : decode cX6_readRule 81 = .ok (.iconst 1, 1) := by decide +kernel
theorem dX6_readRule_82 : decode cX6_readRule 82 = .ok (.iadd, 1) := by decide +kernel
theorem dX6_readRule_83 : decode cX6_readRule 83 = .ok (.putfield 23, 3) := by decide +kernel
theorem dX6_readRule_86 : decode cX6_readRule 86 = .ok (.aload_n 0, 1) := by decide +kernel
theorem dX6_readRule_87 : decode cX6_readRule 87 = .ok (.iload_n 1, 1) := by decide +kernel
theorem dX6_readRule_88 : decode cX6_readRule 88 = .ok (.iconst 1, 1) := by decide +kernel
theorem dX6_readRule_89 : decode cX6_readRule 89 = .ok (.iadd, 1) := by decide +kernel
theorem dX6_readRule_90 : decode cX6_readRule 90 = .ok (.invokevirtual 34, 3) := by decide +kernel
theorem dX6_readRule_93 : decode cX6_readRule 93 = .ok (.istore 7, 2) := by decide +kernel
theorem dX6_readRule_95 : decode cX6_readRule 95 = .ok (.iload 6, 2) := by decide +kernel
theorem dX6_readRule_97 : decode cX6_readRule 97 = .ok (.bipush 58, 2) := by decide +kernel
theorem dX6_readRule_99 : decode cX6_readRule 99 = .ok (.if_icmp .ne 12, 3) := by decide +kernel
theorem dX6_readRule_102 : decode cX6_readRule 102 = .ok (.aload_n 0, 1) := by decide +kernel
theorem dX6_readRule_103 : decode cX6_readRule 103 = .ok (.getfield 15, 3) := by decide +kernel
theorem dX6_readRule_106 : decode cX6_readRule 106 = .ok (.iload 7, 2) := by decide +kernel
theorem dX6_readRule_108 : decode cX6_readRule 108 = .ok (.invokevirtual 42, 3) := by decide +kernel
theorem dX6_readRule_111 : decode cX6_readRule 111 = .ok (.aload_n 0, 1) := by decide +kernel
theorem dX6_readRule_112 : decode cX6_readRule 112 = .ok (.getfield 15, 3) := by decide +kernel
theorem dX6_readRule_115 : decode cX6_readRule 115 = .ok (.iload 6, 2) := by decide +kernel
theorem dX6_readRule_117 : decode cX6_readRule 117 = .ok (.iload 7, 2) := by decide +kernel
theorem dX6_readRule_119 : decode cX6_readRule 119 = .ok (.iconst (-1), 1) := by decide +kernel
theorem dX6_readRule_120 : decode cX6_readRule 120 = .ok (.invokevirtual 79, 3) := by decide +kernel
theorem dX6_readRule_123 : decode cX6_readRule 123 = .ok (.istore 8, 2) := by decide +kernel
theorem dX6_readRule_125 : decode cX6_readRule 125 = .ok (.aload_n 0, 1) := by decide +kernel
theorem dX6_readRule_126 : decode cX6_readRule 126 = .ok (.getfield 15, 3) := by decide +kernel
theorem dX6_readRule_129 : decode cX6_readRule 129 = .ok (.getfield 95, 3) := by decide +kernel
theorem dX6_readRule_132 : decode cX6_readRule 132 = .ok (.iload 8, 2) := by decide +kernel
theorem dX6_readRule_134 : decode cX6_readRule 134 = .ok (.aaload, 1) := by decide +kernel
theorem dX6_readRule_135 : decode cX6_readRule 135 = .ok (.astore 9, 2) := by decide +kernel
theorem dX6_readRule_137 : decode cX6_readRule 137 = .ok (.aload 9, 2) := by decide +kernel
theorem dX6_readRule_139 : decode cX6_readRule 139 = .ok (.iload_n 2, 1) := by decide +kernel
theorem dX6_readRule_140 : decode cX6_readRule 140 = .ok (.putfield 99, 3) := by decide +kernel
theorem dX6_readRule_143 : decode cX6_readRule 143 = .ok (.aload 9, 2) := by decide +kernel
theorem dX6_readRule_145 : decode cX6_readRule 145 = .ok (.iload_n 3, 1) := by decide +kernel
theorem dX6_readRule_146 : decode cX6_readRule 146 = .ok (.putfield 104, 3) := by decide +kernel
theorem dX6_readRule_149 : decode cX6_readRule 149 = .ok (.aload 9, 2) := by decide +kernel
theorem dX6_readRule_151 : decode cX6_readRule 151 = .ok (.iload 4, 2) := by decide +kernel
theorem dX6_readRule_153 : decode cX6_readRule 153 = .ok (.putfield 107, 3) := by decide +kernel
theorem dX6_readRule_156 : decode cX6_readRule 156 = .ok (.aload 9, 2) := by decide +kernel
theorem dX6_readRule_158 : decode cX6_readRule 158 = .ok (.iload 5, 2) := by decide +kernel
theorem dX6_readRule_160 : decode cX6_readRule 160 = .ok (.putfield 110, 3) := by decide +kernel
theorem dX6_readRule_163 : decode cX6_readRule 163 = .ok (.iload 8, 2) := by decide +kernel
theorem dX6_readRule_165 : decode cX6_readRule 165 = .ok (.ireturn, 1) := by decide +kernel
theorem dX6_readSequence_0 : decode cX6_readSequence 0 = .ok (.aload_n 0, 1) := by decide +kernel
theorem dX6_readSequence_1 : decode cX6_readSequence 1 = .ok (.iload_n 1, 1) := by decide +kernel
theorem dX6_readSequence_2 : decode cX6_readSequence 2 = .ok (.bipush 12, 2) := by decide +kernel
theorem dX6_readSequence_4 : decode cX6_readSequence 4 = .ok (.if_icmp .gt 7, 3) := by decide +kernel
theorem dX6_readSequence_7 : decode cX6_readSequence 7 = .ok (.iconst 1, 1) := by decide +kernel
theorem dX6_readSequence_8 : decode cX6_readSequence 8 = .ok (.goto 4, 3) := by decide +kernel
theorem dX6_readSequence_11 : decode cX6_readSequence 11 = .ok (.iconst 0, 1) := by decide +kernel
theorem dX6_readSequence_12 : decode cX6_readSequence 12 = .ok (.invokevirtual 38, 3) := by decide +kernel
theorem dX6_readSequence_15 : decode cX6_readSequence 15 = .ok (.aload_n 0, 1) := by decide +kernel
theorem dX6_readSequence_16 : decode cX6_readSequence 16 = .ok (.iload_n 1, 1) := by decide +kernel
theorem dX6_readSequence_17 : decode cX6_readSequence 17 = .ok (.invokevirtual 113, 3) := by decide +kernel
theorem dX6_readSequence_20 : decode cX6_readSequence 20 = .ok (.aload_n 0, 1) := by decide +kernel
theorem dX6_readSequence_21 : decode cX6_readSequence 21 = .ok (.getfield 89, 3) := by decide +kernel
theorem dX6_readSequence_24 : decode cX6_readSequence 24 = .ok (.istore_n 2, 1) := by decide +kernel
theorem dX6_readSequence_25 : decode cX6_readSequence 25 = .ok (.iconst 0, 1) := by decide +kernel
theorem dX6_readSequence_26 : decode cX6_readSequence 26 = .ok (.istore_n 3, 1) := by decide +kernel
theorem dX6_readSequence_27 : decode cX6_readSequence 27 = .ok (.iload_n 3, 1) := by decide +kernel
theorem dX6_readSequence_28 : decode cX6_readSequence 28 = .ok (.aload_n 0, 1) := by decide +kernel
theorem dX6_readSequence_29 : decode cX6_readSequence 29 = .ok (.getfield 19, 3) := by decide +kernel
theorem dX6_readSequence_32 : decode cX6_readSequence 32 = .ok (.if_icmp .ge 48, 3) := by decide +kernel
theorem dX6_readSequence_35 : decode cX6_readSequence 35 = .ok (.aload_n 0, 1) := by decide +kernel
theorem dX6_readSequence_36 : decode cX6_readSequence 36 = .ok (.invokevirtual 53, 3) := by decide +kernel
theorem dX6_readSequence_39 : decode cX6_readSequence 39 = .ok (.bipush 44, 2) := by decide +kernel
theorem dX6_readSequence_41 : decode cX6_readSequence 41 = .ok (.if_icmp .ne 39, 3) := by decide +kernel
theorem dX6_readSequence_44 : decode cX6_readSequence 44 = .ok (.aload_n 0, 1) := by decide +kernel
theorem dX6_readSequence_45 : decode cX6_readSequence 45 = .ok (.bipush 44, 2) := by decide +kernel
theorem dX6_readSequence_47 : decode cX6_readSequence 47 = .ok (.invokevirtual 75, 3) := by decide +kernel
theorem dX6_readSequence_50 : decode cX6_readSequence 50 = .ok (.aload_n 0, 1) := by decide +kernel
theorem dX6_readSequence_51 : decode cX6_readSequence 51 = .ok (.getfield 92, 3) := by decide +kernel
theorem dX6_readSequence_54 : decode cX6_readSequence 54 = .ok (.istore 4, 2) := by decide +kernel
theorem dX6_readSequence_56 : decode cX6_readSequence 56 = .ok (.aload_n 0, 1) := by decide +kernel
theorem dX6_readSequence_57 : decode cX6_readSequence 57 = .ok (.iload_n 1, 1) := by decide +kernel
theorem dX6_readSequence_58 : decode cX6_readSequence 58 = .ok (.invokevirtual 113, 3) := by decide +kernel
theorem dX6_readSequence_61 : decode cX6_readSequence 61 = .ok (.aload_n 0, 1) := by decide +kernel
theorem dX6_readSequence_62 : decode cX6_readSequence 62 = .ok (.getfield 15, 3) := by decide +kernel
theorem dX6_readSequence_65 : decode cX6_readSequence 65 = .ok (.iload 4, 2) := by decide +kernel
theorem dX6_readSequence_67 : decode cX6_readSequence 67 = .ok (.aload_n 0, 1) := by decide +kernel
theorem dX6_readSequence_68 : decode cX6_readSequence 68 = .ok (.getfield 89, 3) := by decide +kernel
theorem dX6_readSequence_71 : decode cX6_readSequence 71 = .ok (.invokevirtual 116, 3) := by decide +kernel
theorem dX6_readSequence_74 : decode cX6_readSequence 74 = .ok (.iinc 3 1, 3) := by decide +kernel
theorem dX6_readSequence_77 : decode cX6_readSequence 77 = .ok (.goto (-50), 3) := by decide +kernel
theorem dX6_readSequence_80 : decode cX6_readSequence 80 = .ok (.aload_n 0, 1) := by decide +kernel
theorem dX6_readSequence_81 : decode cX6_readSequence 81 = .ok (.iload_n 2, 1) := by decide +kernel
theorem dX6_readSequence_82 : decode cX6_readSequence 82 = .ok (.putfield 89, 3) := by decide +kernel
theorem dX6_readSequence_85 : decode cX6_readSequence 85 = .ok (.return_, 1) := by decide +kernel
theorem dX6_readTerm_0 : decode cX6_readTerm 0 = .ok (.aload_n 0, 1) := by decide +kernel
theorem dX6_readTerm_1 : decode cX6_readTerm 1 = .ok (.getfield 15, 3) := by decide +kernel
theorem dX6_readTerm_4 : decode cX6_readTerm 4 = .ok (.getfield 83, 3) := by decide +kernel
theorem dX6_readTerm_7 : decode cX6_readTerm 7 = .ok (.istore_n 2, 1) := by decide +kernel
theorem dX6_readTerm_8 : decode cX6_readTerm 8 = .ok (.aload_n 0, 1) := by decide +kernel
theorem dX6_readTerm_9 : decode cX6_readTerm 9 = .ok (.iload_n 1, 1) := by decide +kernel
theorem dX6_readTerm_10 : decode cX6_readTerm 10 = .ok (.invokevirtual 120, 3) := by decide +kernel
theorem dX6_readTerm_13 : decode cX6_readTerm 13 = .ok (.aload_n 0, 1) := by decide +kernel
theorem dX6_readTerm_14 : decode cX6_readTerm 14 = .ok (.invokevirtual 53, 3) := by decide +kernel
theorem dX6_readTerm_17 : decode cX6_readTerm 17 = .ok (.bipush 43, 2) := by decide +kernel
theorem dX6_readTerm_19 : decode cX6_readTerm 19 = .ok (.if_icmp .ne 27, 3) := by decide +kernel
theorem dX6_readTerm_22 : decode cX6_readTerm 22 = .ok (.aload_n 0, 1) := by decide +kernel
theorem dX6_readTerm_23 : decode cX6_readTerm 23 = .ok (.bipush 43, 2) := by decide +kernel
theorem dX6_readTerm_25 : decode cX6_readTerm 25 = .ok (.invokevirtual 75, 3) := by decide +kernel
theorem dX6_readTerm_28 : decode cX6_readTerm 28 = .ok (.aload_n 0, 1) := by decide +kernel
theorem dX6_readTerm_29 : decode cX6_readTerm 29 = .ok (.getfield 15, 3) := by decide +kernel
theorem dX6_readTerm_32 : decode cX6_readTerm 32 = .ok (.aload_n 0, 1) := by decide +kernel
theorem dX6_readTerm_33 : decode cX6_readTerm 33 = .ok (.getfield 92, 3) := by decide +kernel
theorem dX6_readTerm_36 : decode cX6_readTerm 36 = .ok (.aload_n 0, 1) := by decide +kernel
theorem dX6_readTerm_37 : decode cX6_readTerm 37 = .ok (.getfield 89, 3) := by decide +kernel
theorem dX6_readTerm_40 : decode cX6_readTerm 40 = .ok (.invokevirtual 116, 3) := by decide +kernel
theorem dX6_readTerm_43 : decode cX6_readTerm 43 = .ok (.goto 57, 3) := by decide +kernel
theorem dX6_readTerm_46 : decode cX6_readTerm 46 = .ok (.aload_n 0, 1) := by decide +kernel
theorem dX6_readTerm_47 : decode cX6_readTerm 47 = .ok (.invokevirtual 53, 3) := by decide +kernel
theorem dX6_readTerm_50 : decode cX6_readTerm 50 = .ok (.bipush 42, 2) := by decide +kernel
theorem dX6_readTerm_52 : decode cX6_readTerm 52 = .ok (.if_icmp .ne 48, 3) := by decide +kernel
theorem dX6_readTerm_55 : decode cX6_readTerm 55 = .ok (.aload_n 0, 1) := by decide +kernel
theorem dX6_readTerm_56 : decode cX6_readTerm 56 = .ok (.bipush 42, 2) := by decide +kernel
theorem dX6_readTerm_58 : decode cX6_readTerm 58 = .ok (.invokevirtual 75, 3) := by decide +kernel
theorem dX6_readTerm_61 : decode cX6_readTerm 61 = .ok (.aload_n 0, 1) := by decide +kernel
theorem dX6_readTerm_62 : decode cX6_readTerm 62 = .ok (.iconst 1, 1) := by decide +kernel
theorem dX6_readTerm_63 : decode cX6_readTerm 63 = .ok (.invokevirtual 123, 3) := by decide +kernel
theorem dX6_readTerm_66 : decode cX6_readTerm 66 = .ok (.istore_n 3, 1) := by decide +kernel
theorem dX6_readTerm_67 : decode cX6_readTerm 67 = .ok (.iload_n 3, 1) := by decide +kernel
theorem dX6_readTerm_68 : decode cX6_readTerm 68 = .ok (.istore 4, 2) := by decide +kernel
theorem dX6_readTerm_70 : decode cX6_readTerm 70 = .ok (.aload_n 0, 1) := by decide +kernel
theorem dX6_readTerm_71 : decode cX6_readTerm 71 = .ok (.invokevirtual 53, 3) := by decide +kernel
theorem dX6_readTerm_74 : decode cX6_readTerm 74 = .ok (.bipush 45, 2) := by decide +kernel
theorem dX6_readTerm_76 : decode cX6_readTerm 76 = .ok (.if_icmp .ne 16, 3) := by decide +kernel
theorem dX6_readTerm_79 : decode cX6_readTerm 79 = .ok (.aload_n 0, 1) := by decide +kernel
theorem dX6_readTerm_80 : decode cX6_readTerm 80 = .ok (.bipush 45, 2) := by decide +kernel
theorem dX6_readTerm_82 : decode cX6_readTerm 82 = .ok (.invokevirtual 75, 3) := by decide +kernel
theorem dX6_readTerm_85 : decode cX6_readTerm 85 = .ok (.aload_n 0, 1) := by decide +kernel
theorem dX6_readTerm_86 : decode cX6_readTerm 86 = .ok (.iload_n 3, 1) := by decide +kernel
theorem dX6_readTerm_87 : decode cX6_readTerm 87 = .ok (.invokevirtual 123, 3) := by decide +kernel
theorem dX6_readTerm_90 : decode cX6_readTerm 90 = .ok (.istore 4, 2) := by decide +kernel
theorem dX6_readTerm_92 : decode cX6_readTerm 92 = .ok (.aload_n 0, 1) := by decide +kernel
theorem dX6_readTerm_93 : decode cX6_readTerm 93 = .ok (.iload_n 2, 1) := by decide +kernel
theorem dX6_readTerm_94 : decode cX6_readTerm 94 = .ok (.iload_n 3, 1) := by decide +kernel
theorem dX6_readTerm_95 : decode cX6_readTerm 95 = .ok (.iload 4, 2) := by decide +kernel
theorem dX6_readTerm_97 : decode cX6_readTerm 97 = .ok (.invokevirtual 126, 3) := by decide +kernel
theorem dX6_readTerm_100 : decode cX6_readTerm 100 = .ok (.return_, 1) := by decide +kernel
theorem dX6_readUnit_0 : decode cX6_readUnit 0 = .ok (.aload_n 0, 1) := by decide +kernel
theorem dX6_readUnit_1 : decode cX6_readUnit 1 = .ok (.invokevirtual 53, 3) := by decide +kernel
theorem dX6_readUnit_4 : decode cX6_readUnit 4 = .ok (.bipush 91, 2) := by decide +kernel
theorem dX6_readUnit_6 : decode cX6_readUnit 6 = .ok (.if_icmp .eq 30, 3) := by decide +kernel
theorem dX6_readUnit_9 : decode cX6_readUnit 9 = .ok (.aload_n 0, 1) := by decide +kernel
theorem dX6_readUnit_10 : decode cX6_readUnit 10 = .ok (.aload_n 0, 1) := by decide +kernel
theorem dX6_readUnit_11 : decode cX6_readUnit 11 = .ok (.getfield 15, 3) := by decide +kernel
theorem dX6_readUnit_14 : decode cX6_readUnit 14 = .ok (.aload_n 0, 1) := by decide +kernel
theorem dX6_readUnit_15 : decode cX6_readUnit 15 = .ok (.iload_n 1, 1) := by decide +kernel
theorem dX6_readUnit_16 : decode cX6_readUnit 16 = .ok (.iconst 1, 1) := by decide +kernel
theorem dX6_readUnit_17 : decode cX6_readUnit 17 = .ok (.iadd, 1) := by decide +kernel
theorem dX6_readUnit_18 : decode cX6_readUnit 18 = .ok (.invokevirtual 69, 3) := by decide +kernel
theorem dX6_readUnit_21 : decode cX6_readUnit 21 = .ok (.invokevirtual 130, 3) := by decide +kernel
theorem dX6_readUnit_24 : decode cX6_readUnit 24 = .ok (.putfield 89, 3) := by decide +kernel
theorem dX6_readUnit_27 : decode cX6_readUnit 27 = .ok (.aload_n 0, 1) := by decide +kernel
theorem dX6_readUnit_28 : decode cX6_readUnit 28 = .ok (.aload_n 0, 1) := by decide +kernel
theorem dX6_readUnit_29 : decode cX6_readUnit 29 = .ok (.getfield 89, 3) := by decide +kernel
theorem dX6_readUnit_32 : decode cX6_readUnit 32 = .ok (.putfield 92, 3) := by decide +kernel
theorem dX6_readUnit_35 : decode cX6_readUnit 35 = .ok (.return_, 1) := by decide +kernel
theorem dX6_readUnit_36 : decode cX6_readUnit 36 = .ok (.aload_n 0, 1) := by decide +kernel
theorem dX6_readUnit_37 : decode cX6_readUnit 37 = .ok (.bipush 91, 2) := by decide +kernel
theorem dX6_readUnit_39 : decode cX6_readUnit 39 = .ok (.invokevirtual 75, 3) := by decide +kernel
theorem dX6_readUnit_42 : decode cX6_readUnit 42 = .ok (.aload_n 0, 1) := by decide +kernel
theorem dX6_readUnit_43 : decode cX6_readUnit 43 = .ok (.iload_n 1, 1) := by decide +kernel
theorem dX6_readUnit_44 : decode cX6_readUnit 44 = .ok (.iconst 1, 1) := by decide +kernel
theorem dX6_readUnit_45 : decode cX6_readUnit 45 = .ok (.iadd, 1) := by decide +kernel
theorem dX6_readUnit_46 : decode cX6_readUnit 46 = .ok (.invokevirtual 86, 3) := by decide +kernel
theorem dX6_readUnit_49 : decode cX6_readUnit 49 = .ok (.aload_n 0, 1) := by decide +kernel
theorem dX6_readUnit_50 : decode cX6_readUnit 50 = .ok (.getfield 89, 3) := by decide +kernel
theorem dX6_readUnit_53 : decode cX6_readUnit 53 = .ok (.istore_n 2, 1) := by decide +kernel
theorem dX6_readUnit_54 : decode cX6_readUnit 54 = .ok (.aload_n 0, 1) := by decide +kernel
theorem dX6_readUnit_55 : decode cX6_readUnit 55 = .ok (.getfield 92, 3) := by decide +kernel
theorem dX6_readUnit_58 : decode cX6_readUnit 58 = .ok (.istore_n 3, 1) := by decide +kernel
theorem dX6_readUnit_59 : decode cX6_readUnit 59 = .ok (.iconst 0, 1) := by decide +kernel
theorem dX6_readUnit_60 : decode cX6_readUnit 60 = .ok (.istore 4, 2) := by decide +kernel
theorem dX6_readUnit_62 : decode cX6_readUnit 62 = .ok (.iload 4, 2) := by decide +kernel
theorem dX6_readUnit_64 : decode cX6_readUnit 64 = .ok (.aload_n 0, 1) := by decide +kernel
theorem dX6_readUnit_65 : decode cX6_readUnit 65 = .ok (.getfield 19, 3) := by decide +kernel
theorem dX6_readUnit_68 : decode cX6_readUnit 68 = .ok (.if_icmp .ge 45, 3) := by decide +kernel
theorem dX6_readUnit_71 : decode cX6_readUnit 71 = .ok (.aload_n 0, 1) := by decide +kernel
theorem dX6_readUnit_72 : decode cX6_readUnit 72 = .ok (.invokevirtual 53, 3) := by decide +kernel
theorem dX6_readUnit_75 : decode cX6_readUnit 75 = .ok (.bipush 47, 2) := by decide +kernel
theorem dX6_readUnit_77 : decode cX6_readUnit 77 = .ok (.if_icmp .ne 36, 3) := by decide +kernel
theorem dX6_readUnit_80 : decode cX6_readUnit 80 = .ok (.aload_n 0, 1) := by decide +kernel
theorem dX6_readUnit_81 : decode cX6_readUnit 81 = .ok (.bipush 47, 2) := by decide +kernel
theorem dX6_readUnit_83 : decode cX6_readUnit 83 = .ok (.invokevirtual 75, 3) := by decide +kernel
theorem dX6_readUnit_86 : decode cX6_readUnit 86 = .ok (.aload_n 0, 1) := by decide +kernel
theorem dX6_readUnit_87 : decode cX6_readUnit 87 = .ok (.iload_n 1, 1) := by decide +kernel
theorem dX6_readUnit_88 : decode cX6_readUnit 88 = .ok (.iconst 1, 1) := by decide +kernel
theorem dX6_readUnit_89 : decode cX6_readUnit 89 = .ok (.iadd, 1) := by decide +kernel
theorem dX6_readUnit_90 : decode cX6_readUnit 90 = .ok (.invokevirtual 86, 3) := by decide +kernel
theorem dX6_readUnit_93 : decode cX6_readUnit 93 = .ok (.iload_n 2, 1) := by decide +kernel
theorem dX6_readUnit_94 : decode cX6_readUnit 94 = .ok (.aload_n 0, 1) := by decide +kernel
theorem dX6_readUnit_95 : decode cX6_readUnit 95 = .ok (.getfield 89, 3) := by decide +kernel
theorem dX6_readUnit_98 : decode cX6_readUnit 98 = .ok (.ior, 1) := by decide +kernel
theorem dX6_readUnit_99 : decode cX6_readUnit 99 = .ok (.istore_n 2, 1) := by decide +kernel
theorem dX6_readUnit_100 : decode cX6_readUnit 100 = .ok (.iload_n 3, 1) := by decide +kernel
theorem dX6_readUnit_101 : decode cX6_readUnit 101 = .ok (.aload_n 0, 1) := by decide +kernel
theorem dX6_readUnit_102 : decode cX6_readUnit 102 = .ok (.getfield 92, 3) := by decide +kernel
theorem dX6_readUnit_105 : decode cX6_readUnit 105 = .ok (.ior, 1) := by decide +kernel
theorem dX6_readUnit_106 : decode cX6_readUnit 106 = .ok (.istore_n 3, 1) := by decide +kernel
theorem dX6_readUnit_107 : decode cX6_readUnit 107 = .ok (.iinc 4 1, 3) := by decide +kernel
theorem dX6_readUnit_110 : decode cX6_readUnit 110 = .ok (.goto (-48), 3) := by decide +kernel
theorem dX6_readUnit_113 : decode cX6_readUnit 113 = .ok (.aload_n 0, 1) := by decide +kernel
theorem dX6_readUnit_114 : decode cX6_readUnit 114 = .ok (.bipush 93, 2) := by decide +kernel
theorem dX6_readUnit_116 : decode cX6_readUnit 116 = .ok (.invokevirtual 75, 3) := by decide +kernel
theorem dX6_readUnit_119 : decode cX6_readUnit 119 = .ok (.aload_n 0, 1) := by decide +kernel
theorem dX6_readUnit_120 : decode cX6_readUnit 120 = .ok (.iload_n 2, 1) := by decide +kernel
theorem dX6_readUnit_121 : decode cX6_readUnit 121 = .ok (.putfield 89, 3) := by decide +kernel
theorem dX6_readUnit_124 : decode cX6_readUnit 124 = .ok (.aload_n 0, 1) := by decide +kernel
theorem dX6_readUnit_125 : decode cX6_readUnit 125 = .ok (.iload_n 3, 1) := by decide +kernel
theorem dX6_readUnit_126 : decode cX6_readUnit 126 = .ok (.putfield 92, 3) := by decide +kernel
theorem dX6_readUnit_129 : decode cX6_readUnit 129 = .ok (.return_, 1) := by decide +kernel
theorem dX6_readDigit_0 : decode cX6_readDigit 0 = .ok (.aload_n 0, 1) := by decide +kernel
theorem dX6_readDigit_1 : decode cX6_readDigit 1 = .ok (.invokevirtual 53, 3) := by decide +kernel
theorem dX6_readDigit_4 : decode cX6_readDigit 4 = .ok (.bipush 48, 2) := by decide +kernel
theorem dX6_readDigit_6 : decode cX6_readDigit 6 = .ok (.isub, 1) := by decide +kernel
theorem dX6_readDigit_7 : decode cX6_readDigit 7 = .ok (.istore_n 2, 1) := by decide +kernel
theorem dX6_readDigit_8 : decode cX6_readDigit 8 = .ok (.aload_n 0, 1) := by decide +kernel
theorem dX6_readDigit_9 : decode cX6_readDigit 9 = .ok (.iload_n 2, 1) := by decide +kernel
theorem dX6_readDigit_10 : decode cX6_readDigit 10 = .ok (.iload_n 1, 1) := by decide +kernel
theorem dX6_readDigit_11 : decode cX6_readDigit 11 = .ok (.if_icmp .lt 13, 3) := by decide +kernel
theorem dX6_readDigit_14 : decode cX6_readDigit 14 = .ok (.iload_n 2, 1) := by decide +kernel
theorem dX6_readDigit_15 : decode cX6_readDigit 15 = .ok (.bipush 9, 2) := by decide +kernel
theorem dX6_readDigit_17 : decode cX6_readDigit 17 = .ok (.if_icmp .gt 7, 3) := by decide +kernel
theorem dX6_readDigit_20 : decode cX6_readDigit 20 = .ok (.iconst 1, 1) := by decide +kernel
theorem dX6_readDigit_21 : decode cX6_readDigit 21 = .ok (.goto 4, 3) := by decide +kernel
theorem dX6_readDigit_24 : decode cX6_readDigit 24 = .ok (.iconst 0, 1) := by decide +kernel
theorem dX6_readDigit_25 : decode cX6_readDigit 25 = .ok (.invokevirtual 38, 3) := by decide +kernel
theorem dX6_readDigit_28 : decode cX6_readDigit 28 = .ok (.aload_n 0, 1) := by decide +kernel
theorem dX6_readDigit_29 : decode cX6_readDigit 29 = .ok (.dup, 1) := by decide +kernel
theorem dX6_readDigit_30 : decode cX6_readDigit 30 = .ok (.getfield 23, 3) := by decide +kernel
theorem dX6_readDigit_33 : decode cX6_readDigit 33 = .ok (.iconst 1, 1) := by decide +kernel
theorem dX6_readDigit_34 : decode cX6_readDigit 34 = .ok (.iadd, 1) := by decide +kernel
theorem dX6_readDigit_35 : decode cX6_readDigit 35 = .ok (.putfield 23, 3) := by decide +kernel
theorem dX6_readDigit_38 : decode cX6_readDigit 38 = .ok (.iload_n 2, 1) := by decide +kernel
theorem dX6_readDigit_39 : decode cX6_readDigit 39 = .ok (.ireturn, 1) := by decide +kernel
theorem dX6_repeat_0 : decode cX6_repeat 0 = .ok (.aload_n 0, 1) := by decide +kernel
theorem dX6_repeat_1 : decode cX6_repeat 1 = .ok (.getfield 15, 3) := by decide +kernel
theorem dX6_repeat_4 : decode cX6_repeat 4 = .ok (.getfield 83, 3) := by decide +kernel
theorem dX6_repeat_7 : decode cX6_repeat 7 = .ok (.iload_n 1, 1) := by decide +kernel
theorem dX6_repeat_8 : decode cX6_repeat 8 = .ok (.isub, 1) := by decide +kernel
theorem dX6_repeat_9 : decode cX6_repeat 9 = .ok (.istore 4, 2) := by decide +kernel
theorem dX6_repeat_11 : decode cX6_repeat 11 = .ok (.aload_n 0, 1) := by decide +kernel
theorem dX6_repeat_12 : decode cX6_repeat 12 = .ok (.getfield 15, 3) := by decide +kernel
theorem dX6_repeat_15 : decode cX6_repeat 15 = .ok (.iload_n 1, 1) := by decide +kernel
theorem dX6_repeat_16 : decode cX6_repeat 16 = .ok (.iload_n 3, 1) := by decide +kernel
theorem dX6_repeat_17 : decode cX6_repeat 17 = .ok (.invokevirtual 133, 3) := by decide +kernel
theorem dX6_repeat_20 : decode cX6_repeat 20 = .ok (.aload_n 0, 1) := by decide +kernel
theorem dX6_repeat_21 : decode cX6_repeat 21 = .ok (.getfield 15, 3) := by decide +kernel
theorem dX6_repeat_24 : decode cX6_repeat 24 = .ok (.getfield 136, 3) := by decide +kernel
theorem dX6_repeat_27 : decode cX6_repeat 27 = .ok (.ifCond .ne 4, 3) := by decide +kernel
theorem dX6_repeat_30 : decode cX6_repeat 30 = .ok (.return_, 1) := by decide +kernel
theorem dX6_repeat_31 : decode cX6_repeat 31 = .ok (.iload_n 2, 1) := by decide +kernel
theorem dX6_repeat_32 : decode cX6_repeat 32 = .ok (.iconst 1, 1) := by decide +kernel
theorem dX6_repeat_33 : decode cX6_repeat 33 = .ok (.if_icmp .ne 10, 3) := by decide +kernel
theorem dX6_repeat_36 : decode cX6_repeat 36 = .ok (.aload_n 0, 1) := by decide +kernel
theorem dX6_repeat_37 : decode cX6_repeat 37 = .ok (.getfield 92, 3) := by decide +kernel
theorem dX6_repeat_40 : decode cX6_repeat 40 = .ok (.goto 4, 3) := by decide +kernel
theorem dX6_repeat_43 : decode cX6_repeat 43 = .ok (.iconst 0, 1) := by decide +kernel
theorem dX6_repeat_44 : decode cX6_repeat 44 = .ok (.istore 5, 2) := by decide +kernel
theorem dX6_repeat_46 : decode cX6_repeat 46 = .ok (.iconst 1, 1) := by decide +kernel
theorem dX6_repeat_47 : decode cX6_repeat 47 = .ok (.istore 6, 2) := by decide +kernel
theorem dX6_repeat_49 : decode cX6_repeat 49 = .ok (.iload 6, 2) := by decide +kernel
theorem dX6_repeat_51 : decode cX6_repeat 51 = .ok (.iload_n 3, 1) := by decide +kernel
theorem dX6_repeat_52 : decode cX6_repeat 52 = .ok (.if_icmp .ge 61, 3) := by decide +kernel
theorem dX6_repeat_55 : decode cX6_repeat 55 = .ok (.aload_n 0, 1) := by decide +kernel
theorem dX6_repeat_56 : decode cX6_repeat 56 = .ok (.getfield 15, 3) := by decide +kernel
theorem dX6_repeat_59 : decode cX6_repeat 59 = .ok (.aload_n 0, 1) := by decide +kernel
theorem dX6_repeat_60 : decode cX6_repeat 60 = .ok (.getfield 92, 3) := by decide +kernel
theorem dX6_repeat_63 : decode cX6_repeat 63 = .ok (.iload 4, 2) := by decide +kernel
theorem dX6_repeat_65 : decode cX6_repeat 65 = .ok (.iload 6, 2) := by decide +kernel
theorem dX6_repeat_67 : decode cX6_repeat 67 = .ok (.iconst 1, 1) := by decide +kernel
theorem dX6_repeat_68 : decode cX6_repeat 68 = .ok (.isub, 1) := by decide +kernel
theorem dX6_repeat_69 : decode cX6_repeat 69 = .ok (.imul, 1) := by decide +kernel
theorem dX6_repeat_70 : decode cX6_repeat 70 = .ok (.ishl, 1) := by decide +kernel
theorem dX6_repeat_71 : decode cX6_repeat 71 = .ok (.aload_n 0, 1) := by decide +kernel
theorem dX6_repeat_72 : decode cX6_repeat 72 = .ok (.getfield 89, 3) := by decide +kernel
theorem dX6_repeat_75 : decode cX6_repeat 75 = .ok (.iload 4, 2) := by decide +kernel
theorem dX6_repeat_77 : decode cX6_repeat 77 = .ok (.iload 6, 2) := by decide +kernel
theorem dX6_repeat_79 : decode cX6_repeat 79 = .ok (.imul, 1) := by decide +kernel
theorem dX6_repeat_80 : decode cX6_repeat 80 = .ok (.ishl, 1) := by decide +kernel
theorem dX6_repeat_81 : decode cX6_repeat 81 = .ok (.invokevirtual 116, 3) := by decide +kernel
theorem dX6_repeat_84 : decode cX6_repeat 84 = .ok (.iload 6, 2) := by decide +kernel
theorem dX6_repeat_86 : decode cX6_repeat 86 = .ok (.iconst 1, 1) := by decide +kernel
theorem dX6_repeat_87 : decode cX6_repeat 87 = .ok (.iadd, 1) := by decide +kernel
theorem dX6_repeat_88 : decode cX6_repeat 88 = .ok (.iload_n 2, 1) := by decide +kernel
theorem dX6_repeat_89 : decode cX6_repeat 89 = .ok (.if_icmp .lt 18, 3) := by decide +kernel
theorem dX6_repeat_92 : decode cX6_repeat 92 = .ok (.iload 5, 2) := by decide +kernel
theorem dX6_repeat_94 : decode cX6_repeat 94 = .ok (.aload_n 0, 1) := by decide +kernel
theorem dX6_repeat_95 : decode cX6_repeat 95 = .ok (.getfield 92, 3) := by decide +kernel
theorem dX6_repeat_98 : decode cX6_repeat 98 = .ok (.iload 4, 2) := by decide +kernel
theorem dX6_repeat_100 : decode cX6_repeat 100 = .ok (.iload 6, 2) := by decide +kernel
theorem dX6_repeat_102 : decode cX6_repeat 102 = .ok (.imul, 1) := by decide +kernel
theorem dX6_repeat_103 : decode cX6_repeat 103 = .ok (.ishl, 1) := by decide +kernel
theorem dX6_repeat_104 : decode cX6_repeat 104 = .ok (.ior, 1) := by decide +kernel
theorem dX6_repeat_105 : decode cX6_repeat 105 = .ok (.istore 5, 2) := by decide +kernel
theorem dX6_repeat_107 : decode cX6_repeat 107 = .ok (.iinc 6 1, 3) := by decide +kernel
theorem dX6_repeat_110 : decode cX6_repeat 110 = .ok (.goto (-61), 3) := by decide +kernel
theorem dX6_repeat_113 : decode cX6_repeat 113 = .ok (.aload_n 0, 1) := by decide +kernel
theorem dX6_repeat_114 : decode cX6_repeat 114 = .ok (.iload 5, 2) := by decide +kernel
theorem dX6_repeat_116 : decode cX6_repeat 116 = .ok (.putfield 92, 3) := by decide +kernel
theorem dX6_repeat_119 : decode cX6_repeat 119 = .ok (.return_, 1) := by decide +kernel
theorem dX6_readBoolean_0 : decode cX6_readBoolean 0 = .ok (.aload_n 0, 1) := by decide +kernel
theorem dX6_readBoolean_1 : decode cX6_readBoolean 1 = .ok (.iload_n 1, 1) := by decide +kernel
theorem dX6_readBoolean_2 : decode cX6_readBoolean 2 = .ok (.bipush 12, 2) := by decide +kernel
theorem dX6_readBoolean_4 : decode cX6_readBoolean 4 = .ok (.if_icmp .gt 7, 3) := by decide +kernel
theorem dX6_readBoolean_7 : decode cX6_readBoolean 7 = .ok (.iconst 1, 1) := by decide +kernel
theorem dX6_readBoolean_8 : decode cX6_readBoolean 8 = .ok (.goto 4, 3) := by decide +kernel
theorem dX6_readBoolean_11 : decode cX6_readBoolean 11 = .ok (.iconst 0, 1) := by decide +kernel
theorem dX6_readBoolean_12 : decode cX6_readBoolean 12 = .ok (.invokevirtual 38, 3) := by decide +kernel
theorem dX6_readBoolean_15 : decode cX6_readBoolean 15 = .ok (.aload_n 0, 1) := by decide +kernel
theorem dX6_readBoolean_16 : decode cX6_readBoolean 16 = .ok (.invokevirtual 53, 3) := by decide +kernel
theorem dX6_readBoolean_19 : decode cX6_readBoolean 19 = .ok (.istore_n 2, 1) := by decide +kernel
theorem dX6_readBoolean_20 : decode cX6_readBoolean 20 = .ok (.iload_n 2, 1) := by decide +kernel
theorem dX6_readBoolean_21 : decode cX6_readBoolean 21 = .ok (.bipush 33, 2) := by decide +kernel
theorem dX6_readBoolean_23 : decode cX6_readBoolean 23 = .ok (.if_icmp .ne 23, 3) := by decide +kernel
theorem dX6_readBoolean_26 : decode cX6_readBoolean 26 = .ok (.aload_n 0, 1) := by decide +kernel
theorem dX6_readBoolean_27 : decode cX6_readBoolean 27 = .ok (.bipush 33, 2) := by decide +kernel
theorem dX6_readBoolean_29 : decode cX6_readBoolean 29 = .ok (.invokevirtual 75, 3) := by decide +kernel
theorem dX6_readBoolean_32 : decode cX6_readBoolean 32 = .ok (.sipush 255, 3) := by decide +kernel
theorem dX6_readBoolean_35 : decode cX6_readBoolean 35 = .ok (.aload_n 0, 1) := by decide +kernel
theorem dX6_readBoolean_36 : decode cX6_readBoolean 36 = .ok (.iload_n 1, 1) := by decide +kernel
theorem dX6_readBoolean_37 : decode cX6_readBoolean 37 = .ok (.iconst 1, 1) := by decide +kernel
theorem dX6_readBoolean_38 : decode cX6_readBoolean 38 = .ok (.iadd, 1) := by decide +kernel
theorem dX6_readBoolean_39 : decode cX6_readBoolean 39 = .ok (.invokevirtual 69, 3) := by decide +kernel
theorem dX6_readBoolean_42 : decode cX6_readBoolean 42 = .ok (.iconst (-1), 1) := by decide +kernel
theorem dX6_readBoolean_43 : decode cX6_readBoolean 43 = .ok (.ixor, 1) := by decide +kernel
theorem dX6_readBoolean_44 : decode cX6_readBoolean 44 = .ok (.iand, 1) := by decide +kernel
theorem dX6_readBoolean_45 : decode cX6_readBoolean 45 = .ok (.ireturn, 1) := by decide +kernel
theorem dX6_readBoolean_46 : decode cX6_readBoolean 46 = .ok (.iload_n 2, 1) := by decide +kernel
theorem dX6_readBoolean_47 : decode cX6_readBoolean 47 = .ok (.bipush 40, 2) := by decide +kernel
theorem dX6_readBoolean_49 : decode cX6_readBoolean 49 = .ok (.if_icmp .ne 9, 3) := by decide +kernel
theorem dX6_readBoolean_52 : decode cX6_readBoolean 52 = .ok (.aload_n 0, 1) := by decide +kernel
theorem dX6_readBoolean_53 : decode cX6_readBoolean 53 = .ok (.iload_n 1, 1) := by decide +kernel
theorem dX6_readBoolean_54 : decode cX6_readBoolean 54 = .ok (.invokevirtual 140, 3) := by decide +kernel
theorem dX6_readBoolean_57 : decode cX6_readBoolean 57 = .ok (.ireturn, 1) := by decide +kernel
theorem dX6_readBoolean_58 : decode cX6_readBoolean 58 = .ok (.ldc 143, 2) := by decide +kernel
theorem dX6_readBoolean_60 : decode cX6_readBoolean 60 = .ok (.iload_n 2, 1) := by decide +kernel
theorem dX6_readBoolean_61 : decode cX6_readBoolean 61 = .ok (.invokevirtual 145, 3) := by decide +kernel
theorem dX6_readBoolean_64 : decode cX6_readBoolean 64 = .ok (.istore_n 3, 1) := by decide +kernel
theorem dX6_readBoolean_65 : decode cX6_readBoolean 65 = .ok (.aload_n 0, 1) := by decide +kernel
theorem dX6_readBoolean_66 : decode cX6_readBoolean 66 = .ok (.iload_n 3, 1) := by decide +kernel
theorem dX6_readBoolean_67 : decode cX6_readBoolean 67 = .ok (.ifCond .lt 15, 3) := by decide +kernel
theorem dX6_readBoolean_70 : decode cX6_readBoolean 70 = .ok (.iload_n 3, 1) := by decide +kernel
theorem dX6_readBoolean_71 : decode cX6_readBoolean 71 = .ok (.getstatic 150, 3) := by decide +kernel
theorem dX6_readBoolean_74 : decode cX6_readBoolean 74 = .ok (.arraylength, 1) := by decide +kernel
theorem dX6_readBoolean_75 : decode cX6_readBoolean 75 = .ok (.if_icmp .ge 7, 3) := by decide +kernel
theorem dX6_readBoolean_78 : decode cX6_readBoolean 78 = .ok (.iconst 1, 1) := by decide +kernel
theorem dX6_readBoolean_79 : decode cX6_readBoolean 79 = .ok (.goto 4, 3) := by decide +kernel
theorem dX6_readBoolean_82 : decode cX6_readBoolean 82 = .ok (.iconst 0, 1) := by decide +kernel
theorem dX6_readBoolean_83 : decode cX6_readBoolean 83 = .ok (.invokevirtual 38, 3) := by decide +kernel
theorem dX6_readBoolean_86 : decode cX6_readBoolean 86 = .ok (.aload_n 0, 1) := by decide +kernel
theorem dX6_readBoolean_87 : decode cX6_readBoolean 87 = .ok (.dup, 1) := by decide +kernel
theorem dX6_readBoolean_88 : decode cX6_readBoolean 88 = .ok (.getfield 23, 3) := by decide +kernel
theorem dX6_readBoolean_91 : decode cX6_readBoolean 91 = .ok (.iconst 1, 1) := by decide +kernel
theorem dX6_readBoolean_92 : decode cX6_readBoolean 92 = .ok (.iadd, 1) := by decide +kernel
theorem dX6_readBoolean_93 : decode cX6_readBoolean 93 = .ok (.putfield 23, 3) := by decide +kernel
theorem dX6_readBoolean_96 : decode cX6_readBoolean 96 = .ok (.getstatic 150, 3) := by decide +kernel
theorem dX6_readBoolean_99 : decode cX6_readBoolean 99 = .ok (.iload_n 3, 1) := by decide +kernel
theorem dX6_readBoolean_100 : decode cX6_readBoolean 100 = .ok (.iaload, 1) := by decide +kernel
theorem dX6_readBoolean_101 : decode cX6_readBoolean 101 = .ok (.ireturn, 1) := by decide +kernel
theorem dX6_readBooleanPair_0 : decode cX6_readBooleanPair 0 = .ok (.aload_n 0, 1) := by decide +kernel
theorem dX6_readBooleanPair_1 : decode cX6_readBooleanPair 1 = .ok (.bipush 40, 2) := by decide +kernel
theorem dX6_readBooleanPair_3 : decode cX6_readBooleanPair 3 = .ok (.invokevirtual 75, 3) := by decide +kernel
theorem dX6_readBooleanPair_6 : decode cX6_readBooleanPair 6 = .ok (.aload_n 0, 1) := by decide +kernel
theorem dX6_readBooleanPair_7 : decode cX6_readBooleanPair 7 = .ok (.iload_n 1, 1) := by decide +kernel
theorem dX6_readBooleanPair_8 : decode cX6_readBooleanPair 8 = .ok (.iconst 1, 1) := by decide +kernel
theorem dX6_readBooleanPair_9 : decode cX6_readBooleanPair 9 = .ok (.iadd, 1) := by decide +kernel
theorem dX6_readBooleanPair_10 : decode cX6_readBooleanPair 10 = .ok (.invokevirtual 69, 3) := by decide +kernel
theorem dX6_readBooleanPair_13 : decode cX6_readBooleanPair 13 = .ok (.istore_n 2, 1) := by decide +kernel
theorem dX6_readBooleanPair_14 : decode cX6_readBooleanPair 14 = .ok (.aload_n 0, 1) := by decide +kernel
theorem dX6_readBooleanPair_15 : decode cX6_readBooleanPair 15 = .ok (.invokevirtual 53, 3) := by decide +kernel
theorem dX6_readBooleanPair_18 : decode cX6_readBooleanPair 18 = .ok (.istore_n 3, 1) := by decide +kernel
theorem dX6_readBooleanPair_19 : decode cX6_readBooleanPair 19 = .ok (.aload_n 0, 1) := by decide +kernel
theorem dX6_readBooleanPair_20 : decode cX6_readBooleanPair 20 = .ok (.iload_n 3, 1) := by decide +kernel
theorem dX6_readBooleanPair_21 : decode cX6_readBooleanPair 21 = .ok (.bipush 38, 2) := by decide +kernel
theorem dX6_readBooleanPair_23 : decode cX6_readBooleanPair 23 = .ok (.if_icmp .eq 9, 3) := by decide +kernel
theorem dX6_readBooleanPair_26 : decode cX6_readBooleanPair 26 = .ok (.iload_n 3, 1) := by decide +kernel
theorem dX6_readBooleanPair_27 : decode cX6_readBooleanPair 27 = .ok (.bipush 124, 2) := by decide +kernel
theorem dX6_readBooleanPair_29 : decode cX6_readBooleanPair 29 = .ok (.if_icmp .ne 7, 3) := by decide +kernel
theorem dX6_readBooleanPair_32 : decode cX6_readBooleanPair 32 = .ok (.iconst 1, 1) := by decide +kernel
theorem dX6_readBooleanPair_33 : decode cX6_readBooleanPair 33 = .ok (.goto 4, 3) := by decide +kernel
theorem dX6_readBooleanPair_36 : decode cX6_readBooleanPair 36 = .ok (.iconst 0, 1) := by decide +kernel
theorem dX6_readBooleanPair_37 : decode cX6_readBooleanPair 37 = .ok (.invokevirtual 38, 3) := by decide +kernel
theorem dX6_readBooleanPair_40 : decode cX6_readBooleanPair 40 = .ok (.aload_n 0, 1) := by decide +kernel
theorem dX6_readBooleanPair_41 : decode cX6_readBooleanPair 41 = .ok (.dup, 1) := by decide +kernel
theorem dX6_readBooleanPair_42 : decode cX6_readBooleanPair 42 = .ok (.getfield 23, 3) := by decide +kernel
theorem dX6_readBooleanPair_45 : decode cX6_readBooleanPair 45 = .ok (.iconst 1, 1) := by decide +kernel
theorem dX6_readBooleanPair_46 : decode cX6_readBooleanPair 46 = .ok (.iadd, 1) := by decide +kernel
theorem dX6_readBooleanPair_47 : decode cX6_readBooleanPair 47 = .ok (.putfield 23, 3) := by decide +kernel
theorem dX6_readBooleanPair_50 : decode cX6_readBooleanPair 50 = .ok (.aload_n 0, 1) := by decide +kernel
theorem dX6_readBooleanPair_51 : decode cX6_readBooleanPair 51 = .ok (.iload_n 1, 1) := by decide +kernel
theorem dX6_readBooleanPair_52 : decode cX6_readBooleanPair 52 = .ok (.iconst 1, 1) := by decide +kernel
theorem dX6_readBooleanPair_53 : decode cX6_readBooleanPair 53 = .ok (.iadd, 1) := by decide +kernel
theorem dX6_readBooleanPair_54 : decode cX6_readBooleanPair 54 = .ok (.invokevirtual 69, 3) := by decide +kernel
theorem dX6_readBooleanPair_57 : decode cX6_readBooleanPair 57 = .ok (.istore 4, 2) := by decide +kernel
theorem dX6_readBooleanPair_59 : decode cX6_readBooleanPair 59 = .ok (.aload_n 0, 1) := by decide +kernel
theorem dX6_readBooleanPair_60 : decode cX6_readBooleanPair 60 = .ok (.bipush 41, 2) := by decide +kernel
theorem dX6_readBooleanPair_62 : decode cX6_readBooleanPair 62 = .ok (.invokevirtual 75, 3) := by decide +kernel
theorem dX6_readBooleanPair_65 : decode cX6_readBooleanPair 65 = .ok (.iload_n 3, 1) := by decide +kernel
theorem dX6_readBooleanPair_66 : decode cX6_readBooleanPair 66 = .ok (.bipush 38, 2) := by decide +kernel
theorem dX6_readBooleanPair_68 : decode cX6_readBooleanPair 68 = .ok (.if_icmp .ne 10, 3) := by decide +kernel
theorem dX6_readBooleanPair_71 : decode cX6_readBooleanPair 71 = .ok (.iload_n 2, 1) := by decide +kernel
theorem dX6_readBooleanPair_72 : decode cX6_readBooleanPair 72 = .ok (.iload 4, 2) := by decide +kernel
theorem dX6_readBooleanPair_74 : decode cX6_readBooleanPair 74 = .ok (.iand, 1) := by decide +kernel
theorem dX6_readBooleanPair_75 : decode cX6_readBooleanPair 75 = .ok (.goto 7, 3) := by decide +kernel
theorem dX6_readBooleanPair_78 : decode cX6_readBooleanPair 78 = .ok (.iload_n 2, 1) := by decide +kernel
theorem dX6_readBooleanPair_79 : decode cX6_readBooleanPair 79 = .ok (.iload 4, 2) := by decide +kernel
theorem dX6_readBooleanPair_81 : decode cX6_readBooleanPair 81 = .ok (.ior, 1) := by decide +kernel
theorem dX6_readBooleanPair_82 : decode cX6_readBooleanPair 82 = .ok (.ireturn, 1) := by decide +kernel
theorem dX7_init_0 : decode cX7_init 0 = .ok (.aload_n 0, 1) := by decide +kernel
theorem dX7_init_1 : decode cX7_init 1 = .ok (.invokespecial 3, 3) := by decide +kernel
theorem dX7_init_4 : decode cX7_init 4 = .ok (.aload_n 0, 1) := by decide +kernel
theorem dX7_init_5 : decode cX7_init 5 = .ok (.aload_n 1, 1) := by decide +kernel
theorem dX7_init_6 : decode cX7_init 6 = .ok (.putfield 9, 3) := by decide +kernel
theorem dX7_init_9 : decode cX7_init 9 = .ok (.aload_n 0, 1) := by decide +kernel
theorem dX7_init_10 : decode cX7_init 10 = .ok (.bipush 60, 2) := by decide +kernel
theorem dX7_init_12 : decode cX7_init 12 = .ok (.newarray .int, 2) := by decide +kernel
theorem dX7_init_14 : decode cX7_init 14 = .ok (.putfield 15, 3) := by decide +kernel
theorem dX7_init_17 : decode cX7_init 17 = .ok (.aload_n 0, 1) := by decide +kernel
theorem dX7_init_18 : decode cX7_init 18 = .ok (.iconst 0, 1) := by decide +kernel
theorem dX7_init_19 : decode cX7_init 19 = .ok (.putfield 19, 3) := by decide +kernel
theorem dX7_init_22 : decode cX7_init 22 = .ok (.aload_n 0, 1) := by decide +kernel
theorem dX7_init_23 : decode cX7_init 23 = .ok (.iconst 0, 1) := by decide +kernel
theorem dX7_init_24 : decode cX7_init 24 = .ok (.putfield 23, 3) := by decide +kernel
theorem dX7_init_27 : decode cX7_init 27 = .ok (.aload_n 0, 1) := by decide +kernel
theorem dX7_init_28 : decode cX7_init 28 = .ok (.iconst 0, 1) := by decide +kernel
theorem dX7_init_29 : decode cX7_init 29 = .ok (.putfield 27, 3) := by decide +kernel
theorem dX7_init_32 : decode cX7_init 32 = .ok (.return_, 1) := by decide +kernel
theorem dX7_start_0 : decode cX7_start 0 = .ok (.aload_n 0, 1) := by decide +kernel
theorem dX7_start_1 : decode cX7_start 1 = .ok (.iconst 1, 1) := by decide +kernel
theorem dX7_start_2 : decode cX7_start 2 = .ok (.putfield 19, 3) := by decide +kernel
theorem dX7_start_5 : decode cX7_start 5 = .ok (.aload_n 0, 1) := by decide +kernel
theorem dX7_start_6 : decode cX7_start 6 = .ok (.iconst 0, 1) := by decide +kernel
theorem dX7_start_7 : decode cX7_start 7 = .ok (.putfield 23, 3) := by decide +kernel
theorem dX7_start_10 : decode cX7_start 10 = .ok (.aload_n 0, 1) := by decide +kernel
theorem dX7_start_11 : decode cX7_start 11 = .ok (.aload_n 0, 1) := by decide +kernel
theorem dX7_start_12 : decode cX7_start 12 = .ok (.getfield 9, 3) := by decide +kernel
theorem dX7_start_15 : decode cX7_start 15 = .ok (.invokevirtual 30, 3) := by decide +kernel
theorem dX7_start_18 : decode cX7_start 18 = .ok (.putfield 27, 3) := by decide +kernel
theorem dX7_start_21 : decode cX7_start 21 = .ok (.return_, 1) := by decide +kernel
theorem dX7_end_0 : decode cX7_end 0 = .ok (.aload_n 0, 1) := by decide +kernel
theorem dX7_end_1 : decode cX7_end 1 = .ok (.iconst 0, 1) := by decide +kernel
theorem dX7_end_2 : decode cX7_end 2 = .ok (.putfield 19, 3) := by decide +kernel
theorem dX7_end_5 : decode cX7_end 5 = .ok (.return_, 1) := by decide +kernel
theorem dX7_hasFailed_0 : decode cX7_hasFailed 0 = .ok (.aload_n 0, 1) := by decide +kernel
theorem dX7_hasFailed_1 : decode cX7_hasFailed 1 = .ok (.getfield 19, 3) := by decide +kernel
theorem dX7_hasFailed_4 : decode cX7_hasFailed 4 = .ok (.ifCond .eq 15, 3) := by decide +kernel
theorem dX7_hasFailed_7 : decode cX7_hasFailed 7 = .ok (.aload_n 0, 1) := by decide +kernel
theorem dX7_hasFailed_8 : decode cX7_hasFailed 8 = .ok (.getfield 27, 3) := by decide +kernel
theorem dX7_hasFailed_11 : decode cX7_hasFailed 11 = .ok (.iconst (-1), 1) := by decide +kernel
theorem dX7_hasFailed_12 : decode cX7_hasFailed 12 = .ok (.if_icmp .ne 7, 3) := by decide +kernel
theorem dX7_hasFailed_15 : decode cX7_hasFailed 15 = .ok (.iconst 1, 1) := by decide +kernel
theorem dX7_hasFailed_16 : decode cX7_hasFailed 16 = .ok (.goto 4, 3) := by decide +kernel
theorem dX7_hasFailed_19 : decode cX7_hasFailed 19 = .ok (.iconst 0, 1) := by decide +kernel
theorem dX7_hasFailed_20 : decode cX7_hasFailed 20 = .ok (.ireturn, 1) := by decide +kernel
theorem dX7_canGoOn_0 : decode cX7_canGoOn 0 = .ok (.aload_n 0, 1) := by decide +kernel
theorem dX7_canGoOn_1 : decode cX7_canGoOn 1 = .ok (.getfield 19, 3) := by decide +kernel
theorem dX7_canGoOn_4 : decode cX7_canGoOn 4 = .ok (.ifCond .eq 24, 3) := by decide +kernel
theorem dX7_canGoOn_7 : decode cX7_canGoOn 7 = .ok (.aload_n 0, 1) := by decide +kernel
theorem dX7_canGoOn_8 : decode cX7_canGoOn 8 = .ok (.getfield 27, 3) := by decide +kernel
theorem dX7_canGoOn_11 : decode cX7_canGoOn 11 = .ok (.iconst (-1), 1) := by decide +kernel
theorem dX7_canGoOn_12 : decode cX7_canGoOn 12 = .ok (.if_icmp .eq 16, 3) := by decide +kernel
theorem dX7_canGoOn_15 : decode cX7_canGoOn 15 = .ok (.aload_n 0, 1) := by decide +kernel
theorem dX7_canGoOn_16 : decode cX7_canGoOn 16 = .ok (.getfield 23, 3) := by decide +kernel
theorem dX7_canGoOn_19 : decode cX7_canGoOn 19 = .ok (.bipush 60, 2) := by decide +kernel
theorem dX7_canGoOn_21 : decode cX7_canGoOn 21 = .ok (.if_icmp .ge 7, 3) := by decide +kernel
theorem dX7_canGoOn_24 : decode cX7_canGoOn 24 = .ok (.iconst 1, 1) := by decide +kernel
theorem dX7_canGoOn_25 : decode cX7_canGoOn 25 = .ok (.goto 4, 3) := by decide +kernel
theorem dX7_canGoOn_28 : decode cX7_canGoOn 28 = .ok (.iconst 0, 1) := by decide +kernel
theorem dX7_canGoOn_29 : decode cX7_canGoOn 29 = .ok (.ireturn, 1) := by decide +kernel
theorem dX7_take_0 : decode cX7_take 0 = .ok (.aload_n 0, 1) := by decide +kernel
theorem dX7_take_1 : decode cX7_take 1 = .ok (.getfield 23, 3) := by decide +kernel
theorem dX7_take_4 : decode cX7_take 4 = .ok (.bipush 60, 2) := by decide +kernel
theorem dX7_take_6 : decode cX7_take 6 = .ok (.if_icmp .lt 4, 3) := by decide +kernel
theorem dX7_take_9 : decode cX7_take 9 = .ok (.return_, 1) := by decide +kernel
theorem dX7_take_10 : decode cX7_take 10 = .ok (.aload_n 0, 1) := by decide +kernel
theorem dX7_take_11 : decode cX7_take 11 = .ok (.getfield 15, 3) := by decide +kernel
theorem dX7_take_14 : decode cX7_take 14 = .ok (.aload_n 0, 1) := by decide +kernel
theorem dX7_take_15 : decode cX7_take 15 = .ok (.getfield 23, 3) := by decide +kernel
theorem dX7_take_18 : decode cX7_take 18 = .ok (.iload_n 1, 1) := by decide +kernel
theorem dX7_take_19 : decode cX7_take 19 = .ok (.iastore, 1) := by decide +kernel
theorem dX7_take_20 : decode cX7_take 20 = .ok (.aload_n 0, 1) := by decide +kernel
theorem dX7_take_21 : decode cX7_take 21 = .ok (.dup, 1) := by decide +kernel
theorem dX7_take_22 : decode cX7_take 22 = .ok (.getfield 23, 3) := by decide +kernel
theorem dX7_take_25 : decode cX7_take 25 = .ok (.iconst 1, 1) := by decide +kernel
theorem dX7_take_26 : decode cX7_take 26 = .ok (.iadd, 1) := by decide +kernel
theorem dX7_take_27 : decode cX7_take 27 = .ok (.putfield 23, 3) := by decide +kernel
theorem dX7_take_30 : decode cX7_take 30 = .ok (.aload_n 0, 1) := by decide +kernel
theorem dX7_take_31 : decode cX7_take 31 = .ok (.aload_n 0, 1) := by decide +kernel
theorem dX7_take_32 : decode cX7_take 32 = .ok (.getfield 9, 3) := by decide +kernel
theorem dX7_take_35 : decode cX7_take 35 = .ok (.aload_n 0, 1) := by decide +kernel
theorem dX7_take_36 : decode cX7_take 36 = .ok (.getfield 27, 3) := by decide +kernel
theorem dX7_take_39 : decode cX7_take 39 = .ok (.iload_n 1, 1) := by decide +kernel
theorem dX7_take_40 : decode cX7_take 40 = .ok (.invokevirtual 36, 3) := by decide +kernel
theorem dX7_take_43 : decode cX7_take 43 = .ok (.putfield 27, 3) := by decide +kernel
theorem dX7_take_46 : decode cX7_take 46 = .ok (.return_, 1) := by decide +kernel
theorem dX7_walk_0 : decode cX7_walk 0 = .ok (.iload_n 1, 1) := by decide +kernel
theorem dX7_walk_1 : decode cX7_walk 1 = .ok (.istore_n 3, 1) := by decide +kernel
theorem dX7_walk_2 : decode cX7_walk 2 = .ok (.iload_n 2, 1) := by decide +kernel
theorem dX7_walk_3 : decode cX7_walk 3 = .ok (.istore 4, 2) := by decide +kernel
theorem dX7_walk_5 : decode cX7_walk 5 = .ok (.iload 4, 2) := by decide +kernel
theorem dX7_walk_7 : decode cX7_walk 7 = .ok (.aload_n 0, 1) := by decide +kernel
theorem dX7_walk_8 : decode cX7_walk 8 = .ok (.getfield 23, 3) := by decide +kernel
theorem dX7_walk_11 : decode cX7_walk 11 = .ok (.if_icmp .ge 25, 3) := by decide +kernel
theorem dX7_walk_14 : decode cX7_walk 14 = .ok (.aload_n 0, 1) := by decide +kernel
theorem dX7_walk_15 : decode cX7_walk 15 = .ok (.getfield 9, 3) := by decide +kernel
theorem dX7_walk_18 : decode cX7_walk 18 = .ok (.iload_n 3, 1) := by decide +kernel
theorem dX7_walk_19 : decode cX7_walk 19 = .ok (.aload_n 0, 1) := by decide +kernel
theorem dX7_walk_20 : decode cX7_walk 20 = .ok (.getfield 15, 3) := by decide +kernel
theorem dX7_walk_23 : decode cX7_walk 23 = .ok (.iload 4, 2) := by decide +kernel
theorem dX7_walk_25 : decode cX7_walk 25 = .ok (.iaload, 1) := by decide +kernel
theorem dX7_walk_26 : decode cX7_walk 26 = .ok (.invokevirtual 36, 3) := by decide +kernel
theorem dX7_walk_29 : decode cX7_walk 29 = .ok (.istore_n 3, 1) := by decide +kernel
theorem dX7_walk_30 : decode cX7_walk 30 = .ok (.iinc 4 1, 3) := by decide +kernel
theorem dX7_walk_33 : decode cX7_walk 33 = .ok (.goto (-28), 3) := by decide +kernel
theorem dX7_walk_36 : decode cX7_walk 36 = .ok (.iload_n 3, 1) := by decide +kernel
theorem dX7_walk_37 : decode cX7_walk 37 = .ok (.ireturn, 1) := by decide +kernel
theorem dX7_shortestFailingEnd_0 : decode cX7_shortestFailingEnd 0 = .ok (.iconst 0, 1) := by decide +kernel
theorem dX7_shortestFailingEnd_1 : decode cX7_shortestFailingEnd 1 = .ok (.istore_n 1, 1) := by decide +kernel
theorem dX7_shortestFailingEnd_2 : decode cX7_shortestFailingEnd 2 = .ok (.iload_n 1, 1) := by decide +kernel
theorem dX7_shortestFailingEnd_3 : decode cX7_shortestFailingEnd 3 = .ok (.aload_n 0, 1) := by decide +kernel
theorem dX7_shortestFailingEnd_4 : decode cX7_shortestFailingEnd 4 = .ok (.getfield 23, 3) := by decide +kernel
theorem dX7_shortestFailingEnd_7 : decode cX7_shortestFailingEnd 7 = .ok (.if_icmp .ge 32, 3) := by decide +kernel
theorem dX7_shortestFailingEnd_10 : decode cX7_shortestFailingEnd 10 = .ok (.aload_n 0, 1) := by decide +kernel
theorem dX7_shortestFailingEnd_11 : decode cX7_shortestFailingEnd 11 = .ok (.aload_n 0, 1) := by decide +kernel
theorem dX7_shortestFailingEnd_12 : decode cX7_shortestFailingEnd 12 = .ok (.getfield 9, 3) := by decide +kernel
theorem dX7_shortestFailingEnd_15 : decode cX7_shortestFailingEnd 15 = .ok (.invokevirtual 30, 3) := by decide +kernel
theorem dX7_shortestFailingEnd_18 : decode cX7_shortestFailingEnd 18 = .ok (.aload_n 0, 1) := by decide +kernel
theorem dX7_shortestFailingEnd_19 : decode cX7_shortestFailingEnd 19 = .ok (.getfield 23, 3) := by decide +kernel
theorem dX7_shortestFailingEnd_22 : decode cX7_shortestFailingEnd 22 = .ok (.iload_n 1, 1) := by decide +kernel
theorem dX7_shortestFailingEnd_23 : decode cX7_shortestFailingEnd 23 = .ok (.isub, 1) := by decide +kernel
theorem dX7_shortestFailingEnd_24 : decode cX7_shortestFailingEnd 24 = .ok (.invokevirtual 40, 3) := by decide +kernel
theorem dX7_shortestFailingEnd_27 : decode cX7_shortestFailingEnd 27 = .ok (.iconst (-1), 1) := by decide +kernel
theorem dX7_shortestFailingEnd_28 : decode cX7_shortestFailingEnd 28 = .ok (.if_icmp .ne 5, 3) := by decide +kernel
theorem dX7_shortestFailingEnd_31 : decode cX7_shortestFailingEnd 31 = .ok (.iload_n 1, 1) := by decide +kernel
theorem dX7_shortestFailingEnd_32 : decode cX7_shortestFailingEnd 32 = .ok (.ireturn, 1) := by decide +kernel
theorem dX7_shortestFailingEnd_33 : decode cX7_shortestFailingEnd 33 = .ok (.iinc 1 1, 3) := by decide +kernel
theorem dX7_shortestFailingEnd_36 : decode cX7_shortestFailingEnd 36 = .ok (.goto (-34), 3) := by decide +kernel
theorem dX7_shortestFailingEnd_39 : decode cX7_shortestFailingEnd 39 = .ok (.aload_n 0, 1) := by decide +kernel
theorem dX7_shortestFailingEnd_40 : decode cX7_shortestFailingEnd 40 = .ok (.getfield 23, 3) := by decide +kernel
theorem dX7_shortestFailingEnd_43 : decode cX7_shortestFailingEnd 43 = .ok (.ireturn, 1) := by decide +kernel
theorem dX7_holdsRepeating_0 : decode cX7_holdsRepeating 0 = .ok (.aload_n 0, 1) := by decide +kernel
theorem dX7_holdsRepeating_1 : decode cX7_holdsRepeating 1 = .ok (.getfield 27, 3) := by decide +kernel
theorem dX7_holdsRepeating_4 : decode cX7_holdsRepeating 4 = .ok (.istore_n 2, 1) := by decide +kernel
theorem dX7_holdsRepeating_5 : decode cX7_holdsRepeating 5 = .ok (.iconst 0, 1) := by decide +kernel
theorem dX7_holdsRepeating_6 : decode cX7_holdsRepeating 6 = .ok (.istore_n 3, 1) := by decide +kernel
theorem dX7_holdsRepeating_7 : decode cX7_holdsRepeating 7 = .ok (.iload_n 3, 1) := by decide +kernel
theorem dX7_holdsRepeating_8 : decode cX7_holdsRepeating 8 = .ok (.aload_n 0, 1) := by decide +kernel
theorem dX7_holdsRepeating_9 : decode cX7_holdsRepeating 9 = .ok (.getfield 9, 3) := by decide +kernel
theorem dX7_holdsRepeating_12 : decode cX7_holdsRepeating 12 = .ok (.getfield 43, 3) := by decide +kernel
theorem dX7_holdsRepeating_15 : decode cX7_holdsRepeating 15 = .ok (.if_icmp .ge 21, 3) := by decide +kernel
theorem dX7_holdsRepeating_18 : decode cX7_holdsRepeating 18 = .ok (.iload_n 2, 1) := by decide +kernel
theorem dX7_holdsRepeating_19 : decode cX7_holdsRepeating 19 = .ok (.iconst (-1), 1) := by decide +kernel
theorem dX7_holdsRepeating_20 : decode cX7_holdsRepeating 20 = .ok (.if_icmp .eq 16, 3) := by decide +kernel
theorem dX7_holdsRepeating_23 : decode cX7_holdsRepeating 23 = .ok (.aload_n 0, 1) := by decide +kernel
theorem dX7_holdsRepeating_24 : decode cX7_holdsRepeating 24 = .ok (.iload_n 2, 1) := by decide +kernel
theorem dX7_holdsRepeating_25 : decode cX7_holdsRepeating 25 = .ok (.iload_n 1, 1) := by decide +kernel
theorem dX7_holdsRepeating_26 : decode cX7_holdsRepeating 26 = .ok (.invokevirtual 40, 3) := by decide +kernel
theorem dX7_holdsRepeating_29 : decode cX7_holdsRepeating 29 = .ok (.istore_n 2, 1) := by decide +kernel
theorem dX7_holdsRepeating_30 : decode cX7_holdsRepeating 30 = .ok (.iinc 3 1, 3) := by decide +kernel
theorem dX7_holdsRepeating_33 : decode cX7_holdsRepeating 33 = .ok (.goto (-26), 3) := by decide +kernel
theorem dX7_holdsRepeating_36 : decode cX7_holdsRepeating 36 = .ok (.iload_n 2, 1) := by decide +kernel
theorem dX7_holdsRepeating_37 : decode cX7_holdsRepeating 37 = .ok (.iconst (-1), 1) := by decide +kernel
theorem dX7_holdsRepeating_38 : decode cX7_holdsRepeating 38 = .ok (.if_icmp .eq 7, 3) := by decide +kernel
theorem dX7_holdsRepeating_41 : decode cX7_holdsRepeating 41 = .ok (.iconst 1, 1) := by decide +kernel
theorem dX7_holdsRepeating_42 : decode cX7_holdsRepeating 42 = .ok (.goto 4, 3) := by decide +kernel
theorem dX7_holdsRepeating_45 : decode cX7_holdsRepeating 45 = .ok (.iconst 0, 1) := by decide +kernel
theorem dX7_holdsRepeating_46 : decode cX7_holdsRepeating 46 = .ok (.ireturn, 1) := by decide +kernel
theorem dX8_init_0 : decode cX8_init 0 = .ok (.aload_n 0, 1) := by decide +kernel
theorem dX8_init_1 : decode cX8_init 1 = .ok (.invokespecial 1, 3) := by decide +kernel
theorem dX8_init_4 : decode cX8_init 4 = .ok (.aload_n 0, 1) := by decide +kernel
theorem dX8_init_5 : decode cX8_init 5 = .ok (.bipush 40, 2) := by decide +kernel
theorem dX8_init_7 : decode cX8_init 7 = .ok (.newarray .char, 2) := by decide +kernel
theorem dX8_init_9 : decode cX8_init 9 = .ok (.putfield 9, 3) := by decide +kernel
theorem dX8_init_12 : decode cX8_init 12 = .ok (.aload_n 0, 1) := by decide +kernel
theorem dX8_init_13 : decode cX8_init 13 = .ok (.iconst 0, 1) := by decide +kernel
theorem dX8_init_14 : decode cX8_init 14 = .ok (.putfield 13, 3) := by decide +kernel
theorem dX8_init_17 : decode cX8_init 17 = .ok (.aload_n 0, 1) := by decide +kernel
theorem dX8_init_18 : decode cX8_init 18 = .ok (.new 17, 3) := by decide +kernel
theorem dX8_init_21 : decode cX8_init 21 = .ok (.dup, 1) := by decide +kernel
theorem dX8_init_22 : decode cX8_init 22 = .ok (.invokespecial 19, 3) := by decide +kernel
theorem dX8_init_25 : decode cX8_init 25 = .ok (.putfield 20, 3) := by decide +kernel
theorem dX8_init_28 : decode cX8_init 28 = .ok (.aload_n 0, 1) := by decide +kernel
theorem dX8_init_29 : decode cX8_init 29 = .ok (.new 24, 3) := by decide +kernel
theorem dX8_init_32 : decode cX8_init 32 = .ok (.dup, 1) := by decide +kernel
theorem dX8_init_33 : decode cX8_init 33 = .ok (.aload_n 0, 1) := by decide +kernel
theorem dX8_init_34 : decode cX8_init 34 = .ok (.getfield 9, 3) := by decide +kernel
theorem dX8_init_37 : decode cX8_init 37 = .ok (.aload_n 0, 1) := by decide +kernel
theorem dX8_init_38 : decode cX8_init 38 = .ok (.getfield 20, 3) := by decide +kernel
theorem dX8_init_41 : decode cX8_init 41 = .ok (.invokespecial 26, 3) := by decide +kernel
theorem dX8_init_44 : decode cX8_init 44 = .ok (.putfield 29, 3) := by decide +kernel
theorem dX8_init_47 : decode cX8_init 47 = .ok (.aload_n 0, 1) := by decide +kernel
theorem dX8_init_48 : decode cX8_init 48 = .ok (.new 33, 3) := by decide +kernel
theorem dX8_init_51 : decode cX8_init 51 = .ok (.dup, 1) := by decide +kernel
theorem dX8_init_52 : decode cX8_init 52 = .ok (.aload_n 0, 1) := by decide +kernel
theorem dX8_init_53 : decode cX8_init 53 = .ok (.getfield 20, 3) := by decide +kernel
theorem dX8_init_56 : decode cX8_init 56 = .ok (.invokespecial 35, 3) := by decide +kernel
theorem dX8_init_59 : decode cX8_init 59 = .ok (.putfield 38, 3) := by decide +kernel
theorem dX8_init_62 : decode cX8_init 62 = .ok (.aload_n 0, 1) := by decide +kernel
theorem dX8_init_63 : decode cX8_init 63 = .ok (.new 42, 3) := by decide +kernel
theorem dX8_init_66 : decode cX8_init 66 = .ok (.dup, 1) := by decide +kernel
theorem dX8_init_67 : decode cX8_init 67 = .ok (.aload_n 0, 1) := by decide +kernel
theorem dX8_init_68 : decode cX8_init 68 = .ok (.getfield 38, 3) := by decide +kernel
theorem dX8_init_71 : decode cX8_init 71 = .ok (.invokespecial 44, 3) := by decide +kernel
theorem dX8_init_74 : decode cX8_init 74 = .ok (.putfield 47, 3) := by decide +kernel
theorem dX8_init_77 : decode cX8_init 77 = .ok (.aload_n 0, 1) := by decide +kernel
theorem dX8_init_78 : decode cX8_init 78 = .ok (.new 51, 3) := by decide +kernel
theorem dX8_init_81 : decode cX8_init 81 = .ok (.dup, 1) := by decide +kernel
theorem dX8_init_82 : decode cX8_init 82 = .ok (.aload_n 0, 1) := by decide +kernel
theorem dX8_init_83 : decode cX8_init 83 = .ok (.getfield 47, 3) := by decide +kernel
theorem dX8_init_86 : decode cX8_init 86 = .ok (.invokespecial 53, 3) := by decide +kernel
theorem dX8_init_89 : decode cX8_init 89 = .ok (.putfield 56, 3) := by decide +kernel
theorem dX8_init_92 : decode cX8_init 92 = .ok (.aload_n 0, 1) := by decide +kernel
theorem dX8_init_93 : decode cX8_init 93 = .ok (.new 60, 3) := by decide +kernel
theorem dX8_init_96 : decode cX8_init 96 = .ok (.dup, 1) := by decide +kernel
theorem dX8_init_97 : decode cX8_init 97 = .ok (.aload_n 0, 1) := by decide +kernel
theorem dX8_init_98 : decode cX8_init 98 = .ok (.getfield 56, 3) := by decide +kernel
theorem dX8_init_101 : decode cX8_init 101 = .ok (.invokespecial 62, 3) := by decide +kernel
theorem dX8_init_104 : decode cX8_init 104 = .ok (.putfield 65, 3) := by decide +kernel
theorem dX8_init_107 : decode cX8_init 107 = .ok (.aload_n 0, 1) := by decide +kernel
theorem dX8_init_108 : decode cX8_init 108 = .ok (.new 69, 3) := by decide +kernel
theorem dX8_init_111 : decode cX8_init 111 = .ok (.dup, 1) := by decide +kernel
theorem dX8_init_112 : decode cX8_init 112 = .ok (.aload_n 0, 1) := by decide +kernel
theorem dX8_init_113 : decode cX8_init 113 = .ok (.getfield 56, 3) := by decide +kernel
theorem dX8_init_116 : decode cX8_init 116 = .ok (.invokespecial 71, 3) := by decide +kernel
theorem dX8_init_119 : decode cX8_init 119 = .ok (.putfield 72, 3) := by decide +kernel
theorem dX8_init_122 : decode cX8_init 122 = .ok (.aload_n 0, 1) := by decide +kernel
theorem dX8_init_123 : decode cX8_init 123 = .ok (.new 76, 3) := by decide +kernel
theorem dX8_init_126 : decode cX8_init 126 = .ok (.dup, 1) := by decide +kernel
theorem dX8_init_127 : decode cX8_init 127 = .ok (.invokespecial 78, 3) := by decide +kernel
theorem dX8_init_130 : decode cX8_init 130 = .ok (.putfield 79, 3) := by decide +kernel
theorem dX8_init_133 : decode cX8_init 133 = .ok (.aload_n 0, 1) := by decide +kernel
theorem dX8_init_134 : decode cX8_init 134 = .ok (.iconst 0, 1) := by decide +kernel
theorem dX8_init_135 : decode cX8_init 135 = .ok (.putfield 83, 3) := by decide +kernel
theorem dX8_init_138 : decode cX8_init 138 = .ok (.aload_n 0, 1) := by decide +kernel
theorem dX8_init_139 : decode cX8_init 139 = .ok (.iconst 0, 1) := by decide +kernel
theorem dX8_init_140 : decode cX8_init 140 = .ok (.putfield 87, 3) := by decide +kernel
theorem dX8_init_143 : decode cX8_init 143 = .ok (.aload_n 0, 1) := by decide +kernel
theorem dX8_init_144 : decode cX8_init 144 = .ok (.iconst 0, 1) := by decide +kernel
theorem dX8_init_145 : decode cX8_init 145 = .ok (.putfield 90, 3) := by decide +kernel
theorem dX8_init_148 : decode cX8_init 148 = .ok (.return_, 1) := by decide +kernel
theorem dX8_text_0 : decode cX8_text 0 = .ok (.lload_n 1, 1) := by decide +kernel
theorem dX8_text_1 : decode cX8_text 1 = .ok (.invokestatic 93, 3) := by decide +kernel
theorem dX8_text_4 : decode cX8_text 4 = .ok (.istore_n 3, 1) := by decide +kernel
theorem dX8_text_5 : decode cX8_text 5 = .ok (.iload_n 3, 1) := by decide +kernel
theorem dX8_text_6 : decode cX8_text 6 = .ok (.iconst 1, 1) := by decide +kernel
theorem dX8_text_7 : decode cX8_text 7 = .ok (.if_icmp .lt 14, 3) := by decide +kernel
theorem dX8_text_10 : decode cX8_text 10 = .ok (.aload_n 0, 1) := by decide +kernel
theorem dX8_text_11 : decode cX8_text 11 = .ok (.getfield 13, 3) := by decide +kernel
theorem dX8_text_14 : decode cX8_text 14 = .ok (.iload_n 3, 1) := by decide +kernel
theorem dX8_text_15 : decode cX8_text 15 = .ok (.iadd, 1) := by decide +kernel
theorem dX8_text_16 : decode cX8_text 16 = .ok (.bipush 40, 2) := by decide +kernel
theorem dX8_text_18 : decode cX8_text 18 = .ok (.if_icmp .le 5, 3) := by decide +kernel
theorem dX8_text_21 : decode cX8_text 21 = .ok (.iconst (-1), 1) := by decide +kernel
theorem dX8_text_22 : decode cX8_text 22 = .ok (.ireturn, 1) := by decide +kernel
theorem dX8_text_23 : decode cX8_text 23 = .ok (.iconst 0, 1) := by decide +kernel
theorem dX8_text_24 : decode cX8_text 24 = .ok (.istore 4, 2) := by decide +kernel
theorem dX8_text_26 : decode cX8_text 26 = .ok (.iload 4, 2) := by decide +kernel
theorem dX8_text_28 : decode cX8_text 28 = .ok (.iload_n 3, 1) := by decide +kernel
theorem dX8_text_29 : decode cX8_text 29 = .ok (.if_icmp .ge 28, 3) := by decide +kernel
theorem dX8_text_32 : decode cX8_text 32 = .ok (.aload_n 0, 1) := by decide +kernel
theorem dX8_text_33 : decode cX8_text 33 = .ok (.getfield 9, 3) := by decide +kernel
theorem dX8_text_36 : decode cX8_text 36 = .ok (.aload_n 0, 1) := by decide +kernel
theorem dX8_text_37 : decode cX8_text 37 = .ok (.getfield 13, 3) := by decide +kernel
theorem dX8_text_40 : decode cX8_text 40 = .ok (.iload 4, 2) := by decide +kernel
theorem dX8_text_42 : decode cX8_text 42 = .ok (.iadd, 1) := by decide +kernel
theorem dX8_text_43 : decode cX8_text 43 = .ok (.lload_n 1, 1) := by decide +kernel
theorem dX8_text_44 : decode cX8_text 44 = .ok (.iload 4, 2) := by decide +kernel
theorem dX8_text_46 : decode cX8_text 46 = .ok (.invokestatic 97, 3) := by decide +kernel
theorem dX8_text_49 : decode cX8_text 49 = .ok (.i2c, 1) := by decide +kernel
theorem dX8_text_50 : decode cX8_text 50 = .ok (.castore, 1) := by decide +kernel
theorem dX8_text_51 : decode cX8_text 51 = .ok (.iinc 4 1, 3) := by decide +kernel
theorem dX8_text_54 : decode cX8_text 54 = .ok (.goto (-28), 3) := by decide +kernel
theorem dX8_text_57 : decode cX8_text 57 = .ok (.aload_n 0, 1) := by decide +kernel
theorem dX8_text_58 : decode cX8_text 58 = .ok (.dup, 1) := by decide +kernel
theorem dX8_text_59 : decode cX8_text 59 = .ok (.getfield 13, 3) := by decide +kernel
theorem dX8_text_62 : decode cX8_text 62 = .ok (.iload_n 3, 1) := by decide +kernel
theorem dX8_text_63 : decode cX8_text 63 = .ok (.iadd, 1) := by decide +kernel
theorem dX8_text_64 : decode cX8_text 64 = .ok (.putfield 13, 3) := by decide +kernel
theorem dX8_text_67 : decode cX8_text 67 = .ok (.aload_n 0, 1) := by decide +kernel
theorem dX8_text_68 : decode cX8_text 68 = .ok (.getfield 13, 3) := by decide +kernel
theorem dX8_text_71 : decode cX8_text 71 = .ok (.ireturn, 1) := by decide +kernel
theorem dX8_wipe_0 : decode cX8_wipe 0 = .ok (.aload_n 0, 1) := by decide +kernel
theorem dX8_wipe_1 : decode cX8_wipe 1 = .ok (.iconst 0, 1) := by decide +kernel
theorem dX8_wipe_2 : decode cX8_wipe 2 = .ok (.putfield 13, 3) := by decide +kernel
theorem dX8_wipe_5 : decode cX8_wipe 5 = .ok (.return_, 1) := by decide +kernel
theorem dX8_compile_0 : decode cX8_compile 0 = .ok (.aload_n 0, 1) := by decide +kernel
theorem dX8_compile_1 : decode cX8_compile 1 = .ok (.getfield 29, 3) := by decide +kernel
theorem dX8_compile_4 : decode cX8_compile 4 = .ok (.aload_n 0, 1) := by decide +kernel
theorem dX8_compile_5 : decode cX8_compile 5 = .ok (.getfield 13, 3) := by decide +kernel
theorem dX8_compile_8 : decode cX8_compile 8 = .ok (.invokevirtual 101, 3) := by decide +kernel
theorem dX8_compile_11 : decode cX8_compile 11 = .ok (.aload_n 0, 1) := by decide +kernel
theorem dX8_compile_12 : decode cX8_compile 12 = .ok (.getfield 20, 3) := by decide +kernel
theorem dX8_compile_15 : decode cX8_compile 15 = .ok (.getfield 105, 3) := by decide +kernel
theorem dX8_compile_18 : decode cX8_compile 18 = .ok (.ifCond .ne 13, 3) := by decide +kernel
theorem dX8_compile_21 : decode cX8_compile 21 = .ok (.new 108, 3) := by decide +kernel
theorem dX8_compile_24 : decode cX8_compile 24 = .ok (.dup, 1) := by decide +kernel
theorem dX8_compile_25 : decode cX8_compile 25 = .ok (.ldc 110, 2) := by decide +kernel
theorem dX8_compile_27 : decode cX8_compile 27 = .ok (.invokespecial 112, 3) := by decide +kernel
theorem dX8_compile_30 : decode cX8_compile 30 = .ok (.athrow, 1) := by decide +kernel
theorem dX8_compile_31 : decode cX8_compile 31 = .ok (.aload_n 0, 1) := by decide +kernel
theorem dX8_compile_32 : decode cX8_compile 32 = .ok (.getfield 38, 3) := by decide +kernel
theorem dX8_compile_35 : decode cX8_compile 35 = .ok (.invokevirtual 115, 3) := by decide +kernel
theorem dX8_compile_38 : decode cX8_compile 38 = .ok (.aload_n 0, 1) := by decide +kernel
theorem dX8_compile_39 : decode cX8_compile 39 = .ok (.getfield 47, 3) := by decide +kernel
theorem dX8_compile_42 : decode cX8_compile 42 = .ok (.aload_n 0, 1) := by decide +kernel
theorem dX8_compile_43 : decode cX8_compile 43 = .ok (.getfield 20, 3) := by decide +kernel
theorem dX8_compile_46 : decode cX8_compile 46 = .ok (.invokevirtual 118, 3) := by decide +kernel
theorem dX8_compile_49 : decode cX8_compile 49 = .ok (.invokevirtual 122, 3) := by decide +kernel
theorem dX8_compile_52 : decode cX8_compile 52 = .ok (.ifCond .ne 13, 3) := by decide +kernel
theorem dX8_compile_55 : decode cX8_compile 55 = .ok (.new 108, 3) := by decide +kernel
theorem dX8_compile_58 : decode cX8_compile 58 = .ok (.dup, 1) := by decide +kernel
theorem dX8_compile_59 : decode cX8_compile 59 = .ok (.ldc 126, 2) := by decide +kernel
theorem dX8_compile_61 : decode cX8_compile 61 = .ok (.invokespecial 112, 3) := by decide +kernel
theorem dX8_compile_64 : decode cX8_compile 64 = .ok (.athrow, 1) := by decide +kernel
theorem dX8_compile_65 : decode cX8_compile 65 = .ok (.aload_n 0, 1) := by decide +kernel
theorem dX8_compile_66 : decode cX8_compile 66 = .ok (.aload_n 0, 1) := by decide +kernel
theorem dX8_compile_67 : decode cX8_compile 67 = .ok (.getfield 20, 3) := by decide +kernel
theorem dX8_compile_70 : decode cX8_compile 70 = .ok (.getfield 128, 3) := by decide +kernel
theorem dX8_compile_73 : decode cX8_compile 73 = .ok (.putfield 87, 3) := by decide +kernel
theorem dX8_compile_76 : decode cX8_compile 76 = .ok (.aload_n 0, 1) := by decide +kernel
theorem dX8_compile_77 : decode cX8_compile 77 = .ok (.aload_n 0, 1) := by decide +kernel
theorem dX8_compile_78 : decode cX8_compile 78 = .ok (.getfield 47, 3) := by decide +kernel
theorem dX8_compile_81 : decode cX8_compile 81 = .ok (.getfield 129, 3) := by decide +kernel
theorem dX8_compile_84 : decode cX8_compile 84 = .ok (.putfield 90, 3) := by decide +kernel
theorem dX8_compile_87 : decode cX8_compile 87 = .ok (.aload_n 0, 1) := by decide +kernel
theorem dX8_compile_88 : decode cX8_compile 88 = .ok (.getfield 56, 3) := by decide +kernel
theorem dX8_compile_91 : decode cX8_compile 91 = .ok (.invokevirtual 132, 3) := by decide +kernel
theorem dX8_compile_94 : decode cX8_compile 94 = .ok (.aload_n 0, 1) := by decide +kernel
theorem dX8_compile_95 : decode cX8_compile 95 = .ok (.getfield 65, 3) := by decide +kernel
theorem dX8_compile_98 : decode cX8_compile 98 = .ok (.invokevirtual 135, 3) := by decide +kernel
theorem dX8_compile_101 : decode cX8_compile 101 = .ok (.aload_n 0, 1) := by decide +kernel
theorem dX8_compile_102 : decode cX8_compile 102 = .ok (.getfield 72, 3) := by decide +kernel
theorem dX8_compile_105 : decode cX8_compile 105 = .ok (.invokevirtual 138, 3) := by decide +kernel
theorem dX8_compile_108 : decode cX8_compile 108 = .ok (.aload_n 0, 1) := by decide +kernel
theorem dX8_compile_109 : decode cX8_compile 109 = .ok (.iconst 1, 1) := by decide +kernel
theorem dX8_compile_110 : decode cX8_compile 110 = .ok (.putfield 83, 3) := by decide +kernel
theorem dX8_compile_113 : decode cX8_compile 113 = .ok (.aload_n 0, 1) := by decide +kernel
theorem dX8_compile_114 : decode cX8_compile 114 = .ok (.getfield 56, 3) := by decide +kernel
theorem dX8_compile_117 : decode cX8_compile 117 = .ok (.getfield 141, 3) := by decide +kernel
theorem dX8_compile_120 : decode cX8_compile 120 = .ok (.ireturn, 1) := by decide +kernel
theorem dX8_fault_0 : decode cX8_fault 0 = .ok (.aload_n 0, 1) := by decide +kernel
theorem dX8_fault_1 : decode cX8_fault 1 = .ok (.getfield 29, 3) := by decide +kernel
theorem dX8_fault_4 : decode cX8_fault 4 = .ok (.getfield 144, 3) := by decide +kernel
theorem dX8_fault_7 : decode cX8_fault 7 = .ok (.ireturn, 1) := by decide +kernel
theorem dX8_size_0 : decode cX8_size 0 = .ok (.aload_n 0, 1) := by decide +kernel
theorem dX8_size_1 : decode cX8_size 1 = .ok (.invokevirtual 147, 3) := by decide +kernel
theorem dX8_size_4 : decode cX8_size 4 = .ok (.iload_n 1, 1) := by decide +kernel
theorem dX8_size_5 : decode cX8_size 5 = .ok (.tableswitch 69 0 4 #[35, 43, 48, 53, 61], 35) := by decide +kernel
theorem dX8_size_40 : decode cX8_size 40 = .ok (.aload_n 0, 1) := by decide +kernel
theorem dX8_size_41 : decode cX8_size 41 = .ok (.getfield 56, 3) := by decide +kernel
theorem dX8_size_44 : decode cX8_size 44 = .ok (.getfield 141, 3) := by decide +kernel
theorem dX8_size_47 : decode cX8_size 47 = .ok (.ireturn, 1) := by decide +kernel
theorem dX8_size_48 : decode cX8_size 48 = .ok (.aload_n 0, 1) := by decide +kernel
theorem dX8_size_49 : decode cX8_size 49 = .ok (.getfield 87, 3) := by decide +kernel
theorem dX8_size_52 : decode cX8_size 52 = .ok (.ireturn, 1) := by decide +kernel
theorem dX8_size_53 : decode cX8_size 53 = .ok (.aload_n 0, 1) := by decide +kernel
theorem dX8_size_54 : decode cX8_size 54 = .ok (.getfield 90, 3) := by decide +kernel
theorem dX8_size_57 : decode cX8_size 57 = .ok (.ireturn, 1) := by decide +kernel
theorem dX8_size_58 : decode cX8_size 58 = .ok (.aload_n 0, 1) := by decide +kernel
theorem dX8_size_59 : decode cX8_size 59 = .ok (.getfield 65, 3) := by decide +kernel
theorem dX8_size_62 : decode cX8_size 62 = .ok (.getfield 150, 3) := by decide +kernel
theorem dX8_size_65 : decode cX8_size 65 = .ok (.ireturn, 1) := by decide +kernel
theorem dX8_size_66 : decode cX8_size 66 = .ok (.aload_n 0, 1) := by decide +kernel
theorem dX8_size_67 : decode cX8_size 67 = .ok (.getfield 65, 3) := by decide +kernel
theorem dX8_size_70 : decode cX8_size 70 = .ok (.invokevirtual 153, 3) := by decide +kernel
theorem dX8_size_73 : decode cX8_size 73 = .ok (.ireturn, 1) := by decide +kernel
theorem dX8_size_74 : decode cX8_size 74 = .ok (.new 156, 3) := by decide +kernel
theorem dX8_size_77 : decode cX8_size 77 = .ok (.dup, 1) := by decide +kernel
theorem dX8_size_78 : decode cX8_size 78 = .ok (.ldc 158, 2) := by decide +kernel
theorem dX8_size_80 : decode cX8_size 80 = .ok (.invokespecial 160, 3) := by decide +kernel
theorem dX8_size_83 : decode cX8_size 83 = .ok (.athrow, 1) := by decide +kernel
theorem dX8_next_0 : decode cX8_next 0 = .ok (.aload_n 0, 1) := by decide +kernel
theorem dX8_next_1 : decode cX8_next 1 = .ok (.invokevirtual 147, 3) := by decide +kernel
theorem dX8_next_4 : decode cX8_next 4 = .ok (.iload_n 1, 1) := by decide +kernel
theorem dX8_next_5 : decode cX8_next 5 = .ok (.ifCond .lt 21, 3) := by decide +kernel
theorem dX8_next_8 : decode cX8_next 8 = .ok (.iload_n 1, 1) := by decide +kernel
theorem dX8_next_9 : decode cX8_next 9 = .ok (.aload_n 0, 1) := by decide +kernel
theorem dX8_next_10 : decode cX8_next 10 = .ok (.getfield 56, 3) := by decide +kernel
theorem dX8_next_13 : decode cX8_next 13 = .ok (.getfield 141, 3) := by decide +kernel
theorem dX8_next_16 : decode cX8_next 16 = .ok (.if_icmp .ge 10, 3) := by decide +kernel
theorem dX8_next_19 : decode cX8_next 19 = .ok (.iload_n 2, 1) := by decide +kernel
theorem dX8_next_20 : decode cX8_next 20 = .ok (.invokestatic 161, 3) := by decide +kernel
theorem dX8_next_23 : decode cX8_next 23 = .ok (.ifCond .ne 13, 3) := by decide +kernel
theorem dX8_next_26 : decode cX8_next 26 = .ok (.new 164, 3) := by decide +kernel
theorem dX8_next_29 : decode cX8_next 29 = .ok (.dup, 1) := by decide +kernel
theorem dX8_next_30 : decode cX8_next 30 = .ok (.ldc 166, 2) := by decide +kernel
theorem dX8_next_32 : decode cX8_next 32 = .ok (.invokespecial 168, 3) := by decide +kernel
theorem dX8_next_35 : decode cX8_next 35 = .ok (.athrow, 1) := by decide +kernel
theorem dX8_next_36 : decode cX8_next 36 = .ok (.aload_n 0, 1) := by decide +kernel
theorem dX8_next_37 : decode cX8_next 37 = .ok (.getfield 56, 3) := by decide +kernel
theorem dX8_next_40 : decode cX8_next 40 = .ok (.iload_n 1, 1) := by decide +kernel
theorem dX8_next_41 : decode cX8_next 41 = .ok (.iload_n 2, 1) := by decide +kernel
theorem dX8_next_42 : decode cX8_next 42 = .ok (.invokevirtual 169, 3) := by decide +kernel
theorem dX8_next_45 : decode cX8_next 45 = .ok (.ireturn, 1) := by decide +kernel
theorem dX8_output_0 : decode cX8_output 0 = .ok (.aload_n 0, 1) := by decide +kernel
theorem dX8_output_1 : decode cX8_output 1 = .ok (.invokevirtual 147, 3) := by decide +kernel
theorem dX8_output_4 : decode cX8_output 4 = .ok (.iload_n 1, 1) := by decide +kernel
theorem dX8_output_5 : decode cX8_output 5 = .ok (.ifCond .lt 36, 3) := by decide +kernel
theorem dX8_output_8 : decode cX8_output 8 = .ok (.iload_n 1, 1) := by decide +kernel
theorem dX8_output_9 : decode cX8_output 9 = .ok (.aload_n 0, 1) := by decide +kernel
theorem dX8_output_10 : decode cX8_output 10 = .ok (.getfield 65, 3) := by decide +kernel
theorem dX8_output_13 : decode cX8_output 13 = .ok (.getfield 150, 3) := by decide +kernel
theorem dX8_output_16 : decode cX8_output 16 = .ok (.if_icmp .gt 25, 3) := by decide +kernel
theorem dX8_output_19 : decode cX8_output 19 = .ok (.iload_n 2, 1) := by decide +kernel
theorem dX8_output_20 : decode cX8_output 20 = .ok (.ifCond .lt 21, 3) := by decide +kernel
theorem dX8_output_23 : decode cX8_output 23 = .ok (.iload_n 2, 1) := by decide +kernel
theorem dX8_output_24 : decode cX8_output 24 = .ok (.aload_n 0, 1) := by decide +kernel
theorem dX8_output_25 : decode cX8_output 25 = .ok (.getfield 65, 3) := by decide +kernel
theorem dX8_output_28 : decode cX8_output 28 = .ok (.invokevirtual 173, 3) := by decide +kernel
theorem dX8_output_31 : decode cX8_output 31 = .ok (.if_icmp .ge 10, 3) := by decide +kernel
theorem dX8_output_34 : decode cX8_output 34 = .ok (.iload_n 3, 1) := by decide +kernel
theorem dX8_output_35 : decode cX8_output 35 = .ok (.invokestatic 161, 3) := by decide +kernel
theorem dX8_output_38 : decode cX8_output 38 = .ok (.ifCond .ne 13, 3) := by decide +kernel
theorem dX8_output_41 : decode cX8_output 41 = .ok (.new 176, 3) := by decide +kernel
theorem dX8_output_44 : decode cX8_output 44 = .ok (.dup, 1) := by decide +kernel
theorem dX8_output_45 : decode cX8_output 45 = .ok (.ldc 178, 2) := by decide +kernel
theorem dX8_output_47 : decode cX8_output 47 = .ok (.invokespecial 180, 3) := by decide +kernel
theorem dX8_output_50 : decode cX8_output 50 = .ok (.athrow, 1) := by decide +kernel
theorem dX8_output_51 : decode cX8_output 51 = .ok (.aload_n 0, 1) := by decide +kernel
theorem dX8_output_52 : decode cX8_output 52 = .ok (.getfield 65, 3) := by decide +kernel
theorem dX8_output_55 : decode cX8_output 55 = .ok (.iload_n 1, 1) := by decide +kernel
theorem dX8_output_56 : decode cX8_output 56 = .ok (.iload_n 2, 1) := by decide +kernel
theorem dX8_output_57 : decode cX8_output 57 = .ok (.iload_n 3, 1) := by decide +kernel
theorem dX8_output_58 : decode cX8_output 58 = .ok (.invokevirtual 181, 3) := by decide +kernel
theorem dX8_output_61 : decode cX8_output 61 = .ok (.ireturn, 1) := by decide +kernel
theorem dX8_begin_0 : decode cX8_begin 0 = .ok (.aload_n 0, 1) := by decide +kernel
theorem dX8_begin_1 : decode cX8_begin 1 = .ok (.invokevirtual 147, 3) := by decide +kernel
theorem dX8_begin_4 : decode cX8_begin 4 = .ok (.aload_n 0, 1) := by decide +kernel
theorem dX8_begin_5 : decode cX8_begin 5 = .ok (.getfield 72, 3) := by decide +kernel
theorem dX8_begin_8 : decode cX8_begin 8 = .ok (.invokevirtual 185, 3) := by decide +kernel
theorem dX8_begin_11 : decode cX8_begin 11 = .ok (.aload_n 0, 1) := by decide +kernel
theorem dX8_begin_12 : decode cX8_begin 12 = .ok (.getfield 72, 3) := by decide +kernel
theorem dX8_begin_15 : decode cX8_begin 15 = .ok (.invokevirtual 188, 3) := by decide +kernel
theorem dX8_begin_18 : decode cX8_begin 18 = .ok (.ifCond .ne 7, 3) := by decide +kernel
theorem dX8_begin_21 : decode cX8_begin 21 = .ok (.iconst 1, 1) := by decide +kernel
theorem dX8_begin_22 : decode cX8_begin 22 = .ok (.goto 4, 3) := by decide +kernel
theorem dX8_begin_25 : decode cX8_begin 25 = .ok (.iconst 0, 1) := by decide +kernel
theorem dX8_begin_26 : decode cX8_begin 26 = .ok (.ireturn, 1) := by decide +kernel
theorem dX8_step_0 : decode cX8_step 0 = .ok (.aload_n 0, 1) := by decide +kernel
theorem dX8_step_1 : decode cX8_step 1 = .ok (.getfield 72, 3) := by decide +kernel
theorem dX8_step_4 : decode cX8_step 4 = .ok (.invokevirtual 192, 3) := by decide +kernel
theorem dX8_step_7 : decode cX8_step 7 = .ok (.ifCond .ne 13, 3) := by decide +kernel
theorem dX8_step_10 : decode cX8_step 10 = .ok (.new 195, 3) := by decide +kernel
theorem dX8_step_13 : decode cX8_step 13 = .ok (.dup, 1) := by decide +kernel
theorem dX8_step_14 : decode cX8_step 14 = .ok (.ldc 197, 2) := by decide +kernel
theorem dX8_step_16 : decode cX8_step 16 = .ok (.invokespecial 199, 3) := by decide +kernel
theorem dX8_step_19 : decode cX8_step 19 = .ok (.athrow, 1) := by decide +kernel
theorem dX8_step_20 : decode cX8_step 20 = .ok (.iload_n 1, 1) := by decide +kernel
theorem dX8_step_21 : decode cX8_step 21 = .ok (.invokestatic 161, 3) := by decide +kernel
theorem dX8_step_24 : decode cX8_step 24 = .ok (.ifCond .ne 13, 3) := by decide +kernel
theorem dX8_step_27 : decode cX8_step 27 = .ok (.new 156, 3) := by decide +kernel
theorem dX8_step_30 : decode cX8_step 30 = .ok (.dup, 1) := by decide +kernel
theorem dX8_step_31 : decode cX8_step 31 = .ok (.ldc 200, 2) := by decide +kernel
theorem dX8_step_33 : decode cX8_step 33 = .ok (.invokespecial 160, 3) := by decide +kernel
theorem dX8_step_36 : decode cX8_step 36 = .ok (.athrow, 1) := by decide +kernel
theorem dX8_step_37 : decode cX8_step 37 = .ok (.aload_n 0, 1) := by decide +kernel
theorem dX8_step_38 : decode cX8_step 38 = .ok (.getfield 72, 3) := by decide +kernel
theorem dX8_step_41 : decode cX8_step 41 = .ok (.iload_n 1, 1) := by decide +kernel
theorem dX8_step_42 : decode cX8_step 42 = .ok (.invokevirtual 202, 3) := by decide +kernel
theorem dX8_step_45 : decode cX8_step 45 = .ok (.aload_n 0, 1) := by decide +kernel
theorem dX8_step_46 : decode cX8_step 46 = .ok (.getfield 72, 3) := by decide +kernel
theorem dX8_step_49 : decode cX8_step 49 = .ok (.getfield 205, 3) := by decide +kernel
theorem dX8_step_52 : decode cX8_step 52 = .ok (.ireturn, 1) := by decide +kernel
theorem dX8_time_0 : decode cX8_time 0 = .ok (.aload_n 0, 1) := by decide +kernel
theorem dX8_time_1 : decode cX8_time 1 = .ok (.getfield 72, 3) := by decide +kernel
theorem dX8_time_4 : decode cX8_time 4 = .ok (.getfield 208, 3) := by decide +kernel
theorem dX8_time_7 : decode cX8_time 7 = .ok (.ifCond .eq 13, 3) := by decide +kernel
theorem dX8_time_10 : decode cX8_time 10 = .ok (.aload_n 0, 1) := by decide +kernel
theorem dX8_time_11 : decode cX8_time 11 = .ok (.getfield 72, 3) := by decide +kernel
theorem dX8_time_14 : decode cX8_time 14 = .ok (.getfield 211, 3) := by decide +kernel
theorem dX8_time_17 : decode cX8_time 17 = .ok (.goto 4, 3) := by decide +kernel
theorem dX8_time_20 : decode cX8_time 20 = .ok (.iconst (-1), 1) := by decide +kernel
theorem dX8_time_21 : decode cX8_time 21 = .ok (.ireturn, 1) := by decide +kernel
theorem dX8_window_0 : decode cX8_window 0 = .ok (.aload_n 0, 1) := by decide +kernel
theorem dX8_window_1 : decode cX8_window 1 = .ok (.getfield 72, 3) := by decide +kernel
theorem dX8_window_4 : decode cX8_window 4 = .ok (.invokevirtual 188, 3) := by decide +kernel
theorem dX8_window_7 : decode cX8_window 7 = .ok (.ifCond .eq 13, 3) := by decide +kernel
theorem dX8_window_10 : decode cX8_window 10 = .ok (.aload_n 0, 1) := by decide +kernel
theorem dX8_window_11 : decode cX8_window 11 = .ok (.getfield 72, 3) := by decide +kernel
theorem dX8_window_14 : decode cX8_window 14 = .ok (.invokevirtual 214, 3) := by decide +kernel
theorem dX8_window_17 : decode cX8_window 17 = .ok (.goto 4, 3) := by decide +kernel
theorem dX8_window_20 : decode cX8_window 20 = .ok (.iconst (-1), 1) := by decide +kernel
theorem dX8_window_21 : decode cX8_window 21 = .ok (.ireturn, 1) := by decide +kernel
theorem dX8_loop_0 : decode cX8_loop 0 = .ok (.aload_n 0, 1) := by decide +kernel
theorem dX8_loop_1 : decode cX8_loop 1 = .ok (.getfield 72, 3) := by decide +kernel
theorem dX8_loop_4 : decode cX8_loop 4 = .ok (.getfield 208, 3) := by decide +kernel
theorem dX8_loop_7 : decode cX8_loop 7 = .ok (.ifCond .ne 13, 3) := by decide +kernel
theorem dX8_loop_10 : decode cX8_loop 10 = .ok (.new 195, 3) := by decide +kernel
theorem dX8_loop_13 : decode cX8_loop 13 = .ok (.dup, 1) := by decide +kernel
theorem dX8_loop_14 : decode cX8_loop 14 = .ok (.ldc 217, 2) := by decide +kernel
theorem dX8_loop_16 : decode cX8_loop 16 = .ok (.invokespecial 199, 3) := by decide +kernel
theorem dX8_loop_19 : decode cX8_loop 19 = .ok (.athrow, 1) := by decide +kernel
theorem dX8_loop_20 : decode cX8_loop 20 = .ok (.iload_n 1, 1) := by decide +kernel
theorem dX8_loop_21 : decode cX8_loop 21 = .ok (.ifCond .lt 14, 3) := by decide +kernel
theorem dX8_loop_24 : decode cX8_loop 24 = .ok (.iload_n 1, 1) := by decide +kernel
theorem dX8_loop_25 : decode cX8_loop 25 = .ok (.aload_n 0, 1) := by decide +kernel
theorem dX8_loop_26 : decode cX8_loop 26 = .ok (.getfield 72, 3) := by decide +kernel
theorem dX8_loop_29 : decode cX8_loop 29 = .ok (.getfield 211, 3) := by decide +kernel
theorem dX8_loop_32 : decode cX8_loop 32 = .ok (.if_icmp .lt 13, 3) := by decide +kernel
theorem dX8_loop_35 : decode cX8_loop 35 = .ok (.new 176, 3) := by decide +kernel
theorem dX8_loop_38 : decode cX8_loop 38 = .ok (.dup, 1) := by decide +kernel
theorem dX8_loop_39 : decode cX8_loop 39 = .ok (.ldc 219, 2) := by decide +kernel
theorem dX8_loop_41 : decode cX8_loop 41 = .ok (.invokespecial 180, 3) := by decide +kernel
theorem dX8_loop_44 : decode cX8_loop 44 = .ok (.athrow, 1) := by decide +kernel
theorem dX8_loop_45 : decode cX8_loop 45 = .ok (.aload_n 0, 1) := by decide +kernel
theorem dX8_loop_46 : decode cX8_loop 46 = .ok (.getfield 72, 3) := by decide +kernel
theorem dX8_loop_49 : decode cX8_loop 49 = .ok (.iload_n 1, 1) := by decide +kernel
theorem dX8_loop_50 : decode cX8_loop 50 = .ok (.invokevirtual 221, 3) := by decide +kernel
theorem dX8_loop_53 : decode cX8_loop 53 = .ok (.ireturn, 1) := by decide +kernel
theorem dX8_report_0 : decode cX8_report 0 = .ok (.aload_n 0, 1) := by decide +kernel
theorem dX8_report_1 : decode cX8_report 1 = .ok (.getfield 79, 3) := by decide +kernel
theorem dX8_report_4 : decode cX8_report 4 = .ok (.iconst 0, 1) := by decide +kernel
theorem dX8_report_5 : decode cX8_report 5 = .ok (.invokevirtual 224, 3) := by decide +kernel
theorem dX8_report_8 : decode cX8_report 8 = .ok (.aload_n 0, 1) := by decide +kernel
theorem dX8_report_9 : decode cX8_report 9 = .ok (.getfield 83, 3) := by decide +kernel
theorem dX8_report_12 : decode cX8_report 12 = .ok (.ifCond .ne 16, 3) := by decide +kernel
theorem dX8_report_15 : decode cX8_report 15 = .ok (.aload_n 0, 1) := by decide +kernel
theorem dX8_report_16 : decode cX8_report 16 = .ok (.getfield 79, 3) := by decide +kernel
theorem dX8_report_19 : decode cX8_report 19 = .ok (.ldc 227, 2) := by decide +kernel
theorem dX8_report_21 : decode cX8_report 21 = .ok (.invokevirtual 229, 3) := by decide +kernel
theorem dX8_report_24 : decode cX8_report 24 = .ok (.pop, 1) := by decide +kernel
theorem dX8_report_25 : decode cX8_report 25 = .ok (.goto 94, 3) := by decide +kernel
theorem dX8_report_28 : decode cX8_report 28 = .ok (.aload_n 0, 1) := by decide +kernel
theorem dX8_report_29 : decode cX8_report 29 = .ok (.getfield 72, 3) := by decide +kernel
theorem dX8_report_32 : decode cX8_report 32 = .ok (.getfield 208, 3) := by decide +kernel
theorem dX8_report_35 : decode cX8_report 35 = .ok (.ifCond .ne 19, 3) := by decide +kernel
theorem dX8_report_38 : decode cX8_report 38 = .ok (.aload_n 0, 1) := by decide +kernel
theorem dX8_report_39 : decode cX8_report 39 = .ok (.ldc 233, 2) := by decide +kernel
theorem dX8_report_41 : decode cX8_report 41 = .ok (.aload_n 0, 1) := by decide +kernel
theorem dX8_report_42 : decode cX8_report 42 = .ok (.getfield 56, 3) := by decide +kernel
theorem dX8_report_45 : decode cX8_report 45 = .ok (.getfield 141, 3) := by decide +kernel
theorem dX8_report_48 : decode cX8_report 48 = .ok (.invokevirtual 235, 3) := by decide +kernel
theorem dX8_report_51 : decode cX8_report 51 = .ok (.goto 68, 3) := by decide +kernel
theorem dX8_report_54 : decode cX8_report 54 = .ok (.aload_n 0, 1) := by decide +kernel
theorem dX8_report_55 : decode cX8_report 55 = .ok (.getfield 72, 3) := by decide +kernel
theorem dX8_report_58 : decode cX8_report 58 = .ok (.invokevirtual 188, 3) := by decide +kernel
theorem dX8_report_61 : decode cX8_report 61 = .ok (.ifCond .eq 32, 3) := by decide +kernel
theorem dX8_report_64 : decode cX8_report 64 = .ok (.aload_n 0, 1) := by decide +kernel
theorem dX8_report_65 : decode cX8_report 65 = .ok (.ldc 239, 2) := by decide +kernel
theorem dX8_report_67 : decode cX8_report 67 = .ok (.aload_n 0, 1) := by decide +kernel
theorem dX8_report_68 : decode cX8_report 68 = .ok (.getfield 72, 3) := by decide +kernel
theorem dX8_report_71 : decode cX8_report 71 = .ok (.getfield 211, 3) := by decide +kernel
theorem dX8_report_74 : decode cX8_report 74 = .ok (.invokevirtual 235, 3) := by decide +kernel
theorem dX8_report_77 : decode cX8_report 77 = .ok (.aload_n 0, 1) := by decide +kernel
theorem dX8_report_78 : decode cX8_report 78 = .ok (.ldc 241, 2) := by decide +kernel
theorem dX8_report_80 : decode cX8_report 80 = .ok (.aload_n 0, 1) := by decide +kernel
theorem dX8_report_81 : decode cX8_report 81 = .ok (.getfield 72, 3) := by decide +kernel
theorem dX8_report_84 : decode cX8_report 84 = .ok (.invokevirtual 214, 3) := by decide +kernel
theorem dX8_report_87 : decode cX8_report 87 = .ok (.invokevirtual 235, 3) := by decide +kernel
theorem dX8_report_90 : decode cX8_report 90 = .ok (.goto 29, 3) := by decide +kernel
theorem dX8_report_93 : decode cX8_report 93 = .ok (.aload_n 0, 1) := by decide +kernel
theorem dX8_report_94 : decode cX8_report 94 = .ok (.ldc 243, 2) := by decide +kernel
theorem dX8_report_96 : decode cX8_report 96 = .ok (.aload_n 0, 1) := by decide +kernel
theorem dX8_report_97 : decode cX8_report 97 = .ok (.getfield 72, 3) := by decide +kernel
theorem dX8_report_100 : decode cX8_report 100 = .ok (.getfield 211, 3) := by decide +kernel
theorem dX8_report_103 : decode cX8_report 103 = .ok (.invokevirtual 235, 3) := by decide +kernel
theorem dX8_report_106 : decode cX8_report 106 = .ok (.aload_n 0, 1) := by decide +kernel
theorem dX8_report_107 : decode cX8_report 107 = .ok (.ldc 245, 2) := by decide +kernel
theorem dX8_report_109 : decode cX8_report 109 = .ok (.aload_n 0, 1) := by decide +kernel
theorem dX8_report_110 : decode cX8_report 110 = .ok (.getfield 72, 3) := by decide +kernel
theorem dX8_report_113 : decode cX8_report 113 = .ok (.getfield 205, 3) := by decide +kernel
theorem dX8_report_116 : decode cX8_report 116 = .ok (.invokevirtual 235, 3) := by decide +kernel
theorem dX8_report_119 : decode cX8_report 119 = .ok (.aload_n 0, 1) := by decide +kernel
theorem dX8_report_120 : decode cX8_report 120 = .ok (.getfield 79, 3) := by decide +kernel
theorem dX8_report_123 : decode cX8_report 123 = .ok (.invokevirtual 247, 3) := by decide +kernel
theorem dX8_report_126 : decode cX8_report 126 = .ok (.ireturn, 1) := by decide +kernel
theorem dX8_said_0 : decode cX8_said 0 = .ok (.iload_n 1, 1) := by decide +kernel
theorem dX8_said_1 : decode cX8_said 1 = .ok (.ifCond .lt 25, 3) := by decide +kernel
theorem dX8_said_4 : decode cX8_said 4 = .ok (.iload_n 1, 1) := by decide +kernel
theorem dX8_said_5 : decode cX8_said 5 = .ok (.aload_n 0, 1) := by decide +kernel
theorem dX8_said_6 : decode cX8_said 6 = .ok (.getfield 79, 3) := by decide +kernel
theorem dX8_said_9 : decode cX8_said 9 = .ok (.invokevirtual 247, 3) := by decide +kernel
theorem dX8_said_12 : decode cX8_said 12 = .ok (.if_icmp .ge 14, 3) := by decide +kernel
theorem dX8_said_15 : decode cX8_said 15 = .ok (.aload_n 0, 1) := by decide +kernel
theorem dX8_said_16 : decode cX8_said 16 = .ok (.getfield 79, 3) := by decide +kernel
theorem dX8_said_19 : decode cX8_said 19 = .ok (.iload_n 1, 1) := by decide +kernel
theorem dX8_said_20 : decode cX8_said 20 = .ok (.invokevirtual 249, 3) := by decide +kernel
theorem dX8_said_23 : decode cX8_said 23 = .ok (.goto 4, 3) := by decide +kernel
theorem dX8_said_26 : decode cX8_said 26 = .ok (.iconst 0, 1) := by decide +kernel
theorem dX8_said_27 : decode cX8_said 27 = .ok (.ireturn, 1) := by decide +kernel
theorem dX8_write_0 : decode cX8_write 0 = .ok (.aload_n 0, 1) := by decide +kernel
theorem dX8_write_1 : decode cX8_write 1 = .ok (.getfield 79, 3) := by decide +kernel
theorem dX8_write_4 : decode cX8_write 4 = .ok (.aload_n 1, 1) := by decide +kernel
theorem dX8_write_5 : decode cX8_write 5 = .ok (.invokevirtual 229, 3) := by decide +kernel
theorem dX8_write_8 : decode cX8_write 8 = .ok (.pop, 1) := by decide +kernel
theorem dX8_write_9 : decode cX8_write 9 = .ok (.aload_n 0, 1) := by decide +kernel
theorem dX8_write_10 : decode cX8_write 10 = .ok (.getfield 79, 3) := by decide +kernel
theorem dX8_write_13 : decode cX8_write 13 = .ok (.iload_n 2, 1) := by decide +kernel
theorem dX8_write_14 : decode cX8_write 14 = .ok (.invokevirtual 253, 3) := by decide +kernel
theorem dX8_write_17 : decode cX8_write 17 = .ok (.pop, 1) := by decide +kernel
theorem dX8_write_18 : decode cX8_write 18 = .ok (.return_, 1) := by decide +kernel
theorem dX8_requireCompiled_0 : decode cX8_requireCompiled 0 = .ok (.aload_n 0, 1) := by decide +kernel
theorem dX8_requireCompiled_1 : decode cX8_requireCompiled 1 = .ok (.getfield 83, 3) := by decide +kernel
theorem dX8_requireCompiled_4 : decode cX8_requireCompiled 4 = .ok (.ifCond .ne 14, 3) := by decide +kernel
theorem dX8_requireCompiled_7 : decode cX8_requireCompiled 7 = .ok (.new 195, 3) := by decide +kernel
theorem dX8_requireCompiled_10 : decode cX8_requireCompiled 10 = .ok (.dup, 1) := by decide +kernel
theorem dX8_requireCompiled_11 : decode cX8_requireCompiled 11 = .ok (.ldc_w 256, 3) := by decide +kernel
theorem dX8_requireCompiled_14 : decode cX8_requireCompiled 14 = .ok (.invokespecial 199, 3) := by decide +kernel
theorem dX8_requireCompiled_17 : decode cX8_requireCompiled 17 = .ok (.athrow, 1) := by decide +kernel
theorem dX8_requireCompiled_18 : decode cX8_requireCompiled 18 = .ok (.return_, 1) := by decide +kernel
theorem dX8_isLetter_0 : decode cX8_isLetter 0 = .ok (.iload_n 0, 1) := by decide +kernel
theorem dX8_isLetter_1 : decode cX8_isLetter 1 = .ok (.ifCond .lt 13, 3) := by decide +kernel
theorem dX8_isLetter_4 : decode cX8_isLetter 4 = .ok (.iload_n 0, 1) := by decide +kernel
theorem dX8_isLetter_5 : decode cX8_isLetter 5 = .ok (.bipush 8, 2) := by decide +kernel
theorem dX8_isLetter_7 : decode cX8_isLetter 7 = .ok (.if_icmp .ge 7, 3) := by decide +kernel
theorem dX8_isLetter_10 : decode cX8_isLetter 10 = .ok (.iconst 1, 1) := by decide +kernel
theorem dX8_isLetter_11 : decode cX8_isLetter 11 = .ok (.goto 4, 3) := by decide +kernel
theorem dX8_isLetter_14 : decode cX8_isLetter 14 = .ok (.iconst 0, 1) := by decide +kernel
theorem dX8_isLetter_15 : decode cX8_isLetter 15 = .ok (.ireturn, 1) := by decide +kernel
theorem dX8_byteOf_0 : decode cX8_byteOf 0 = .ok (.lload_n 0, 1) := by decide +kernel
theorem dX8_byteOf_1 : decode cX8_byteOf 1 = .ok (.bipush 8, 2) := by decide +kernel
theorem dX8_byteOf_3 : decode cX8_byteOf 3 = .ok (.iload_n 2, 1) := by decide +kernel
theorem dX8_byteOf_4 : decode cX8_byteOf 4 = .ok (.imul, 1) := by decide +kernel
theorem dX8_byteOf_5 : decode cX8_byteOf 5 = .ok (.lushr, 1) := by decide +kernel
theorem dX8_byteOf_6 : decode cX8_byteOf 6 = .ok (.l2i, 1) := by decide +kernel
theorem dX8_byteOf_7 : decode cX8_byteOf 7 = .ok (.sipush 255, 3) := by decide +kernel
theorem dX8_byteOf_10 : decode cX8_byteOf 10 = .ok (.iand, 1) := by decide +kernel
theorem dX8_byteOf_11 : decode cX8_byteOf 11 = .ok (.ireturn, 1) := by decide +kernel
theorem dX8_charactersIn_0 : decode cX8_charactersIn 0 = .ok (.iconst 0, 1) := by decide +kernel
theorem dX8_charactersIn_1 : decode cX8_charactersIn 1 = .ok (.istore_n 2, 1) := by decide +kernel
theorem dX8_charactersIn_2 : decode cX8_charactersIn 2 = .ok (.iload_n 2, 1) := by decide +kernel
theorem dX8_charactersIn_3 : decode cX8_charactersIn 3 = .ok (.bipush 8, 2) := by decide +kernel
theorem dX8_charactersIn_5 : decode cX8_charactersIn 5 = .ok (.if_icmp .ge 35, 3) := by decide +kernel
theorem dX8_charactersIn_8 : decode cX8_charactersIn 8 = .ok (.lload_n 0, 1) := by decide +kernel
theorem dX8_charactersIn_9 : decode cX8_charactersIn 9 = .ok (.iload_n 2, 1) := by decide +kernel
theorem dX8_charactersIn_10 : decode cX8_charactersIn 10 = .ok (.invokestatic 97, 3) := by decide +kernel
theorem dX8_charactersIn_13 : decode cX8_charactersIn 13 = .ok (.istore_n 3, 1) := by decide +kernel
theorem dX8_charactersIn_14 : decode cX8_charactersIn 14 = .ok (.iload_n 3, 1) := by decide +kernel
theorem dX8_charactersIn_15 : decode cX8_charactersIn 15 = .ok (.ifCond .ne 5, 3) := by decide +kernel
theorem dX8_charactersIn_18 : decode cX8_charactersIn 18 = .ok (.iload_n 2, 1) := by decide +kernel
theorem dX8_charactersIn_19 : decode cX8_charactersIn 19 = .ok (.ireturn, 1) := by decide +kernel
theorem dX8_charactersIn_20 : decode cX8_charactersIn 20 = .ok (.iload_n 3, 1) := by decide +kernel
theorem dX8_charactersIn_21 : decode cX8_charactersIn 21 = .ok (.bipush 33, 2) := by decide +kernel
theorem dX8_charactersIn_23 : decode cX8_charactersIn 23 = .ok (.if_icmp .lt 9, 3) := by decide +kernel
theorem dX8_charactersIn_26 : decode cX8_charactersIn 26 = .ok (.iload_n 3, 1) := by decide +kernel
theorem dX8_charactersIn_27 : decode cX8_charactersIn 27 = .ok (.bipush 126, 2) := by decide +kernel
theorem dX8_charactersIn_29 : decode cX8_charactersIn 29 = .ok (.if_icmp .le 5, 3) := by decide +kernel
theorem dX8_charactersIn_32 : decode cX8_charactersIn 32 = .ok (.iconst (-1), 1) := by decide +kernel
theorem dX8_charactersIn_33 : decode cX8_charactersIn 33 = .ok (.ireturn, 1) := by decide +kernel
theorem dX8_charactersIn_34 : decode cX8_charactersIn 34 = .ok (.iinc 2 1, 3) := by decide +kernel
theorem dX8_charactersIn_37 : decode cX8_charactersIn 37 = .ok (.goto (-35), 3) := by decide +kernel
theorem dX8_charactersIn_40 : decode cX8_charactersIn 40 = .ok (.bipush 8, 2) := by decide +kernel
theorem dX8_charactersIn_42 : decode cX8_charactersIn 42 = .ok (.ireturn, 1) := by decide +kernel
theorem dX8_has_0 : decode cX8_has 0 = .ok (.iload_n 0, 1) := by decide +kernel
theorem dX8_has_1 : decode cX8_has 1 = .ok (.iload_n 1, 1) := by decide +kernel
theorem dX8_has_2 : decode cX8_has 2 = .ok (.ishr, 1) := by decide +kernel
theorem dX8_has_3 : decode cX8_has 3 = .ok (.iconst 1, 1) := by decide +kernel
theorem dX8_has_4 : decode cX8_has 4 = .ok (.iand, 1) := by decide +kernel
theorem dX8_has_5 : decode cX8_has 5 = .ok (.ifCond .eq 7, 3) := by decide +kernel
theorem dX8_has_8 : decode cX8_has 8 = .ok (.iconst 1, 1) := by decide +kernel
theorem dX8_has_9 : decode cX8_has 9 = .ok (.goto 4, 3) := by decide +kernel
theorem dX8_has_12 : decode cX8_has 12 = .ok (.iconst 0, 1) := by decide +kernel
theorem dX8_has_13 : decode cX8_has 13 = .ok (.ireturn, 1) := by decide +kernel
theorem dJ0_indexOf_0f7a4_0 : decode cJ0_indexOf_0f7a4 0 = .ok (.aload_n 0, 1) := by decide +kernel
theorem dJ0_indexOf_0f7a4_1 : decode cJ0_indexOf_0f7a4 1 = .ok (.iload_n 1, 1) := by decide +kernel
theorem dJ0_indexOf_0f7a4_2 : decode cJ0_indexOf_0f7a4 2 = .ok (.iconst 0, 1) := by decide +kernel
theorem dJ0_indexOf_0f7a4_3 : decode cJ0_indexOf_0f7a4 3 = .ok (.invokevirtual 633, 3) := by decide +kernel
theorem dJ0_indexOf_0f7a4_6 : decode cJ0_indexOf_0f7a4 6 = .ok (.ireturn, 1) := by decide +kernel
theorem dJ0_indexOf_7cf53_0 : decode cJ0_indexOf_7cf53 0 = .ok (.aload_n 0, 1) := by decide +kernel
theorem dJ0_indexOf_7cf53_1 : decode cJ0_indexOf_7cf53 1 = .ok (.invokevirtual 492, 3) := by decide +kernel
theorem dJ0_indexOf_7cf53_4 : decode cJ0_indexOf_7cf53 4 = .ok (.ifCond .eq 19, 3) := by decide +kernel
theorem dJ0_indexOf_7cf53_7 : decode cJ0_indexOf_7cf53 7 = .ok (.aload_n 0, 1) := by decide +kernel
theorem dJ0_indexOf_7cf53_8 : decode cJ0_indexOf_7cf53 8 = .ok (.getfield 9, 3) := by decide +kernel
theorem dJ0_indexOf_7cf53_11 : decode cJ0_indexOf_7cf53 11 = .ok (.iload_n 1, 1) := by decide +kernel
theorem dJ0_indexOf_7cf53_12 : decode cJ0_indexOf_7cf53 12 = .ok (.iload_n 2, 1) := by decide +kernel
theorem dJ0_indexOf_7cf53_13 : decode cJ0_indexOf_7cf53 13 = .ok (.aload_n 0, 1) := by decide +kernel
theorem dJ0_indexOf_7cf53_14 : decode cJ0_indexOf_7cf53 14 = .ok (.invokevirtual 505, 3) := by decide +kernel
theorem dJ0_indexOf_7cf53_17 : decode cJ0_indexOf_7cf53 17 = .ok (.invokestatic 637, 3) := by decide +kernel
theorem dJ0_indexOf_7cf53_20 : decode cJ0_indexOf_7cf53 20 = .ok (.goto 16, 3) := by decide +kernel
theorem dJ0_indexOf_7cf53_23 : decode cJ0_indexOf_7cf53 23 = .ok (.aload_n 0, 1) := by decide +kernel
theorem dJ0_indexOf_7cf53_24 : decode cJ0_indexOf_7cf53 24 = .ok (.getfield 9, 3) := by decide +kernel
theorem dJ0_indexOf_7cf53_27 : decode cJ0_indexOf_7cf53 27 = .ok (.iload_n 1, 1) := by decide +kernel
theorem dJ0_indexOf_7cf53_28 : decode cJ0_indexOf_7cf53 28 = .ok (.iload_n 2, 1) := by decide +kernel
theorem dJ0_indexOf_7cf53_29 : decode cJ0_indexOf_7cf53 29 = .ok (.aload_n 0, 1) := by decide +kernel
theorem dJ0_indexOf_7cf53_30 : decode cJ0_indexOf_7cf53 30 = .ok (.invokevirtual 505, 3) := by decide +kernel
theorem dJ0_indexOf_7cf53_33 : decode cJ0_indexOf_7cf53 33 = .ok (.invokestatic 640, 3) := by decide +kernel
theorem dJ0_indexOf_7cf53_36 : decode cJ0_indexOf_7cf53 36 = .ok (.ireturn, 1) := by decide +kernel
theorem dJ0_isLatin1_aae02_0 : decode cJ0_isLatin1_aae02 0 = .ok (.getstatic 38, 3) := by decide +kernel
theorem dJ0_isLatin1_aae02_3 : decode cJ0_isLatin1_aae02 3 = .ok (.ifCond .eq 14, 3) := by decide +kernel
theorem dJ0_isLatin1_aae02_6 : decode cJ0_isLatin1_aae02 6 = .ok (.aload_n 0, 1) := by decide +kernel
theorem dJ0_isLatin1_aae02_7 : decode cJ0_isLatin1_aae02 7 = .ok (.getfield 15, 3) := by decide +kernel
theorem dJ0_isLatin1_aae02_10 : decode cJ0_isLatin1_aae02 10 = .ok (.ifCond .ne 7, 3) := by decide +kernel
theorem dJ0_isLatin1_aae02_13 : decode cJ0_isLatin1_aae02 13 = .ok (.iconst 1, 1) := by decide +kernel
theorem dJ0_isLatin1_aae02_14 : decode cJ0_isLatin1_aae02 14 = .ok (.goto 4, 3) := by decide +kernel
theorem dJ0_isLatin1_aae02_17 : decode cJ0_isLatin1_aae02 17 = .ok (.iconst 0, 1) := by decide +kernel
theorem dJ0_isLatin1_aae02_18 : decode cJ0_isLatin1_aae02 18 = .ok (.ireturn, 1) := by decide +kernel
theorem dJ0_length_8abf5_0 : decode cJ0_length_8abf5 0 = .ok (.aload_n 0, 1) := by decide +kernel
theorem dJ0_length_8abf5_1 : decode cJ0_length_8abf5 1 = .ok (.getfield 9, 3) := by decide +kernel
theorem dJ0_length_8abf5_4 : decode cJ0_length_8abf5 4 = .ok (.arraylength, 1) := by decide +kernel
theorem dJ0_length_8abf5_5 : decode cJ0_length_8abf5 5 = .ok (.aload_n 0, 1) := by decide +kernel
theorem dJ0_length_8abf5_6 : decode cJ0_length_8abf5 6 = .ok (.invokevirtual 335, 3) := by decide +kernel
theorem dJ0_length_8abf5_9 : decode cJ0_length_8abf5 9 = .ok (.ishr, 1) := by decide +kernel
theorem dJ0_length_8abf5_10 : decode cJ0_length_8abf5 10 = .ok (.ireturn, 1) := by decide +kernel
theorem dJ0_coder_7d493_0 : decode cJ0_coder_7d493 0 = .ok (.getstatic 38, 3) := by decide +kernel
theorem dJ0_coder_7d493_3 : decode cJ0_coder_7d493 3 = .ok (.ifCond .eq 10, 3) := by decide +kernel
theorem dJ0_coder_7d493_6 : decode cJ0_coder_7d493 6 = .ok (.aload_n 0, 1) := by decide +kernel
theorem dJ0_coder_7d493_7 : decode cJ0_coder_7d493 7 = .ok (.getfield 15, 3) := by decide +kernel
theorem dJ0_coder_7d493_10 : decode cJ0_coder_7d493 10 = .ok (.goto 4, 3) := by decide +kernel
theorem dJ0_coder_7d493_13 : decode cJ0_coder_7d493 13 = .ok (.iconst 1, 1) := by decide +kernel
theorem dJ0_coder_7d493_14 : decode cJ0_coder_7d493 14 = .ok (.ireturn, 1) := by decide +kernel
theorem dJ0_getBytes_840e7_0 : decode cJ0_getBytes_840e7 0 = .ok (.aload_n 0, 1) := by decide +kernel
theorem dJ0_getBytes_840e7_1 : decode cJ0_getBytes_840e7 1 = .ok (.invokevirtual 335, 3) := by decide +kernel
theorem dJ0_getBytes_840e7_4 : decode cJ0_getBytes_840e7 4 = .ok (.iload_n 3, 1) := by decide +kernel
theorem dJ0_getBytes_840e7_5 : decode cJ0_getBytes_840e7 5 = .ok (.if_icmp .ne 23, 3) := by decide +kernel
theorem dJ0_getBytes_840e7_8 : decode cJ0_getBytes_840e7 8 = .ok (.aload_n 0, 1) := by decide +kernel
theorem dJ0_getBytes_840e7_9 : decode cJ0_getBytes_840e7 9 = .ok (.getfield 9, 3) := by decide +kernel
theorem dJ0_getBytes_840e7_12 : decode cJ0_getBytes_840e7 12 = .ok (.iconst 0, 1) := by decide +kernel
theorem dJ0_getBytes_840e7_13 : decode cJ0_getBytes_840e7 13 = .ok (.aload_n 1, 1) := by decide +kernel
theorem dJ0_getBytes_840e7_14 : decode cJ0_getBytes_840e7 14 = .ok (.iload_n 2, 1) := by decide +kernel
theorem dJ0_getBytes_840e7_15 : decode cJ0_getBytes_840e7 15 = .ok (.iload_n 3, 1) := by decide +kernel
theorem dJ0_getBytes_840e7_16 : decode cJ0_getBytes_840e7 16 = .ok (.ishl, 1) := by decide +kernel
theorem dJ0_getBytes_840e7_17 : decode cJ0_getBytes_840e7 17 = .ok (.aload_n 0, 1) := by decide +kernel
theorem dJ0_getBytes_840e7_18 : decode cJ0_getBytes_840e7 18 = .ok (.getfield 9, 3) := by decide +kernel
theorem dJ0_getBytes_840e7_21 : decode cJ0_getBytes_840e7 21 = .ok (.arraylength, 1) := by decide +kernel
theorem dJ0_getBytes_840e7_22 : decode cJ0_getBytes_840e7 22 = .ok (.invokestatic 212, 3) := by decide +kernel
theorem dJ0_getBytes_840e7_25 : decode cJ0_getBytes_840e7 25 = .ok (.goto 18, 3) := by decide +kernel
theorem dJ0_getBytes_840e7_28 : decode cJ0_getBytes_840e7 28 = .ok (.aload_n 0, 1) := by decide +kernel
theorem dJ0_getBytes_840e7_29 : decode cJ0_getBytes_840e7 29 = .ok (.getfield 9, 3) := by decide +kernel
theorem dJ0_getBytes_840e7_32 : decode cJ0_getBytes_840e7 32 = .ok (.iconst 0, 1) := by decide +kernel
theorem dJ0_getBytes_840e7_33 : decode cJ0_getBytes_840e7 33 = .ok (.aload_n 1, 1) := by decide +kernel
theorem dJ0_getBytes_840e7_34 : decode cJ0_getBytes_840e7 34 = .ok (.iload_n 2, 1) := by decide +kernel
theorem dJ0_getBytes_840e7_35 : decode cJ0_getBytes_840e7 35 = .ok (.aload_n 0, 1) := by decide +kernel
theorem dJ0_getBytes_840e7_36 : decode cJ0_getBytes_840e7 36 = .ok (.getfield 9, 3) := by decide +kernel
theorem dJ0_getBytes_840e7_39 : decode cJ0_getBytes_840e7 39 = .ok (.arraylength, 1) := by decide +kernel
theorem dJ0_getBytes_840e7_40 : decode cJ0_getBytes_840e7 40 = .ok (.invokestatic 106, 3) := by decide +kernel
theorem dJ0_getBytes_840e7_43 : decode cJ0_getBytes_840e7 43 = .ok (.return_, 1) := by decide +kernel
theorem dJ1_indexOf_4cfef_0 : decode cJ1_indexOf_4cfef 0 = .ok (.iload_n 1, 1) := by decide +kernel
theorem dJ1_indexOf_4cfef_1 : decode cJ1_indexOf_4cfef 1 = .ok (.invokestatic 88, 3) := by decide +kernel
theorem dJ1_indexOf_4cfef_4 : decode cJ1_indexOf_4cfef 4 = .ok (.ifCond .ne 5, 3) := by decide +kernel
theorem dJ1_indexOf_4cfef_7 : decode cJ1_indexOf_4cfef 7 = .ok (.iconst (-1), 1) := by decide +kernel
theorem dJ1_indexOf_4cfef_8 : decode cJ1_indexOf_4cfef 8 = .ok (.ireturn, 1) := by decide +kernel
theorem dJ1_indexOf_4cfef_9 : decode cJ1_indexOf_4cfef 9 = .ok (.iload_n 2, 1) := by decide +kernel
theorem dJ1_indexOf_4cfef_10 : decode cJ1_indexOf_4cfef 10 = .ok (.iconst 0, 1) := by decide +kernel
theorem dJ1_indexOf_4cfef_11 : decode cJ1_indexOf_4cfef 11 = .ok (.invokestatic 92, 3) := by decide +kernel
theorem dJ1_indexOf_4cfef_14 : decode cJ1_indexOf_4cfef 14 = .ok (.istore_n 2, 1) := by decide +kernel
theorem dJ1_indexOf_4cfef_15 : decode cJ1_indexOf_4cfef 15 = .ok (.iload_n 3, 1) := by decide +kernel
theorem dJ1_indexOf_4cfef_16 : decode cJ1_indexOf_4cfef 16 = .ok (.aload_n 0, 1) := by decide +kernel
theorem dJ1_indexOf_4cfef_17 : decode cJ1_indexOf_4cfef 17 = .ok (.arraylength, 1) := by decide +kernel
theorem dJ1_indexOf_4cfef_18 : decode cJ1_indexOf_4cfef 18 = .ok (.invokestatic 38, 3) := by decide +kernel
theorem dJ1_indexOf_4cfef_21 : decode cJ1_indexOf_4cfef 21 = .ok (.istore_n 3, 1) := by decide +kernel
theorem dJ1_indexOf_4cfef_22 : decode cJ1_indexOf_4cfef 22 = .ok (.iload_n 2, 1) := by decide +kernel
theorem dJ1_indexOf_4cfef_23 : decode cJ1_indexOf_4cfef 23 = .ok (.iload_n 3, 1) := by decide +kernel
theorem dJ1_indexOf_4cfef_24 : decode cJ1_indexOf_4cfef 24 = .ok (.if_icmp .lt 5, 3) := by decide +kernel
theorem dJ1_indexOf_4cfef_27 : decode cJ1_indexOf_4cfef 27 = .ok (.iconst (-1), 1) := by decide +kernel
theorem dJ1_indexOf_4cfef_28 : decode cJ1_indexOf_4cfef 28 = .ok (.ireturn, 1) := by decide +kernel
theorem dJ1_indexOf_4cfef_29 : decode cJ1_indexOf_4cfef 29 = .ok (.aload_n 0, 1) := by decide +kernel
theorem dJ1_indexOf_4cfef_30 : decode cJ1_indexOf_4cfef 30 = .ok (.iload_n 1, 1) := by decide +kernel
theorem dJ1_indexOf_4cfef_31 : decode cJ1_indexOf_4cfef 31 = .ok (.iload_n 2, 1) := by decide +kernel
theorem dJ1_indexOf_4cfef_32 : decode cJ1_indexOf_4cfef 32 = .ok (.iload_n 3, 1) := by decide +kernel
theorem dJ1_indexOf_4cfef_33 : decode cJ1_indexOf_4cfef 33 = .ok (.invokestatic 95, 3) := by decide +kernel
theorem dJ1_indexOf_4cfef_36 : decode cJ1_indexOf_4cfef 36 = .ok (.ireturn, 1) := by decide +kernel
theorem dJ1_canEncode_9a6ad_0 : decode cJ1_canEncode_9a6ad 0 = .ok (.iload_n 0, 1) := by decide +kernel
theorem dJ1_canEncode_9a6ad_1 : decode cJ1_canEncode_9a6ad 1 = .ok (.ifCond .lt 14, 3) := by decide +kernel
theorem dJ1_canEncode_9a6ad_4 : decode cJ1_canEncode_9a6ad 4 = .ok (.iload_n 0, 1) := by decide +kernel
theorem dJ1_canEncode_9a6ad_5 : decode cJ1_canEncode_9a6ad 5 = .ok (.sipush 255, 3) := by decide +kernel
theorem dJ1_canEncode_9a6ad_8 : decode cJ1_canEncode_9a6ad 8 = .ok (.if_icmp .gt 7, 3) := by decide +kernel
theorem dJ1_canEncode_9a6ad_11 : decode cJ1_canEncode_9a6ad 11 = .ok (.iconst 1, 1) := by decide +kernel
theorem dJ1_canEncode_9a6ad_12 : decode cJ1_canEncode_9a6ad 12 = .ok (.goto 4, 3) := by decide +kernel
theorem dJ1_canEncode_9a6ad_15 : decode cJ1_canEncode_9a6ad 15 = .ok (.iconst 0, 1) := by decide +kernel
theorem dJ1_canEncode_9a6ad_16 : decode cJ1_canEncode_9a6ad 16 = .ok (.ireturn, 1) := by decide +kernel
theorem dJ1_indexOfChar_4cfef_0 : decode cJ1_indexOfChar_4cfef 0 = .ok (.iload_n 1, 1) := by decide +kernel
theorem dJ1_indexOfChar_4cfef_1 : decode cJ1_indexOfChar_4cfef 1 = .ok (.i2b, 1) := by decide +kernel
theorem dJ1_indexOfChar_4cfef_2 : decode cJ1_indexOfChar_4cfef 2 = .ok (.istore 4, 2) := by decide +kernel
theorem dJ1_indexOfChar_4cfef_4 : decode cJ1_indexOfChar_4cfef 4 = .ok (.iload_n 2, 1) := by decide +kernel
theorem dJ1_indexOfChar_4cfef_5 : decode cJ1_indexOfChar_4cfef 5 = .ok (.istore 5, 2) := by decide +kernel
theorem dJ1_indexOfChar_4cfef_7 : decode cJ1_indexOfChar_4cfef 7 = .ok (.iload 5, 2) := by decide +kernel
theorem dJ1_indexOfChar_4cfef_9 : decode cJ1_indexOfChar_4cfef 9 = .ok (.iload_n 3, 1) := by decide +kernel
theorem dJ1_indexOfChar_4cfef_10 : decode cJ1_indexOfChar_4cfef 10 = .ok (.if_icmp .ge 21, 3) := by decide +kernel
theorem dJ1_indexOfChar_4cfef_13 : decode cJ1_indexOfChar_4cfef 13 = .ok (.aload_n 0, 1) := by decide +kernel
theorem dJ1_indexOfChar_4cfef_14 : decode cJ1_indexOfChar_4cfef 14 = .ok (.iload 5, 2) := by decide +kernel
theorem dJ1_indexOfChar_4cfef_16 : decode cJ1_indexOfChar_4cfef 16 = .ok (.baload, 1) := by decide +kernel
theorem dJ1_indexOfChar_4cfef_17 : decode cJ1_indexOfChar_4cfef 17 = .ok (.iload 4, 2) := by decide +kernel
theorem dJ1_indexOfChar_4cfef_19 : decode cJ1_indexOfChar_4cfef 19 = .ok (.if_icmp .ne 6, 3) := by decide +kernel
theorem dJ1_indexOfChar_4cfef_22 : decode cJ1_indexOfChar_4cfef 22 = .ok (.iload 5, 2) := by decide +kernel
theorem dJ1_indexOfChar_4cfef_24 : decode cJ1_indexOfChar_4cfef 24 = .ok (.ireturn, 1) := by decide +kernel
theorem dJ1_indexOfChar_4cfef_25 : decode cJ1_indexOfChar_4cfef 25 = .ok (.iinc 5 1, 3) := by decide +kernel
theorem dJ1_indexOfChar_4cfef_28 : decode cJ1_indexOfChar_4cfef 28 = .ok (.goto (-21), 3) := by decide +kernel
theorem dJ1_indexOfChar_4cfef_31 : decode cJ1_indexOfChar_4cfef 31 = .ok (.iconst (-1), 1) := by decide +kernel
theorem dJ1_indexOfChar_4cfef_32 : decode cJ1_indexOfChar_4cfef 32 = .ok (.ireturn, 1) := by decide +kernel
theorem dJ3_checkIndex_8e157_0 : decode cJ3_checkIndex_8e157 0 = .ok (.iload_n 0, 1) := by decide +kernel
theorem dJ3_checkIndex_8e157_1 : decode cJ3_checkIndex_8e157 1 = .ok (.ifCond .lt 8, 3) := by decide +kernel
theorem dJ3_checkIndex_8e157_4 : decode cJ3_checkIndex_8e157 4 = .ok (.iload_n 0, 1) := by decide +kernel
theorem dJ3_checkIndex_8e157_5 : decode cJ3_checkIndex_8e157 5 = .ok (.iload_n 1, 1) := by decide +kernel
theorem dJ3_checkIndex_8e157_6 : decode cJ3_checkIndex_8e157 6 = .ok (.if_icmp .lt 10, 3) := by decide +kernel
theorem dJ3_checkIndex_8e157_9 : decode cJ3_checkIndex_8e157 9 = .ok (.aload_n 2, 1) := by decide +kernel
theorem dJ3_checkIndex_8e157_10 : decode cJ3_checkIndex_8e157 10 = .ok (.iload_n 0, 1) := by decide +kernel
theorem dJ3_checkIndex_8e157_11 : decode cJ3_checkIndex_8e157 11 = .ok (.iload_n 1, 1) := by decide +kernel
theorem dJ3_checkIndex_8e157_12 : decode cJ3_checkIndex_8e157 12 = .ok (.invokestatic 95, 3) := by decide +kernel
theorem dJ3_checkIndex_8e157_15 : decode cJ3_checkIndex_8e157 15 = .ok (.athrow, 1) := by decide +kernel
theorem dJ3_checkIndex_8e157_16 : decode cJ3_checkIndex_8e157 16 = .ok (.iload_n 0, 1) := by decide +kernel
theorem dJ3_checkIndex_8e157_17 : decode cJ3_checkIndex_8e157 17 = .ok (.ireturn, 1) := by decide +kernel
theorem dJ0_checkIndex_df160_0 : decode cJ0_checkIndex_df160 0 = .ok (.iload_n 0, 1) := by decide +kernel
theorem dJ0_checkIndex_df160_1 : decode cJ0_checkIndex_df160 1 = .ok (.iload_n 1, 1) := by decide +kernel
theorem dJ0_checkIndex_df160_2 : decode cJ0_checkIndex_df160 2 = .ok (.getstatic 1053, 3) := by decide +kernel
theorem dJ0_checkIndex_df160_5 : decode cJ0_checkIndex_df160 5 = .ok (.invokestatic 1059, 3) := by decide +kernel
theorem dJ0_checkIndex_df160_8 : decode cJ0_checkIndex_df160 8 = .ok (.pop, 1) := by decide +kernel
theorem dJ0_checkIndex_df160_9 : decode cJ0_checkIndex_df160 9 = .ok (.return_, 1) := by decide +kernel
theorem dJ4_setLength_d00df_0 : decode cJ4_setLength_d00df 0 = .ok (.aload_n 0, 1) := by decide +kernel
theorem dJ4_setLength_d00df_1 : decode cJ4_setLength_d00df 1 = .ok (.iload_n 1, 1) := by decide +kernel
theorem dJ4_setLength_d00df_2 : decode cJ4_setLength_d00df 2 = .ok (.invokespecial 333, 3) := by decide +kernel
theorem dJ4_setLength_d00df_5 : decode cJ4_setLength_d00df 5 = .ok (.return_, 1) := by decide +kernel
theorem dJ4_append_15ec4_0 : decode cJ4_append_15ec4 0 = .ok (.aload_n 0, 1) := by decide +kernel
theorem dJ4_append_15ec4_1 : decode cJ4_append_15ec4 1 = .ok (.aload_n 1, 1) := by decide +kernel
theorem dJ4_append_15ec4_2 : decode cJ4_append_15ec4 2 = .ok (.invokespecial 29, 3) := by decide +kernel
theorem dJ4_append_15ec4_5 : decode cJ4_append_15ec4 5 = .ok (.pop, 1) := by decide +kernel
theorem dJ4_append_15ec4_6 : decode cJ4_append_15ec4 6 = .ok (.aload_n 0, 1) := by decide +kernel
theorem dJ4_append_15ec4_7 : decode cJ4_append_15ec4 7 = .ok (.areturn, 1) := by decide +kernel
theorem dJ4_append_bf812_0 : decode cJ4_append_bf812 0 = .ok (.aload_n 0, 1) := by decide +kernel
theorem dJ4_append_bf812_1 : decode cJ4_append_bf812 1 = .ok (.iload_n 1, 1) := by decide +kernel
theorem dJ4_append_bf812_2 : decode cJ4_append_bf812 2 = .ok (.invokespecial 53, 3) := by decide +kernel
theorem dJ4_append_bf812_5 : decode cJ4_append_bf812 5 = .ok (.pop, 1) := by decide +kernel
theorem dJ4_append_bf812_6 : decode cJ4_append_bf812 6 = .ok (.aload_n 0, 1) := by decide +kernel
theorem dJ4_append_bf812_7 : decode cJ4_append_bf812 7 = .ok (.areturn, 1) := by decide +kernel
theorem dJ4_length_8abf5_0 : decode cJ4_length_8abf5 0 = .ok (.aload_n 0, 1) := by decide +kernel
theorem dJ4_length_8abf5_1 : decode cJ4_length_8abf5 1 = .ok (.invokespecial 343, 3) := by decide +kernel
theorem dJ4_length_8abf5_4 : decode cJ4_length_8abf5 4 = .ok (.ireturn, 1) := by decide +kernel
theorem dJ4_charAt_5068e_0 : decode cJ4_charAt_5068e 0 = .ok (.aload_n 0, 1) := by decide +kernel
theorem dJ4_charAt_5068e_1 : decode cJ4_charAt_5068e 1 = .ok (.iload_n 1, 1) := by decide +kernel
theorem dJ4_charAt_5068e_2 : decode cJ4_charAt_5068e 2 = .ok (.invokespecial 329, 3) := by decide +kernel
theorem dJ4_charAt_5068e_5 : decode cJ4_charAt_5068e 5 = .ok (.ireturn, 1) := by decide +kernel
theorem dJ5_setLength_d00df_0 : decode cJ5_setLength_d00df 0 = .ok (.iload_n 1, 1) := by decide +kernel
theorem dJ5_setLength_d00df_1 : decode cJ5_setLength_d00df 1 = .ok (.ifCond .ge 12, 3) := by decide +kernel
theorem dJ5_setLength_d00df_4 : decode cJ5_setLength_d00df 4 = .ok (.new 129, 3) := by decide +kernel
theorem dJ5_setLength_d00df_7 : decode cJ5_setLength_d00df 7 = .ok (.dup, 1) := by decide +kernel
theorem dJ5_setLength_d00df_8 : decode cJ5_setLength_d00df 8 = .ok (.iload_n 1, 1) := by decide +kernel
theorem dJ5_setLength_d00df_9 : decode cJ5_setLength_d00df 9 = .ok (.invokespecial 131, 3) := by decide +kernel
theorem dJ5_setLength_d00df_12 : decode cJ5_setLength_d00df 12 = .ok (.athrow, 1) := by decide +kernel
theorem dJ5_setLength_d00df_13 : decode cJ5_setLength_d00df 13 = .ok (.aload_n 0, 1) := by decide +kernel
theorem dJ5_setLength_d00df_14 : decode cJ5_setLength_d00df 14 = .ok (.iload_n 1, 1) := by decide +kernel
theorem dJ5_setLength_d00df_15 : decode cJ5_setLength_d00df 15 = .ok (.invokevirtual 100, 3) := by decide +kernel
theorem dJ5_setLength_d00df_18 : decode cJ5_setLength_d00df 18 = .ok (.aload_n 0, 1) := by decide +kernel
theorem dJ5_setLength_d00df_19 : decode cJ5_setLength_d00df 19 = .ok (.getfield 79, 3) := by decide +kernel
theorem dJ5_setLength_d00df_22 : decode cJ5_setLength_d00df 22 = .ok (.iload_n 1, 1) := by decide +kernel
theorem dJ5_setLength_d00df_23 : decode cJ5_setLength_d00df 23 = .ok (.if_icmp .ge 40, 3) := by decide +kernel
theorem dJ5_setLength_d00df_26 : decode cJ5_setLength_d00df 26 = .ok (.aload_n 0, 1) := by decide +kernel
theorem dJ5_setLength_d00df_27 : decode cJ5_setLength_d00df 27 = .ok (.invokevirtual 83, 3) := by decide +kernel
theorem dJ5_setLength_d00df_30 : decode cJ5_setLength_d00df 30 = .ok (.ifCond .eq 18, 3) := by decide +kernel
theorem dJ5_setLength_d00df_33 : decode cJ5_setLength_d00df 33 = .ok (.aload_n 0, 1) := by decide +kernel
theorem dJ5_setLength_d00df_34 : decode cJ5_setLength_d00df 34 = .ok (.getfield 15, 3) := by decide +kernel
theorem dJ5_setLength_d00df_37 : decode cJ5_setLength_d00df 37 = .ok (.aload_n 0, 1) := by decide +kernel
theorem dJ5_setLength_d00df_38 : decode cJ5_setLength_d00df 38 = .ok (.getfield 79, 3) := by decide +kernel
theorem dJ5_setLength_d00df_41 : decode cJ5_setLength_d00df 41 = .ok (.iload_n 1, 1) := by decide +kernel
theorem dJ5_setLength_d00df_42 : decode cJ5_setLength_d00df 42 = .ok (.invokestatic 133, 3) := by decide +kernel
theorem dJ5_setLength_d00df_45 : decode cJ5_setLength_d00df 45 = .ok (.goto 31, 3) := by decide +kernel
theorem dJ5_setLength_d00df_48 : decode cJ5_setLength_d00df 48 = .ok (.aload_n 0, 1) := by decide +kernel
theorem dJ5_setLength_d00df_49 : decode cJ5_setLength_d00df 49 = .ok (.getfield 15, 3) := by decide +kernel
theorem dJ5_setLength_d00df_52 : decode cJ5_setLength_d00df 52 = .ok (.aload_n 0, 1) := by decide +kernel
theorem dJ5_setLength_d00df_53 : decode cJ5_setLength_d00df 53 = .ok (.getfield 79, 3) := by decide +kernel
theorem dJ5_setLength_d00df_56 : decode cJ5_setLength_d00df 56 = .ok (.iload_n 1, 1) := by decide +kernel
theorem dJ5_setLength_d00df_57 : decode cJ5_setLength_d00df 57 = .ok (.invokestatic 137, 3) := by decide +kernel
theorem dJ5_setLength_d00df_60 : decode cJ5_setLength_d00df 60 = .ok (.goto 16, 3) := by decide +kernel
theorem dJ5_setLength_d00df_63 : decode cJ5_setLength_d00df 63 = .ok (.aload_n 0, 1) := by decide +kernel
theorem dJ5_setLength_d00df_64 : decode cJ5_setLength_d00df 64 = .ok (.getfield 79, 3) := by decide +kernel
theorem dJ5_setLength_d00df_67 : decode cJ5_setLength_d00df 67 = .ok (.iload_n 1, 1) := by decide +kernel
theorem dJ5_setLength_d00df_68 : decode cJ5_setLength_d00df 68 = .ok (.if_icmp .le 8, 3) := by decide +kernel
theorem dJ5_setLength_d00df_71 : decode cJ5_setLength_d00df 71 = .ok (.aload_n 0, 1) := by decide +kernel
theorem dJ5_setLength_d00df_72 : decode cJ5_setLength_d00df 72 = .ok (.iconst 1, 1) := by decide +kernel
theorem dJ5_setLength_d00df_73 : decode cJ5_setLength_d00df 73 = .ok (.putfield 73, 3) := by decide +kernel
theorem dJ5_setLength_d00df_76 : decode cJ5_setLength_d00df 76 = .ok (.aload_n 0, 1) := by decide +kernel
theorem dJ5_setLength_d00df_77 : decode cJ5_setLength_d00df 77 = .ok (.iload_n 1, 1) := by decide +kernel
theorem dJ5_setLength_d00df_78 : decode cJ5_setLength_d00df 78 = .ok (.putfield 79, 3) := by decide +kernel
theorem dJ5_setLength_d00df_81 : decode cJ5_setLength_d00df 81 = .ok (.return_, 1) := by decide +kernel
theorem dJ5_append_cf1ce_0 : decode cJ5_append_cf1ce 0 = .ok (.aload_n 1, 1) := by decide +kernel
theorem dJ5_append_cf1ce_1 : decode cJ5_append_cf1ce 1 = .ok (.ifnonnull 8, 3) := by decide +kernel
theorem dJ5_append_cf1ce_4 : decode cJ5_append_cf1ce 4 = .ok (.aload_n 0, 1) := by decide +kernel
theorem dJ5_append_cf1ce_5 : decode cJ5_append_cf1ce 5 = .ok (.invokevirtual 204, 3) := by decide +kernel
theorem dJ5_append_cf1ce_8 : decode cJ5_append_cf1ce 8 = .ok (.areturn, 1) := by decide +kernel
theorem dJ5_append_cf1ce_9 : decode cJ5_append_cf1ce 9 = .ok (.aload_n 1, 1) := by decide +kernel
theorem dJ5_append_cf1ce_10 : decode cJ5_append_cf1ce 10 = .ok (.invokevirtual 32, 3) := by decide +kernel
theorem dJ5_append_cf1ce_13 : decode cJ5_append_cf1ce 13 = .ok (.istore_n 2, 1) := by decide +kernel
theorem dJ5_append_cf1ce_14 : decode cJ5_append_cf1ce 14 = .ok (.aload_n 0, 1) := by decide +kernel
theorem dJ5_append_cf1ce_15 : decode cJ5_append_cf1ce 15 = .ok (.aload_n 0, 1) := by decide +kernel
theorem dJ5_append_cf1ce_16 : decode cJ5_append_cf1ce 16 = .ok (.getfield 79, 3) := by decide +kernel
theorem dJ5_append_cf1ce_19 : decode cJ5_append_cf1ce 19 = .ok (.iload_n 2, 1) := by decide +kernel
theorem dJ5_append_cf1ce_20 : decode cJ5_append_cf1ce 20 = .ok (.iadd, 1) := by decide +kernel
theorem dJ5_append_cf1ce_21 : decode cJ5_append_cf1ce 21 = .ok (.invokevirtual 100, 3) := by decide +kernel
theorem dJ5_append_cf1ce_24 : decode cJ5_append_cf1ce 24 = .ok (.aload_n 0, 1) := by decide +kernel
theorem dJ5_append_cf1ce_25 : decode cJ5_append_cf1ce 25 = .ok (.aload_n 0, 1) := by decide +kernel
theorem dJ5_append_cf1ce_26 : decode cJ5_append_cf1ce 26 = .ok (.getfield 79, 3) := by decide +kernel
theorem dJ5_append_cf1ce_29 : decode cJ5_append_cf1ce 29 = .ok (.aload_n 1, 1) := by decide +kernel
theorem dJ5_append_cf1ce_30 : decode cJ5_append_cf1ce 30 = .ok (.invokevirtual 208, 3) := by decide +kernel
theorem dJ5_append_cf1ce_33 : decode cJ5_append_cf1ce 33 = .ok (.aload_n 0, 1) := by decide +kernel
theorem dJ5_append_cf1ce_34 : decode cJ5_append_cf1ce 34 = .ok (.dup, 1) := by decide +kernel
theorem dJ5_append_cf1ce_35 : decode cJ5_append_cf1ce 35 = .ok (.getfield 79, 3) := by decide +kernel
theorem dJ5_append_cf1ce_38 : decode cJ5_append_cf1ce 38 = .ok (.iload_n 2, 1) := by decide +kernel
theorem dJ5_append_cf1ce_39 : decode cJ5_append_cf1ce 39 = .ok (.iadd, 1) := by decide +kernel
theorem dJ5_append_cf1ce_40 : decode cJ5_append_cf1ce 40 = .ok (.putfield 79, 3) := by decide +kernel
theorem dJ5_append_cf1ce_43 : decode cJ5_append_cf1ce 43 = .ok (.aload_n 0, 1) := by decide +kernel
theorem dJ5_append_cf1ce_44 : decode cJ5_append_cf1ce 44 = .ok (.areturn, 1) := by decide +kernel
theorem dJ5_append_c97b9_0 : decode cJ5_append_c97b9 0 = .ok (.aload_n 0, 1) := by decide +kernel
theorem dJ5_append_c97b9_1 : decode cJ5_append_c97b9 1 = .ok (.getfield 79, 3) := by decide +kernel
theorem dJ5_append_c97b9_4 : decode cJ5_append_c97b9 4 = .ok (.istore_n 2, 1) := by decide +kernel
theorem dJ5_append_c97b9_5 : decode cJ5_append_c97b9 5 = .ok (.iload_n 2, 1) := by decide +kernel
theorem dJ5_append_c97b9_6 : decode cJ5_append_c97b9 6 = .ok (.iload_n 1, 1) := by decide +kernel
theorem dJ5_append_c97b9_7 : decode cJ5_append_c97b9 7 = .ok (.invokestatic 245, 3) := by decide +kernel
theorem dJ5_append_c97b9_10 : decode cJ5_append_c97b9 10 = .ok (.iadd, 1) := by decide +kernel
theorem dJ5_append_c97b9_11 : decode cJ5_append_c97b9 11 = .ok (.istore_n 3, 1) := by decide +kernel
theorem dJ5_append_c97b9_12 : decode cJ5_append_c97b9 12 = .ok (.aload_n 0, 1) := by decide +kernel
theorem dJ5_append_c97b9_13 : decode cJ5_append_c97b9 13 = .ok (.iload_n 3, 1) := by decide +kernel
theorem dJ5_append_c97b9_14 : decode cJ5_append_c97b9 14 = .ok (.invokevirtual 100, 3) := by decide +kernel
theorem dJ5_append_c97b9_17 : decode cJ5_append_c97b9 17 = .ok (.aload_n 0, 1) := by decide +kernel
theorem dJ5_append_c97b9_18 : decode cJ5_append_c97b9 18 = .ok (.invokevirtual 83, 3) := by decide +kernel
theorem dJ5_append_c97b9_21 : decode cJ5_append_c97b9 21 = .ok (.ifCond .eq 16, 3) := by decide +kernel
theorem dJ5_append_c97b9_24 : decode cJ5_append_c97b9 24 = .ok (.iload_n 1, 1) := by decide +kernel
theorem dJ5_append_c97b9_25 : decode cJ5_append_c97b9 25 = .ok (.iload_n 3, 1) := by decide +kernel
theorem dJ5_append_c97b9_26 : decode cJ5_append_c97b9 26 = .ok (.aload_n 0, 1) := by decide +kernel
theorem dJ5_append_c97b9_27 : decode cJ5_append_c97b9 27 = .ok (.getfield 15, 3) := by decide +kernel
theorem dJ5_append_c97b9_30 : decode cJ5_append_c97b9 30 = .ok (.invokestatic 248, 3) := by decide +kernel
theorem dJ5_append_c97b9_33 : decode cJ5_append_c97b9 33 = .ok (.pop, 1) := by decide +kernel
theorem dJ5_append_c97b9_34 : decode cJ5_append_c97b9 34 = .ok (.goto 14, 3) := by decide +kernel
theorem dJ5_append_c97b9_37 : decode cJ5_append_c97b9 37 = .ok (.iload_n 1, 1) := by decide +kernel
theorem dJ5_append_c97b9_38 : decode cJ5_append_c97b9 38 = .ok (.iload_n 2, 1) := by decide +kernel
theorem dJ5_append_c97b9_39 : decode cJ5_append_c97b9 39 = .ok (.iload_n 3, 1) := by decide +kernel
theorem dJ5_append_c97b9_40 : decode cJ5_append_c97b9 40 = .ok (.aload_n 0, 1) := by decide +kernel
theorem dJ5_append_c97b9_41 : decode cJ5_append_c97b9 41 = .ok (.getfield 15, 3) := by decide +kernel
theorem dJ5_append_c97b9_44 : decode cJ5_append_c97b9 44 = .ok (.invokestatic 251, 3) := by decide +kernel
theorem dJ5_append_c97b9_47 : decode cJ5_append_c97b9 47 = .ok (.pop, 1) := by decide +kernel
theorem dJ5_append_c97b9_48 : decode cJ5_append_c97b9 48 = .ok (.aload_n 0, 1) := by decide +kernel
theorem dJ5_append_c97b9_49 : decode cJ5_append_c97b9 49 = .ok (.iload_n 3, 1) := by decide +kernel
theorem dJ5_append_c97b9_50 : decode cJ5_append_c97b9 50 = .ok (.putfield 79, 3) := by decide +kernel
theorem dJ5_append_c97b9_53 : decode cJ5_append_c97b9 53 = .ok (.aload_n 0, 1) := by decide +kernel
theorem dJ5_append_c97b9_54 : decode cJ5_append_c97b9 54 = .ok (.areturn, 1) := by decide +kernel
theorem dJ5_length_8abf5_0 : decode cJ5_length_8abf5 0 = .ok (.aload_n 0, 1) := by decide +kernel
theorem dJ5_length_8abf5_1 : decode cJ5_length_8abf5 1 = .ok (.getfield 79, 3) := by decide +kernel
theorem dJ5_length_8abf5_4 : decode cJ5_length_8abf5 4 = .ok (.ireturn, 1) := by decide +kernel
theorem dJ5_charAt_5068e_0 : decode cJ5_charAt_5068e 0 = .ok (.aload_n 0, 1) := by decide +kernel
theorem dJ5_charAt_5068e_1 : decode cJ5_charAt_5068e 1 = .ok (.getfield 22, 3) := by decide +kernel
theorem dJ5_charAt_5068e_4 : decode cJ5_charAt_5068e 4 = .ok (.istore_n 2, 1) := by decide +kernel
theorem dJ5_charAt_5068e_5 : decode cJ5_charAt_5068e 5 = .ok (.aload_n 0, 1) := by decide +kernel
theorem dJ5_charAt_5068e_6 : decode cJ5_charAt_5068e 6 = .ok (.getfield 15, 3) := by decide +kernel
theorem dJ5_charAt_5068e_9 : decode cJ5_charAt_5068e 9 = .ok (.astore_n 3, 1) := by decide +kernel
theorem dJ5_charAt_5068e_10 : decode cJ5_charAt_5068e 10 = .ok (.aload_n 0, 1) := by decide +kernel
theorem dJ5_charAt_5068e_11 : decode cJ5_charAt_5068e 11 = .ok (.getfield 79, 3) := by decide +kernel
theorem dJ5_charAt_5068e_14 : decode cJ5_charAt_5068e 14 = .ok (.aload_n 3, 1) := by decide +kernel
theorem dJ5_charAt_5068e_15 : decode cJ5_charAt_5068e 15 = .ok (.arraylength, 1) := by decide +kernel
theorem dJ5_charAt_5068e_16 : decode cJ5_charAt_5068e 16 = .ok (.iload_n 2, 1) := by decide +kernel
theorem dJ5_charAt_5068e_17 : decode cJ5_charAt_5068e 17 = .ok (.ishr, 1) := by decide +kernel
theorem dJ5_charAt_5068e_18 : decode cJ5_charAt_5068e 18 = .ok (.invokestatic 138, 3) := by decide +kernel
theorem dJ5_charAt_5068e_21 : decode cJ5_charAt_5068e 21 = .ok (.istore 4, 2) := by decide +kernel
theorem dJ5_charAt_5068e_23 : decode cJ5_charAt_5068e 23 = .ok (.iload_n 1, 1) := by decide +kernel
theorem dJ5_charAt_5068e_24 : decode cJ5_charAt_5068e 24 = .ok (.iload 4, 2) := by decide +kernel
theorem dJ5_charAt_5068e_26 : decode cJ5_charAt_5068e 26 = .ok (.invokestatic 144, 3) := by decide +kernel
theorem dJ5_charAt_5068e_29 : decode cJ5_charAt_5068e 29 = .ok (.iload_n 2, 1) := by decide +kernel
theorem dJ5_charAt_5068e_30 : decode cJ5_charAt_5068e 30 = .ok (.ifCond .ne 12, 3) := by decide +kernel
theorem dJ5_charAt_5068e_33 : decode cJ5_charAt_5068e 33 = .ok (.aload_n 3, 1) := by decide +kernel
theorem dJ5_charAt_5068e_34 : decode cJ5_charAt_5068e 34 = .ok (.iload_n 1, 1) := by decide +kernel
theorem dJ5_charAt_5068e_35 : decode cJ5_charAt_5068e 35 = .ok (.baload, 1) := by decide +kernel
theorem dJ5_charAt_5068e_36 : decode cJ5_charAt_5068e 36 = .ok (.sipush 255, 3) := by decide +kernel
theorem dJ5_charAt_5068e_39 : decode cJ5_charAt_5068e 39 = .ok (.iand, 1) := by decide +kernel
theorem dJ5_charAt_5068e_40 : decode cJ5_charAt_5068e 40 = .ok (.i2c, 1) := by decide +kernel
theorem dJ5_charAt_5068e_41 : decode cJ5_charAt_5068e 41 = .ok (.ireturn, 1) := by decide +kernel
theorem dJ5_charAt_5068e_42 : decode cJ5_charAt_5068e 42 = .ok (.aload_n 3, 1) := by decide +kernel
theorem dJ5_charAt_5068e_43 : decode cJ5_charAt_5068e 43 = .ok (.iload_n 1, 1) := by decide +kernel
theorem dJ5_charAt_5068e_44 : decode cJ5_charAt_5068e 44 = .ok (.invokestatic 148, 3) := by decide +kernel
theorem dJ5_charAt_5068e_47 : decode cJ5_charAt_5068e 47 = .ok (.ireturn, 1) := by decide +kernel
theorem dJ5_ensureCapacityInternal_d00df_0 : decode cJ5_ensureCapacityInternal_d00df 0 = .ok (.aload_n 0, 1) := by decide +kernel
theorem dJ5_ensureCapacityInternal_d00df_1 : decode cJ5_ensureCapacityInternal_d00df 1 = .ok (.getfield 15, 3) := by decide +kernel
theorem dJ5_ensureCapacityInternal_d00df_4 : decode cJ5_ensureCapacityInternal_d00df 4 = .ok (.arraylength, 1) := by decide +kernel
theorem dJ5_ensureCapacityInternal_d00df_5 : decode cJ5_ensureCapacityInternal_d00df 5 = .ok (.aload_n 0, 1) := by decide +kernel
theorem dJ5_ensureCapacityInternal_d00df_6 : decode cJ5_ensureCapacityInternal_d00df 6 = .ok (.getfield 22, 3) := by decide +kernel
theorem dJ5_ensureCapacityInternal_d00df_9 : decode cJ5_ensureCapacityInternal_d00df 9 = .ok (.ishr, 1) := by decide +kernel
theorem dJ5_ensureCapacityInternal_d00df_10 : decode cJ5_ensureCapacityInternal_d00df 10 = .ok (.istore_n 2, 1) := by decide +kernel
theorem dJ5_ensureCapacityInternal_d00df_11 : decode cJ5_ensureCapacityInternal_d00df 11 = .ok (.iload_n 1, 1) := by decide +kernel
theorem dJ5_ensureCapacityInternal_d00df_12 : decode cJ5_ensureCapacityInternal_d00df 12 = .ok (.iload_n 2, 1) := by decide +kernel
theorem dJ5_ensureCapacityInternal_d00df_13 : decode cJ5_ensureCapacityInternal_d00df 13 = .ok (.isub, 1) := by decide +kernel
theorem dJ5_ensureCapacityInternal_d00df_14 : decode cJ5_ensureCapacityInternal_d00df 14 = .ok (.ifCond .le 24, 3) := by decide +kernel
theorem dJ5_ensureCapacityInternal_d00df_17 : decode cJ5_ensureCapacityInternal_d00df 17 = .ok (.aload_n 0, 1) := by decide +kernel
theorem dJ5_ensureCapacityInternal_d00df_18 : decode cJ5_ensureCapacityInternal_d00df 18 = .ok (.aload_n 0, 1) := by decide +kernel
theorem dJ5_ensureCapacityInternal_d00df_19 : decode cJ5_ensureCapacityInternal_d00df 19 = .ok (.getfield 15, 3) := by decide +kernel
theorem dJ5_ensureCapacityInternal_d00df_22 : decode cJ5_ensureCapacityInternal_d00df 22 = .ok (.aload_n 0, 1) := by decide +kernel
theorem dJ5_ensureCapacityInternal_d00df_23 : decode cJ5_ensureCapacityInternal_d00df 23 = .ok (.iload_n 1, 1) := by decide +kernel
theorem dJ5_ensureCapacityInternal_d00df_24 : decode cJ5_ensureCapacityInternal_d00df 24 = .ok (.invokevirtual 104, 3) := by decide +kernel
theorem dJ5_ensureCapacityInternal_d00df_27 : decode cJ5_ensureCapacityInternal_d00df 27 = .ok (.aload_n 0, 1) := by decide +kernel
theorem dJ5_ensureCapacityInternal_d00df_28 : decode cJ5_ensureCapacityInternal_d00df 28 = .ok (.getfield 22, 3) := by decide +kernel
theorem dJ5_ensureCapacityInternal_d00df_31 : decode cJ5_ensureCapacityInternal_d00df 31 = .ok (.ishl, 1) := by decide +kernel
theorem dJ5_ensureCapacityInternal_d00df_32 : decode cJ5_ensureCapacityInternal_d00df 32 = .ok (.invokestatic 108, 3) := by decide +kernel
theorem dJ5_ensureCapacityInternal_d00df_35 : decode cJ5_ensureCapacityInternal_d00df 35 = .ok (.putfield 15, 3) := by decide +kernel
theorem dJ5_ensureCapacityInternal_d00df_38 : decode cJ5_ensureCapacityInternal_d00df 38 = .ok (.return_, 1) := by decide +kernel
theorem dJ5_isLatin1_aae02_0 : decode cJ5_isLatin1_aae02 0 = .ok (.getstatic 18, 3) := by decide +kernel
theorem dJ5_isLatin1_aae02_3 : decode cJ5_isLatin1_aae02 3 = .ok (.ifCond .eq 14, 3) := by decide +kernel
theorem dJ5_isLatin1_aae02_6 : decode cJ5_isLatin1_aae02 6 = .ok (.aload_n 0, 1) := by decide +kernel
theorem dJ5_isLatin1_aae02_7 : decode cJ5_isLatin1_aae02 7 = .ok (.getfield 22, 3) := by decide +kernel
theorem dJ5_isLatin1_aae02_10 : decode cJ5_isLatin1_aae02 10 = .ok (.ifCond .ne 7, 3) := by decide +kernel
theorem dJ5_isLatin1_aae02_13 : decode cJ5_isLatin1_aae02 13 = .ok (.iconst 1, 1) := by decide +kernel
theorem dJ5_isLatin1_aae02_14 : decode cJ5_isLatin1_aae02 14 = .ok (.goto 4, 3) := by decide +kernel
theorem dJ5_isLatin1_aae02_17 : decode cJ5_isLatin1_aae02 17 = .ok (.iconst 0, 1) := by decide +kernel
theorem dJ5_isLatin1_aae02_18 : decode cJ5_isLatin1_aae02 18 = .ok (.ireturn, 1) := by decide +kernel
theorem dJ5_putStringAt_47b60_0 : decode cJ5_putStringAt_47b60 0 = .ok (.aload_n 0, 1) := by decide +kernel
theorem dJ5_putStringAt_47b60_1 : decode cJ5_putStringAt_47b60 1 = .ok (.aload_n 2, 1) := by decide +kernel
theorem dJ5_putStringAt_47b60_2 : decode cJ5_putStringAt_47b60 2 = .ok (.invokevirtual 397, 3) := by decide +kernel
theorem dJ5_putStringAt_47b60_5 : decode cJ5_putStringAt_47b60 5 = .ok (.aload_n 2, 1) := by decide +kernel
theorem dJ5_putStringAt_47b60_6 : decode cJ5_putStringAt_47b60 6 = .ok (.aload_n 0, 1) := by decide +kernel
theorem dJ5_putStringAt_47b60_7 : decode cJ5_putStringAt_47b60 7 = .ok (.getfield 15, 3) := by decide +kernel
theorem dJ5_putStringAt_47b60_10 : decode cJ5_putStringAt_47b60 10 = .ok (.iload_n 1, 1) := by decide +kernel
theorem dJ5_putStringAt_47b60_11 : decode cJ5_putStringAt_47b60 11 = .ok (.aload_n 0, 1) := by decide +kernel
theorem dJ5_putStringAt_47b60_12 : decode cJ5_putStringAt_47b60 12 = .ok (.getfield 22, 3) := by decide +kernel
theorem dJ5_putStringAt_47b60_15 : decode cJ5_putStringAt_47b60 15 = .ok (.invokevirtual 399, 3) := by decide +kernel
theorem dJ5_putStringAt_47b60_18 : decode cJ5_putStringAt_47b60 18 = .ok (.return_, 1) := by decide +kernel
theorem dJ5_inflateIfNeededFor_a7421_0 : decode cJ5_inflateIfNeededFor_a7421 0 = .ok (.getstatic 18, 3) := by decide +kernel
theorem dJ5_inflateIfNeededFor_a7421_3 : decode cJ5_inflateIfNeededFor_a7421 3 = .ok (.ifCond .eq 18, 3) := by decide +kernel
theorem dJ5_inflateIfNeededFor_a7421_6 : decode cJ5_inflateIfNeededFor_a7421 6 = .ok (.aload_n 0, 1) := by decide +kernel
theorem dJ5_inflateIfNeededFor_a7421_7 : decode cJ5_inflateIfNeededFor_a7421 7 = .ok (.getfield 22, 3) := by decide +kernel
theorem dJ5_inflateIfNeededFor_a7421_10 : decode cJ5_inflateIfNeededFor_a7421 10 = .ok (.aload_n 1, 1) := by decide +kernel
theorem dJ5_inflateIfNeededFor_a7421_11 : decode cJ5_inflateIfNeededFor_a7421 11 = .ok (.invokevirtual 40, 3) := by decide +kernel
theorem dJ5_inflateIfNeededFor_a7421_14 : decode cJ5_inflateIfNeededFor_a7421 14 = .ok (.if_icmp .eq 7, 3) := by decide +kernel
theorem dJ5_inflateIfNeededFor_a7421_17 : decode cJ5_inflateIfNeededFor_a7421 17 = .ok (.aload_n 0, 1) := by decide +kernel
theorem dJ5_inflateIfNeededFor_a7421_18 : decode cJ5_inflateIfNeededFor_a7421 18 = .ok (.invokevirtual 195, 3) := by decide +kernel
theorem dJ5_inflateIfNeededFor_a7421_21 : decode cJ5_inflateIfNeededFor_a7421 21 = .ok (.return_, 1) := by decide +kernel
theorem dJ6_stringSize_0f7a4_0 : decode cJ6_stringSize_0f7a4 0 = .ok (.iconst 1, 1) := by decide +kernel
theorem dJ6_stringSize_0f7a4_1 : decode cJ6_stringSize_0f7a4 1 = .ok (.istore_n 1, 1) := by decide +kernel
theorem dJ6_stringSize_0f7a4_2 : decode cJ6_stringSize_0f7a4 2 = .ok (.iload_n 0, 1) := by decide +kernel
theorem dJ6_stringSize_0f7a4_3 : decode cJ6_stringSize_0f7a4 3 = .ok (.ifCond .lt 8, 3) := by decide +kernel
theorem dJ6_stringSize_0f7a4_6 : decode cJ6_stringSize_0f7a4 6 = .ok (.iconst 0, 1) := by decide +kernel
theorem dJ6_stringSize_0f7a4_7 : decode cJ6_stringSize_0f7a4 7 = .ok (.istore_n 1, 1) := by decide +kernel
theorem dJ6_stringSize_0f7a4_8 : decode cJ6_stringSize_0f7a4 8 = .ok (.iload_n 0, 1) := by decide +kernel
theorem dJ6_stringSize_0f7a4_9 : decode cJ6_stringSize_0f7a4 9 = .ok (.ineg, 1) := by decide +kernel
theorem dJ6_stringSize_0f7a4_10 : decode cJ6_stringSize_0f7a4 10 = .ok (.istore_n 0, 1) := by decide +kernel
theorem dJ6_stringSize_0f7a4_11 : decode cJ6_stringSize_0f7a4 11 = .ok (.bipush (-10), 2) := by decide +kernel
theorem dJ6_stringSize_0f7a4_13 : decode cJ6_stringSize_0f7a4 13 = .ok (.istore_n 2, 1) := by decide +kernel
theorem dJ6_stringSize_0f7a4_14 : decode cJ6_stringSize_0f7a4 14 = .ok (.iconst 1, 1) := by decide +kernel
theorem dJ6_stringSize_0f7a4_15 : decode cJ6_stringSize_0f7a4 15 = .ok (.istore_n 3, 1) := by decide +kernel
theorem dJ6_stringSize_0f7a4_16 : decode cJ6_stringSize_0f7a4 16 = .ok (.iload_n 3, 1) := by decide +kernel
theorem dJ6_stringSize_0f7a4_17 : decode cJ6_stringSize_0f7a4 17 = .ok (.bipush 10, 2) := by decide +kernel
theorem dJ6_stringSize_0f7a4_19 : decode cJ6_stringSize_0f7a4 19 = .ok (.if_icmp .ge 23, 3) := by decide +kernel
theorem dJ6_stringSize_0f7a4_22 : decode cJ6_stringSize_0f7a4 22 = .ok (.iload_n 0, 1) := by decide +kernel
theorem dJ6_stringSize_0f7a4_23 : decode cJ6_stringSize_0f7a4 23 = .ok (.iload_n 2, 1) := by decide +kernel
theorem dJ6_stringSize_0f7a4_24 : decode cJ6_stringSize_0f7a4 24 = .ok (.if_icmp .le 7, 3) := by decide +kernel
theorem dJ6_stringSize_0f7a4_27 : decode cJ6_stringSize_0f7a4 27 = .ok (.iload_n 3, 1) := by decide +kernel
theorem dJ6_stringSize_0f7a4_28 : decode cJ6_stringSize_0f7a4 28 = .ok (.iload_n 1, 1) := by decide +kernel
theorem dJ6_stringSize_0f7a4_29 : decode cJ6_stringSize_0f7a4 29 = .ok (.iadd, 1) := by decide +kernel
theorem dJ6_stringSize_0f7a4_30 : decode cJ6_stringSize_0f7a4 30 = .ok (.ireturn, 1) := by decide +kernel
theorem dJ6_stringSize_0f7a4_31 : decode cJ6_stringSize_0f7a4 31 = .ok (.bipush 10, 2) := by decide +kernel
theorem dJ6_stringSize_0f7a4_33 : decode cJ6_stringSize_0f7a4 33 = .ok (.iload_n 2, 1) := by decide +kernel
theorem dJ6_stringSize_0f7a4_34 : decode cJ6_stringSize_0f7a4 34 = .ok (.imul, 1) := by decide +kernel
theorem dJ6_stringSize_0f7a4_35 : decode cJ6_stringSize_0f7a4 35 = .ok (.istore_n 2, 1) := by decide +kernel
theorem dJ6_stringSize_0f7a4_36 : decode cJ6_stringSize_0f7a4 36 = .ok (.iinc 3 1, 3) := by decide +kernel
theorem dJ6_stringSize_0f7a4_39 : decode cJ6_stringSize_0f7a4 39 = .ok (.goto (-23), 3) := by decide +kernel
theorem dJ6_stringSize_0f7a4_42 : decode cJ6_stringSize_0f7a4 42 = .ok (.bipush 10, 2) := by decide +kernel
theorem dJ6_stringSize_0f7a4_44 : decode cJ6_stringSize_0f7a4 44 = .ok (.iload_n 1, 1) := by decide +kernel
theorem dJ6_stringSize_0f7a4_45 : decode cJ6_stringSize_0f7a4 45 = .ok (.iadd, 1) := by decide +kernel
theorem dJ6_stringSize_0f7a4_46 : decode cJ6_stringSize_0f7a4 46 = .ok (.ireturn, 1) := by decide +kernel
theorem dJ6_getChars_ba4f3_0 : decode cJ6_getChars_ba4f3 0 = .ok (.iload_n 1, 1) := by decide +kernel
theorem dJ6_getChars_ba4f3_1 : decode cJ6_getChars_ba4f3 1 = .ok (.istore 5, 2) := by decide +kernel
theorem dJ6_getChars_ba4f3_3 : decode cJ6_getChars_ba4f3 3 = .ok (.iload_n 0, 1) := by decide +kernel
theorem dJ6_getChars_ba4f3_4 : decode cJ6_getChars_ba4f3 4 = .ok (.ifCond .ge 7, 3) := by decide +kernel
theorem dJ6_getChars_ba4f3_7 : decode cJ6_getChars_ba4f3 7 = .ok (.iconst 1, 1) := by decide +kernel
theorem dJ6_getChars_ba4f3_8 : decode cJ6_getChars_ba4f3 8 = .ok (.goto 4, 3) := by decide +kernel
theorem dJ6_getChars_ba4f3_11 : decode cJ6_getChars_ba4f3 11 = .ok (.iconst 0, 1) := by decide +kernel
theorem dJ6_getChars_ba4f3_12 : decode cJ6_getChars_ba4f3 12 = .ok (.istore 6, 2) := by decide +kernel
theorem dJ6_getChars_ba4f3_14 : decode cJ6_getChars_ba4f3 14 = .ok (.iload 6, 2) := by decide +kernel
theorem dJ6_getChars_ba4f3_16 : decode cJ6_getChars_ba4f3 16 = .ok (.ifCond .ne 6, 3) := by decide +kernel
theorem dJ6_getChars_ba4f3_19 : decode cJ6_getChars_ba4f3 19 = .ok (.iload_n 0, 1) := by decide +kernel
theorem dJ6_getChars_ba4f3_20 : decode cJ6_getChars_ba4f3 20 = .ok (.ineg, 1) := by decide +kernel
theorem dJ6_getChars_ba4f3_21 : decode cJ6_getChars_ba4f3 21 = .ok (.istore_n 0, 1) := by decide +kernel
theorem dJ6_getChars_ba4f3_22 : decode cJ6_getChars_ba4f3 22 = .ok (.iload_n 0, 1) := by decide +kernel
theorem dJ6_getChars_ba4f3_23 : decode cJ6_getChars_ba4f3 23 = .ok (.bipush (-100), 2) := by decide +kernel
theorem dJ6_getChars_ba4f3_25 : decode cJ6_getChars_ba4f3 25 = .ok (.if_icmp .gt 47, 3) := by decide +kernel
theorem dJ6_getChars_ba4f3_28 : decode cJ6_getChars_ba4f3 28 = .ok (.iload_n 0, 1) := by decide +kernel
theorem dJ6_getChars_ba4f3_29 : decode cJ6_getChars_ba4f3 29 = .ok (.bipush 100, 2) := by decide +kernel
theorem dJ6_getChars_ba4f3_31 : decode cJ6_getChars_ba4f3 31 = .ok (.idiv, 1) := by decide +kernel
theorem dJ6_getChars_ba4f3_32 : decode cJ6_getChars_ba4f3 32 = .ok (.istore_n 3, 1) := by decide +kernel
theorem dJ6_getChars_ba4f3_33 : decode cJ6_getChars_ba4f3 33 = .ok (.iload_n 3, 1) := by decide +kernel
theorem dJ6_getChars_ba4f3_34 : decode cJ6_getChars_ba4f3 34 = .ok (.bipush 100, 2) := by decide +kernel
theorem dJ6_getChars_ba4f3_36 : decode cJ6_getChars_ba4f3 36 = .ok (.imul, 1) := by decide +kernel
theorem dJ6_getChars_ba4f3_37 : decode cJ6_getChars_ba4f3 37 = .ok (.iload_n 0, 1) := by decide +kernel
theorem dJ6_getChars_ba4f3_38 : decode cJ6_getChars_ba4f3 38 = .ok (.isub, 1) := by decide +kernel
theorem dJ6_getChars_ba4f3_39 : decode cJ6_getChars_ba4f3 39 = .ok (.istore 4, 2) := by decide +kernel
theorem dJ6_getChars_ba4f3_41 : decode cJ6_getChars_ba4f3 41 = .ok (.iload_n 3, 1) := by decide +kernel
theorem dJ6_getChars_ba4f3_42 : decode cJ6_getChars_ba4f3 42 = .ok (.istore_n 0, 1) := by decide +kernel
theorem dJ6_getChars_ba4f3_43 : decode cJ6_getChars_ba4f3 43 = .ok (.aload_n 2, 1) := by decide +kernel
theorem dJ6_getChars_ba4f3_44 : decode cJ6_getChars_ba4f3 44 = .ok (.iinc 5 (-1), 3) := by decide +kernel
theorem dJ6_getChars_ba4f3_47 : decode cJ6_getChars_ba4f3 47 = .ok (.iload 5, 2) := by decide +kernel
theorem dJ6_getChars_ba4f3_49 : decode cJ6_getChars_ba4f3 49 = .ok (.getstatic 83, 3) := by decide +kernel
theorem dJ6_getChars_ba4f3_52 : decode cJ6_getChars_ba4f3 52 = .ok (.iload 4, 2) := by decide +kernel
theorem dJ6_getChars_ba4f3_54 : decode cJ6_getChars_ba4f3 54 = .ok (.baload, 1) := by decide +kernel
theorem dJ6_getChars_ba4f3_55 : decode cJ6_getChars_ba4f3 55 = .ok (.bastore, 1) := by decide +kernel
theorem dJ6_getChars_ba4f3_56 : decode cJ6_getChars_ba4f3 56 = .ok (.aload_n 2, 1) := by decide +kernel
theorem dJ6_getChars_ba4f3_57 : decode cJ6_getChars_ba4f3 57 = .ok (.iinc 5 (-1), 3) := by decide +kernel
theorem dJ6_getChars_ba4f3_60 : decode cJ6_getChars_ba4f3 60 = .ok (.iload 5, 2) := by decide +kernel
theorem dJ6_getChars_ba4f3_62 : decode cJ6_getChars_ba4f3 62 = .ok (.getstatic 87, 3) := by decide +kernel
theorem dJ6_getChars_ba4f3_65 : decode cJ6_getChars_ba4f3 65 = .ok (.iload 4, 2) := by decide +kernel
theorem dJ6_getChars_ba4f3_67 : decode cJ6_getChars_ba4f3 67 = .ok (.baload, 1) := by decide +kernel
theorem dJ6_getChars_ba4f3_68 : decode cJ6_getChars_ba4f3 68 = .ok (.bastore, 1) := by decide +kernel
theorem dJ6_getChars_ba4f3_69 : decode cJ6_getChars_ba4f3 69 = .ok (.goto (-47), 3) := by decide +kernel
theorem dJ6_getChars_ba4f3_72 : decode cJ6_getChars_ba4f3 72 = .ok (.aload_n 2, 1) := by decide +kernel
theorem dJ6_getChars_ba4f3_73 : decode cJ6_getChars_ba4f3 73 = .ok (.iinc 5 (-1), 3) := by decide +kernel
theorem dJ6_getChars_ba4f3_76 : decode cJ6_getChars_ba4f3 76 = .ok (.iload 5, 2) := by decide +kernel
theorem dJ6_getChars_ba4f3_78 : decode cJ6_getChars_ba4f3 78 = .ok (.getstatic 83, 3) := by decide +kernel
theorem dJ6_getChars_ba4f3_81 : decode cJ6_getChars_ba4f3 81 = .ok (.iload_n 0, 1) := by decide +kernel
theorem dJ6_getChars_ba4f3_82 : decode cJ6_getChars_ba4f3 82 = .ok (.ineg, 1) := by decide +kernel
theorem dJ6_getChars_ba4f3_83 : decode cJ6_getChars_ba4f3 83 = .ok (.baload, 1) := by decide +kernel
theorem dJ6_getChars_ba4f3_84 : decode cJ6_getChars_ba4f3 84 = .ok (.bastore, 1) := by decide +kernel
theorem dJ6_getChars_ba4f3_85 : decode cJ6_getChars_ba4f3 85 = .ok (.iload_n 0, 1) := by decide +kernel
theorem dJ6_getChars_ba4f3_86 : decode cJ6_getChars_ba4f3 86 = .ok (.bipush (-9), 2) := by decide +kernel
theorem dJ6_getChars_ba4f3_88 : decode cJ6_getChars_ba4f3 88 = .ok (.if_icmp .ge 16, 3) := by decide +kernel
theorem dJ6_getChars_ba4f3_91 : decode cJ6_getChars_ba4f3 91 = .ok (.aload_n 2, 1) := by decide +kernel
theorem dJ6_getChars_ba4f3_92 : decode cJ6_getChars_ba4f3 92 = .ok (.iinc 5 (-1), 3) := by decide +kernel
theorem dJ6_getChars_ba4f3_95 : decode cJ6_getChars_ba4f3 95 = .ok (.iload 5, 2) := by decide +kernel
theorem dJ6_getChars_ba4f3_97 : decode cJ6_getChars_ba4f3 97 = .ok (.getstatic 87, 3) := by decide +kernel
theorem dJ6_getChars_ba4f3_100 : decode cJ6_getChars_ba4f3 100 = .ok (.iload_n 0, 1) := by decide +kernel
theorem dJ6_getChars_ba4f3_101 : decode cJ6_getChars_ba4f3 101 = .ok (.ineg, 1) := by decide +kernel
theorem dJ6_getChars_ba4f3_102 : decode cJ6_getChars_ba4f3 102 = .ok (.baload, 1) := by decide +kernel
theorem dJ6_getChars_ba4f3_103 : decode cJ6_getChars_ba4f3 103 = .ok (.bastore, 1) := by decide +kernel
theorem dJ6_getChars_ba4f3_104 : decode cJ6_getChars_ba4f3 104 = .ok (.iload 6, 2) := by decide +kernel
theorem dJ6_getChars_ba4f3_106 : decode cJ6_getChars_ba4f3 106 = .ok (.ifCond .eq 12, 3) := by decide +kernel
theorem dJ6_getChars_ba4f3_109 : decode cJ6_getChars_ba4f3 109 = .ok (.aload_n 2, 1) := by decide +kernel
theorem dJ6_getChars_ba4f3_110 : decode cJ6_getChars_ba4f3 110 = .ok (.iinc 5 (-1), 3) := by decide +kernel
theorem dJ6_getChars_ba4f3_113 : decode cJ6_getChars_ba4f3 113 = .ok (.iload 5, 2) := by decide +kernel
theorem dJ6_getChars_ba4f3_115 : decode cJ6_getChars_ba4f3 115 = .ok (.bipush 45, 2) := by decide +kernel
theorem dJ6_getChars_ba4f3_117 : decode cJ6_getChars_ba4f3 117 = .ok (.bastore, 1) := by decide +kernel
theorem dJ6_getChars_ba4f3_118 : decode cJ6_getChars_ba4f3 118 = .ok (.iload 5, 2) := by decide +kernel
theorem dJ6_getChars_ba4f3_120 : decode cJ6_getChars_ba4f3 120 = .ok (.ireturn, 1) := by decide +kernel
theorem dJ4_init_da8c8_0 : decode cJ4_init_da8c8 0 = .ok (.aload_n 0, 1) := by decide +kernel
theorem dJ4_init_da8c8_1 : decode cJ4_init_da8c8 1 = .ok (.bipush 16, 2) := by decide +kernel
theorem dJ4_init_da8c8_3 : decode cJ4_init_da8c8 3 = .ok (.invokespecial 1, 3) := by decide +kernel
theorem dJ4_init_da8c8_6 : decode cJ4_init_da8c8 6 = .ok (.return_, 1) := by decide +kernel
theorem dJ5_init_d00df_0 : decode cJ5_init_d00df 0 = .ok (.aload_n 0, 1) := by decide +kernel
theorem dJ5_init_d00df_1 : decode cJ5_init_d00df 1 = .ok (.invokespecial 3, 3) := by decide +kernel
theorem dJ5_init_d00df_4 : decode cJ5_init_d00df 4 = .ok (.getstatic 18, 3) := by decide +kernel
theorem dJ5_init_d00df_7 : decode cJ5_init_d00df 7 = .ok (.ifCond .eq 18, 3) := by decide +kernel
theorem dJ5_init_d00df_10 : decode cJ5_init_d00df 10 = .ok (.aload_n 0, 1) := by decide +kernel
theorem dJ5_init_d00df_11 : decode cJ5_init_d00df 11 = .ok (.iload_n 1, 1) := by decide +kernel
theorem dJ5_init_d00df_12 : decode cJ5_init_d00df 12 = .ok (.newarray .byte, 2) := by decide +kernel
theorem dJ5_init_d00df_14 : decode cJ5_init_d00df 14 = .ok (.putfield 15, 3) := by decide +kernel
theorem dJ5_init_d00df_17 : decode cJ5_init_d00df 17 = .ok (.aload_n 0, 1) := by decide +kernel
theorem dJ5_init_d00df_18 : decode cJ5_init_d00df 18 = .ok (.iconst 0, 1) := by decide +kernel
theorem dJ5_init_d00df_19 : decode cJ5_init_d00df 19 = .ok (.putfield 22, 3) := by decide +kernel
theorem dJ5_init_d00df_22 : decode cJ5_init_d00df 22 = .ok (.goto 16, 3) := by decide +kernel
theorem dJ5_init_d00df_25 : decode cJ5_init_d00df 25 = .ok (.aload_n 0, 1) := by decide +kernel
theorem dJ5_init_d00df_26 : decode cJ5_init_d00df 26 = .ok (.iload_n 1, 1) := by decide +kernel
theorem dJ5_init_d00df_27 : decode cJ5_init_d00df 27 = .ok (.invokestatic 26, 3) := by decide +kernel
theorem dJ5_init_d00df_30 : decode cJ5_init_d00df 30 = .ok (.putfield 15, 3) := by decide +kernel
theorem dJ5_init_d00df_33 : decode cJ5_init_d00df 33 = .ok (.aload_n 0, 1) := by decide +kernel
theorem dJ5_init_d00df_34 : decode cJ5_init_d00df 34 = .ok (.iconst 1, 1) := by decide +kernel
theorem dJ5_init_d00df_35 : decode cJ5_init_d00df 35 = .ok (.putfield 22, 3) := by decide +kernel
theorem dJ5_init_d00df_38 : decode cJ5_init_d00df 38 = .ok (.return_, 1) := by decide +kernel
