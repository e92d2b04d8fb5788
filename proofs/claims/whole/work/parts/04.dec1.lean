theorem dX1_init_0 : decode cX1_init 0 = .ok (.aload_n 0, 1) := by decide +kernel
theorem dX1_init_1 : decode cX1_init 1 = .ok (.invokespecial 3, 3) := by decide +kernel
theorem dX1_init_4 : decode cX1_init 4 = .ok (.aload_n 0, 1) := by decide +kernel
theorem dX1_init_5 : decode cX1_init 5 = .ok (.bipush 6, 2) := by decide +kernel
theorem dX1_init_7 : decode cX1_init 7 = .ok (.newarray .int, 2) := by decide +kernel
theorem dX1_init_9 : decode cX1_init 9 = .ok (.putfield 9, 3) := by decide +kernel
theorem dX1_init_12 : decode cX1_init 12 = .ok (.aload_n 0, 1) := by decide +kernel
theorem dX1_init_13 : decode cX1_init 13 = .ok (.bipush 12, 2) := by decide +kernel
theorem dX1_init_15 : decode cX1_init 15 = .ok (.newarray .long, 2) := by decide +kernel
theorem dX1_init_17 : decode cX1_init 17 = .ok (.putfield 15, 3) := by decide +kernel
theorem dX1_init_20 : decode cX1_init 20 = .ok (.aload_n 0, 1) := by decide +kernel
theorem dX1_init_21 : decode cX1_init 21 = .ok (.aload_n 1, 1) := by decide +kernel
theorem dX1_init_22 : decode cX1_init 22 = .ok (.putfield 19, 3) := by decide +kernel
theorem dX1_init_25 : decode cX1_init 25 = .ok (.return_, 1) := by decide +kernel
theorem dX1_passAll_0 : decode cX1_passAll 0 = .ok (.iconst 0, 1) := by decide +kernel
theorem dX1_passAll_1 : decode cX1_passAll 1 = .ok (.istore 4, 2) := by decide +kernel
theorem dX1_passAll_3 : decode cX1_passAll 3 = .ok (.iload 4, 2) := by decide +kernel
theorem dX1_passAll_5 : decode cX1_passAll 5 = .ok (.iload_n 3, 1) := by decide +kernel
theorem dX1_passAll_6 : decode cX1_passAll 6 = .ok (.if_icmp .ge 24, 3) := by decide +kernel
theorem dX1_passAll_9 : decode cX1_passAll 9 = .ok (.aload_n 0, 1) := by decide +kernel
theorem dX1_passAll_10 : decode cX1_passAll 10 = .ok (.aload_n 1, 1) := by decide +kernel
theorem dX1_passAll_11 : decode cX1_passAll 11 = .ok (.aload_n 2, 1) := by decide +kernel
theorem dX1_passAll_12 : decode cX1_passAll 12 = .ok (.aload_n 0, 1) := by decide +kernel
theorem dX1_passAll_13 : decode cX1_passAll 13 = .ok (.getfield 19, 3) := by decide +kernel
theorem dX1_passAll_16 : decode cX1_passAll 16 = .ok (.aload_n 1, 1) := by decide +kernel
theorem dX1_passAll_17 : decode cX1_passAll 17 = .ok (.invokevirtual 23, 3) := by decide +kernel
theorem dX1_passAll_20 : decode cX1_passAll 20 = .ok (.invokevirtual 29, 3) := by decide +kernel
theorem dX1_passAll_23 : decode cX1_passAll 23 = .ok (.pop, 1) := by decide +kernel
theorem dX1_passAll_24 : decode cX1_passAll 24 = .ok (.iinc 4 1, 3) := by decide +kernel
theorem dX1_passAll_27 : decode cX1_passAll 27 = .ok (.goto (-24), 3) := by decide +kernel
theorem dX1_passAll_30 : decode cX1_passAll 30 = .ok (.return_, 1) := by decide +kernel
theorem dX1_pass_0 : decode cX1_pass 0 = .ok (.aload_n 2, 1) := by decide +kernel
theorem dX1_pass_1 : decode cX1_pass 1 = .ok (.ifnull 17, 3) := by decide +kernel
theorem dX1_pass_4 : decode cX1_pass 4 = .ok (.aload_n 1, 1) := by decide +kernel
theorem dX1_pass_5 : decode cX1_pass 5 = .ok (.getfield 33, 3) := by decide +kernel
theorem dX1_pass_8 : decode cX1_pass 8 = .ok (.ifCond .le 10, 3) := by decide +kernel
theorem dX1_pass_11 : decode cX1_pass 11 = .ok (.aload_n 0, 1) := by decide +kernel
theorem dX1_pass_12 : decode cX1_pass 12 = .ok (.aload_n 1, 1) := by decide +kernel
theorem dX1_pass_13 : decode cX1_pass 13 = .ok (.aload_n 2, 1) := by decide +kernel
theorem dX1_pass_14 : decode cX1_pass 14 = .ok (.iload_n 3, 1) := by decide +kernel
theorem dX1_pass_15 : decode cX1_pass 15 = .ok (.invokevirtual 39, 3) := by decide +kernel
theorem dX1_pass_18 : decode cX1_pass 18 = .ok (.aload_n 0, 1) := by decide +kernel
theorem dX1_pass_19 : decode cX1_pass 19 = .ok (.aload_n 1, 1) := by decide +kernel
theorem dX1_pass_20 : decode cX1_pass 20 = .ok (.iload_n 3, 1) := by decide +kernel
theorem dX1_pass_21 : decode cX1_pass 21 = .ok (.invokevirtual 43, 3) := by decide +kernel
theorem dX1_pass_24 : decode cX1_pass 24 = .ok (.ireturn, 1) := by decide +kernel
theorem dX1_hardenBy_0 : decode cX1_hardenBy 0 = .ok (.lconst 0, 1) := by decide +kernel
theorem dX1_hardenBy_1 : decode cX1_hardenBy 1 = .ok (.lstore 4, 2) := by decide +kernel
theorem dX1_hardenBy_3 : decode cX1_hardenBy 3 = .ok (.iconst (-1), 1) := by decide +kernel
theorem dX1_hardenBy_4 : decode cX1_hardenBy 4 = .ok (.istore 6, 2) := by decide +kernel
theorem dX1_hardenBy_6 : decode cX1_hardenBy 6 = .ok (.iconst (-1), 1) := by decide +kernel
theorem dX1_hardenBy_7 : decode cX1_hardenBy 7 = .ok (.istore 7, 2) := by decide +kernel
theorem dX1_hardenBy_9 : decode cX1_hardenBy 9 = .ok (.iconst 0, 1) := by decide +kernel
theorem dX1_hardenBy_10 : decode cX1_hardenBy 10 = .ok (.istore 8, 2) := by decide +kernel
theorem dX1_hardenBy_12 : decode cX1_hardenBy 12 = .ok (.iload 8, 2) := by decide +kernel
theorem dX1_hardenBy_14 : decode cX1_hardenBy 14 = .ok (.aload_n 0, 1) := by decide +kernel
theorem dX1_hardenBy_15 : decode cX1_hardenBy 15 = .ok (.getfield 19, 3) := by decide +kernel
theorem dX1_hardenBy_18 : decode cX1_hardenBy 18 = .ok (.getfield 47, 3) := by decide +kernel
theorem dX1_hardenBy_21 : decode cX1_hardenBy 21 = .ok (.if_icmp .ge 84, 3) := by decide +kernel
theorem dX1_hardenBy_24 : decode cX1_hardenBy 24 = .ok (.iload 8, 2) := by decide +kernel
theorem dX1_hardenBy_26 : decode cX1_hardenBy 26 = .ok (.iconst 1, 1) := by decide +kernel
theorem dX1_hardenBy_27 : decode cX1_hardenBy 27 = .ok (.iadd, 1) := by decide +kernel
theorem dX1_hardenBy_28 : decode cX1_hardenBy 28 = .ok (.istore 9, 2) := by decide +kernel
theorem dX1_hardenBy_30 : decode cX1_hardenBy 30 = .ok (.iload 9, 2) := by decide +kernel
theorem dX1_hardenBy_32 : decode cX1_hardenBy 32 = .ok (.aload_n 0, 1) := by decide +kernel
theorem dX1_hardenBy_33 : decode cX1_hardenBy 33 = .ok (.getfield 19, 3) := by decide +kernel
theorem dX1_hardenBy_36 : decode cX1_hardenBy 36 = .ok (.getfield 47, 3) := by decide +kernel
theorem dX1_hardenBy_39 : decode cX1_hardenBy 39 = .ok (.if_icmp .ge 60, 3) := by decide +kernel
theorem dX1_hardenBy_42 : decode cX1_hardenBy 42 = .ok (.aload_n 1, 1) := by decide +kernel
theorem dX1_hardenBy_43 : decode cX1_hardenBy 43 = .ok (.iload 8, 2) := by decide +kernel
theorem dX1_hardenBy_45 : decode cX1_hardenBy 45 = .ok (.iload 9, 2) := by decide +kernel
theorem dX1_hardenBy_47 : decode cX1_hardenBy 47 = .ok (.invokevirtual 50, 3) := by decide +kernel
theorem dX1_hardenBy_50 : decode cX1_hardenBy 50 = .ok (.ifCond .eq 43, 3) := by decide +kernel
theorem dX1_hardenBy_53 : decode cX1_hardenBy 53 = .ok (.aload_n 0, 1) := by decide +kernel
theorem dX1_hardenBy_54 : decode cX1_hardenBy 54 = .ok (.aload_n 1, 1) := by decide +kernel
theorem dX1_hardenBy_55 : decode cX1_hardenBy 55 = .ok (.iload 8, 2) := by decide +kernel
theorem dX1_hardenBy_57 : decode cX1_hardenBy 57 = .ok (.iload 9, 2) := by decide +kernel
theorem dX1_hardenBy_59 : decode cX1_hardenBy 59 = .ok (.iload_n 3, 1) := by decide +kernel
theorem dX1_hardenBy_60 : decode cX1_hardenBy 60 = .ok (.invokevirtual 54, 3) := by decide +kernel
theorem dX1_hardenBy_63 : decode cX1_hardenBy 63 = .ok (.aload_n 2, 1) := by decide +kernel
theorem dX1_hardenBy_64 : decode cX1_hardenBy 64 = .ok (.aload_n 0, 1) := by decide +kernel
theorem dX1_hardenBy_65 : decode cX1_hardenBy 65 = .ok (.getfield 15, 3) := by decide +kernel
theorem dX1_hardenBy_68 : decode cX1_hardenBy 68 = .ok (.invokevirtual 58, 3) := by decide +kernel
theorem dX1_hardenBy_71 : decode cX1_hardenBy 71 = .ok (.lstore 10, 2) := by decide +kernel
theorem dX1_hardenBy_73 : decode cX1_hardenBy 73 = .ok (.lload 10, 2) := by decide +kernel
theorem dX1_hardenBy_75 : decode cX1_hardenBy 75 = .ok (.lload 4, 2) := by decide +kernel
theorem dX1_hardenBy_77 : decode cX1_hardenBy 77 = .ok (.lcmp, 1) := by decide +kernel
theorem dX1_hardenBy_78 : decode cX1_hardenBy 78 = .ok (.ifCond .le 15, 3) := by decide +kernel
theorem dX1_hardenBy_81 : decode cX1_hardenBy 81 = .ok (.lload 10, 2) := by decide +kernel
theorem dX1_hardenBy_83 : decode cX1_hardenBy 83 = .ok (.lstore 4, 2) := by decide +kernel
theorem dX1_hardenBy_85 : decode cX1_hardenBy 85 = .ok (.iload 8, 2) := by decide +kernel
theorem dX1_hardenBy_87 : decode cX1_hardenBy 87 = .ok (.istore 6, 2) := by decide +kernel
theorem dX1_hardenBy_89 : decode cX1_hardenBy 89 = .ok (.iload 9, 2) := by decide +kernel
theorem dX1_hardenBy_91 : decode cX1_hardenBy 91 = .ok (.istore 7, 2) := by decide +kernel
theorem dX1_hardenBy_93 : decode cX1_hardenBy 93 = .ok (.iinc 9 1, 3) := by decide +kernel
theorem dX1_hardenBy_96 : decode cX1_hardenBy 96 = .ok (.goto (-66), 3) := by decide +kernel
theorem dX1_hardenBy_99 : decode cX1_hardenBy 99 = .ok (.iinc 8 1, 3) := by decide +kernel
theorem dX1_hardenBy_102 : decode cX1_hardenBy 102 = .ok (.goto (-90), 3) := by decide +kernel
theorem dX1_hardenBy_105 : decode cX1_hardenBy 105 = .ok (.iload 6, 2) := by decide +kernel
theorem dX1_hardenBy_107 : decode cX1_hardenBy 107 = .ok (.ifCond .lt 11, 3) := by decide +kernel
theorem dX1_hardenBy_110 : decode cX1_hardenBy 110 = .ok (.aload_n 1, 1) := by decide +kernel
theorem dX1_hardenBy_111 : decode cX1_hardenBy 111 = .ok (.iload 6, 2) := by decide +kernel
theorem dX1_hardenBy_113 : decode cX1_hardenBy 113 = .ok (.iload 7, 2) := by decide +kernel
theorem dX1_hardenBy_115 : decode cX1_hardenBy 115 = .ok (.invokevirtual 64, 3) := by decide +kernel
theorem dX1_hardenBy_118 : decode cX1_hardenBy 118 = .ok (.return_, 1) := by decide +kernel
theorem dX1_fillWords_0 : decode cX1_fillWords 0 = .ok (.aload_n 0, 1) := by decide +kernel
theorem dX1_fillWords_1 : decode cX1_fillWords 1 = .ok (.getfield 15, 3) := by decide +kernel
theorem dX1_fillWords_4 : decode cX1_fillWords 4 = .ok (.iconst 0, 1) := by decide +kernel
theorem dX1_fillWords_5 : decode cX1_fillWords 5 = .ok (.iload_n 2, 1) := by decide +kernel
theorem dX1_fillWords_6 : decode cX1_fillWords 6 = .ok (.i2l, 1) := by decide +kernel
theorem dX1_fillWords_7 : decode cX1_fillWords 7 = .ok (.lastore, 1) := by decide +kernel
theorem dX1_fillWords_8 : decode cX1_fillWords 8 = .ok (.aload_n 0, 1) := by decide +kernel
theorem dX1_fillWords_9 : decode cX1_fillWords 9 = .ok (.getfield 15, 3) := by decide +kernel
theorem dX1_fillWords_12 : decode cX1_fillWords 12 = .ok (.iconst 1, 1) := by decide +kernel
theorem dX1_fillWords_13 : decode cX1_fillWords 13 = .ok (.iload_n 3, 1) := by decide +kernel
theorem dX1_fillWords_14 : decode cX1_fillWords 14 = .ok (.i2l, 1) := by decide +kernel
theorem dX1_fillWords_15 : decode cX1_fillWords 15 = .ok (.lastore, 1) := by decide +kernel
theorem dX1_fillWords_16 : decode cX1_fillWords 16 = .ok (.aload_n 0, 1) := by decide +kernel
theorem dX1_fillWords_17 : decode cX1_fillWords 17 = .ok (.getfield 15, 3) := by decide +kernel
theorem dX1_fillWords_20 : decode cX1_fillWords 20 = .ok (.iconst 2, 1) := by decide +kernel
theorem dX1_fillWords_21 : decode cX1_fillWords 21 = .ok (.aload_n 1, 1) := by decide +kernel
theorem dX1_fillWords_22 : decode cX1_fillWords 22 = .ok (.iload_n 2, 1) := by decide +kernel
theorem dX1_fillWords_23 : decode cX1_fillWords 23 = .ok (.iload_n 3, 1) := by decide +kernel
theorem dX1_fillWords_24 : decode cX1_fillWords 24 = .ok (.invokevirtual 68, 3) := by decide +kernel
theorem dX1_fillWords_27 : decode cX1_fillWords 27 = .ok (.i2l, 1) := by decide +kernel
theorem dX1_fillWords_28 : decode cX1_fillWords 28 = .ok (.lastore, 1) := by decide +kernel
theorem dX1_fillWords_29 : decode cX1_fillWords 29 = .ok (.aload_n 0, 1) := by decide +kernel
theorem dX1_fillWords_30 : decode cX1_fillWords 30 = .ok (.getfield 15, 3) := by decide +kernel
theorem dX1_fillWords_33 : decode cX1_fillWords 33 = .ok (.iconst 3, 1) := by decide +kernel
theorem dX1_fillWords_34 : decode cX1_fillWords 34 = .ok (.aload_n 1, 1) := by decide +kernel
theorem dX1_fillWords_35 : decode cX1_fillWords 35 = .ok (.getfield 72, 3) := by decide +kernel
theorem dX1_fillWords_38 : decode cX1_fillWords 38 = .ok (.iload_n 2, 1) := by decide +kernel
theorem dX1_fillWords_39 : decode cX1_fillWords 39 = .ok (.iaload, 1) := by decide +kernel
theorem dX1_fillWords_40 : decode cX1_fillWords 40 = .ok (.i2l, 1) := by decide +kernel
theorem dX1_fillWords_41 : decode cX1_fillWords 41 = .ok (.lastore, 1) := by decide +kernel
theorem dX1_fillWords_42 : decode cX1_fillWords 42 = .ok (.aload_n 0, 1) := by decide +kernel
theorem dX1_fillWords_43 : decode cX1_fillWords 43 = .ok (.getfield 15, 3) := by decide +kernel
theorem dX1_fillWords_46 : decode cX1_fillWords 46 = .ok (.iconst 4, 1) := by decide +kernel
theorem dX1_fillWords_47 : decode cX1_fillWords 47 = .ok (.aload_n 1, 1) := by decide +kernel
theorem dX1_fillWords_48 : decode cX1_fillWords 48 = .ok (.getfield 72, 3) := by decide +kernel
theorem dX1_fillWords_51 : decode cX1_fillWords 51 = .ok (.iload_n 3, 1) := by decide +kernel
theorem dX1_fillWords_52 : decode cX1_fillWords 52 = .ok (.iaload, 1) := by decide +kernel
theorem dX1_fillWords_53 : decode cX1_fillWords 53 = .ok (.i2l, 1) := by decide +kernel
theorem dX1_fillWords_54 : decode cX1_fillWords 54 = .ok (.lastore, 1) := by decide +kernel
theorem dX1_fillWords_55 : decode cX1_fillWords 55 = .ok (.aload_n 0, 1) := by decide +kernel
theorem dX1_fillWords_56 : decode cX1_fillWords 56 = .ok (.getfield 15, 3) := by decide +kernel
theorem dX1_fillWords_59 : decode cX1_fillWords 59 = .ok (.iconst 5, 1) := by decide +kernel
theorem dX1_fillWords_60 : decode cX1_fillWords 60 = .ok (.aload_n 1, 1) := by decide +kernel
theorem dX1_fillWords_61 : decode cX1_fillWords 61 = .ok (.getfield 72, 3) := by decide +kernel
theorem dX1_fillWords_64 : decode cX1_fillWords 64 = .ok (.iload_n 2, 1) := by decide +kernel
theorem dX1_fillWords_65 : decode cX1_fillWords 65 = .ok (.iaload, 1) := by decide +kernel
theorem dX1_fillWords_66 : decode cX1_fillWords 66 = .ok (.aload_n 1, 1) := by decide +kernel
theorem dX1_fillWords_67 : decode cX1_fillWords 67 = .ok (.getfield 72, 3) := by decide +kernel
theorem dX1_fillWords_70 : decode cX1_fillWords 70 = .ok (.iload_n 3, 1) := by decide +kernel
theorem dX1_fillWords_71 : decode cX1_fillWords 71 = .ok (.iaload, 1) := by decide +kernel
theorem dX1_fillWords_72 : decode cX1_fillWords 72 = .ok (.isub, 1) := by decide +kernel
theorem dX1_fillWords_73 : decode cX1_fillWords 73 = .ok (.invokestatic 75, 3) := by decide +kernel
theorem dX1_fillWords_76 : decode cX1_fillWords 76 = .ok (.i2l, 1) := by decide +kernel
theorem dX1_fillWords_77 : decode cX1_fillWords 77 = .ok (.lastore, 1) := by decide +kernel
theorem dX1_fillWords_78 : decode cX1_fillWords 78 = .ok (.aload_n 0, 1) := by decide +kernel
theorem dX1_fillWords_79 : decode cX1_fillWords 79 = .ok (.getfield 15, 3) := by decide +kernel
theorem dX1_fillWords_82 : decode cX1_fillWords 82 = .ok (.bipush 6, 2) := by decide +kernel
theorem dX1_fillWords_84 : decode cX1_fillWords 84 = .ok (.aload_n 1, 1) := by decide +kernel
theorem dX1_fillWords_85 : decode cX1_fillWords 85 = .ok (.getfield 81, 3) := by decide +kernel
theorem dX1_fillWords_88 : decode cX1_fillWords 88 = .ok (.iload_n 2, 1) := by decide +kernel
theorem dX1_fillWords_89 : decode cX1_fillWords 89 = .ok (.iaload, 1) := by decide +kernel
theorem dX1_fillWords_90 : decode cX1_fillWords 90 = .ok (.i2l, 1) := by decide +kernel
theorem dX1_fillWords_91 : decode cX1_fillWords 91 = .ok (.lastore, 1) := by decide +kernel
theorem dX1_fillWords_92 : decode cX1_fillWords 92 = .ok (.aload_n 0, 1) := by decide +kernel
theorem dX1_fillWords_93 : decode cX1_fillWords 93 = .ok (.getfield 15, 3) := by decide +kernel
theorem dX1_fillWords_96 : decode cX1_fillWords 96 = .ok (.bipush 7, 2) := by decide +kernel
theorem dX1_fillWords_98 : decode cX1_fillWords 98 = .ok (.aload_n 1, 1) := by decide +kernel
theorem dX1_fillWords_99 : decode cX1_fillWords 99 = .ok (.getfield 81, 3) := by decide +kernel
theorem dX1_fillWords_102 : decode cX1_fillWords 102 = .ok (.iload_n 3, 1) := by decide +kernel
theorem dX1_fillWords_103 : decode cX1_fillWords 103 = .ok (.iaload, 1) := by decide +kernel
theorem dX1_fillWords_104 : decode cX1_fillWords 104 = .ok (.i2l, 1) := by decide +kernel
theorem dX1_fillWords_105 : decode cX1_fillWords 105 = .ok (.lastore, 1) := by decide +kernel
theorem dX1_fillWords_106 : decode cX1_fillWords 106 = .ok (.aload_n 0, 1) := by decide +kernel
theorem dX1_fillWords_107 : decode cX1_fillWords 107 = .ok (.getfield 15, 3) := by decide +kernel
theorem dX1_fillWords_110 : decode cX1_fillWords 110 = .ok (.bipush 8, 2) := by decide +kernel
theorem dX1_fillWords_112 : decode cX1_fillWords 112 = .ok (.iload 4, 2) := by decide +kernel
theorem dX1_fillWords_114 : decode cX1_fillWords 114 = .ok (.i2l, 1) := by decide +kernel
theorem dX1_fillWords_115 : decode cX1_fillWords 115 = .ok (.lastore, 1) := by decide +kernel
theorem dX1_fillWords_116 : decode cX1_fillWords 116 = .ok (.aload_n 0, 1) := by decide +kernel
theorem dX1_fillWords_117 : decode cX1_fillWords 117 = .ok (.getfield 15, 3) := by decide +kernel
theorem dX1_fillWords_120 : decode cX1_fillWords 120 = .ok (.bipush 9, 2) := by decide +kernel
theorem dX1_fillWords_122 : decode cX1_fillWords 122 = .ok (.aload_n 0, 1) := by decide +kernel
theorem dX1_fillWords_123 : decode cX1_fillWords 123 = .ok (.getfield 19, 3) := by decide +kernel
theorem dX1_fillWords_126 : decode cX1_fillWords 126 = .ok (.aload_n 1, 1) := by decide +kernel
theorem dX1_fillWords_127 : decode cX1_fillWords 127 = .ok (.getfield 84, 3) := by decide +kernel
theorem dX1_fillWords_130 : decode cX1_fillWords 130 = .ok (.iconst 1, 1) := by decide +kernel
theorem dX1_fillWords_131 : decode cX1_fillWords 131 = .ok (.iadd, 1) := by decide +kernel
theorem dX1_fillWords_132 : decode cX1_fillWords 132 = .ok (.invokevirtual 87, 3) := by decide +kernel
theorem dX1_fillWords_135 : decode cX1_fillWords 135 = .ok (.i2l, 1) := by decide +kernel
theorem dX1_fillWords_136 : decode cX1_fillWords 136 = .ok (.lastore, 1) := by decide +kernel
theorem dX1_fillWords_137 : decode cX1_fillWords 137 = .ok (.aload_n 0, 1) := by decide +kernel
theorem dX1_fillWords_138 : decode cX1_fillWords 138 = .ok (.getfield 15, 3) := by decide +kernel
theorem dX1_fillWords_141 : decode cX1_fillWords 141 = .ok (.bipush 10, 2) := by decide +kernel
theorem dX1_fillWords_143 : decode cX1_fillWords 143 = .ok (.aload_n 1, 1) := by decide +kernel
theorem dX1_fillWords_144 : decode cX1_fillWords 144 = .ok (.getfield 33, 3) := by decide +kernel
theorem dX1_fillWords_147 : decode cX1_fillWords 147 = .ok (.i2l, 1) := by decide +kernel
theorem dX1_fillWords_148 : decode cX1_fillWords 148 = .ok (.lastore, 1) := by decide +kernel
theorem dX1_fillWords_149 : decode cX1_fillWords 149 = .ok (.aload_n 0, 1) := by decide +kernel
theorem dX1_fillWords_150 : decode cX1_fillWords 150 = .ok (.getfield 15, 3) := by decide +kernel
theorem dX1_fillWords_153 : decode cX1_fillWords 153 = .ok (.bipush 11, 2) := by decide +kernel
theorem dX1_fillWords_155 : decode cX1_fillWords 155 = .ok (.aload_n 1, 1) := by decide +kernel
theorem dX1_fillWords_156 : decode cX1_fillWords 156 = .ok (.getfield 84, 3) := by decide +kernel
theorem dX1_fillWords_159 : decode cX1_fillWords 159 = .ok (.i2l, 1) := by decide +kernel
theorem dX1_fillWords_160 : decode cX1_fillWords 160 = .ok (.lastore, 1) := by decide +kernel
theorem dX1_fillWords_161 : decode cX1_fillWords 161 = .ok (.return_, 1) := by decide +kernel
theorem dX1_melt_0 : decode cX1_melt 0 = .ok (.aload_n 0, 1) := by decide +kernel
theorem dX1_melt_1 : decode cX1_melt 1 = .ok (.aload_n 1, 1) := by decide +kernel
theorem dX1_melt_2 : decode cX1_melt 2 = .ok (.iload_n 2, 1) := by decide +kernel
theorem dX1_melt_3 : decode cX1_melt 3 = .ok (.invokevirtual 90, 3) := by decide +kernel
theorem dX1_melt_6 : decode cX1_melt 6 = .ok (.istore_n 3, 1) := by decide +kernel
theorem dX1_melt_7 : decode cX1_melt 7 = .ok (.iconst 0, 1) := by decide +kernel
theorem dX1_melt_8 : decode cX1_melt 8 = .ok (.istore 4, 2) := by decide +kernel
theorem dX1_melt_10 : decode cX1_melt 10 = .ok (.iload 4, 2) := by decide +kernel
theorem dX1_melt_12 : decode cX1_melt 12 = .ok (.aload_n 0, 1) := by decide +kernel
theorem dX1_melt_13 : decode cX1_melt 13 = .ok (.getfield 19, 3) := by decide +kernel
theorem dX1_melt_16 : decode cX1_melt 16 = .ok (.getfield 47, 3) := by decide +kernel
theorem dX1_melt_19 : decode cX1_melt 19 = .ok (.if_icmp .ge 32, 3) := by decide +kernel
theorem dX1_melt_22 : decode cX1_melt 22 = .ok (.aload_n 1, 1) := by decide +kernel
theorem dX1_melt_23 : decode cX1_melt 23 = .ok (.getfield 72, 3) := by decide +kernel
theorem dX1_melt_26 : decode cX1_melt 26 = .ok (.iload 4, 2) := by decide +kernel
theorem dX1_melt_28 : decode cX1_melt 28 = .ok (.iaload, 1) := by decide +kernel
theorem dX1_melt_29 : decode cX1_melt 29 = .ok (.aload_n 0, 1) := by decide +kernel
theorem dX1_melt_30 : decode cX1_melt 30 = .ok (.getfield 19, 3) := by decide +kernel
theorem dX1_melt_33 : decode cX1_melt 33 = .ok (.getfield 93, 3) := by decide +kernel
theorem dX1_melt_36 : decode cX1_melt 36 = .ok (.if_icmp .lt 9, 3) := by decide +kernel
theorem dX1_melt_39 : decode cX1_melt 39 = .ok (.aload_n 1, 1) := by decide +kernel
theorem dX1_melt_40 : decode cX1_melt 40 = .ok (.iload 4, 2) := by decide +kernel
theorem dX1_melt_42 : decode cX1_melt 42 = .ok (.invokevirtual 96, 3) := by decide +kernel
theorem dX1_melt_45 : decode cX1_melt 45 = .ok (.iinc 4 1, 3) := by decide +kernel
theorem dX1_melt_48 : decode cX1_melt 48 = .ok (.goto (-38), 3) := by decide +kernel
theorem dX1_melt_51 : decode cX1_melt 51 = .ok (.aload_n 0, 1) := by decide +kernel
theorem dX1_melt_52 : decode cX1_melt 52 = .ok (.aload_n 1, 1) := by decide +kernel
theorem dX1_melt_53 : decode cX1_melt 53 = .ok (.iload_n 3, 1) := by decide +kernel
theorem dX1_melt_54 : decode cX1_melt 54 = .ok (.invokevirtual 100, 3) := by decide +kernel
theorem dX1_melt_57 : decode cX1_melt 57 = .ok (.aload_n 1, 1) := by decide +kernel
theorem dX1_melt_58 : decode cX1_melt 58 = .ok (.iconst 0, 1) := by decide +kernel
theorem dX1_melt_59 : decode cX1_melt 59 = .ok (.aload_n 1, 1) := by decide +kernel
theorem dX1_melt_60 : decode cX1_melt 60 = .ok (.getfield 104, 3) := by decide +kernel
theorem dX1_melt_63 : decode cX1_melt 63 = .ok (.iconst 1, 1) := by decide +kernel
theorem dX1_melt_64 : decode cX1_melt 64 = .ok (.isub, 1) := by decide +kernel
theorem dX1_melt_65 : decode cX1_melt 65 = .ok (.invokestatic 107, 3) := by decide +kernel
theorem dX1_melt_68 : decode cX1_melt 68 = .ok (.putfield 104, 3) := by decide +kernel
theorem dX1_melt_71 : decode cX1_melt 71 = .ok (.aload_n 1, 1) := by decide +kernel
theorem dX1_melt_72 : decode cX1_melt 72 = .ok (.dup, 1) := by decide +kernel
theorem dX1_melt_73 : decode cX1_melt 73 = .ok (.getfield 84, 3) := by decide +kernel
theorem dX1_melt_76 : decode cX1_melt 76 = .ok (.iconst 1, 1) := by decide +kernel
theorem dX1_melt_77 : decode cX1_melt 77 = .ok (.iadd, 1) := by decide +kernel
theorem dX1_melt_78 : decode cX1_melt 78 = .ok (.putfield 84, 3) := by decide +kernel
theorem dX1_melt_81 : decode cX1_melt 81 = .ok (.iload_n 3, 1) := by decide +kernel
theorem dX1_melt_82 : decode cX1_melt 82 = .ok (.invokestatic 110, 3) := by decide +kernel
theorem dX1_melt_85 : decode cX1_melt 85 = .ok (.ireturn, 1) := by decide +kernel
theorem dX1_runDown_0 : decode cX1_runDown 0 = .ok (.aload_n 0, 1) := by decide +kernel
theorem dX1_runDown_1 : decode cX1_runDown 1 = .ok (.aload_n 1, 1) := by decide +kernel
theorem dX1_runDown_2 : decode cX1_runDown 2 = .ok (.iload_n 2, 1) := by decide +kernel
theorem dX1_runDown_3 : decode cX1_runDown 3 = .ok (.invokevirtual 115, 3) := by decide +kernel
theorem dX1_runDown_6 : decode cX1_runDown 6 = .ok (.aload_n 0, 1) := by decide +kernel
theorem dX1_runDown_7 : decode cX1_runDown 7 = .ok (.getfield 19, 3) := by decide +kernel
theorem dX1_runDown_10 : decode cX1_runDown 10 = .ok (.aload_n 1, 1) := by decide +kernel
theorem dX1_runDown_11 : decode cX1_runDown 11 = .ok (.invokevirtual 118, 3) := by decide +kernel
theorem dX1_runDown_14 : decode cX1_runDown 14 = .ok (.istore_n 3, 1) := by decide +kernel
theorem dX1_runDown_15 : decode cX1_runDown 15 = .ok (.iconst 0, 1) := by decide +kernel
theorem dX1_runDown_16 : decode cX1_runDown 16 = .ok (.istore 4, 2) := by decide +kernel
theorem dX1_runDown_18 : decode cX1_runDown 18 = .ok (.iconst 0, 1) := by decide +kernel
theorem dX1_runDown_19 : decode cX1_runDown 19 = .ok (.istore 5, 2) := by decide +kernel
theorem dX1_runDown_21 : decode cX1_runDown 21 = .ok (.iload 5, 2) := by decide +kernel
theorem dX1_runDown_23 : decode cX1_runDown 23 = .ok (.aload_n 0, 1) := by decide +kernel
theorem dX1_runDown_24 : decode cX1_runDown 24 = .ok (.getfield 19, 3) := by decide +kernel
theorem dX1_runDown_27 : decode cX1_runDown 27 = .ok (.getfield 47, 3) := by decide +kernel
theorem dX1_runDown_30 : decode cX1_runDown 30 = .ok (.if_icmp .ge 74, 3) := by decide +kernel
theorem dX1_runDown_33 : decode cX1_runDown 33 = .ok (.iload_n 3, 1) := by decide +kernel
theorem dX1_runDown_34 : decode cX1_runDown 34 = .ok (.iload 5, 2) := by decide +kernel
theorem dX1_runDown_36 : decode cX1_runDown 36 = .ok (.invokestatic 121, 3) := by decide +kernel
theorem dX1_runDown_39 : decode cX1_runDown 39 = .ok (.ifCond .ne 59, 3) := by decide +kernel
theorem dX1_runDown_42 : decode cX1_runDown 42 = .ok (.aload_n 0, 1) := by decide +kernel
theorem dX1_runDown_43 : decode cX1_runDown 43 = .ok (.iload 5, 2) := by decide +kernel
theorem dX1_runDown_45 : decode cX1_runDown 45 = .ok (.invokevirtual 124, 3) := by decide +kernel
theorem dX1_runDown_48 : decode cX1_runDown 48 = .ok (.istore 6, 2) := by decide +kernel
theorem dX1_runDown_50 : decode cX1_runDown 50 = .ok (.iload_n 2, 1) := by decide +kernel
theorem dX1_runDown_51 : decode cX1_runDown 51 = .ok (.iload 6, 2) := by decide +kernel
theorem dX1_runDown_53 : decode cX1_runDown 53 = .ok (.invokestatic 110, 3) := by decide +kernel
theorem dX1_runDown_56 : decode cX1_runDown 56 = .ok (.isub, 1) := by decide +kernel
theorem dX1_runDown_57 : decode cX1_runDown 57 = .ok (.iconst 1, 1) := by decide +kernel
theorem dX1_runDown_58 : decode cX1_runDown 58 = .ok (.iadd, 1) := by decide +kernel
theorem dX1_runDown_59 : decode cX1_runDown 59 = .ok (.istore 7, 2) := by decide +kernel
theorem dX1_runDown_61 : decode cX1_runDown 61 = .ok (.iload_n 3, 1) := by decide +kernel
theorem dX1_runDown_62 : decode cX1_runDown 62 = .ok (.iload 6, 2) := by decide +kernel
theorem dX1_runDown_64 : decode cX1_runDown 64 = .ok (.ior, 1) := by decide +kernel
theorem dX1_runDown_65 : decode cX1_runDown 65 = .ok (.istore_n 3, 1) := by decide +kernel
theorem dX1_runDown_66 : decode cX1_runDown 66 = .ok (.iload 7, 2) := by decide +kernel
theorem dX1_runDown_68 : decode cX1_runDown 68 = .ok (.ifCond .le 30, 3) := by decide +kernel
theorem dX1_runDown_71 : decode cX1_runDown 71 = .ok (.aload_n 0, 1) := by decide +kernel
theorem dX1_runDown_72 : decode cX1_runDown 72 = .ok (.aload_n 1, 1) := by decide +kernel
theorem dX1_runDown_73 : decode cX1_runDown 73 = .ok (.iload 6, 2) := by decide +kernel
theorem dX1_runDown_75 : decode cX1_runDown 75 = .ok (.iload_n 2, 1) := by decide +kernel
theorem dX1_runDown_76 : decode cX1_runDown 76 = .ok (.invokevirtual 127, 3) := by decide +kernel
theorem dX1_runDown_79 : decode cX1_runDown 79 = .ok (.ifCond .ne 19, 3) := by decide +kernel
theorem dX1_runDown_82 : decode cX1_runDown 82 = .ok (.aload_n 0, 1) := by decide +kernel
theorem dX1_runDown_83 : decode cX1_runDown 83 = .ok (.aload_n 1, 1) := by decide +kernel
theorem dX1_runDown_84 : decode cX1_runDown 84 = .ok (.iload 6, 2) := by decide +kernel
theorem dX1_runDown_86 : decode cX1_runDown 86 = .ok (.iload 7, 2) := by decide +kernel
theorem dX1_runDown_88 : decode cX1_runDown 88 = .ok (.invokevirtual 131, 3) := by decide +kernel
theorem dX1_runDown_91 : decode cX1_runDown 91 = .ok (.iload 4, 2) := by decide +kernel
theorem dX1_runDown_93 : decode cX1_runDown 93 = .ok (.iload 6, 2) := by decide +kernel
theorem dX1_runDown_95 : decode cX1_runDown 95 = .ok (.ior, 1) := by decide +kernel
theorem dX1_runDown_96 : decode cX1_runDown 96 = .ok (.istore 4, 2) := by decide +kernel
theorem dX1_runDown_98 : decode cX1_runDown 98 = .ok (.iinc 5 1, 3) := by decide +kernel
theorem dX1_runDown_101 : decode cX1_runDown 101 = .ok (.goto (-80), 3) := by decide +kernel
theorem dX1_runDown_104 : decode cX1_runDown 104 = .ok (.iload 4, 2) := by decide +kernel
theorem dX1_runDown_106 : decode cX1_runDown 106 = .ok (.ireturn, 1) := by decide +kernel
theorem dX1_lower_0 : decode cX1_lower 0 = .ok (.iconst 0, 1) := by decide +kernel
theorem dX1_lower_1 : decode cX1_lower 1 = .ok (.istore 4, 2) := by decide +kernel
theorem dX1_lower_3 : decode cX1_lower 3 = .ok (.iload 4, 2) := by decide +kernel
theorem dX1_lower_5 : decode cX1_lower 5 = .ok (.aload_n 0, 1) := by decide +kernel
theorem dX1_lower_6 : decode cX1_lower 6 = .ok (.getfield 19, 3) := by decide +kernel
theorem dX1_lower_9 : decode cX1_lower 9 = .ok (.getfield 47, 3) := by decide +kernel
theorem dX1_lower_12 : decode cX1_lower 12 = .ok (.if_icmp .ge 44, 3) := by decide +kernel
theorem dX1_lower_15 : decode cX1_lower 15 = .ok (.iload_n 2, 1) := by decide +kernel
theorem dX1_lower_16 : decode cX1_lower 16 = .ok (.iload 4, 2) := by decide +kernel
theorem dX1_lower_18 : decode cX1_lower 18 = .ok (.invokestatic 121, 3) := by decide +kernel
theorem dX1_lower_21 : decode cX1_lower 21 = .ok (.ifCond .eq 29, 3) := by decide +kernel
theorem dX1_lower_24 : decode cX1_lower 24 = .ok (.aload_n 1, 1) := by decide +kernel
theorem dX1_lower_25 : decode cX1_lower 25 = .ok (.getfield 72, 3) := by decide +kernel
theorem dX1_lower_28 : decode cX1_lower 28 = .ok (.iload 4, 2) := by decide +kernel
theorem dX1_lower_30 : decode cX1_lower 30 = .ok (.aload_n 0, 1) := by decide +kernel
theorem dX1_lower_31 : decode cX1_lower 31 = .ok (.getfield 19, 3) := by decide +kernel
theorem dX1_lower_34 : decode cX1_lower 34 = .ok (.getfield 93, 3) := by decide +kernel
theorem dX1_lower_37 : decode cX1_lower 37 = .ok (.aload_n 1, 1) := by decide +kernel
theorem dX1_lower_38 : decode cX1_lower 38 = .ok (.getfield 72, 3) := by decide +kernel
theorem dX1_lower_41 : decode cX1_lower 41 = .ok (.iload 4, 2) := by decide +kernel
theorem dX1_lower_43 : decode cX1_lower 43 = .ok (.iaload, 1) := by decide +kernel
theorem dX1_lower_44 : decode cX1_lower 44 = .ok (.iload_n 3, 1) := by decide +kernel
theorem dX1_lower_45 : decode cX1_lower 45 = .ok (.iadd, 1) := by decide +kernel
theorem dX1_lower_46 : decode cX1_lower 46 = .ok (.invokestatic 135, 3) := by decide +kernel
theorem dX1_lower_49 : decode cX1_lower 49 = .ok (.iastore, 1) := by decide +kernel
theorem dX1_lower_50 : decode cX1_lower 50 = .ok (.iinc 4 1, 3) := by decide +kernel
theorem dX1_lower_53 : decode cX1_lower 53 = .ok (.goto (-50), 3) := by decide +kernel
theorem dX1_lower_56 : decode cX1_lower 56 = .ok (.return_, 1) := by decide +kernel
theorem dX1_stickTogether_0 : decode cX1_stickTogether 0 = .ok (.iconst 0, 1) := by decide +kernel
theorem dX1_stickTogether_1 : decode cX1_stickTogether 1 = .ok (.istore_n 3, 1) := by decide +kernel
theorem dX1_stickTogether_2 : decode cX1_stickTogether 2 = .ok (.iload_n 3, 1) := by decide +kernel
theorem dX1_stickTogether_3 : decode cX1_stickTogether 3 = .ok (.aload_n 0, 1) := by decide +kernel
theorem dX1_stickTogether_4 : decode cX1_stickTogether 4 = .ok (.getfield 19, 3) := by decide +kernel
theorem dX1_stickTogether_7 : decode cX1_stickTogether 7 = .ok (.getfield 47, 3) := by decide +kernel
theorem dX1_stickTogether_10 : decode cX1_stickTogether 10 = .ok (.if_icmp .ge 129, 3) := by decide +kernel
theorem dX1_stickTogether_13 : decode cX1_stickTogether 13 = .ok (.iload_n 3, 1) := by decide +kernel
theorem dX1_stickTogether_14 : decode cX1_stickTogether 14 = .ok (.iconst 1, 1) := by decide +kernel
theorem dX1_stickTogether_15 : decode cX1_stickTogether 15 = .ok (.iadd, 1) := by decide +kernel
theorem dX1_stickTogether_16 : decode cX1_stickTogether 16 = .ok (.istore 4, 2) := by decide +kernel
theorem dX1_stickTogether_18 : decode cX1_stickTogether 18 = .ok (.iload 4, 2) := by decide +kernel
theorem dX1_stickTogether_20 : decode cX1_stickTogether 20 = .ok (.aload_n 0, 1) := by decide +kernel
theorem dX1_stickTogether_21 : decode cX1_stickTogether 21 = .ok (.getfield 19, 3) := by decide +kernel
theorem dX1_stickTogether_24 : decode cX1_stickTogether 24 = .ok (.getfield 47, 3) := by decide +kernel
theorem dX1_stickTogether_27 : decode cX1_stickTogether 27 = .ok (.if_icmp .ge 106, 3) := by decide +kernel
theorem dX1_stickTogether_30 : decode cX1_stickTogether 30 = .ok (.aload_n 1, 1) := by decide +kernel
theorem dX1_stickTogether_31 : decode cX1_stickTogether 31 = .ok (.getfield 72, 3) := by decide +kernel
theorem dX1_stickTogether_34 : decode cX1_stickTogether 34 = .ok (.iload_n 3, 1) := by decide +kernel
theorem dX1_stickTogether_35 : decode cX1_stickTogether 35 = .ok (.iaload, 1) := by decide +kernel
theorem dX1_stickTogether_36 : decode cX1_stickTogether 36 = .ok (.aload_n 1, 1) := by decide +kernel
theorem dX1_stickTogether_37 : decode cX1_stickTogether 37 = .ok (.getfield 72, 3) := by decide +kernel
theorem dX1_stickTogether_40 : decode cX1_stickTogether 40 = .ok (.iload 4, 2) := by decide +kernel
theorem dX1_stickTogether_42 : decode cX1_stickTogether 42 = .ok (.iaload, 1) := by decide +kernel
theorem dX1_stickTogether_43 : decode cX1_stickTogether 43 = .ok (.if_icmp .ne 23, 3) := by decide +kernel
theorem dX1_stickTogether_46 : decode cX1_stickTogether 46 = .ok (.aload_n 1, 1) := by decide +kernel
theorem dX1_stickTogether_47 : decode cX1_stickTogether 47 = .ok (.getfield 72, 3) := by decide +kernel
theorem dX1_stickTogether_50 : decode cX1_stickTogether 50 = .ok (.iload_n 3, 1) := by decide +kernel
theorem dX1_stickTogether_51 : decode cX1_stickTogether 51 = .ok (.iaload, 1) := by decide +kernel
theorem dX1_stickTogether_52 : decode cX1_stickTogether 52 = .ok (.aload_n 0, 1) := by decide +kernel
theorem dX1_stickTogether_53 : decode cX1_stickTogether 53 = .ok (.getfield 19, 3) := by decide +kernel
theorem dX1_stickTogether_56 : decode cX1_stickTogether 56 = .ok (.getfield 93, 3) := by decide +kernel
theorem dX1_stickTogether_59 : decode cX1_stickTogether 59 = .ok (.if_icmp .ge 7, 3) := by decide +kernel
theorem dX1_stickTogether_62 : decode cX1_stickTogether 62 = .ok (.iconst 1, 1) := by decide +kernel
theorem dX1_stickTogether_63 : decode cX1_stickTogether 63 = .ok (.goto 4, 3) := by decide +kernel
theorem dX1_stickTogether_66 : decode cX1_stickTogether 66 = .ok (.iconst 0, 1) := by decide +kernel
theorem dX1_stickTogether_67 : decode cX1_stickTogether 67 = .ok (.istore 5, 2) := by decide +kernel
theorem dX1_stickTogether_69 : decode cX1_stickTogether 69 = .ok (.iload_n 2, 1) := by decide +kernel
theorem dX1_stickTogether_70 : decode cX1_stickTogether 70 = .ok (.iload_n 3, 1) := by decide +kernel
theorem dX1_stickTogether_71 : decode cX1_stickTogether 71 = .ok (.invokestatic 121, 3) := by decide +kernel
theorem dX1_stickTogether_74 : decode cX1_stickTogether 74 = .ok (.ifCond .ne 12, 3) := by decide +kernel
theorem dX1_stickTogether_77 : decode cX1_stickTogether 77 = .ok (.iload_n 2, 1) := by decide +kernel
theorem dX1_stickTogether_78 : decode cX1_stickTogether 78 = .ok (.iload 4, 2) := by decide +kernel
theorem dX1_stickTogether_80 : decode cX1_stickTogether 80 = .ok (.invokestatic 121, 3) := by decide +kernel
theorem dX1_stickTogether_83 : decode cX1_stickTogether 83 = .ok (.ifCond .eq 7, 3) := by decide +kernel
theorem dX1_stickTogether_86 : decode cX1_stickTogether 86 = .ok (.iconst 1, 1) := by decide +kernel
theorem dX1_stickTogether_87 : decode cX1_stickTogether 87 = .ok (.goto 4, 3) := by decide +kernel
theorem dX1_stickTogether_90 : decode cX1_stickTogether 90 = .ok (.iconst 0, 1) := by decide +kernel
theorem dX1_stickTogether_91 : decode cX1_stickTogether 91 = .ok (.istore 6, 2) := by decide +kernel
theorem dX1_stickTogether_93 : decode cX1_stickTogether 93 = .ok (.iload 5, 2) := by decide +kernel
theorem dX1_stickTogether_95 : decode cX1_stickTogether 95 = .ok (.ifCond .eq 32, 3) := by decide +kernel
theorem dX1_stickTogether_98 : decode cX1_stickTogether 98 = .ok (.iload 6, 2) := by decide +kernel
theorem dX1_stickTogether_100 : decode cX1_stickTogether 100 = .ok (.ifCond .eq 27, 3) := by decide +kernel
theorem dX1_stickTogether_103 : decode cX1_stickTogether 103 = .ok (.aload_n 1, 1) := by decide +kernel
theorem dX1_stickTogether_104 : decode cX1_stickTogether 104 = .ok (.iload_n 3, 1) := by decide +kernel
theorem dX1_stickTogether_105 : decode cX1_stickTogether 105 = .ok (.iload 4, 2) := by decide +kernel
theorem dX1_stickTogether_107 : decode cX1_stickTogether 107 = .ok (.invokevirtual 68, 3) := by decide +kernel
theorem dX1_stickTogether_110 : decode cX1_stickTogether 110 = .ok (.ifCond .ne 17, 3) := by decide +kernel
theorem dX1_stickTogether_113 : decode cX1_stickTogether 113 = .ok (.aload_n 1, 1) := by decide +kernel
theorem dX1_stickTogether_114 : decode cX1_stickTogether 114 = .ok (.iload_n 3, 1) := by decide +kernel
theorem dX1_stickTogether_115 : decode cX1_stickTogether 115 = .ok (.iload 4, 2) := by decide +kernel
theorem dX1_stickTogether_117 : decode cX1_stickTogether 117 = .ok (.aload_n 0, 1) := by decide +kernel
theorem dX1_stickTogether_118 : decode cX1_stickTogether 118 = .ok (.getfield 19, 3) := by decide +kernel
theorem dX1_stickTogether_121 : decode cX1_stickTogether 121 = .ok (.getfield 138, 3) := by decide +kernel
theorem dX1_stickTogether_124 : decode cX1_stickTogether 124 = .ok (.invokevirtual 141, 3) := by decide +kernel
theorem dX1_stickTogether_127 : decode cX1_stickTogether 127 = .ok (.iinc 4 1, 3) := by decide +kernel
theorem dX1_stickTogether_130 : decode cX1_stickTogether 130 = .ok (.goto (-112), 3) := by decide +kernel
theorem dX1_stickTogether_133 : decode cX1_stickTogether 133 = .ok (.iinc 3 1, 3) := by decide +kernel
theorem dX1_stickTogether_136 : decode cX1_stickTogether 136 = .ok (.goto (-134), 3) := by decide +kernel
theorem dX1_stickTogether_139 : decode cX1_stickTogether 139 = .ok (.return_, 1) := by decide +kernel
theorem dX1_findHolds_0 : decode cX1_findHolds 0 = .ok (.iconst 0, 1) := by decide +kernel
theorem dX1_findHolds_1 : decode cX1_findHolds 1 = .ok (.istore_n 3, 1) := by decide +kernel
theorem dX1_findHolds_2 : decode cX1_findHolds 2 = .ok (.iload_n 3, 1) := by decide +kernel
theorem dX1_findHolds_3 : decode cX1_findHolds 3 = .ok (.bipush 6, 2) := by decide +kernel
theorem dX1_findHolds_5 : decode cX1_findHolds 5 = .ok (.if_icmp .ge 21, 3) := by decide +kernel
theorem dX1_findHolds_8 : decode cX1_findHolds 8 = .ok (.aload_n 0, 1) := by decide +kernel
theorem dX1_findHolds_9 : decode cX1_findHolds 9 = .ok (.getfield 9, 3) := by decide +kernel
theorem dX1_findHolds_12 : decode cX1_findHolds 12 = .ok (.iload_n 3, 1) := by decide +kernel
theorem dX1_findHolds_13 : decode cX1_findHolds 13 = .ok (.aload_n 1, 1) := by decide +kernel
theorem dX1_findHolds_14 : decode cX1_findHolds 14 = .ok (.iload_n 3, 1) := by decide +kernel
theorem dX1_findHolds_15 : decode cX1_findHolds 15 = .ok (.iload_n 2, 1) := by decide +kernel
theorem dX1_findHolds_16 : decode cX1_findHolds 16 = .ok (.invokevirtual 145, 3) := by decide +kernel
theorem dX1_findHolds_19 : decode cX1_findHolds 19 = .ok (.iastore, 1) := by decide +kernel
theorem dX1_findHolds_20 : decode cX1_findHolds 20 = .ok (.iinc 3 1, 3) := by decide +kernel
theorem dX1_findHolds_23 : decode cX1_findHolds 23 = .ok (.goto (-21), 3) := by decide +kernel
theorem dX1_findHolds_26 : decode cX1_findHolds 26 = .ok (.return_, 1) := by decide +kernel
theorem dX1_blockOf_0 : decode cX1_blockOf 0 = .ok (.iconst 1, 1) := by decide +kernel
theorem dX1_blockOf_1 : decode cX1_blockOf 1 = .ok (.iload_n 1, 1) := by decide +kernel
theorem dX1_blockOf_2 : decode cX1_blockOf 2 = .ok (.ishl, 1) := by decide +kernel
theorem dX1_blockOf_3 : decode cX1_blockOf 3 = .ok (.istore_n 2, 1) := by decide +kernel
theorem dX1_blockOf_4 : decode cX1_blockOf 4 = .ok (.iconst 0, 1) := by decide +kernel
theorem dX1_blockOf_5 : decode cX1_blockOf 5 = .ok (.istore_n 3, 1) := by decide +kernel
theorem dX1_blockOf_6 : decode cX1_blockOf 6 = .ok (.iload_n 3, 1) := by decide +kernel
theorem dX1_blockOf_7 : decode cX1_blockOf 7 = .ok (.bipush 6, 2) := by decide +kernel
theorem dX1_blockOf_9 : decode cX1_blockOf 9 = .ok (.if_icmp .ge 60, 3) := by decide +kernel
theorem dX1_blockOf_12 : decode cX1_blockOf 12 = .ok (.iload_n 2, 1) := by decide +kernel
theorem dX1_blockOf_13 : decode cX1_blockOf 13 = .ok (.istore 4, 2) := by decide +kernel
theorem dX1_blockOf_15 : decode cX1_blockOf 15 = .ok (.iconst 0, 1) := by decide +kernel
theorem dX1_blockOf_16 : decode cX1_blockOf 16 = .ok (.istore 5, 2) := by decide +kernel
theorem dX1_blockOf_18 : decode cX1_blockOf 18 = .ok (.iload 5, 2) := by decide +kernel
theorem dX1_blockOf_20 : decode cX1_blockOf 20 = .ok (.bipush 6, 2) := by decide +kernel
theorem dX1_blockOf_22 : decode cX1_blockOf 22 = .ok (.if_icmp .ge 30, 3) := by decide +kernel
theorem dX1_blockOf_25 : decode cX1_blockOf 25 = .ok (.iload_n 2, 1) := by decide +kernel
theorem dX1_blockOf_26 : decode cX1_blockOf 26 = .ok (.iload 5, 2) := by decide +kernel
theorem dX1_blockOf_28 : decode cX1_blockOf 28 = .ok (.invokestatic 121, 3) := by decide +kernel
theorem dX1_blockOf_31 : decode cX1_blockOf 31 = .ok (.ifCond .eq 15, 3) := by decide +kernel
theorem dX1_blockOf_34 : decode cX1_blockOf 34 = .ok (.iload 4, 2) := by decide +kernel
theorem dX1_blockOf_36 : decode cX1_blockOf 36 = .ok (.aload_n 0, 1) := by decide +kernel
theorem dX1_blockOf_37 : decode cX1_blockOf 37 = .ok (.getfield 9, 3) := by decide +kernel
theorem dX1_blockOf_40 : decode cX1_blockOf 40 = .ok (.iload 5, 2) := by decide +kernel
theorem dX1_blockOf_42 : decode cX1_blockOf 42 = .ok (.iaload, 1) := by decide +kernel
theorem dX1_blockOf_43 : decode cX1_blockOf 43 = .ok (.ior, 1) := by decide +kernel
theorem dX1_blockOf_44 : decode cX1_blockOf 44 = .ok (.istore 4, 2) := by decide +kernel
theorem dX1_blockOf_46 : decode cX1_blockOf 46 = .ok (.iinc 5 1, 3) := by decide +kernel
theorem dX1_blockOf_49 : decode cX1_blockOf 49 = .ok (.goto (-31), 3) := by decide +kernel
theorem dX1_blockOf_52 : decode cX1_blockOf 52 = .ok (.iload 4, 2) := by decide +kernel
theorem dX1_blockOf_54 : decode cX1_blockOf 54 = .ok (.iload_n 2, 1) := by decide +kernel
theorem dX1_blockOf_55 : decode cX1_blockOf 55 = .ok (.if_icmp .ne 5, 3) := by decide +kernel
theorem dX1_blockOf_58 : decode cX1_blockOf 58 = .ok (.iload_n 2, 1) := by decide +kernel
theorem dX1_blockOf_59 : decode cX1_blockOf 59 = .ok (.ireturn, 1) := by decide +kernel
theorem dX1_blockOf_60 : decode cX1_blockOf 60 = .ok (.iload 4, 2) := by decide +kernel
theorem dX1_blockOf_62 : decode cX1_blockOf 62 = .ok (.istore_n 2, 1) := by decide +kernel
theorem dX1_blockOf_63 : decode cX1_blockOf 63 = .ok (.iinc 3 1, 3) := by decide +kernel
theorem dX1_blockOf_66 : decode cX1_blockOf 66 = .ok (.goto (-60), 3) := by decide +kernel
theorem dX1_blockOf_69 : decode cX1_blockOf 69 = .ok (.iload_n 2, 1) := by decide +kernel
theorem dX1_blockOf_70 : decode cX1_blockOf 70 = .ok (.ireturn, 1) := by decide +kernel
theorem dX1_isFast_0 : decode cX1_isFast 0 = .ok (.iconst 0, 1) := by decide +kernel
theorem dX1_isFast_1 : decode cX1_isFast 1 = .ok (.istore 4, 2) := by decide +kernel
theorem dX1_isFast_3 : decode cX1_isFast 3 = .ok (.iload 4, 2) := by decide +kernel
theorem dX1_isFast_5 : decode cX1_isFast 5 = .ok (.bipush 6, 2) := by decide +kernel
theorem dX1_isFast_7 : decode cX1_isFast 7 = .ok (.if_icmp .ge 31, 3) := by decide +kernel
theorem dX1_isFast_10 : decode cX1_isFast 10 = .ok (.iload_n 2, 1) := by decide +kernel
theorem dX1_isFast_11 : decode cX1_isFast 11 = .ok (.iload 4, 2) := by decide +kernel
theorem dX1_isFast_13 : decode cX1_isFast 13 = .ok (.invokestatic 121, 3) := by decide +kernel
theorem dX1_isFast_16 : decode cX1_isFast 16 = .ok (.ifCond .eq 16, 3) := by decide +kernel
theorem dX1_isFast_19 : decode cX1_isFast 19 = .ok (.aload_n 1, 1) := by decide +kernel
theorem dX1_isFast_20 : decode cX1_isFast 20 = .ok (.getfield 81, 3) := by decide +kernel
theorem dX1_isFast_23 : decode cX1_isFast 23 = .ok (.iload 4, 2) := by decide +kernel
theorem dX1_isFast_25 : decode cX1_isFast 25 = .ok (.iaload, 1) := by decide +kernel
theorem dX1_isFast_26 : decode cX1_isFast 26 = .ok (.iload_n 3, 1) := by decide +kernel
theorem dX1_isFast_27 : decode cX1_isFast 27 = .ok (.if_icmp .le 5, 3) := by decide +kernel
theorem dX1_isFast_30 : decode cX1_isFast 30 = .ok (.iconst 1, 1) := by decide +kernel
theorem dX1_isFast_31 : decode cX1_isFast 31 = .ok (.ireturn, 1) := by decide +kernel
theorem dX1_isFast_32 : decode cX1_isFast 32 = .ok (.iinc 4 1, 3) := by decide +kernel
theorem dX1_isFast_35 : decode cX1_isFast 35 = .ok (.goto (-32), 3) := by decide +kernel
theorem dX1_isFast_38 : decode cX1_isFast 38 = .ok (.iconst 0, 1) := by decide +kernel
theorem dX1_isFast_39 : decode cX1_isFast 39 = .ok (.ireturn, 1) := by decide +kernel
theorem dX2_init_0 : decode cX2_init 0 = .ok (.aload_n 0, 1) := by decide +kernel
theorem dX2_init_1 : decode cX2_init 1 = .ok (.invokespecial 1, 3) := by decide +kernel
theorem dX2_init_4 : decode cX2_init 4 = .ok (.aload_n 0, 1) := by decide +kernel
theorem dX2_init_5 : decode cX2_init 5 = .ok (.new 7, 3) := by decide +kernel
theorem dX2_init_8 : decode cX2_init 8 = .ok (.dup, 1) := by decide +kernel
theorem dX2_init_9 : decode cX2_init 9 = .ok (.invokespecial 9, 3) := by decide +kernel
theorem dX2_init_12 : decode cX2_init 12 = .ok (.putfield 10, 3) := by decide +kernel
theorem dX2_init_15 : decode cX2_init 15 = .ok (.aload_n 0, 1) := by decide +kernel
theorem dX2_init_16 : decode cX2_init 16 = .ok (.bipush 25, 2) := by decide +kernel
theorem dX2_init_18 : decode cX2_init 18 = .ok (.newarray .int, 2) := by decide +kernel
theorem dX2_init_20 : decode cX2_init 20 = .ok (.putfield 16, 3) := by decide +kernel
theorem dX2_init_23 : decode cX2_init 23 = .ok (.aload_n 0, 1) := by decide +kernel
theorem dX2_init_24 : decode cX2_init 24 = .ok (.bipush 25, 2) := by decide +kernel
theorem dX2_init_26 : decode cX2_init 26 = .ok (.newarray .int, 2) := by decide +kernel
theorem dX2_init_28 : decode cX2_init 28 = .ok (.putfield 20, 3) := by decide +kernel
theorem dX2_init_31 : decode cX2_init 31 = .ok (.aload_n 0, 1) := by decide +kernel
theorem dX2_init_32 : decode cX2_init 32 = .ok (.aload_n 1, 1) := by decide +kernel
theorem dX2_init_33 : decode cX2_init 33 = .ok (.putfield 23, 3) := by decide +kernel
theorem dX2_init_36 : decode cX2_init 36 = .ok (.return_, 1) := by decide +kernel
theorem dX2_play_0 : decode cX2_play 0 = .ok (.iconst 0, 1) := by decide +kernel
theorem dX2_play_1 : decode cX2_play 1 = .ok (.istore 6, 2) := by decide +kernel
theorem dX2_play_3 : decode cX2_play 3 = .ok (.iload 6, 2) := by decide +kernel
theorem dX2_play_5 : decode cX2_play 5 = .ok (.bipush 25, 2) := by decide +kernel
theorem dX2_play_7 : decode cX2_play 7 = .ok (.if_icmp .ge 109, 3) := by decide +kernel
theorem dX2_play_10 : decode cX2_play 10 = .ok (.iload 6, 2) := by decide +kernel
theorem dX2_play_12 : decode cX2_play 12 = .ok (.iconst 5, 1) := by decide +kernel
theorem dX2_play_13 : decode cX2_play 13 = .ok (.idiv, 1) := by decide +kernel
theorem dX2_play_14 : decode cX2_play 14 = .ok (.istore 7, 2) := by decide +kernel
theorem dX2_play_16 : decode cX2_play 16 = .ok (.iload 6, 2) := by decide +kernel
theorem dX2_play_18 : decode cX2_play 18 = .ok (.iconst 5, 1) := by decide +kernel
theorem dX2_play_19 : decode cX2_play 19 = .ok (.irem, 1) := by decide +kernel
theorem dX2_play_20 : decode cX2_play 20 = .ok (.istore 8, 2) := by decide +kernel
theorem dX2_play_22 : decode cX2_play 22 = .ok (.aload_n 0, 1) := by decide +kernel
theorem dX2_play_23 : decode cX2_play 23 = .ok (.getfield 10, 3) := by decide +kernel
theorem dX2_play_26 : decode cX2_play 26 = .ok (.aload_n 1, 1) := by decide +kernel
theorem dX2_play_27 : decode cX2_play 27 = .ok (.invokevirtual 27, 3) := by decide +kernel
theorem dX2_play_30 : decode cX2_play 30 = .ok (.aload_n 0, 1) := by decide +kernel
theorem dX2_play_31 : decode cX2_play 31 = .ok (.getfield 10, 3) := by decide +kernel
theorem dX2_play_34 : decode cX2_play 34 = .ok (.getfield 31, 3) := by decide +kernel
theorem dX2_play_37 : decode cX2_play 37 = .ok (.iload_n 3, 1) := by decide +kernel
theorem dX2_play_38 : decode cX2_play 38 = .ok (.iconst 2, 1) := by decide +kernel
theorem dX2_play_39 : decode cX2_play 39 = .ok (.iload 7, 2) := by decide +kernel
theorem dX2_play_41 : decode cX2_play 41 = .ok (.imul, 1) := by decide +kernel
theorem dX2_play_42 : decode cX2_play 42 = .ok (.iastore, 1) := by decide +kernel
theorem dX2_play_43 : decode cX2_play 43 = .ok (.aload_n 0, 1) := by decide +kernel
theorem dX2_play_44 : decode cX2_play 44 = .ok (.getfield 10, 3) := by decide +kernel
theorem dX2_play_47 : decode cX2_play 47 = .ok (.getfield 31, 3) := by decide +kernel
theorem dX2_play_50 : decode cX2_play 50 = .ok (.iload 4, 2) := by decide +kernel
theorem dX2_play_52 : decode cX2_play 52 = .ok (.iconst 2, 1) := by decide +kernel
theorem dX2_play_53 : decode cX2_play 53 = .ok (.iload 8, 2) := by decide +kernel
theorem dX2_play_55 : decode cX2_play 55 = .ok (.imul, 1) := by decide +kernel
theorem dX2_play_56 : decode cX2_play 56 = .ok (.iastore, 1) := by decide +kernel
theorem dX2_play_57 : decode cX2_play 57 = .ok (.aload_n 0, 1) := by decide +kernel
theorem dX2_play_58 : decode cX2_play 58 = .ok (.getfield 23, 3) := by decide +kernel
theorem dX2_play_61 : decode cX2_play 61 = .ok (.aload_n 0, 1) := by decide +kernel
theorem dX2_play_62 : decode cX2_play 62 = .ok (.getfield 10, 3) := by decide +kernel
theorem dX2_play_65 : decode cX2_play 65 = .ok (.aload_n 2, 1) := by decide +kernel
theorem dX2_play_66 : decode cX2_play 66 = .ok (.iload 5, 2) := by decide +kernel
theorem dX2_play_68 : decode cX2_play 68 = .ok (.invokevirtual 34, 3) := by decide +kernel
theorem dX2_play_71 : decode cX2_play 71 = .ok (.aload_n 0, 1) := by decide +kernel
theorem dX2_play_72 : decode cX2_play 72 = .ok (.getfield 16, 3) := by decide +kernel
theorem dX2_play_75 : decode cX2_play 75 = .ok (.iload 6, 2) := by decide +kernel
theorem dX2_play_77 : decode cX2_play 77 = .ok (.aload_n 0, 1) := by decide +kernel
theorem dX2_play_78 : decode cX2_play 78 = .ok (.getfield 10, 3) := by decide +kernel
theorem dX2_play_81 : decode cX2_play 81 = .ok (.getfield 40, 3) := by decide +kernel
theorem dX2_play_84 : decode cX2_play 84 = .ok (.iload_n 3, 1) := by decide +kernel
theorem dX2_play_85 : decode cX2_play 85 = .ok (.iaload, 1) := by decide +kernel
theorem dX2_play_86 : decode cX2_play 86 = .ok (.iload 7, 2) := by decide +kernel
theorem dX2_play_88 : decode cX2_play 88 = .ok (.iadd, 1) := by decide +kernel
theorem dX2_play_89 : decode cX2_play 89 = .ok (.iastore, 1) := by decide +kernel
theorem dX2_play_90 : decode cX2_play 90 = .ok (.aload_n 0, 1) := by decide +kernel
theorem dX2_play_91 : decode cX2_play 91 = .ok (.getfield 20, 3) := by decide +kernel
theorem dX2_play_94 : decode cX2_play 94 = .ok (.iload 6, 2) := by decide +kernel
theorem dX2_play_96 : decode cX2_play 96 = .ok (.aload_n 0, 1) := by decide +kernel
theorem dX2_play_97 : decode cX2_play 97 = .ok (.getfield 10, 3) := by decide +kernel
theorem dX2_play_100 : decode cX2_play 100 = .ok (.getfield 40, 3) := by decide +kernel
theorem dX2_play_103 : decode cX2_play 103 = .ok (.iload 4, 2) := by decide +kernel
theorem dX2_play_105 : decode cX2_play 105 = .ok (.iaload, 1) := by decide +kernel
theorem dX2_play_106 : decode cX2_play 106 = .ok (.iload 8, 2) := by decide +kernel
theorem dX2_play_108 : decode cX2_play 108 = .ok (.iadd, 1) := by decide +kernel
theorem dX2_play_109 : decode cX2_play 109 = .ok (.iastore, 1) := by decide +kernel
theorem dX2_play_110 : decode cX2_play 110 = .ok (.iinc 6 1, 3) := by decide +kernel
theorem dX2_play_113 : decode cX2_play 113 = .ok (.goto (-110), 3) := by decide +kernel
theorem dX2_play_116 : decode cX2_play 116 = .ok (.return_, 1) := by decide +kernel
theorem dX2_find_0 : decode cX2_find 0 = .ok (.aload_n 0, 1) := by decide +kernel
theorem dX2_find_1 : decode cX2_find 1 = .ok (.iconst 0, 1) := by decide +kernel
theorem dX2_find_2 : decode cX2_find 2 = .ok (.putfield 43, 3) := by decide +kernel
theorem dX2_find_5 : decode cX2_find 5 = .ok (.aload_n 0, 1) := by decide +kernel
theorem dX2_find_6 : decode cX2_find 6 = .ok (.bipush (-2), 2) := by decide +kernel
theorem dX2_find_8 : decode cX2_find 8 = .ok (.putfield 47, 3) := by decide +kernel
theorem dX2_find_11 : decode cX2_find 11 = .ok (.aload_n 0, 1) := by decide +kernel
theorem dX2_find_12 : decode cX2_find 12 = .ok (.bipush (-2), 2) := by decide +kernel
theorem dX2_find_14 : decode cX2_find 14 = .ok (.putfield 50, 3) := by decide +kernel
theorem dX2_find_17 : decode cX2_find 17 = .ok (.iconst 0, 1) := by decide +kernel
theorem dX2_find_18 : decode cX2_find 18 = .ok (.istore_n 1, 1) := by decide +kernel
theorem dX2_find_19 : decode cX2_find 19 = .ok (.iload_n 1, 1) := by decide +kernel
theorem dX2_find_20 : decode cX2_find 20 = .ok (.bipush 25, 2) := by decide +kernel
theorem dX2_find_22 : decode cX2_find 22 = .ok (.if_icmp .ge 57, 3) := by decide +kernel
theorem dX2_find_25 : decode cX2_find 25 = .ok (.aload_n 0, 1) := by decide +kernel
theorem dX2_find_26 : decode cX2_find 26 = .ok (.iload_n 1, 1) := by decide +kernel
theorem dX2_find_27 : decode cX2_find 27 = .ok (.iconst 5, 1) := by decide +kernel
theorem dX2_find_28 : decode cX2_find 28 = .ok (.idiv, 1) := by decide +kernel
theorem dX2_find_29 : decode cX2_find 29 = .ok (.iload_n 1, 1) := by decide +kernel
theorem dX2_find_30 : decode cX2_find 30 = .ok (.iconst 5, 1) := by decide +kernel
theorem dX2_find_31 : decode cX2_find 31 = .ok (.irem, 1) := by decide +kernel
theorem dX2_find_32 : decode cX2_find 32 = .ok (.invokevirtual 53, 3) := by decide +kernel
theorem dX2_find_35 : decode cX2_find 35 = .ok (.ifCond .eq 38, 3) := by decide +kernel
theorem dX2_find_38 : decode cX2_find 38 = .ok (.aload_n 0, 1) := by decide +kernel
theorem dX2_find_39 : decode cX2_find 39 = .ok (.getfield 43, 3) := by decide +kernel
theorem dX2_find_42 : decode cX2_find 42 = .ok (.ifCond .ne 21, 3) := by decide +kernel
theorem dX2_find_45 : decode cX2_find 45 = .ok (.aload_n 0, 1) := by decide +kernel
theorem dX2_find_46 : decode cX2_find 46 = .ok (.iload_n 1, 1) := by decide +kernel
theorem dX2_find_47 : decode cX2_find 47 = .ok (.iconst 5, 1) := by decide +kernel
theorem dX2_find_48 : decode cX2_find 48 = .ok (.idiv, 1) := by decide +kernel
theorem dX2_find_49 : decode cX2_find 49 = .ok (.iconst 2, 1) := by decide +kernel
theorem dX2_find_50 : decode cX2_find 50 = .ok (.imul, 1) := by decide +kernel
theorem dX2_find_51 : decode cX2_find 51 = .ok (.putfield 47, 3) := by decide +kernel
theorem dX2_find_54 : decode cX2_find 54 = .ok (.aload_n 0, 1) := by decide +kernel
theorem dX2_find_55 : decode cX2_find 55 = .ok (.iload_n 1, 1) := by decide +kernel
theorem dX2_find_56 : decode cX2_find 56 = .ok (.iconst 5, 1) := by decide +kernel
theorem dX2_find_57 : decode cX2_find 57 = .ok (.irem, 1) := by decide +kernel
theorem dX2_find_58 : decode cX2_find 58 = .ok (.iconst 2, 1) := by decide +kernel
theorem dX2_find_59 : decode cX2_find 59 = .ok (.imul, 1) := by decide +kernel
theorem dX2_find_60 : decode cX2_find 60 = .ok (.putfield 50, 3) := by decide +kernel
theorem dX2_find_63 : decode cX2_find 63 = .ok (.aload_n 0, 1) := by decide +kernel
theorem dX2_find_64 : decode cX2_find 64 = .ok (.dup, 1) := by decide +kernel
theorem dX2_find_65 : decode cX2_find 65 = .ok (.getfield 43, 3) := by decide +kernel
theorem dX2_find_68 : decode cX2_find 68 = .ok (.iconst 1, 1) := by decide +kernel
theorem dX2_find_69 : decode cX2_find 69 = .ok (.iadd, 1) := by decide +kernel
theorem dX2_find_70 : decode cX2_find 70 = .ok (.putfield 43, 3) := by decide +kernel
theorem dX2_find_73 : decode cX2_find 73 = .ok (.iinc 1 1, 3) := by decide +kernel
theorem dX2_find_76 : decode cX2_find 76 = .ok (.goto (-57), 3) := by decide +kernel
theorem dX2_find_79 : decode cX2_find 79 = .ok (.return_, 1) := by decide +kernel
theorem dX2_isRest_0 : decode cX2_isRest 0 = .ok (.iload_n 1, 1) := by decide +kernel
theorem dX2_isRest_1 : decode cX2_isRest 1 = .ok (.iconst 5, 1) := by decide +kernel
theorem dX2_isRest_2 : decode cX2_isRest 2 = .ok (.imul, 1) := by decide +kernel
theorem dX2_isRest_3 : decode cX2_isRest 3 = .ok (.iload_n 2, 1) := by decide +kernel
theorem dX2_isRest_4 : decode cX2_isRest 4 = .ok (.iadd, 1) := by decide +kernel
theorem dX2_isRest_5 : decode cX2_isRest 5 = .ok (.istore_n 3, 1) := by decide +kernel
theorem dX2_isRest_6 : decode cX2_isRest 6 = .ok (.iconst 0, 1) := by decide +kernel
theorem dX2_isRest_7 : decode cX2_isRest 7 = .ok (.istore 4, 2) := by decide +kernel
theorem dX2_isRest_9 : decode cX2_isRest 9 = .ok (.iload 4, 2) := by decide +kernel
theorem dX2_isRest_11 : decode cX2_isRest 11 = .ok (.iconst 5, 1) := by decide +kernel
theorem dX2_isRest_12 : decode cX2_isRest 12 = .ok (.if_icmp .ge 51, 3) := by decide +kernel
theorem dX2_isRest_15 : decode cX2_isRest 15 = .ok (.aload_n 0, 1) := by decide +kernel
theorem dX2_isRest_16 : decode cX2_isRest 16 = .ok (.getfield 16, 3) := by decide +kernel
theorem dX2_isRest_19 : decode cX2_isRest 19 = .ok (.iload 4, 2) := by decide +kernel
theorem dX2_isRest_21 : decode cX2_isRest 21 = .ok (.iconst 5, 1) := by decide +kernel
theorem dX2_isRest_22 : decode cX2_isRest 22 = .ok (.imul, 1) := by decide +kernel
theorem dX2_isRest_23 : decode cX2_isRest 23 = .ok (.iload_n 2, 1) := by decide +kernel
theorem dX2_isRest_24 : decode cX2_isRest 24 = .ok (.iadd, 1) := by decide +kernel
theorem dX2_isRest_25 : decode cX2_isRest 25 = .ok (.iaload, 1) := by decide +kernel
theorem dX2_isRest_26 : decode cX2_isRest 26 = .ok (.aload_n 0, 1) := by decide +kernel
theorem dX2_isRest_27 : decode cX2_isRest 27 = .ok (.getfield 16, 3) := by decide +kernel
theorem dX2_isRest_30 : decode cX2_isRest 30 = .ok (.iload_n 3, 1) := by decide +kernel
theorem dX2_isRest_31 : decode cX2_isRest 31 = .ok (.iaload, 1) := by decide +kernel
theorem dX2_isRest_32 : decode cX2_isRest 32 = .ok (.if_icmp .lt 23, 3) := by decide +kernel
theorem dX2_isRest_35 : decode cX2_isRest 35 = .ok (.aload_n 0, 1) := by decide +kernel
theorem dX2_isRest_36 : decode cX2_isRest 36 = .ok (.getfield 20, 3) := by decide +kernel
theorem dX2_isRest_39 : decode cX2_isRest 39 = .ok (.iload_n 1, 1) := by decide +kernel
theorem dX2_isRest_40 : decode cX2_isRest 40 = .ok (.iconst 5, 1) := by decide +kernel
theorem dX2_isRest_41 : decode cX2_isRest 41 = .ok (.imul, 1) := by decide +kernel
theorem dX2_isRest_42 : decode cX2_isRest 42 = .ok (.iload 4, 2) := by decide +kernel
theorem dX2_isRest_44 : decode cX2_isRest 44 = .ok (.iadd, 1) := by decide +kernel
theorem dX2_isRest_45 : decode cX2_isRest 45 = .ok (.iaload, 1) := by decide +kernel
theorem dX2_isRest_46 : decode cX2_isRest 46 = .ok (.aload_n 0, 1) := by decide +kernel
theorem dX2_isRest_47 : decode cX2_isRest 47 = .ok (.getfield 20, 3) := by decide +kernel
theorem dX2_isRest_50 : decode cX2_isRest 50 = .ok (.iload_n 3, 1) := by decide +kernel
theorem dX2_isRest_51 : decode cX2_isRest 51 = .ok (.iaload, 1) := by decide +kernel
theorem dX2_isRest_52 : decode cX2_isRest 52 = .ok (.if_icmp .ge 5, 3) := by decide +kernel
theorem dX2_isRest_55 : decode cX2_isRest 55 = .ok (.iconst 0, 1) := by decide +kernel
theorem dX2_isRest_56 : decode cX2_isRest 56 = .ok (.ireturn, 1) := by decide +kernel
theorem dX2_isRest_57 : decode cX2_isRest 57 = .ok (.iinc 4 1, 3) := by decide +kernel
theorem dX2_isRest_60 : decode cX2_isRest 60 = .ok (.goto (-51), 3) := by decide +kernel
theorem dX2_isRest_63 : decode cX2_isRest 63 = .ok (.iconst 1, 1) := by decide +kernel
theorem dX2_isRest_64 : decode cX2_isRest 64 = .ok (.ireturn, 1) := by decide +kernel
theorem dX3_init_0 : decode cX3_init 0 = .ok (.aload_n 0, 1) := by decide +kernel
theorem dX3_init_1 : decode cX3_init 1 = .ok (.invokespecial 3, 3) := by decide +kernel
theorem dX3_init_4 : decode cX3_init 4 = .ok (.aload_n 0, 1) := by decide +kernel
theorem dX3_init_5 : decode cX3_init 5 = .ok (.iconst 4, 1) := by decide +kernel
theorem dX3_init_6 : decode cX3_init 6 = .ok (.anewarray 9, 3) := by decide +kernel
theorem dX3_init_9 : decode cX3_init 9 = .ok (.dup, 1) := by decide +kernel
theorem dX3_init_10 : decode cX3_init 10 = .ok (.iconst 0, 1) := by decide +kernel
theorem dX3_init_11 : decode cX3_init 11 = .ok (.new 9, 3) := by decide +kernel
theorem dX3_init_14 : decode cX3_init 14 = .ok (.dup, 1) := by decide +kernel
theorem dX3_init_15 : decode cX3_init 15 = .ok (.invokespecial 11, 3) := by decide +kernel
theorem dX3_init_18 : decode cX3_init 18 = .ok (.aastore, 1) := by decide +kernel
theorem dX3_init_19 : decode cX3_init 19 = .ok (.dup, 1) := by decide +kernel
theorem dX3_init_20 : decode cX3_init 20 = .ok (.iconst 1, 1) := by decide +kernel
theorem dX3_init_21 : decode cX3_init 21 = .ok (.new 9, 3) := by decide +kernel
theorem dX3_init_24 : decode cX3_init 24 = .ok (.dup, 1) := by decide +kernel
theorem dX3_init_25 : decode cX3_init 25 = .ok (.invokespecial 11, 3) := by decide +kernel
theorem dX3_init_28 : decode cX3_init 28 = .ok (.aastore, 1) := by decide +kernel
theorem dX3_init_29 : decode cX3_init 29 = .ok (.dup, 1) := by decide +kernel
theorem dX3_init_30 : decode cX3_init 30 = .ok (.iconst 2, 1) := by decide +kernel
theorem dX3_init_31 : decode cX3_init 31 = .ok (.new 9, 3) := by decide +kernel
theorem dX3_init_34 : decode cX3_init 34 = .ok (.dup, 1) := by decide +kernel
theorem dX3_init_35 : decode cX3_init 35 = .ok (.invokespecial 11, 3) := by decide +kernel
theorem dX3_init_38 : decode cX3_init 38 = .ok (.aastore, 1) := by decide +kernel
theorem dX3_init_39 : decode cX3_init 39 = .ok (.dup, 1) := by decide +kernel
theorem dX3_init_40 : decode cX3_init 40 = .ok (.iconst 3, 1) := by decide +kernel
theorem dX3_init_41 : decode cX3_init 41 = .ok (.new 9, 3) := by decide +kernel
theorem dX3_init_44 : decode cX3_init 44 = .ok (.dup, 1) := by decide +kernel
theorem dX3_init_45 : decode cX3_init 45 = .ok (.invokespecial 11, 3) := by decide +kernel
theorem dX3_init_48 : decode cX3_init 48 = .ok (.aastore, 1) := by decide +kernel
theorem dX3_init_49 : decode cX3_init 49 = .ok (.putfield 12, 3) := by decide +kernel
theorem dX3_init_52 : decode cX3_init 52 = .ok (.aload_n 0, 1) := by decide +kernel
theorem dX3_init_53 : decode cX3_init 53 = .ok (.iconst 3, 1) := by decide +kernel
theorem dX3_init_54 : decode cX3_init 54 = .ok (.newarray .int, 2) := by decide +kernel
theorem dX3_init_56 : decode cX3_init 56 = .ok (.putfield 18, 3) := by decide +kernel
theorem dX3_init_59 : decode cX3_init 59 = .ok (.aload_n 0, 1) := by decide +kernel
theorem dX3_init_60 : decode cX3_init 60 = .ok (.iconst 3, 1) := by decide +kernel
theorem dX3_init_61 : decode cX3_init 61 = .ok (.newarray .int, 2) := by decide +kernel
theorem dX3_init_63 : decode cX3_init 63 = .ok (.putfield 22, 3) := by decide +kernel
theorem dX3_init_66 : decode cX3_init 66 = .ok (.aload_n 0, 1) := by decide +kernel
theorem dX3_init_67 : decode cX3_init 67 = .ok (.aload_n 1, 1) := by decide +kernel
theorem dX3_init_68 : decode cX3_init 68 = .ok (.putfield 25, 3) := by decide +kernel
theorem dX3_init_71 : decode cX3_init 71 = .ok (.return_, 1) := by decide +kernel
theorem dX3_find_0 : decode cX3_find 0 = .ok (.aload_n 0, 1) := by decide +kernel
theorem dX3_find_1 : decode cX3_find 1 = .ok (.ldc 29, 2) := by decide +kernel
theorem dX3_find_3 : decode cX3_find 3 = .ok (.putfield 30, 3) := by decide +kernel
theorem dX3_find_6 : decode cX3_find 6 = .ok (.aload_n 0, 1) := by decide +kernel
theorem dX3_find_7 : decode cX3_find 7 = .ok (.getfield 12, 3) := by decide +kernel
theorem dX3_find_10 : decode cX3_find 10 = .ok (.iconst 0, 1) := by decide +kernel
theorem dX3_find_11 : decode cX3_find 11 = .ok (.aaload, 1) := by decide +kernel
theorem dX3_find_12 : decode cX3_find 12 = .ok (.aload_n 1, 1) := by decide +kernel
theorem dX3_find_13 : decode cX3_find 13 = .ok (.invokevirtual 34, 3) := by decide +kernel
theorem dX3_find_16 : decode cX3_find 16 = .ok (.aload_n 0, 1) := by decide +kernel
theorem dX3_find_17 : decode cX3_find 17 = .ok (.iconst 0, 1) := by decide +kernel
theorem dX3_find_18 : decode cX3_find 18 = .ok (.iload_n 2, 1) := by decide +kernel
theorem dX3_find_19 : decode cX3_find 19 = .ok (.invokevirtual 38, 3) := by decide +kernel
theorem dX3_find_22 : decode cX3_find 22 = .ok (.return_, 1) := by decide +kernel
theorem dX3_search_0 : decode cX3_search 0 = .ok (.iload_n 1, 1) := by decide +kernel
theorem dX3_search_1 : decode cX3_search 1 = .ok (.iload_n 2, 1) := by decide +kernel
theorem dX3_search_2 : decode cX3_search 2 = .ok (.if_icmp .ge 8, 3) := by decide +kernel
theorem dX3_search_5 : decode cX3_search 5 = .ok (.iload_n 1, 1) := by decide +kernel
theorem dX3_search_6 : decode cX3_search 6 = .ok (.iconst 3, 1) := by decide +kernel
theorem dX3_search_7 : decode cX3_search 7 = .ok (.if_icmp .lt 9, 3) := by decide +kernel
theorem dX3_search_10 : decode cX3_search 10 = .ok (.aload_n 0, 1) := by decide +kernel
theorem dX3_search_11 : decode cX3_search 11 = .ok (.iload_n 1, 1) := by decide +kernel
theorem dX3_search_12 : decode cX3_search 12 = .ok (.invokevirtual 42, 3) := by decide +kernel
theorem dX3_search_15 : decode cX3_search 15 = .ok (.return_, 1) := by decide +kernel
theorem dX3_search_16 : decode cX3_search 16 = .ok (.aload_n 0, 1) := by decide +kernel
theorem dX3_search_17 : decode cX3_search 17 = .ok (.iload_n 1, 1) := by decide +kernel
theorem dX3_search_18 : decode cX3_search 18 = .ok (.iload_n 2, 1) := by decide +kernel
theorem dX3_search_19 : decode cX3_search 19 = .ok (.iconst (-1), 1) := by decide +kernel
theorem dX3_search_20 : decode cX3_search 20 = .ok (.iconst (-1), 1) := by decide +kernel
theorem dX3_search_21 : decode cX3_search 21 = .ok (.invokevirtual 46, 3) := by decide +kernel
theorem dX3_search_24 : decode cX3_search 24 = .ok (.aload_n 0, 1) := by decide +kernel
theorem dX3_search_25 : decode cX3_search 25 = .ok (.getfield 12, 3) := by decide +kernel
theorem dX3_search_28 : decode cX3_search 28 = .ok (.iload_n 1, 1) := by decide +kernel
theorem dX3_search_29 : decode cX3_search 29 = .ok (.aaload, 1) := by decide +kernel
theorem dX3_search_30 : decode cX3_search 30 = .ok (.getfield 50, 3) := by decide +kernel
theorem dX3_search_33 : decode cX3_search 33 = .ok (.ifCond .gt 4, 3) := by decide +kernel
theorem dX3_search_36 : decode cX3_search 36 = .ok (.return_, 1) := by decide +kernel
theorem dX3_search_37 : decode cX3_search 37 = .ok (.iconst 0, 1) := by decide +kernel
theorem dX3_search_38 : decode cX3_search 38 = .ok (.istore_n 3, 1) := by decide +kernel
theorem dX3_search_39 : decode cX3_search 39 = .ok (.iload_n 3, 1) := by decide +kernel
theorem dX3_search_40 : decode cX3_search 40 = .ok (.aload_n 0, 1) := by decide +kernel
theorem dX3_search_41 : decode cX3_search 41 = .ok (.getfield 25, 3) := by decide +kernel
theorem dX3_search_44 : decode cX3_search 44 = .ok (.getfield 53, 3) := by decide +kernel
theorem dX3_search_47 : decode cX3_search 47 = .ok (.getfield 59, 3) := by decide +kernel
theorem dX3_search_50 : decode cX3_search 50 = .ok (.if_icmp .ge 59, 3) := by decide +kernel
theorem dX3_search_53 : decode cX3_search 53 = .ok (.iload_n 3, 1) := by decide +kernel
theorem dX3_search_54 : decode cX3_search 54 = .ok (.iconst 1, 1) := by decide +kernel
theorem dX3_search_55 : decode cX3_search 55 = .ok (.iadd, 1) := by decide +kernel
theorem dX3_search_56 : decode cX3_search 56 = .ok (.istore 4, 2) := by decide +kernel
theorem dX3_search_58 : decode cX3_search 58 = .ok (.iload 4, 2) := by decide +kernel
theorem dX3_search_60 : decode cX3_search 60 = .ok (.aload_n 0, 1) := by decide +kernel
theorem dX3_search_61 : decode cX3_search 61 = .ok (.getfield 25, 3) := by decide +kernel
theorem dX3_search_64 : decode cX3_search 64 = .ok (.getfield 53, 3) := by decide +kernel
theorem dX3_search_67 : decode cX3_search 67 = .ok (.getfield 59, 3) := by decide +kernel
theorem dX3_search_70 : decode cX3_search 70 = .ok (.if_icmp .ge 33, 3) := by decide +kernel
theorem dX3_search_73 : decode cX3_search 73 = .ok (.aload_n 0, 1) := by decide +kernel
theorem dX3_search_74 : decode cX3_search 74 = .ok (.getfield 12, 3) := by decide +kernel
theorem dX3_search_77 : decode cX3_search 77 = .ok (.iload_n 1, 1) := by decide +kernel
theorem dX3_search_78 : decode cX3_search 78 = .ok (.aaload, 1) := by decide +kernel
theorem dX3_search_79 : decode cX3_search 79 = .ok (.iload_n 3, 1) := by decide +kernel
theorem dX3_search_80 : decode cX3_search 80 = .ok (.iload 4, 2) := by decide +kernel
theorem dX3_search_82 : decode cX3_search 82 = .ok (.invokevirtual 64, 3) := by decide +kernel
theorem dX3_search_85 : decode cX3_search 85 = .ok (.ifCond .eq 12, 3) := by decide +kernel
theorem dX3_search_88 : decode cX3_search 88 = .ok (.aload_n 0, 1) := by decide +kernel
theorem dX3_search_89 : decode cX3_search 89 = .ok (.iload_n 1, 1) := by decide +kernel
theorem dX3_search_90 : decode cX3_search 90 = .ok (.iload_n 2, 1) := by decide +kernel
theorem dX3_search_91 : decode cX3_search 91 = .ok (.iload_n 3, 1) := by decide +kernel
theorem dX3_search_92 : decode cX3_search 92 = .ok (.iload 4, 2) := by decide +kernel
theorem dX3_search_94 : decode cX3_search 94 = .ok (.invokevirtual 46, 3) := by decide +kernel
theorem dX3_search_97 : decode cX3_search 97 = .ok (.iinc 4 1, 3) := by decide +kernel
theorem dX3_search_100 : decode cX3_search 100 = .ok (.goto (-42), 3) := by decide +kernel
theorem dX3_search_103 : decode cX3_search 103 = .ok (.iinc 3 1, 3) := by decide +kernel
theorem dX3_search_106 : decode cX3_search 106 = .ok (.goto (-67), 3) := by decide +kernel
theorem dX3_search_109 : decode cX3_search 109 = .ok (.return_, 1) := by decide +kernel
theorem dX3_goOn_0 : decode cX3_goOn 0 = .ok (.aload_n 0, 1) := by decide +kernel
theorem dX3_goOn_1 : decode cX3_goOn 1 = .ok (.getfield 12, 3) := by decide +kernel
theorem dX3_goOn_4 : decode cX3_goOn 4 = .ok (.iload_n 1, 1) := by decide +kernel
theorem dX3_goOn_5 : decode cX3_goOn 5 = .ok (.iconst 1, 1) := by decide +kernel
theorem dX3_goOn_6 : decode cX3_goOn 6 = .ok (.iadd, 1) := by decide +kernel
theorem dX3_goOn_7 : decode cX3_goOn 7 = .ok (.aaload, 1) := by decide +kernel
theorem dX3_goOn_8 : decode cX3_goOn 8 = .ok (.astore 5, 2) := by decide +kernel
theorem dX3_goOn_10 : decode cX3_goOn 10 = .ok (.aload 5, 2) := by decide +kernel
theorem dX3_goOn_12 : decode cX3_goOn 12 = .ok (.aload_n 0, 1) := by decide +kernel
theorem dX3_goOn_13 : decode cX3_goOn 13 = .ok (.getfield 12, 3) := by decide +kernel
theorem dX3_goOn_16 : decode cX3_goOn 16 = .ok (.iload_n 1, 1) := by decide +kernel
theorem dX3_goOn_17 : decode cX3_goOn 17 = .ok (.aaload, 1) := by decide +kernel
theorem dX3_goOn_18 : decode cX3_goOn 18 = .ok (.invokevirtual 34, 3) := by decide +kernel
theorem dX3_goOn_21 : decode cX3_goOn 21 = .ok (.aload_n 0, 1) := by decide +kernel
theorem dX3_goOn_22 : decode cX3_goOn 22 = .ok (.getfield 18, 3) := by decide +kernel
theorem dX3_goOn_25 : decode cX3_goOn 25 = .ok (.iload_n 1, 1) := by decide +kernel
theorem dX3_goOn_26 : decode cX3_goOn 26 = .ok (.iconst (-1), 1) := by decide +kernel
theorem dX3_goOn_27 : decode cX3_goOn 27 = .ok (.iastore, 1) := by decide +kernel
theorem dX3_goOn_28 : decode cX3_goOn 28 = .ok (.iload_n 3, 1) := by decide +kernel
theorem dX3_goOn_29 : decode cX3_goOn 29 = .ok (.ifCond .lt 24, 3) := by decide +kernel
theorem dX3_goOn_32 : decode cX3_goOn 32 = .ok (.aload 5, 2) := by decide +kernel
theorem dX3_goOn_34 : decode cX3_goOn 34 = .ok (.iload_n 3, 1) := by decide +kernel
theorem dX3_goOn_35 : decode cX3_goOn 35 = .ok (.iload 4, 2) := by decide +kernel
theorem dX3_goOn_37 : decode cX3_goOn 37 = .ok (.invokevirtual 68, 3) := by decide +kernel
theorem dX3_goOn_40 : decode cX3_goOn 40 = .ok (.aload_n 0, 1) := by decide +kernel
theorem dX3_goOn_41 : decode cX3_goOn 41 = .ok (.getfield 18, 3) := by decide +kernel
theorem dX3_goOn_44 : decode cX3_goOn 44 = .ok (.iload_n 1, 1) := by decide +kernel
theorem dX3_goOn_45 : decode cX3_goOn 45 = .ok (.bipush 8, 2) := by decide +kernel
theorem dX3_goOn_47 : decode cX3_goOn 47 = .ok (.iload_n 3, 1) := by decide +kernel
theorem dX3_goOn_48 : decode cX3_goOn 48 = .ok (.imul, 1) := by decide +kernel
theorem dX3_goOn_49 : decode cX3_goOn 49 = .ok (.iload 4, 2) := by decide +kernel
theorem dX3_goOn_51 : decode cX3_goOn 51 = .ok (.iadd, 1) := by decide +kernel
theorem dX3_goOn_52 : decode cX3_goOn 52 = .ok (.iastore, 1) := by decide +kernel
theorem dX3_goOn_53 : decode cX3_goOn 53 = .ok (.aload_n 0, 1) := by decide +kernel
theorem dX3_goOn_54 : decode cX3_goOn 54 = .ok (.getfield 25, 3) := by decide +kernel
theorem dX3_goOn_57 : decode cX3_goOn 57 = .ok (.aload 5, 2) := by decide +kernel
theorem dX3_goOn_59 : decode cX3_goOn 59 = .ok (.aload_n 0, 1) := by decide +kernel
theorem dX3_goOn_60 : decode cX3_goOn 60 = .ok (.getfield 25, 3) := by decide +kernel
theorem dX3_goOn_63 : decode cX3_goOn 63 = .ok (.getfield 53, 3) := by decide +kernel
theorem dX3_goOn_66 : decode cX3_goOn 66 = .ok (.aload 5, 2) := by decide +kernel
theorem dX3_goOn_68 : decode cX3_goOn 68 = .ok (.invokevirtual 71, 3) := by decide +kernel
theorem dX3_goOn_71 : decode cX3_goOn 71 = .ok (.invokevirtual 75, 3) := by decide +kernel
theorem dX3_goOn_74 : decode cX3_goOn 74 = .ok (.pop, 1) := by decide +kernel
theorem dX3_goOn_75 : decode cX3_goOn 75 = .ok (.aload_n 0, 1) := by decide +kernel
theorem dX3_goOn_76 : decode cX3_goOn 76 = .ok (.iload_n 1, 1) := by decide +kernel
theorem dX3_goOn_77 : decode cX3_goOn 77 = .ok (.iconst 1, 1) := by decide +kernel
theorem dX3_goOn_78 : decode cX3_goOn 78 = .ok (.iadd, 1) := by decide +kernel
theorem dX3_goOn_79 : decode cX3_goOn 79 = .ok (.iload_n 2, 1) := by decide +kernel
theorem dX3_goOn_80 : decode cX3_goOn 80 = .ok (.invokevirtual 38, 3) := by decide +kernel
theorem dX3_goOn_83 : decode cX3_goOn 83 = .ok (.return_, 1) := by decide +kernel
theorem dX3_keepIfBetter_0 : decode cX3_keepIfBetter 0 = .ok (.aload_n 0, 1) := by decide +kernel
theorem dX3_keepIfBetter_1 : decode cX3_keepIfBetter 1 = .ok (.getfield 25, 3) := by decide +kernel
theorem dX3_keepIfBetter_4 : decode cX3_keepIfBetter 4 = .ok (.getfield 53, 3) := by decide +kernel
theorem dX3_keepIfBetter_7 : decode cX3_keepIfBetter 7 = .ok (.aload_n 0, 1) := by decide +kernel
theorem dX3_keepIfBetter_8 : decode cX3_keepIfBetter 8 = .ok (.getfield 12, 3) := by decide +kernel
theorem dX3_keepIfBetter_11 : decode cX3_keepIfBetter 11 = .ok (.iload_n 1, 1) := by decide +kernel
theorem dX3_keepIfBetter_12 : decode cX3_keepIfBetter 12 = .ok (.aaload, 1) := by decide +kernel
theorem dX3_keepIfBetter_13 : decode cX3_keepIfBetter 13 = .ok (.invokevirtual 79, 3) := by decide +kernel
theorem dX3_keepIfBetter_16 : decode cX3_keepIfBetter 16 = .ok (.istore_n 2, 1) := by decide +kernel
theorem dX3_keepIfBetter_17 : decode cX3_keepIfBetter 17 = .ok (.iload_n 2, 1) := by decide +kernel
theorem dX3_keepIfBetter_18 : decode cX3_keepIfBetter 18 = .ok (.aload_n 0, 1) := by decide +kernel
theorem dX3_keepIfBetter_19 : decode cX3_keepIfBetter 19 = .ok (.getfield 30, 3) := by decide +kernel
theorem dX3_keepIfBetter_22 : decode cX3_keepIfBetter 22 = .ok (.if_icmp .ge 22, 3) := by decide +kernel
theorem dX3_keepIfBetter_25 : decode cX3_keepIfBetter 25 = .ok (.aload_n 0, 1) := by decide +kernel
theorem dX3_keepIfBetter_26 : decode cX3_keepIfBetter 26 = .ok (.iload_n 2, 1) := by decide +kernel
theorem dX3_keepIfBetter_27 : decode cX3_keepIfBetter 27 = .ok (.putfield 30, 3) := by decide +kernel
theorem dX3_keepIfBetter_30 : decode cX3_keepIfBetter 30 = .ok (.aload_n 0, 1) := by decide +kernel
theorem dX3_keepIfBetter_31 : decode cX3_keepIfBetter 31 = .ok (.getfield 18, 3) := by decide +kernel
theorem dX3_keepIfBetter_34 : decode cX3_keepIfBetter 34 = .ok (.iconst 0, 1) := by decide +kernel
theorem dX3_keepIfBetter_35 : decode cX3_keepIfBetter 35 = .ok (.aload_n 0, 1) := by decide +kernel
theorem dX3_keepIfBetter_36 : decode cX3_keepIfBetter 36 = .ok (.getfield 22, 3) := by decide +kernel
theorem dX3_keepIfBetter_39 : decode cX3_keepIfBetter 39 = .ok (.iconst 0, 1) := by decide +kernel
theorem dX3_keepIfBetter_40 : decode cX3_keepIfBetter 40 = .ok (.iconst 3, 1) := by decide +kernel
theorem dX3_keepIfBetter_41 : decode cX3_keepIfBetter 41 = .ok (.invokestatic 82, 3) := by decide +kernel
theorem dX3_keepIfBetter_44 : decode cX3_keepIfBetter 44 = .ok (.return_, 1) := by decide +kernel
theorem dX0_init_0 : decode cX0_init 0 = .ok (.aload_n 0, 1) := by decide +kernel
theorem dX0_init_1 : decode cX0_init 1 = .ok (.invokespecial 3, 3) := by decide +kernel
theorem dX0_init_4 : decode cX0_init 4 = .ok (.aload_n 0, 1) := by decide +kernel
theorem dX0_init_5 : decode cX0_init 5 = .ok (.new 9, 3) := by decide +kernel
theorem dX0_init_8 : decode cX0_init 8 = .ok (.dup, 1) := by decide +kernel
theorem dX0_init_9 : decode cX0_init 9 = .ok (.invokespecial 11, 3) := by decide +kernel
theorem dX0_init_12 : decode cX0_init 12 = .ok (.putfield 12, 3) := by decide +kernel
theorem dX0_init_15 : decode cX0_init 15 = .ok (.aload_n 0, 1) := by decide +kernel
theorem dX0_init_16 : decode cX0_init 16 = .ok (.bipush 7, 2) := by decide +kernel
theorem dX0_init_18 : decode cX0_init 18 = .ok (.newarray .int, 2) := by decide +kernel
theorem dX0_init_20 : decode cX0_init 20 = .ok (.putfield 18, 3) := by decide +kernel
theorem dX0_init_23 : decode cX0_init 23 = .ok (.aload_n 0, 1) := by decide +kernel
theorem dX0_init_24 : decode cX0_init 24 = .ok (.bipush 42, 2) := by decide +kernel
theorem dX0_init_26 : decode cX0_init 26 = .ok (.newarray .int, 2) := by decide +kernel
theorem dX0_init_28 : decode cX0_init 28 = .ok (.putfield 22, 3) := by decide +kernel
theorem dX0_init_31 : decode cX0_init 31 = .ok (.aload_n 0, 1) := by decide +kernel
theorem dX0_init_32 : decode cX0_init 32 = .ok (.aload_n 1, 1) := by decide +kernel
theorem dX0_init_33 : decode cX0_init 33 = .ok (.putfield 25, 3) := by decide +kernel
theorem dX0_init_36 : decode cX0_init 36 = .ok (.return_, 1) := by decide +kernel
theorem dX0_find_0 : decode cX0_find 0 = .ok (.aload_n 0, 1) := by decide +kernel
theorem dX0_find_1 : decode cX0_find 1 = .ok (.iconst 0, 1) := by decide +kernel
theorem dX0_find_2 : decode cX0_find 2 = .ok (.putfield 29, 3) := by decide +kernel
theorem dX0_find_5 : decode cX0_find 5 = .ok (.iconst (-1), 1) := by decide +kernel
theorem dX0_find_6 : decode cX0_find 6 = .ok (.istore 5, 2) := by decide +kernel
theorem dX0_find_8 : decode cX0_find 8 = .ok (.iload 5, 2) := by decide +kernel
theorem dX0_find_10 : decode cX0_find 10 = .ok (.iload_n 3, 1) := by decide +kernel
theorem dX0_find_11 : decode cX0_find 11 = .ok (.if_icmp .ge 65, 3) := by decide +kernel
theorem dX0_find_14 : decode cX0_find 14 = .ok (.aload_n 0, 1) := by decide +kernel
theorem dX0_find_15 : decode cX0_find 15 = .ok (.getfield 29, 3) := by decide +kernel
theorem dX0_find_18 : decode cX0_find 18 = .ok (.aload_n 0, 1) := by decide +kernel
theorem dX0_find_19 : decode cX0_find 19 = .ok (.getfield 18, 3) := by decide +kernel
theorem dX0_find_22 : decode cX0_find 22 = .ok (.arraylength, 1) := by decide +kernel
theorem dX0_find_23 : decode cX0_find 23 = .ok (.if_icmp .ge 53, 3) := by decide +kernel
theorem dX0_find_26 : decode cX0_find 26 = .ok (.aload_n 0, 1) := by decide +kernel
theorem dX0_find_27 : decode cX0_find 27 = .ok (.aload_n 1, 1) := by decide +kernel
theorem dX0_find_28 : decode cX0_find 28 = .ok (.iload 5, 2) := by decide +kernel
theorem dX0_find_30 : decode cX0_find 30 = .ok (.ifCond .ge 7, 3) := by decide +kernel
theorem dX0_find_33 : decode cX0_find 33 = .ok (.aconst_null, 1) := by decide +kernel
theorem dX0_find_34 : decode cX0_find 34 = .ok (.goto 7, 3) := by decide +kernel
theorem dX0_find_37 : decode cX0_find 37 = .ok (.aload_n 2, 1) := by decide +kernel
theorem dX0_find_38 : decode cX0_find 38 = .ok (.iload 5, 2) := by decide +kernel
theorem dX0_find_40 : decode cX0_find 40 = .ok (.aaload, 1) := by decide +kernel
theorem dX0_find_41 : decode cX0_find 41 = .ok (.iload 4, 2) := by decide +kernel
theorem dX0_find_43 : decode cX0_find 43 = .ok (.invokevirtual 33, 3) := by decide +kernel
theorem dX0_find_46 : decode cX0_find 46 = .ok (.ifCond .eq 24, 3) := by decide +kernel
theorem dX0_find_49 : decode cX0_find 49 = .ok (.aload_n 0, 1) := by decide +kernel
theorem dX0_find_50 : decode cX0_find 50 = .ok (.getfield 18, 3) := by decide +kernel
theorem dX0_find_53 : decode cX0_find 53 = .ok (.aload_n 0, 1) := by decide +kernel
theorem dX0_find_54 : decode cX0_find 54 = .ok (.getfield 29, 3) := by decide +kernel
theorem dX0_find_57 : decode cX0_find 57 = .ok (.iload 5, 2) := by decide +kernel
theorem dX0_find_59 : decode cX0_find 59 = .ok (.iastore, 1) := by decide +kernel
theorem dX0_find_60 : decode cX0_find 60 = .ok (.aload_n 0, 1) := by decide +kernel
theorem dX0_find_61 : decode cX0_find 61 = .ok (.dup, 1) := by decide +kernel
theorem dX0_find_62 : decode cX0_find 62 = .ok (.getfield 29, 3) := by decide +kernel
theorem dX0_find_65 : decode cX0_find 65 = .ok (.iconst 1, 1) := by decide +kernel
theorem dX0_find_66 : decode cX0_find 66 = .ok (.iadd, 1) := by decide +kernel
theorem dX0_find_67 : decode cX0_find 67 = .ok (.putfield 29, 3) := by decide +kernel
theorem dX0_find_70 : decode cX0_find 70 = .ok (.iinc 5 1, 3) := by decide +kernel
theorem dX0_find_73 : decode cX0_find 73 = .ok (.goto (-65), 3) := by decide +kernel
theorem dX0_find_76 : decode cX0_find 76 = .ok (.return_, 1) := by decide +kernel
theorem dX0_isSo_0 : decode cX0_isSo 0 = .ok (.iload_n 3, 1) := by decide +kernel
theorem dX0_isSo_1 : decode cX0_isSo 1 = .ok (.aload_n 1, 1) := by decide +kernel
theorem dX0_isSo_2 : decode cX0_isSo 2 = .ok (.invokevirtual 37, 3) := by decide +kernel
theorem dX0_isSo_5 : decode cX0_isSo 5 = .ok (.invokestatic 43, 3) := by decide +kernel
theorem dX0_isSo_8 : decode cX0_isSo 8 = .ok (.istore 4, 2) := by decide +kernel
theorem dX0_isSo_10 : decode cX0_isSo 10 = .ok (.aload_n 0, 1) := by decide +kernel
theorem dX0_isSo_11 : decode cX0_isSo 11 = .ok (.getfield 12, 3) := by decide +kernel
theorem dX0_isSo_14 : decode cX0_isSo 14 = .ok (.aload_n 0, 1) := by decide +kernel
theorem dX0_isSo_15 : decode cX0_isSo 15 = .ok (.getfield 25, 3) := by decide +kernel
theorem dX0_isSo_18 : decode cX0_isSo 18 = .ok (.getfield 49, 3) := by decide +kernel
theorem dX0_isSo_21 : decode cX0_isSo 21 = .ok (.getfield 55, 3) := by decide +kernel
theorem dX0_isSo_24 : decode cX0_isSo 24 = .ok (.invokevirtual 60, 3) := by decide +kernel
theorem dX0_isSo_27 : decode cX0_isSo 27 = .ok (.iconst 0, 1) := by decide +kernel
theorem dX0_isSo_28 : decode cX0_isSo 28 = .ok (.istore 5, 2) := by decide +kernel
theorem dX0_isSo_30 : decode cX0_isSo 30 = .ok (.iload 5, 2) := by decide +kernel
theorem dX0_isSo_32 : decode cX0_isSo 32 = .ok (.iload 4, 2) := by decide +kernel
theorem dX0_isSo_34 : decode cX0_isSo 34 = .ok (.if_icmp .gt 79, 3) := by decide +kernel
theorem dX0_isSo_37 : decode cX0_isSo 37 = .ok (.aload_n 1, 1) := by decide +kernel
theorem dX0_isSo_38 : decode cX0_isSo 38 = .ok (.aload_n 0, 1) := by decide +kernel
theorem dX0_isSo_39 : decode cX0_isSo 39 = .ok (.getfield 12, 3) := by decide +kernel
theorem dX0_isSo_42 : decode cX0_isSo 42 = .ok (.invokevirtual 64, 3) := by decide +kernel
theorem dX0_isSo_45 : decode cX0_isSo 45 = .ok (.ifCond .ne 5, 3) := by decide +kernel
theorem dX0_isSo_48 : decode cX0_isSo 48 = .ok (.iconst 0, 1) := by decide +kernel
theorem dX0_isSo_49 : decode cX0_isSo 49 = .ok (.ireturn, 1) := by decide +kernel
theorem dX0_isSo_50 : decode cX0_isSo 50 = .ok (.iload 5, 2) := by decide +kernel
theorem dX0_isSo_52 : decode cX0_isSo 52 = .ok (.iload_n 3, 1) := by decide +kernel
theorem dX0_isSo_53 : decode cX0_isSo 53 = .ok (.if_icmp .ne 27, 3) := by decide +kernel
theorem dX0_isSo_56 : decode cX0_isSo 56 = .ok (.aload_n 0, 1) := by decide +kernel
theorem dX0_isSo_57 : decode cX0_isSo 57 = .ok (.getfield 12, 3) := by decide +kernel
theorem dX0_isSo_60 : decode cX0_isSo 60 = .ok (.getfield 68, 3) := by decide +kernel
theorem dX0_isSo_63 : decode cX0_isSo 63 = .ok (.iconst 0, 1) := by decide +kernel
theorem dX0_isSo_64 : decode cX0_isSo 64 = .ok (.aload_n 0, 1) := by decide +kernel
theorem dX0_isSo_65 : decode cX0_isSo 65 = .ok (.getfield 22, 3) := by decide +kernel
theorem dX0_isSo_68 : decode cX0_isSo 68 = .ok (.aload_n 0, 1) := by decide +kernel
theorem dX0_isSo_69 : decode cX0_isSo 69 = .ok (.getfield 29, 3) := by decide +kernel
theorem dX0_isSo_72 : decode cX0_isSo 72 = .ok (.bipush 6, 2) := by decide +kernel
theorem dX0_isSo_74 : decode cX0_isSo 74 = .ok (.imul, 1) := by decide +kernel
theorem dX0_isSo_75 : decode cX0_isSo 75 = .ok (.bipush 6, 2) := by decide +kernel
theorem dX0_isSo_77 : decode cX0_isSo 77 = .ok (.invokestatic 71, 3) := by decide +kernel
theorem dX0_isSo_80 : decode cX0_isSo 80 = .ok (.aload_n 0, 1) := by decide +kernel
theorem dX0_isSo_81 : decode cX0_isSo 81 = .ok (.getfield 25, 3) := by decide +kernel
theorem dX0_isSo_84 : decode cX0_isSo 84 = .ok (.aload_n 0, 1) := by decide +kernel
theorem dX0_isSo_85 : decode cX0_isSo 85 = .ok (.getfield 12, 3) := by decide +kernel
theorem dX0_isSo_88 : decode cX0_isSo 88 = .ok (.aload_n 2, 1) := by decide +kernel
theorem dX0_isSo_89 : decode cX0_isSo 89 = .ok (.aload_n 0, 1) := by decide +kernel
theorem dX0_isSo_90 : decode cX0_isSo 90 = .ok (.getfield 25, 3) := by decide +kernel
theorem dX0_isSo_93 : decode cX0_isSo 93 = .ok (.getfield 49, 3) := by decide +kernel
theorem dX0_isSo_96 : decode cX0_isSo 96 = .ok (.aload_n 0, 1) := by decide +kernel
theorem dX0_isSo_97 : decode cX0_isSo 97 = .ok (.getfield 12, 3) := by decide +kernel
theorem dX0_isSo_100 : decode cX0_isSo 100 = .ok (.invokevirtual 77, 3) := by decide +kernel
theorem dX0_isSo_103 : decode cX0_isSo 103 = .ok (.invokevirtual 81, 3) := by decide +kernel
theorem dX0_isSo_106 : decode cX0_isSo 106 = .ok (.pop, 1) := by decide +kernel
theorem dX0_isSo_107 : decode cX0_isSo 107 = .ok (.iinc 5 1, 3) := by decide +kernel
theorem dX0_isSo_110 : decode cX0_isSo 110 = .ok (.goto (-80), 3) := by decide +kernel
theorem dX0_isSo_113 : decode cX0_isSo 113 = .ok (.iconst 1, 1) := by decide +kernel
theorem dX0_isSo_114 : decode cX0_isSo 114 = .ok (.ireturn, 1) := by decide +kernel
theorem dX0_mostAlike_0 : decode cX0_mostAlike 0 = .ok (.iconst 0, 1) := by decide +kernel
theorem dX0_mostAlike_1 : decode cX0_mostAlike 1 = .ok (.istore_n 2, 1) := by decide +kernel
theorem dX0_mostAlike_2 : decode cX0_mostAlike 2 = .ok (.iconst 0, 1) := by decide +kernel
theorem dX0_mostAlike_3 : decode cX0_mostAlike 3 = .ok (.istore_n 3, 1) := by decide +kernel
theorem dX0_mostAlike_4 : decode cX0_mostAlike 4 = .ok (.iload_n 3, 1) := by decide +kernel
theorem dX0_mostAlike_5 : decode cX0_mostAlike 5 = .ok (.aload_n 0, 1) := by decide +kernel
theorem dX0_mostAlike_6 : decode cX0_mostAlike 6 = .ok (.getfield 29, 3) := by decide +kernel
theorem dX0_mostAlike_9 : decode cX0_mostAlike 9 = .ok (.if_icmp .ge 66, 3) := by decide +kernel
theorem dX0_mostAlike_12 : decode cX0_mostAlike 12 = .ok (.iconst 0, 1) := by decide +kernel
theorem dX0_mostAlike_13 : decode cX0_mostAlike 13 = .ok (.istore 4, 2) := by decide +kernel
theorem dX0_mostAlike_15 : decode cX0_mostAlike 15 = .ok (.iconst 0, 1) := by decide +kernel
theorem dX0_mostAlike_16 : decode cX0_mostAlike 16 = .ok (.istore 5, 2) := by decide +kernel
theorem dX0_mostAlike_18 : decode cX0_mostAlike 18 = .ok (.iload 5, 2) := by decide +kernel
theorem dX0_mostAlike_20 : decode cX0_mostAlike 20 = .ok (.aload_n 0, 1) := by decide +kernel
theorem dX0_mostAlike_21 : decode cX0_mostAlike 21 = .ok (.getfield 29, 3) := by decide +kernel
theorem dX0_mostAlike_24 : decode cX0_mostAlike 24 = .ok (.if_icmp .ge 38, 3) := by decide +kernel
theorem dX0_mostAlike_27 : decode cX0_mostAlike 27 = .ok (.aload_n 0, 1) := by decide +kernel
theorem dX0_mostAlike_28 : decode cX0_mostAlike 28 = .ok (.getfield 22, 3) := by decide +kernel
theorem dX0_mostAlike_31 : decode cX0_mostAlike 31 = .ok (.iload_n 3, 1) := by decide +kernel
theorem dX0_mostAlike_32 : decode cX0_mostAlike 32 = .ok (.bipush 6, 2) := by decide +kernel
theorem dX0_mostAlike_34 : decode cX0_mostAlike 34 = .ok (.imul, 1) := by decide +kernel
theorem dX0_mostAlike_35 : decode cX0_mostAlike 35 = .ok (.iload_n 1, 1) := by decide +kernel
theorem dX0_mostAlike_36 : decode cX0_mostAlike 36 = .ok (.iadd, 1) := by decide +kernel
theorem dX0_mostAlike_37 : decode cX0_mostAlike 37 = .ok (.iaload, 1) := by decide +kernel
theorem dX0_mostAlike_38 : decode cX0_mostAlike 38 = .ok (.aload_n 0, 1) := by decide +kernel
theorem dX0_mostAlike_39 : decode cX0_mostAlike 39 = .ok (.getfield 22, 3) := by decide +kernel
theorem dX0_mostAlike_42 : decode cX0_mostAlike 42 = .ok (.iload 5, 2) := by decide +kernel
theorem dX0_mostAlike_44 : decode cX0_mostAlike 44 = .ok (.bipush 6, 2) := by decide +kernel
theorem dX0_mostAlike_46 : decode cX0_mostAlike 46 = .ok (.imul, 1) := by decide +kernel
theorem dX0_mostAlike_47 : decode cX0_mostAlike 47 = .ok (.iload_n 1, 1) := by decide +kernel
theorem dX0_mostAlike_48 : decode cX0_mostAlike 48 = .ok (.iadd, 1) := by decide +kernel
theorem dX0_mostAlike_49 : decode cX0_mostAlike 49 = .ok (.iaload, 1) := by decide +kernel
theorem dX0_mostAlike_50 : decode cX0_mostAlike 50 = .ok (.if_icmp .ne 6, 3) := by decide +kernel
theorem dX0_mostAlike_53 : decode cX0_mostAlike 53 = .ok (.iinc 4 1, 3) := by decide +kernel
theorem dX0_mostAlike_56 : decode cX0_mostAlike 56 = .ok (.iinc 5 1, 3) := by decide +kernel
theorem dX0_mostAlike_59 : decode cX0_mostAlike 59 = .ok (.goto (-41), 3) := by decide +kernel
theorem dX0_mostAlike_62 : decode cX0_mostAlike 62 = .ok (.iload_n 2, 1) := by decide +kernel
theorem dX0_mostAlike_63 : decode cX0_mostAlike 63 = .ok (.iload 4, 2) := by decide +kernel
theorem dX0_mostAlike_65 : decode cX0_mostAlike 65 = .ok (.invokestatic 43, 3) := by decide +kernel
theorem dX0_mostAlike_68 : decode cX0_mostAlike 68 = .ok (.istore_n 2, 1) := by decide +kernel
theorem dX0_mostAlike_69 : decode cX0_mostAlike 69 = .ok (.iinc 3 1, 3) := by decide +kernel
theorem dX0_mostAlike_72 : decode cX0_mostAlike 72 = .ok (.goto (-68), 3) := by decide +kernel
theorem dX0_mostAlike_75 : decode cX0_mostAlike 75 = .ok (.iload_n 2, 1) := by decide +kernel
theorem dX0_mostAlike_76 : decode cX0_mostAlike 76 = .ok (.ireturn, 1) := by decide +kernel
theorem dX5_init_0 : decode cX5_init 0 = .ok (.aload_n 0, 1) := by decide +kernel
theorem dX5_init_1 : decode cX5_init 1 = .ok (.invokespecial 3, 3) := by decide +kernel
theorem dX5_init_4 : decode cX5_init 4 = .ok (.aload_n 0, 1) := by decide +kernel
theorem dX5_init_5 : decode cX5_init 5 = .ok (.sipush 412, 3) := by decide +kernel
theorem dX5_init_8 : decode cX5_init 8 = .ok (.newarray .int, 2) := by decide +kernel
theorem dX5_init_10 : decode cX5_init 10 = .ok (.putfield 9, 3) := by decide +kernel
theorem dX5_init_13 : decode cX5_init 13 = .ok (.aload_n 0, 1) := by decide +kernel
theorem dX5_init_14 : decode cX5_init 14 = .ok (.aload_n 1, 1) := by decide +kernel
theorem dX5_init_15 : decode cX5_init 15 = .ok (.putfield 15, 3) := by decide +kernel
theorem dX5_init_18 : decode cX5_init 18 = .ok (.return_, 1) := by decide +kernel
theorem dX5_readText_0 : decode cX5_readText 0 = .ok (.aload_n 0, 1) := by decide +kernel
theorem dX5_readText_1 : decode cX5_readText 1 = .ok (.iconst 0, 1) := by decide +kernel
theorem dX5_readText_2 : decode cX5_readText 2 = .ok (.putfield 19, 3) := by decide +kernel
theorem dX5_readText_5 : decode cX5_readText 5 = .ok (.aload_n 0, 1) := by decide +kernel
theorem dX5_readText_6 : decode cX5_readText 6 = .ok (.iconst 0, 1) := by decide +kernel
theorem dX5_readText_7 : decode cX5_readText 7 = .ok (.putfield 23, 3) := by decide +kernel
theorem dX5_readText_10 : decode cX5_readText 10 = .ok (.aload_n 0, 1) := by decide +kernel
theorem dX5_readText_11 : decode cX5_readText 11 = .ok (.getfield 15, 3) := by decide +kernel
theorem dX5_readText_14 : decode cX5_readText 14 = .ok (.invokevirtual 26, 3) := by decide +kernel
theorem dX5_readText_17 : decode cX5_readText 17 = .ok (.iconst 0, 1) := by decide +kernel
theorem dX5_readText_18 : decode cX5_readText 18 = .ok (.istore_n 1, 1) := by decide +kernel
theorem dX5_readText_19 : decode cX5_readText 19 = .ok (.iload_n 1, 1) := by decide +kernel
theorem dX5_readText_20 : decode cX5_readText 20 = .ok (.bipush 12, 2) := by decide +kernel
theorem dX5_readText_22 : decode cX5_readText 22 = .ok (.if_icmp .gt 46, 3) := by decide +kernel
theorem dX5_readText_25 : decode cX5_readText 25 = .ok (.aload_n 0, 1) := by decide +kernel
theorem dX5_readText_26 : decode cX5_readText 26 = .ok (.iload_n 1, 1) := by decide +kernel
theorem dX5_readText_27 : decode cX5_readText 27 = .ok (.invokevirtual 31, 3) := by decide +kernel
theorem dX5_readText_30 : decode cX5_readText 30 = .ok (.ifCond .ne 5, 3) := by decide +kernel
theorem dX5_readText_33 : decode cX5_readText 33 = .ok (.iconst 0, 1) := by decide +kernel
theorem dX5_readText_34 : decode cX5_readText 34 = .ok (.ireturn, 1) := by decide +kernel
theorem dX5_readText_35 : decode cX5_readText 35 = .ok (.aload_n 0, 1) := by decide +kernel
theorem dX5_readText_36 : decode cX5_readText 36 = .ok (.getfield 15, 3) := by decide +kernel
theorem dX5_readText_39 : decode cX5_readText 39 = .ok (.invokevirtual 35, 3) := by decide +kernel
theorem dX5_readText_42 : decode cX5_readText 42 = .ok (.iconst 4, 1) := by decide +kernel
theorem dX5_readText_43 : decode cX5_readText 43 = .ok (.if_icmp .eq 12, 3) := by decide +kernel
theorem dX5_readText_46 : decode cX5_readText 46 = .ok (.aload_n 0, 1) := by decide +kernel
theorem dX5_readText_47 : decode cX5_readText 47 = .ok (.getfield 15, 3) := by decide +kernel
theorem dX5_readText_50 : decode cX5_readText 50 = .ok (.iconst 0, 1) := by decide +kernel
theorem dX5_readText_51 : decode cX5_readText 51 = .ok (.invokevirtual 39, 3) := by decide +kernel
theorem dX5_readText_54 : decode cX5_readText 54 = .ok (.ireturn, 1) := by decide +kernel
theorem dX5_readText_55 : decode cX5_readText 55 = .ok (.aload_n 0, 1) := by decide +kernel
theorem dX5_readText_56 : decode cX5_readText 56 = .ok (.getfield 15, 3) := by decide +kernel
theorem dX5_readText_59 : decode cX5_readText 59 = .ok (.invokevirtual 42, 3) := by decide +kernel
theorem dX5_readText_62 : decode cX5_readText 62 = .ok (.iinc 1 1, 3) := by decide +kernel
theorem dX5_readText_65 : decode cX5_readText 65 = .ok (.goto (-46), 3) := by decide +kernel
theorem dX5_readText_68 : decode cX5_readText 68 = .ok (.aload_n 0, 1) := by decide +kernel
theorem dX5_readText_69 : decode cX5_readText 69 = .ok (.getfield 15, 3) := by decide +kernel
theorem dX5_readText_72 : decode cX5_readText 72 = .ok (.iconst 4, 1) := by decide +kernel
theorem dX5_readText_73 : decode cX5_readText 73 = .ok (.invokevirtual 45, 3) := by decide +kernel
theorem dX5_readText_76 : decode cX5_readText 76 = .ok (.ireturn, 1) := by decide +kernel
theorem dX5_writtenSteps_0 : decode cX5_writtenSteps 0 = .ok (.aload_n 0, 1) := by decide +kernel
theorem dX5_writtenSteps_1 : decode cX5_writtenSteps 1 = .ok (.getfield 9, 3) := by decide +kernel
theorem dX5_writtenSteps_4 : decode cX5_writtenSteps 4 = .ok (.aload_n 0, 1) := by decide +kernel
theorem dX5_writtenSteps_5 : decode cX5_writtenSteps 5 = .ok (.getfield 19, 3) := by decide +kernel
theorem dX5_writtenSteps_8 : decode cX5_writtenSteps 8 = .ok (.invokestatic 48, 3) := by decide +kernel
theorem dX5_writtenSteps_11 : decode cX5_writtenSteps 11 = .ok (.areturn, 1) := by decide +kernel
theorem dX5_readClause_0 : decode cX5_readClause 0 = .ok (.aload_n 0, 1) := by decide +kernel
theorem dX5_readClause_1 : decode cX5_readClause 1 = .ok (.getfield 15, 3) := by decide +kernel
theorem dX5_readClause_4 : decode cX5_readClause 4 = .ok (.invokevirtual 35, 3) := by decide +kernel
theorem dX5_readClause_7 : decode cX5_readClause 7 = .ok (.bipush 32, 2) := by decide +kernel
theorem dX5_readClause_9 : decode cX5_readClause 9 = .ok (.if_icmp .eq 12, 3) := by decide +kernel
theorem dX5_readClause_12 : decode cX5_readClause 12 = .ok (.aload_n 0, 1) := by decide +kernel
theorem dX5_readClause_13 : decode cX5_readClause 13 = .ok (.getfield 15, 3) := by decide +kernel
theorem dX5_readClause_16 : decode cX5_readClause 16 = .ok (.iconst 0, 1) := by decide +kernel
theorem dX5_readClause_17 : decode cX5_readClause 17 = .ok (.invokevirtual 45, 3) := by decide +kernel
theorem dX5_readClause_20 : decode cX5_readClause 20 = .ok (.ireturn, 1) := by decide +kernel
theorem dX5_readClause_21 : decode cX5_readClause 21 = .ok (.iload_n 1, 1) := by decide +kernel
theorem dX5_readClause_22 : decode cX5_readClause 22 = .ok (.bipush 12, 2) := by decide +kernel
theorem dX5_readClause_24 : decode cX5_readClause 24 = .ok (.if_icmp .lt 12, 3) := by decide +kernel
theorem dX5_readClause_27 : decode cX5_readClause 27 = .ok (.aload_n 0, 1) := by decide +kernel
theorem dX5_readClause_28 : decode cX5_readClause 28 = .ok (.getfield 15, 3) := by decide +kernel
theorem dX5_readClause_31 : decode cX5_readClause 31 = .ok (.iconst 4, 1) := by decide +kernel
theorem dX5_readClause_32 : decode cX5_readClause 32 = .ok (.invokevirtual 45, 3) := by decide +kernel
theorem dX5_readClause_35 : decode cX5_readClause 35 = .ok (.ireturn, 1) := by decide +kernel
theorem dX5_readClause_36 : decode cX5_readClause 36 = .ok (.aload_n 0, 1) := by decide +kernel
theorem dX5_readClause_37 : decode cX5_readClause 37 = .ok (.getfield 15, 3) := by decide +kernel
theorem dX5_readClause_40 : decode cX5_readClause 40 = .ok (.invokevirtual 42, 3) := by decide +kernel
theorem dX5_readClause_43 : decode cX5_readClause 43 = .ok (.aload_n 0, 1) := by decide +kernel
theorem dX5_readClause_44 : decode cX5_readClause 44 = .ok (.invokevirtual 54, 3) := by decide +kernel
theorem dX5_readClause_47 : decode cX5_readClause 47 = .ok (.ifCond .ne 5, 3) := by decide +kernel
theorem dX5_readClause_50 : decode cX5_readClause 50 = .ok (.iconst 0, 1) := by decide +kernel
theorem dX5_readClause_51 : decode cX5_readClause 51 = .ok (.ireturn, 1) := by decide +kernel
theorem dX5_readClause_52 : decode cX5_readClause 52 = .ok (.aload_n 0, 1) := by decide +kernel
theorem dX5_readClause_53 : decode cX5_readClause 53 = .ok (.getfield 15, 3) := by decide +kernel
theorem dX5_readClause_56 : decode cX5_readClause 56 = .ok (.invokevirtual 35, 3) := by decide +kernel
theorem dX5_readClause_59 : decode cX5_readClause 59 = .ok (.bipush 33, 2) := by decide +kernel
theorem dX5_readClause_61 : decode cX5_readClause 61 = .ok (.if_icmp .eq 11, 3) := by decide +kernel
theorem dX5_readClause_64 : decode cX5_readClause 64 = .ok (.aload_n 0, 1) := by decide +kernel
theorem dX5_readClause_65 : decode cX5_readClause 65 = .ok (.bipush 37, 2) := by decide +kernel
theorem dX5_readClause_67 : decode cX5_readClause 67 = .ok (.iconst 0, 1) := by decide +kernel
theorem dX5_readClause_68 : decode cX5_readClause 68 = .ok (.invokevirtual 58, 3) := by decide +kernel
theorem dX5_readClause_71 : decode cX5_readClause 71 = .ok (.ireturn, 1) := by decide +kernel
theorem dX5_readClause_72 : decode cX5_readClause 72 = .ok (.aload_n 0, 1) := by decide +kernel
theorem dX5_readClause_73 : decode cX5_readClause 73 = .ok (.getfield 15, 3) := by decide +kernel
theorem dX5_readClause_76 : decode cX5_readClause 76 = .ok (.invokevirtual 42, 3) := by decide +kernel
theorem dX5_readClause_79 : decode cX5_readClause 79 = .ok (.aload_n 0, 1) := by decide +kernel
theorem dX5_readClause_80 : decode cX5_readClause 80 = .ok (.iconst 0, 1) := by decide +kernel
theorem dX5_readClause_81 : decode cX5_readClause 81 = .ok (.invokevirtual 62, 3) := by decide +kernel
theorem dX5_readClause_84 : decode cX5_readClause 84 = .ok (.ifCond .eq 17, 3) := by decide +kernel
theorem dX5_readClause_87 : decode cX5_readClause 87 = .ok (.aload_n 0, 1) := by decide +kernel
theorem dX5_readClause_88 : decode cX5_readClause 88 = .ok (.bipush 38, 2) := by decide +kernel
theorem dX5_readClause_90 : decode cX5_readClause 90 = .ok (.iconst 0, 1) := by decide +kernel
theorem dX5_readClause_91 : decode cX5_readClause 91 = .ok (.invokevirtual 58, 3) := by decide +kernel
theorem dX5_readClause_94 : decode cX5_readClause 94 = .ok (.ifCond .eq 7, 3) := by decide +kernel
theorem dX5_readClause_97 : decode cX5_readClause 97 = .ok (.iconst 1, 1) := by decide +kernel
theorem dX5_readClause_98 : decode cX5_readClause 98 = .ok (.goto 4, 3) := by decide +kernel
theorem dX5_readClause_101 : decode cX5_readClause 101 = .ok (.iconst 0, 1) := by decide +kernel
theorem dX5_readClause_102 : decode cX5_readClause 102 = .ok (.ireturn, 1) := by decide +kernel
theorem dX5_readTest_0 : decode cX5_readTest 0 = .ok (.iconst 0, 1) := by decide +kernel
theorem dX5_readTest_1 : decode cX5_readTest 1 = .ok (.istore_n 2, 1) := by decide +kernel
theorem dX5_readTest_2 : decode cX5_readTest 2 = .ok (.iconst 0, 1) := by decide +kernel
theorem dX5_readTest_3 : decode cX5_readTest 3 = .ok (.istore_n 3, 1) := by decide +kernel
theorem dX5_readTest_4 : decode cX5_readTest 4 = .ok (.iconst 0, 1) := by decide +kernel
theorem dX5_readTest_5 : decode cX5_readTest 5 = .ok (.istore 4, 2) := by decide +kernel
theorem dX5_readTest_7 : decode cX5_readTest 7 = .ok (.iload 4, 2) := by decide +kernel
theorem dX5_readTest_9 : decode cX5_readTest 9 = .ok (.sipush 400, 3) := by decide +kernel
theorem dX5_readTest_12 : decode cX5_readTest 12 = .ok (.if_icmp .ge 96, 3) := by decide +kernel
theorem dX5_readTest_15 : decode cX5_readTest 15 = .ok (.aload_n 0, 1) := by decide +kernel
theorem dX5_readTest_16 : decode cX5_readTest 16 = .ok (.iload_n 1, 1) := by decide +kernel
theorem dX5_readTest_17 : decode cX5_readTest 17 = .ok (.invokevirtual 65, 3) := by decide +kernel
theorem dX5_readTest_20 : decode cX5_readTest 20 = .ok (.ifCond .ne 5, 3) := by decide +kernel
theorem dX5_readTest_23 : decode cX5_readTest 23 = .ok (.iconst 0, 1) := by decide +kernel
theorem dX5_readTest_24 : decode cX5_readTest 24 = .ok (.ireturn, 1) := by decide +kernel
theorem dX5_readTest_25 : decode cX5_readTest 25 = .ok (.iload_n 2, 1) := by decide +kernel
theorem dX5_readTest_26 : decode cX5_readTest 26 = .ok (.ifCond .eq 11, 3) := by decide +kernel
theorem dX5_readTest_29 : decode cX5_readTest 29 = .ok (.aload_n 0, 1) := by decide +kernel
theorem dX5_readTest_30 : decode cX5_readTest 30 = .ok (.bipush 35, 2) := by decide +kernel
theorem dX5_readTest_32 : decode cX5_readTest 32 = .ok (.iconst 0, 1) := by decide +kernel
theorem dX5_readTest_33 : decode cX5_readTest 33 = .ok (.invokevirtual 58, 3) := by decide +kernel
theorem dX5_readTest_36 : decode cX5_readTest 36 = .ok (.pop, 1) := by decide +kernel
theorem dX5_readTest_37 : decode cX5_readTest 37 = .ok (.aload_n 0, 1) := by decide +kernel
theorem dX5_readTest_38 : decode cX5_readTest 38 = .ok (.getfield 15, 3) := by decide +kernel
theorem dX5_readTest_41 : decode cX5_readTest 41 = .ok (.invokevirtual 35, 3) := by decide +kernel
theorem dX5_readTest_44 : decode cX5_readTest 44 = .ok (.bipush 35, 2) := by decide +kernel
theorem dX5_readTest_46 : decode cX5_readTest 46 = .ok (.if_icmp .ne 7, 3) := by decide +kernel
theorem dX5_readTest_49 : decode cX5_readTest 49 = .ok (.iconst 1, 1) := by decide +kernel
theorem dX5_readTest_50 : decode cX5_readTest 50 = .ok (.goto 4, 3) := by decide +kernel
theorem dX5_readTest_53 : decode cX5_readTest 53 = .ok (.iconst 0, 1) := by decide +kernel
theorem dX5_readTest_54 : decode cX5_readTest 54 = .ok (.istore_n 2, 1) := by decide +kernel
theorem dX5_readTest_55 : decode cX5_readTest 55 = .ok (.iload_n 2, 1) := by decide +kernel
theorem dX5_readTest_56 : decode cX5_readTest 56 = .ok (.ifCond .ne 39, 3) := by decide +kernel
theorem dX5_readTest_59 : decode cX5_readTest 59 = .ok (.iload_n 3, 1) := by decide +kernel
theorem dX5_readTest_60 : decode cX5_readTest 60 = .ok (.ifCond .eq 11, 3) := by decide +kernel
theorem dX5_readTest_63 : decode cX5_readTest 63 = .ok (.aload_n 0, 1) := by decide +kernel
theorem dX5_readTest_64 : decode cX5_readTest 64 = .ok (.bipush 34, 2) := by decide +kernel
theorem dX5_readTest_66 : decode cX5_readTest 66 = .ok (.iconst 0, 1) := by decide +kernel
theorem dX5_readTest_67 : decode cX5_readTest 67 = .ok (.invokevirtual 58, 3) := by decide +kernel
theorem dX5_readTest_70 : decode cX5_readTest 70 = .ok (.pop, 1) := by decide +kernel
theorem dX5_readTest_71 : decode cX5_readTest 71 = .ok (.aload_n 0, 1) := by decide +kernel
theorem dX5_readTest_72 : decode cX5_readTest 72 = .ok (.getfield 15, 3) := by decide +kernel
theorem dX5_readTest_75 : decode cX5_readTest 75 = .ok (.invokevirtual 35, 3) := by decide +kernel
theorem dX5_readTest_78 : decode cX5_readTest 78 = .ok (.bipush 34, 2) := by decide +kernel
theorem dX5_readTest_80 : decode cX5_readTest 80 = .ok (.if_icmp .ne 7, 3) := by decide +kernel
theorem dX5_readTest_83 : decode cX5_readTest 83 = .ok (.iconst 1, 1) := by decide +kernel
theorem dX5_readTest_84 : decode cX5_readTest 84 = .ok (.goto 4, 3) := by decide +kernel
theorem dX5_readTest_87 : decode cX5_readTest 87 = .ok (.iconst 0, 1) := by decide +kernel
theorem dX5_readTest_88 : decode cX5_readTest 88 = .ok (.istore_n 3, 1) := by decide +kernel
theorem dX5_readTest_89 : decode cX5_readTest 89 = .ok (.iload_n 3, 1) := by decide +kernel
theorem dX5_readTest_90 : decode cX5_readTest 90 = .ok (.ifCond .ne 5, 3) := by decide +kernel
theorem dX5_readTest_93 : decode cX5_readTest 93 = .ok (.iconst 1, 1) := by decide +kernel
theorem dX5_readTest_94 : decode cX5_readTest 94 = .ok (.ireturn, 1) := by decide +kernel
theorem dX5_readTest_95 : decode cX5_readTest 95 = .ok (.aload_n 0, 1) := by decide +kernel
theorem dX5_readTest_96 : decode cX5_readTest 96 = .ok (.getfield 15, 3) := by decide +kernel
theorem dX5_readTest_99 : decode cX5_readTest 99 = .ok (.invokevirtual 42, 3) := by decide +kernel
theorem dX5_readTest_102 : decode cX5_readTest 102 = .ok (.iinc 4 1, 3) := by decide +kernel
theorem dX5_readTest_105 : decode cX5_readTest 105 = .ok (.goto (-98), 3) := by decide +kernel
theorem dX5_readTest_108 : decode cX5_readTest 108 = .ok (.aload_n 0, 1) := by decide +kernel
theorem dX5_readTest_109 : decode cX5_readTest 109 = .ok (.getfield 15, 3) := by decide +kernel
theorem dX5_readTest_112 : decode cX5_readTest 112 = .ok (.iconst 0, 1) := by decide +kernel
theorem dX5_readTest_113 : decode cX5_readTest 113 = .ok (.invokevirtual 45, 3) := by decide +kernel
theorem dX5_readTest_116 : decode cX5_readTest 116 = .ok (.ireturn, 1) := by decide +kernel
theorem dX5_readFact_0 : decode cX5_readFact 0 = .ok (.aload_n 0, 1) := by decide +kernel
theorem dX5_readFact_1 : decode cX5_readFact 1 = .ok (.getfield 15, 3) := by decide +kernel
theorem dX5_readFact_4 : decode cX5_readFact 4 = .ok (.invokevirtual 35, 3) := by decide +kernel
theorem dX5_readFact_7 : decode cX5_readFact 7 = .ok (.istore_n 2, 1) := by decide +kernel
theorem dX5_readFact_8 : decode cX5_readFact 8 = .ok (.iload_n 2, 1) := by decide +kernel
theorem dX5_readFact_9 : decode cX5_readFact 9 = .ok (.bipush 36, 2) := by decide +kernel
theorem dX5_readFact_11 : decode cX5_readFact 11 = .ok (.if_icmp .eq 8, 3) := by decide +kernel
theorem dX5_readFact_14 : decode cX5_readFact 14 = .ok (.iload_n 2, 1) := by decide +kernel
theorem dX5_readFact_15 : decode cX5_readFact 15 = .ok (.iconst 5, 1) := by decide +kernel
theorem dX5_readFact_16 : decode cX5_readFact 16 = .ok (.if_icmp .ne 85, 3) := by decide +kernel
theorem dX5_readFact_19 : decode cX5_readFact 19 = .ok (.iload_n 1, 1) := by decide +kernel
theorem dX5_readFact_20 : decode cX5_readFact 20 = .ok (.bipush 10, 2) := by decide +kernel
theorem dX5_readFact_22 : decode cX5_readFact 22 = .ok (.if_icmp .lt 12, 3) := by decide +kernel
theorem dX5_readFact_25 : decode cX5_readFact 25 = .ok (.aload_n 0, 1) := by decide +kernel
theorem dX5_readFact_26 : decode cX5_readFact 26 = .ok (.getfield 15, 3) := by decide +kernel
theorem dX5_readFact_29 : decode cX5_readFact 29 = .ok (.iconst 2, 1) := by decide +kernel
theorem dX5_readFact_30 : decode cX5_readFact 30 = .ok (.invokevirtual 45, 3) := by decide +kernel
theorem dX5_readFact_33 : decode cX5_readFact 33 = .ok (.ireturn, 1) := by decide +kernel
theorem dX5_readFact_34 : decode cX5_readFact 34 = .ok (.aload_n 0, 1) := by decide +kernel
theorem dX5_readFact_35 : decode cX5_readFact 35 = .ok (.getfield 15, 3) := by decide +kernel
theorem dX5_readFact_38 : decode cX5_readFact 38 = .ok (.invokevirtual 42, 3) := by decide +kernel
theorem dX5_readFact_41 : decode cX5_readFact 41 = .ok (.iload_n 2, 1) := by decide +kernel
theorem dX5_readFact_42 : decode cX5_readFact 42 = .ok (.bipush 36, 2) := by decide +kernel
theorem dX5_readFact_44 : decode cX5_readFact 44 = .ok (.if_icmp .ne 29, 3) := by decide +kernel
theorem dX5_readFact_47 : decode cX5_readFact 47 = .ok (.aload_n 0, 1) := by decide +kernel
theorem dX5_readFact_48 : decode cX5_readFact 48 = .ok (.iload_n 1, 1) := by decide +kernel
theorem dX5_readFact_49 : decode cX5_readFact 49 = .ok (.iconst 1, 1) := by decide +kernel
theorem dX5_readFact_50 : decode cX5_readFact 50 = .ok (.iadd, 1) := by decide +kernel
theorem dX5_readFact_51 : decode cX5_readFact 51 = .ok (.invokevirtual 65, 3) := by decide +kernel
theorem dX5_readFact_54 : decode cX5_readFact 54 = .ok (.ifCond .eq 17, 3) := by decide +kernel
theorem dX5_readFact_57 : decode cX5_readFact 57 = .ok (.aload_n 0, 1) := by decide +kernel
theorem dX5_readFact_58 : decode cX5_readFact 58 = .ok (.bipush 36, 2) := by decide +kernel
theorem dX5_readFact_60 : decode cX5_readFact 60 = .ok (.iconst 0, 1) := by decide +kernel
theorem dX5_readFact_61 : decode cX5_readFact 61 = .ok (.invokevirtual 58, 3) := by decide +kernel
theorem dX5_readFact_64 : decode cX5_readFact 64 = .ok (.ifCond .eq 7, 3) := by decide +kernel
theorem dX5_readFact_67 : decode cX5_readFact 67 = .ok (.iconst 1, 1) := by decide +kernel
theorem dX5_readFact_68 : decode cX5_readFact 68 = .ok (.goto 4, 3) := by decide +kernel
theorem dX5_readFact_71 : decode cX5_readFact 71 = .ok (.iconst 0, 1) := by decide +kernel
theorem dX5_readFact_72 : decode cX5_readFact 72 = .ok (.ireturn, 1) := by decide +kernel
theorem dX5_readFact_73 : decode cX5_readFact 73 = .ok (.aload_n 0, 1) := by decide +kernel
theorem dX5_readFact_74 : decode cX5_readFact 74 = .ok (.iload_n 1, 1) := by decide +kernel
theorem dX5_readFact_75 : decode cX5_readFact 75 = .ok (.iconst 1, 1) := by decide +kernel
theorem dX5_readFact_76 : decode cX5_readFact 76 = .ok (.iadd, 1) := by decide +kernel
theorem dX5_readFact_77 : decode cX5_readFact 77 = .ok (.invokevirtual 62, 3) := by decide +kernel
theorem dX5_readFact_80 : decode cX5_readFact 80 = .ok (.ifCond .eq 19, 3) := by decide +kernel
theorem dX5_readFact_83 : decode cX5_readFact 83 = .ok (.aload_n 0, 1) := by decide +kernel
theorem dX5_readFact_84 : decode cX5_readFact 84 = .ok (.getfield 15, 3) := by decide +kernel
theorem dX5_readFact_87 : decode cX5_readFact 87 = .ok (.bipush 6, 2) := by decide +kernel
theorem dX5_readFact_89 : decode cX5_readFact 89 = .ok (.invokevirtual 39, 3) := by decide +kernel
theorem dX5_readFact_92 : decode cX5_readFact 92 = .ok (.ifCond .eq 7, 3) := by decide +kernel
theorem dX5_readFact_95 : decode cX5_readFact 95 = .ok (.iconst 1, 1) := by decide +kernel
theorem dX5_readFact_96 : decode cX5_readFact 96 = .ok (.goto 4, 3) := by decide +kernel
theorem dX5_readFact_99 : decode cX5_readFact 99 = .ok (.iconst 0, 1) := by decide +kernel
theorem dX5_readFact_100 : decode cX5_readFact 100 = .ok (.ireturn, 1) := by decide +kernel
theorem dX5_readFact_101 : decode cX5_readFact 101 = .ok (.aload_n 0, 1) := by decide +kernel
theorem dX5_readFact_102 : decode cX5_readFact 102 = .ok (.invokevirtual 54, 3) := by decide +kernel
theorem dX5_readFact_105 : decode cX5_readFact 105 = .ok (.ifCond .ne 5, 3) := by decide +kernel
theorem dX5_readFact_108 : decode cX5_readFact 108 = .ok (.iconst 0, 1) := by decide +kernel
theorem dX5_readFact_109 : decode cX5_readFact 109 = .ok (.ireturn, 1) := by decide +kernel
theorem dX5_readFact_110 : decode cX5_readFact 110 = .ok (.aload_n 0, 1) := by decide +kernel
theorem dX5_readFact_111 : decode cX5_readFact 111 = .ok (.getfield 15, 3) := by decide +kernel
theorem dX5_readFact_114 : decode cX5_readFact 114 = .ok (.invokevirtual 35, 3) := by decide +kernel
theorem dX5_readFact_117 : decode cX5_readFact 117 = .ok (.istore_n 3, 1) := by decide +kernel
theorem dX5_readFact_118 : decode cX5_readFact 118 = .ok (.iload_n 3, 1) := by decide +kernel
theorem dX5_readFact_119 : decode cX5_readFact 119 = .ok (.bipush 12, 2) := by decide +kernel
theorem dX5_readFact_121 : decode cX5_readFact 121 = .ok (.bipush 16, 2) := by decide +kernel
theorem dX5_readFact_123 : decode cX5_readFact 123 = .ok (.invokestatic 68, 3) := by decide +kernel
theorem dX5_readFact_126 : decode cX5_readFact 126 = .ok (.ifCond .ne 12, 3) := by decide +kernel
theorem dX5_readFact_129 : decode cX5_readFact 129 = .ok (.aload_n 0, 1) := by decide +kernel
theorem dX5_readFact_130 : decode cX5_readFact 130 = .ok (.getfield 15, 3) := by decide +kernel
theorem dX5_readFact_133 : decode cX5_readFact 133 = .ok (.iconst 0, 1) := by decide +kernel
theorem dX5_readFact_134 : decode cX5_readFact 134 = .ok (.invokevirtual 45, 3) := by decide +kernel
theorem dX5_readFact_137 : decode cX5_readFact 137 = .ok (.ireturn, 1) := by decide +kernel
theorem dX5_readFact_138 : decode cX5_readFact 138 = .ok (.aload_n 0, 1) := by decide +kernel
theorem dX5_readFact_139 : decode cX5_readFact 139 = .ok (.getfield 23, 3) := by decide +kernel
theorem dX5_readFact_142 : decode cX5_readFact 142 = .ok (.bipush 60, 2) := by decide +kernel
theorem dX5_readFact_144 : decode cX5_readFact 144 = .ok (.if_icmp .lt 12, 3) := by decide +kernel
theorem dX5_readFact_147 : decode cX5_readFact 147 = .ok (.aload_n 0, 1) := by decide +kernel
theorem dX5_readFact_148 : decode cX5_readFact 148 = .ok (.getfield 15, 3) := by decide +kernel
theorem dX5_readFact_151 : decode cX5_readFact 151 = .ok (.iconst 3, 1) := by decide +kernel
theorem dX5_readFact_152 : decode cX5_readFact 152 = .ok (.invokevirtual 45, 3) := by decide +kernel
theorem dX5_readFact_155 : decode cX5_readFact 155 = .ok (.ireturn, 1) := by decide +kernel
theorem dX5_readFact_156 : decode cX5_readFact 156 = .ok (.aload_n 0, 1) := by decide +kernel
theorem dX5_readFact_157 : decode cX5_readFact 157 = .ok (.dup, 1) := by decide +kernel
theorem dX5_readFact_158 : decode cX5_readFact 158 = .ok (.getfield 23, 3) := by decide +kernel
theorem dX5_readFact_161 : decode cX5_readFact 161 = .ok (.iconst 1, 1) := by decide +kernel
theorem dX5_readFact_162 : decode cX5_readFact 162 = .ok (.iadd, 1) := by decide +kernel
theorem dX5_readFact_163 : decode cX5_readFact 163 = .ok (.putfield 23, 3) := by decide +kernel
theorem dX5_readFact_166 : decode cX5_readFact 166 = .ok (.aload_n 0, 1) := by decide +kernel
theorem dX5_readFact_167 : decode cX5_readFact 167 = .ok (.getfield 15, 3) := by decide +kernel
theorem dX5_readFact_170 : decode cX5_readFact 170 = .ok (.invokevirtual 42, 3) := by decide +kernel
theorem dX5_readFact_173 : decode cX5_readFact 173 = .ok (.aload_n 0, 1) := by decide +kernel
theorem dX5_readFact_174 : decode cX5_readFact 174 = .ok (.invokevirtual 54, 3) := by decide +kernel
theorem dX5_readFact_177 : decode cX5_readFact 177 = .ok (.ifCond .eq 16, 3) := by decide +kernel
theorem dX5_readFact_180 : decode cX5_readFact 180 = .ok (.aload_n 0, 1) := by decide +kernel
theorem dX5_readFact_181 : decode cX5_readFact 181 = .ok (.iload_n 3, 1) := by decide +kernel
theorem dX5_readFact_182 : decode cX5_readFact 182 = .ok (.iconst 0, 1) := by decide +kernel
theorem dX5_readFact_183 : decode cX5_readFact 183 = .ok (.invokevirtual 58, 3) := by decide +kernel
theorem dX5_readFact_186 : decode cX5_readFact 186 = .ok (.ifCond .eq 7, 3) := by decide +kernel
theorem dX5_readFact_189 : decode cX5_readFact 189 = .ok (.iconst 1, 1) := by decide +kernel
theorem dX5_readFact_190 : decode cX5_readFact 190 = .ok (.goto 4, 3) := by decide +kernel
theorem dX5_readFact_193 : decode cX5_readFact 193 = .ok (.iconst 0, 1) := by decide +kernel
theorem dX5_readFact_194 : decode cX5_readFact 194 = .ok (.ireturn, 1) := by decide +kernel
theorem dX5_readSum_0 : decode cX5_readSum 0 = .ok (.iconst 0, 1) := by decide +kernel
theorem dX5_readSum_1 : decode cX5_readSum 1 = .ok (.istore_n 1, 1) := by decide +kernel
theorem dX5_readSum_2 : decode cX5_readSum 2 = .ok (.iconst 0, 1) := by decide +kernel
theorem dX5_readSum_3 : decode cX5_readSum 3 = .ok (.istore_n 2, 1) := by decide +kernel
theorem dX5_readSum_4 : decode cX5_readSum 4 = .ok (.iconst 0, 1) := by decide +kernel
theorem dX5_readSum_5 : decode cX5_readSum 5 = .ok (.istore_n 3, 1) := by decide +kernel
theorem dX5_readSum_6 : decode cX5_readSum 6 = .ok (.iload_n 3, 1) := by decide +kernel
theorem dX5_readSum_7 : decode cX5_readSum 7 = .ok (.sipush 400, 3) := by decide +kernel
theorem dX5_readSum_10 : decode cX5_readSum 10 = .ok (.if_icmp .ge 115, 3) := by decide +kernel
theorem dX5_readSum_13 : decode cX5_readSum 13 = .ok (.aload_n 0, 1) := by decide +kernel
theorem dX5_readSum_14 : decode cX5_readSum 14 = .ok (.invokevirtual 72, 3) := by decide +kernel
theorem dX5_readSum_17 : decode cX5_readSum 17 = .ok (.ifCond .ne 5, 3) := by decide +kernel
theorem dX5_readSum_20 : decode cX5_readSum 20 = .ok (.iconst 0, 1) := by decide +kernel
theorem dX5_readSum_21 : decode cX5_readSum 21 = .ok (.ireturn, 1) := by decide +kernel
theorem dX5_readSum_22 : decode cX5_readSum 22 = .ok (.iload_n 1, 1) := by decide +kernel
theorem dX5_readSum_23 : decode cX5_readSum 23 = .ok (.ifCond .eq 10, 3) := by decide +kernel
theorem dX5_readSum_26 : decode cX5_readSum 26 = .ok (.aload_n 0, 1) := by decide +kernel
theorem dX5_readSum_27 : decode cX5_readSum 27 = .ok (.iload_n 1, 1) := by decide +kernel
theorem dX5_readSum_28 : decode cX5_readSum 28 = .ok (.iconst 0, 1) := by decide +kernel
theorem dX5_readSum_29 : decode cX5_readSum 29 = .ok (.invokevirtual 58, 3) := by decide +kernel
theorem dX5_readSum_32 : decode cX5_readSum 32 = .ok (.pop, 1) := by decide +kernel
theorem dX5_readSum_33 : decode cX5_readSum 33 = .ok (.aload_n 0, 1) := by decide +kernel
theorem dX5_readSum_34 : decode cX5_readSum 34 = .ok (.getfield 15, 3) := by decide +kernel
theorem dX5_readSum_37 : decode cX5_readSum 37 = .ok (.invokevirtual 35, 3) := by decide +kernel
theorem dX5_readSum_40 : decode cX5_readSum 40 = .ok (.bipush 9, 2) := by decide +kernel
theorem dX5_readSum_42 : decode cX5_readSum 42 = .ok (.bipush 11, 2) := by decide +kernel
theorem dX5_readSum_44 : decode cX5_readSum 44 = .ok (.invokestatic 68, 3) := by decide +kernel
theorem dX5_readSum_47 : decode cX5_readSum 47 = .ok (.ifCond .eq 13, 3) := by decide +kernel
theorem dX5_readSum_50 : decode cX5_readSum 50 = .ok (.aload_n 0, 1) := by decide +kernel
theorem dX5_readSum_51 : decode cX5_readSum 51 = .ok (.getfield 15, 3) := by decide +kernel
theorem dX5_readSum_54 : decode cX5_readSum 54 = .ok (.invokevirtual 35, 3) := by decide +kernel
theorem dX5_readSum_57 : decode cX5_readSum 57 = .ok (.goto 4, 3) := by decide +kernel
theorem dX5_readSum_60 : decode cX5_readSum 60 = .ok (.iconst 0, 1) := by decide +kernel
theorem dX5_readSum_61 : decode cX5_readSum 61 = .ok (.istore_n 1, 1) := by decide +kernel
theorem dX5_readSum_62 : decode cX5_readSum 62 = .ok (.iload_n 1, 1) := by decide +kernel
theorem dX5_readSum_63 : decode cX5_readSum 63 = .ok (.ifCond .ne 49, 3) := by decide +kernel
theorem dX5_readSum_66 : decode cX5_readSum 66 = .ok (.iload_n 2, 1) := by decide +kernel
theorem dX5_readSum_67 : decode cX5_readSum 67 = .ok (.ifCond .eq 10, 3) := by decide +kernel
theorem dX5_readSum_70 : decode cX5_readSum 70 = .ok (.aload_n 0, 1) := by decide +kernel
theorem dX5_readSum_71 : decode cX5_readSum 71 = .ok (.iload_n 2, 1) := by decide +kernel
theorem dX5_readSum_72 : decode cX5_readSum 72 = .ok (.iconst 0, 1) := by decide +kernel
theorem dX5_readSum_73 : decode cX5_readSum 73 = .ok (.invokevirtual 58, 3) := by decide +kernel
theorem dX5_readSum_76 : decode cX5_readSum 76 = .ok (.pop, 1) := by decide +kernel
theorem dX5_readSum_77 : decode cX5_readSum 77 = .ok (.aload_n 0, 1) := by decide +kernel
theorem dX5_readSum_78 : decode cX5_readSum 78 = .ok (.getfield 15, 3) := by decide +kernel
theorem dX5_readSum_81 : decode cX5_readSum 81 = .ok (.invokevirtual 35, 3) := by decide +kernel
theorem dX5_readSum_84 : decode cX5_readSum 84 = .ok (.bipush 7, 2) := by decide +kernel
theorem dX5_readSum_86 : decode cX5_readSum 86 = .ok (.bipush 8, 2) := by decide +kernel
theorem dX5_readSum_88 : decode cX5_readSum 88 = .ok (.invokestatic 68, 3) := by decide +kernel
theorem dX5_readSum_91 : decode cX5_readSum 91 = .ok (.ifCond .eq 13, 3) := by decide +kernel
theorem dX5_readSum_94 : decode cX5_readSum 94 = .ok (.aload_n 0, 1) := by decide +kernel
theorem dX5_readSum_95 : decode cX5_readSum 95 = .ok (.getfield 15, 3) := by decide +kernel
theorem dX5_readSum_98 : decode cX5_readSum 98 = .ok (.invokevirtual 35, 3) := by decide +kernel
theorem dX5_readSum_101 : decode cX5_readSum 101 = .ok (.goto 4, 3) := by decide +kernel
theorem dX5_readSum_104 : decode cX5_readSum 104 = .ok (.iconst 0, 1) := by decide +kernel
theorem dX5_readSum_105 : decode cX5_readSum 105 = .ok (.istore_n 2, 1) := by decide +kernel
theorem dX5_readSum_106 : decode cX5_readSum 106 = .ok (.iload_n 2, 1) := by decide +kernel
theorem dX5_readSum_107 : decode cX5_readSum 107 = .ok (.ifCond .ne 5, 3) := by decide +kernel
theorem dX5_readSum_110 : decode cX5_readSum 110 = .ok (.iconst 1, 1) := by decide +kernel
theorem dX5_readSum_111 : decode cX5_readSum 111 = .ok (.ireturn, 1) := by decide +kernel
theorem dX5_readSum_112 : decode cX5_readSum 112 = .ok (.aload_n 0, 1) := by decide +kernel
theorem dX5_readSum_113 : decode cX5_readSum 113 = .ok (.getfield 15, 3) := by decide +kernel
theorem dX5_readSum_116 : decode cX5_readSum 116 = .ok (.invokevirtual 42, 3) := by decide +kernel
theorem dX5_readSum_119 : decode cX5_readSum 119 = .ok (.iinc 3 1, 3) := by decide +kernel
theorem dX5_readSum_122 : decode cX5_readSum 122 = .ok (.goto (-116), 3) := by decide +kernel
theorem dX5_readSum_125 : decode cX5_readSum 125 = .ok (.aload_n 0, 1) := by decide +kernel
theorem dX5_readSum_126 : decode cX5_readSum 126 = .ok (.getfield 15, 3) := by decide +kernel
theorem dX5_readSum_129 : decode cX5_readSum 129 = .ok (.iconst 0, 1) := by decide +kernel
theorem dX5_readSum_130 : decode cX5_readSum 130 = .ok (.invokevirtual 45, 3) := by decide +kernel
theorem dX5_readSum_133 : decode cX5_readSum 133 = .ok (.ireturn, 1) := by decide +kernel
theorem dX5_readValue_0 : decode cX5_readValue 0 = .ok (.aload_n 0, 1) := by decide +kernel
theorem dX5_readValue_1 : decode cX5_readValue 1 = .ok (.getfield 15, 3) := by decide +kernel
theorem dX5_readValue_4 : decode cX5_readValue 4 = .ok (.invokevirtual 35, 3) := by decide +kernel
theorem dX5_readValue_7 : decode cX5_readValue 7 = .ok (.istore_n 1, 1) := by decide +kernel
theorem dX5_readValue_8 : decode cX5_readValue 8 = .ok (.iload_n 1, 1) := by decide +kernel
theorem dX5_readValue_9 : decode cX5_readValue 9 = .ok (.iconst 2, 1) := by decide +kernel
theorem dX5_readValue_10 : decode cX5_readValue 10 = .ok (.if_icmp .ne 12, 3) := by decide +kernel
theorem dX5_readValue_13 : decode cX5_readValue 13 = .ok (.aload_n 0, 1) := by decide +kernel
theorem dX5_readValue_14 : decode cX5_readValue 14 = .ok (.getfield 15, 3) := by decide +kernel
theorem dX5_readValue_17 : decode cX5_readValue 17 = .ok (.iconst 1, 1) := by decide +kernel
theorem dX5_readValue_18 : decode cX5_readValue 18 = .ok (.invokevirtual 45, 3) := by decide +kernel
theorem dX5_readValue_21 : decode cX5_readValue 21 = .ok (.ireturn, 1) := by decide +kernel
theorem dX5_readValue_22 : decode cX5_readValue 22 = .ok (.iload_n 1, 1) := by decide +kernel
theorem dX5_readValue_23 : decode cX5_readValue 23 = .ok (.iconst 1, 1) := by decide +kernel
theorem dX5_readValue_24 : decode cX5_readValue 24 = .ok (.if_icmp .eq 23, 3) := by decide +kernel
theorem dX5_readValue_27 : decode cX5_readValue 27 = .ok (.iload_n 1, 1) := by decide +kernel
theorem dX5_readValue_28 : decode cX5_readValue 28 = .ok (.bipush 17, 2) := by decide +kernel
theorem dX5_readValue_30 : decode cX5_readValue 30 = .ok (.bipush 28, 2) := by decide +kernel
theorem dX5_readValue_32 : decode cX5_readValue 32 = .ok (.invokestatic 68, 3) := by decide +kernel
theorem dX5_readValue_35 : decode cX5_readValue 35 = .ok (.ifCond .ne 12, 3) := by decide +kernel
theorem dX5_readValue_38 : decode cX5_readValue 38 = .ok (.aload_n 0, 1) := by decide +kernel
theorem dX5_readValue_39 : decode cX5_readValue 39 = .ok (.getfield 15, 3) := by decide +kernel
theorem dX5_readValue_42 : decode cX5_readValue 42 = .ok (.iconst 0, 1) := by decide +kernel
theorem dX5_readValue_43 : decode cX5_readValue 43 = .ok (.invokevirtual 45, 3) := by decide +kernel
theorem dX5_readValue_46 : decode cX5_readValue 46 = .ok (.ireturn, 1) := by decide +kernel
theorem dX5_readValue_47 : decode cX5_readValue 47 = .ok (.aload_n 0, 1) := by decide +kernel
theorem dX5_readValue_48 : decode cX5_readValue 48 = .ok (.getfield 23, 3) := by decide +kernel
theorem dX5_readValue_51 : decode cX5_readValue 51 = .ok (.bipush 60, 2) := by decide +kernel
theorem dX5_readValue_53 : decode cX5_readValue 53 = .ok (.if_icmp .lt 12, 3) := by decide +kernel
theorem dX5_readValue_56 : decode cX5_readValue 56 = .ok (.aload_n 0, 1) := by decide +kernel
theorem dX5_readValue_57 : decode cX5_readValue 57 = .ok (.getfield 15, 3) := by decide +kernel
theorem dX5_readValue_60 : decode cX5_readValue 60 = .ok (.iconst 3, 1) := by decide +kernel
theorem dX5_readValue_61 : decode cX5_readValue 61 = .ok (.invokevirtual 45, 3) := by decide +kernel
theorem dX5_readValue_64 : decode cX5_readValue 64 = .ok (.ireturn, 1) := by decide +kernel
theorem dX5_readValue_65 : decode cX5_readValue 65 = .ok (.aload_n 0, 1) := by decide +kernel
theorem dX5_readValue_66 : decode cX5_readValue 66 = .ok (.dup, 1) := by decide +kernel
theorem dX5_readValue_67 : decode cX5_readValue 67 = .ok (.getfield 23, 3) := by decide +kernel
theorem dX5_readValue_70 : decode cX5_readValue 70 = .ok (.iconst 1, 1) := by decide +kernel
theorem dX5_readValue_71 : decode cX5_readValue 71 = .ok (.iadd, 1) := by decide +kernel
theorem dX5_readValue_72 : decode cX5_readValue 72 = .ok (.putfield 23, 3) := by decide +kernel
theorem dX5_readValue_75 : decode cX5_readValue 75 = .ok (.aload_n 0, 1) := by decide +kernel
theorem dX5_readValue_76 : decode cX5_readValue 76 = .ok (.iload_n 1, 1) := by decide +kernel
theorem dX5_readValue_77 : decode cX5_readValue 77 = .ok (.aload_n 0, 1) := by decide +kernel
theorem dX5_readValue_78 : decode cX5_readValue 78 = .ok (.getfield 15, 3) := by decide +kernel
theorem dX5_readValue_81 : decode cX5_readValue 81 = .ok (.invokevirtual 75, 3) := by decide +kernel
theorem dX5_readValue_84 : decode cX5_readValue 84 = .ok (.invokevirtual 58, 3) := by decide +kernel
theorem dX5_readValue_87 : decode cX5_readValue 87 = .ok (.pop, 1) := by decide +kernel
theorem dX5_readValue_88 : decode cX5_readValue 88 = .ok (.aload_n 0, 1) := by decide +kernel
theorem dX5_readValue_89 : decode cX5_readValue 89 = .ok (.getfield 15, 3) := by decide +kernel
theorem dX5_readValue_92 : decode cX5_readValue 92 = .ok (.invokevirtual 42, 3) := by decide +kernel
theorem dX5_readValue_95 : decode cX5_readValue 95 = .ok (.iconst 1, 1) := by decide +kernel
theorem dX5_readValue_96 : decode cX5_readValue 96 = .ok (.ireturn, 1) := by decide +kernel
theorem dX5_write_0 : decode cX5_write 0 = .ok (.aload_n 0, 1) := by decide +kernel
theorem dX5_write_1 : decode cX5_write 1 = .ok (.getfield 19, 3) := by decide +kernel
theorem dX5_write_4 : decode cX5_write 4 = .ok (.aload_n 0, 1) := by decide +kernel
theorem dX5_write_5 : decode cX5_write 5 = .ok (.getfield 9, 3) := by decide +kernel
theorem dX5_write_8 : decode cX5_write 8 = .ok (.arraylength, 1) := by decide +kernel
theorem dX5_write_9 : decode cX5_write 9 = .ok (.if_icmp .lt 5, 3) := by decide +kernel
theorem dX5_write_12 : decode cX5_write 12 = .ok (.iconst 0, 1) := by decide +kernel
theorem dX5_write_13 : decode cX5_write 13 = .ok (.ireturn, 1) := by decide +kernel
theorem dX5_write_14 : decode cX5_write 14 = .ok (.aload_n 0, 1) := by decide +kernel
theorem dX5_write_15 : decode cX5_write 15 = .ok (.getfield 9, 3) := by decide +kernel
theorem dX5_write_18 : decode cX5_write 18 = .ok (.aload_n 0, 1) := by decide +kernel
theorem dX5_write_19 : decode cX5_write 19 = .ok (.getfield 19, 3) := by decide +kernel
theorem dX5_write_22 : decode cX5_write 22 = .ok (.iload_n 2, 1) := by decide +kernel
theorem dX5_write_23 : decode cX5_write 23 = .ok (.bipush 6, 2) := by decide +kernel
theorem dX5_write_25 : decode cX5_write 25 = .ok (.ishl, 1) := by decide +kernel
theorem dX5_write_26 : decode cX5_write 26 = .ok (.iload_n 1, 1) := by decide +kernel
theorem dX5_write_27 : decode cX5_write 27 = .ok (.ior, 1) := by decide +kernel
theorem dX5_write_28 : decode cX5_write 28 = .ok (.iastore, 1) := by decide +kernel
theorem dX5_write_29 : decode cX5_write 29 = .ok (.aload_n 0, 1) := by decide +kernel
theorem dX5_write_30 : decode cX5_write 30 = .ok (.dup, 1) := by decide +kernel
theorem dX5_write_31 : decode cX5_write 31 = .ok (.getfield 19, 3) := by decide +kernel
theorem dX5_write_34 : decode cX5_write 34 = .ok (.iconst 1, 1) := by decide +kernel
theorem dX5_write_35 : decode cX5_write 35 = .ok (.iadd, 1) := by decide +kernel
theorem dX5_write_36 : decode cX5_write 36 = .ok (.putfield 19, 3) := by decide +kernel
theorem dX5_write_39 : decode cX5_write 39 = .ok (.iconst 1, 1) := by decide +kernel
theorem dX5_write_40 : decode cX5_write 40 = .ok (.ireturn, 1) := by decide +kernel
theorem dX10_init_0 : decode cX10_init 0 = .ok (.aload_n 0, 1) := by decide +kernel
theorem dX10_init_1 : decode cX10_init 1 = .ok (.invokespecial 3, 3) := by decide +kernel
theorem dX10_init_4 : decode cX10_init 4 = .ok (.aload_n 0, 1) := by decide +kernel
theorem dX10_init_5 : decode cX10_init 5 = .ok (.new 9, 3) := by decide +kernel
theorem dX10_init_8 : decode cX10_init 8 = .ok (.dup, 1) := by decide +kernel
theorem dX10_init_9 : decode cX10_init 9 = .ok (.invokespecial 11, 3) := by decide +kernel
theorem dX10_init_12 : decode cX10_init 12 = .ok (.putfield 12, 3) := by decide +kernel
theorem dX10_init_15 : decode cX10_init 15 = .ok (.aload_n 0, 1) := by decide +kernel
theorem dX10_init_16 : decode cX10_init 16 = .ok (.aload_n 1, 1) := by decide +kernel
theorem dX10_init_17 : decode cX10_init 17 = .ok (.putfield 18, 3) := by decide +kernel
theorem dX10_init_20 : decode cX10_init 20 = .ok (.return_, 1) := by decide +kernel
theorem dX10_readText_0 : decode cX10_readText 0 = .ok (.aload_n 0, 1) := by decide +kernel
theorem dX10_readText_1 : decode cX10_readText 1 = .ok (.getfield 12, 3) := by decide +kernel
theorem dX10_readText_4 : decode cX10_readText 4 = .ok (.invokevirtual 22, 3) := by decide +kernel
theorem dX10_readText_7 : decode cX10_readText 7 = .ok (.aload_n 0, 1) := by decide +kernel
theorem dX10_readText_8 : decode cX10_readText 8 = .ok (.getfield 18, 3) := by decide +kernel
theorem dX10_readText_11 : decode cX10_readText 11 = .ok (.invokevirtual 25, 3) := by decide +kernel
theorem dX10_readText_14 : decode cX10_readText 14 = .ok (.iconst 0, 1) := by decide +kernel
theorem dX10_readText_15 : decode cX10_readText 15 = .ok (.istore_n 1, 1) := by decide +kernel
theorem dX10_readText_16 : decode cX10_readText 16 = .ok (.iload_n 1, 1) := by decide +kernel
theorem dX10_readText_17 : decode cX10_readText 17 = .ok (.bipush 40, 2) := by decide +kernel
theorem dX10_readText_19 : decode cX10_readText 19 = .ok (.if_icmp .gt 46, 3) := by decide +kernel
theorem dX10_readText_22 : decode cX10_readText 22 = .ok (.aload_n 0, 1) := by decide +kernel
theorem dX10_readText_23 : decode cX10_readText 23 = .ok (.iload_n 1, 1) := by decide +kernel
theorem dX10_readText_24 : decode cX10_readText 24 = .ok (.invokevirtual 30, 3) := by decide +kernel
theorem dX10_readText_27 : decode cX10_readText 27 = .ok (.ifCond .ne 5, 3) := by decide +kernel
theorem dX10_readText_30 : decode cX10_readText 30 = .ok (.iconst 0, 1) := by decide +kernel
theorem dX10_readText_31 : decode cX10_readText 31 = .ok (.ireturn, 1) := by decide +kernel
theorem dX10_readText_32 : decode cX10_readText 32 = .ok (.aload_n 0, 1) := by decide +kernel
theorem dX10_readText_33 : decode cX10_readText 33 = .ok (.getfield 18, 3) := by decide +kernel
theorem dX10_readText_36 : decode cX10_readText 36 = .ok (.invokevirtual 34, 3) := by decide +kernel
theorem dX10_readText_39 : decode cX10_readText 39 = .ok (.iconst 4, 1) := by decide +kernel
theorem dX10_readText_40 : decode cX10_readText 40 = .ok (.if_icmp .eq 12, 3) := by decide +kernel
theorem dX10_readText_43 : decode cX10_readText 43 = .ok (.aload_n 0, 1) := by decide +kernel
theorem dX10_readText_44 : decode cX10_readText 44 = .ok (.getfield 18, 3) := by decide +kernel
theorem dX10_readText_47 : decode cX10_readText 47 = .ok (.iconst 0, 1) := by decide +kernel
theorem dX10_readText_48 : decode cX10_readText 48 = .ok (.invokevirtual 38, 3) := by decide +kernel
theorem dX10_readText_51 : decode cX10_readText 51 = .ok (.ireturn, 1) := by decide +kernel
theorem dX10_readText_52 : decode cX10_readText 52 = .ok (.aload_n 0, 1) := by decide +kernel
theorem dX10_readText_53 : decode cX10_readText 53 = .ok (.getfield 18, 3) := by decide +kernel
theorem dX10_readText_56 : decode cX10_readText 56 = .ok (.invokevirtual 41, 3) := by decide +kernel
theorem dX10_readText_59 : decode cX10_readText 59 = .ok (.iinc 1 1, 3) := by decide +kernel
theorem dX10_readText_62 : decode cX10_readText 62 = .ok (.goto (-46), 3) := by decide +kernel
theorem dX10_readText_65 : decode cX10_readText 65 = .ok (.aload_n 0, 1) := by decide +kernel
theorem dX10_readText_66 : decode cX10_readText 66 = .ok (.getfield 18, 3) := by decide +kernel
theorem dX10_readText_69 : decode cX10_readText 69 = .ok (.iconst 4, 1) := by decide +kernel
theorem dX10_readText_70 : decode cX10_readText 70 = .ok (.invokevirtual 44, 3) := by decide +kernel
theorem dX10_readText_73 : decode cX10_readText 73 = .ok (.ireturn, 1) := by decide +kernel
theorem dX10_readClause_0 : decode cX10_readClause 0 = .ok (.aload_n 0, 1) := by decide +kernel
theorem dX10_readClause_1 : decode cX10_readClause 1 = .ok (.getfield 18, 3) := by decide +kernel
theorem dX10_readClause_4 : decode cX10_readClause 4 = .ok (.invokevirtual 34, 3) := by decide +kernel
theorem dX10_readClause_7 : decode cX10_readClause 7 = .ok (.istore_n 2, 1) := by decide +kernel
theorem dX10_readClause_8 : decode cX10_readClause 8 = .ok (.iload_n 2, 1) := by decide +kernel
theorem dX10_readClause_9 : decode cX10_readClause 9 = .ok (.bipush 29, 2) := by decide +kernel
theorem dX10_readClause_11 : decode cX10_readClause 11 = .ok (.if_icmp .eq 36, 3) := by decide +kernel
theorem dX10_readClause_14 : decode cX10_readClause 14 = .ok (.iload_n 2, 1) := by decide +kernel
theorem dX10_readClause_15 : decode cX10_readClause 15 = .ok (.bipush 25, 2) := by decide +kernel
theorem dX10_readClause_17 : decode cX10_readClause 17 = .ok (.if_icmp .eq 30, 3) := by decide +kernel
theorem dX10_readClause_20 : decode cX10_readClause 20 = .ok (.iload_n 2, 1) := by decide +kernel
theorem dX10_readClause_21 : decode cX10_readClause 21 = .ok (.bipush 30, 2) := by decide +kernel
theorem dX10_readClause_23 : decode cX10_readClause 23 = .ok (.if_icmp .eq 24, 3) := by decide +kernel
theorem dX10_readClause_26 : decode cX10_readClause 26 = .ok (.iload_n 2, 1) := by decide +kernel
theorem dX10_readClause_27 : decode cX10_readClause 27 = .ok (.bipush 31, 2) := by decide +kernel
theorem dX10_readClause_29 : decode cX10_readClause 29 = .ok (.if_icmp .eq 18, 3) := by decide +kernel
theorem dX10_readClause_32 : decode cX10_readClause 32 = .ok (.iload_n 2, 1) := by decide +kernel
theorem dX10_readClause_33 : decode cX10_readClause 33 = .ok (.bipush 23, 2) := by decide +kernel
theorem dX10_readClause_35 : decode cX10_readClause 35 = .ok (.if_icmp .eq 12, 3) := by decide +kernel
theorem dX10_readClause_38 : decode cX10_readClause 38 = .ok (.aload_n 0, 1) := by decide +kernel
theorem dX10_readClause_39 : decode cX10_readClause 39 = .ok (.getfield 18, 3) := by decide +kernel
theorem dX10_readClause_42 : decode cX10_readClause 42 = .ok (.iconst 0, 1) := by decide +kernel
theorem dX10_readClause_43 : decode cX10_readClause 43 = .ok (.invokevirtual 44, 3) := by decide +kernel
theorem dX10_readClause_46 : decode cX10_readClause 46 = .ok (.ireturn, 1) := by decide +kernel
theorem dX10_readClause_47 : decode cX10_readClause 47 = .ok (.iload_n 1, 1) := by decide +kernel
theorem dX10_readClause_48 : decode cX10_readClause 48 = .ok (.bipush 40, 2) := by decide +kernel
theorem dX10_readClause_50 : decode cX10_readClause 50 = .ok (.if_icmp .ge 34, 3) := by decide +kernel
theorem dX10_readClause_53 : decode cX10_readClause 53 = .ok (.iload_n 2, 1) := by decide +kernel
theorem dX10_readClause_54 : decode cX10_readClause 54 = .ok (.bipush 29, 2) := by decide +kernel
theorem dX10_readClause_56 : decode cX10_readClause 56 = .ok (.if_icmp .ne 7, 3) := by decide +kernel
theorem dX10_readClause_59 : decode cX10_readClause 59 = .ok (.iconst 1, 1) := by decide +kernel
theorem dX10_readClause_60 : decode cX10_readClause 60 = .ok (.goto 4, 3) := by decide +kernel
theorem dX10_readClause_63 : decode cX10_readClause 63 = .ok (.iconst 0, 1) := by decide +kernel
theorem dX10_readClause_64 : decode cX10_readClause 64 = .ok (.iload_n 1, 1) := by decide +kernel
theorem dX10_readClause_65 : decode cX10_readClause 65 = .ok (.ifCond .ne 7, 3) := by decide +kernel
theorem dX10_readClause_68 : decode cX10_readClause 68 = .ok (.iconst 1, 1) := by decide +kernel
theorem dX10_readClause_69 : decode cX10_readClause 69 = .ok (.goto 4, 3) := by decide +kernel
theorem dX10_readClause_72 : decode cX10_readClause 72 = .ok (.iconst 0, 1) := by decide +kernel
theorem dX10_readClause_73 : decode cX10_readClause 73 = .ok (.if_icmp .ne 11, 3) := by decide +kernel
theorem dX10_readClause_76 : decode cX10_readClause 76 = .ok (.aload_n 0, 1) := by decide +kernel
theorem dX10_readClause_77 : decode cX10_readClause 77 = .ok (.iload_n 2, 1) := by decide +kernel
theorem dX10_readClause_78 : decode cX10_readClause 78 = .ok (.invokevirtual 47, 3) := by decide +kernel
theorem dX10_readClause_81 : decode cX10_readClause 81 = .ok (.ifCond .eq 12, 3) := by decide +kernel
theorem dX10_readClause_84 : decode cX10_readClause 84 = .ok (.aload_n 0, 1) := by decide +kernel
theorem dX10_readClause_85 : decode cX10_readClause 85 = .ok (.getfield 18, 3) := by decide +kernel
theorem dX10_readClause_88 : decode cX10_readClause 88 = .ok (.iconst 4, 1) := by decide +kernel
theorem dX10_readClause_89 : decode cX10_readClause 89 = .ok (.invokevirtual 44, 3) := by decide +kernel
theorem dX10_readClause_92 : decode cX10_readClause 92 = .ok (.ireturn, 1) := by decide +kernel
theorem dX10_readClause_93 : decode cX10_readClause 93 = .ok (.aload_n 0, 1) := by decide +kernel
theorem dX10_readClause_94 : decode cX10_readClause 94 = .ok (.getfield 18, 3) := by decide +kernel
theorem dX10_readClause_97 : decode cX10_readClause 97 = .ok (.invokevirtual 41, 3) := by decide +kernel
theorem dX10_readClause_100 : decode cX10_readClause 100 = .ok (.iload_n 2, 1) := by decide +kernel
theorem dX10_readClause_101 : decode cX10_readClause 101 = .ok (.tableswitch 63 25 31 #[48, 63, 63, 63, 43, 53, 58], 43) := by decide +kernel
theorem dX10_readClause_144 : decode cX10_readClause 144 = .ok (.aload_n 0, 1) := by decide +kernel
theorem dX10_readClause_145 : decode cX10_readClause 145 = .ok (.invokevirtual 50, 3) := by decide +kernel
theorem dX10_readClause_148 : decode cX10_readClause 148 = .ok (.ireturn, 1) := by decide +kernel
theorem dX10_readClause_149 : decode cX10_readClause 149 = .ok (.aload_n 0, 1) := by decide +kernel
theorem dX10_readClause_150 : decode cX10_readClause 150 = .ok (.invokevirtual 54, 3) := by decide +kernel
theorem dX10_readClause_153 : decode cX10_readClause 153 = .ok (.ireturn, 1) := by decide +kernel
theorem dX10_readClause_154 : decode cX10_readClause 154 = .ok (.aload_n 0, 1) := by decide +kernel
theorem dX10_readClause_155 : decode cX10_readClause 155 = .ok (.invokevirtual 57, 3) := by decide +kernel
theorem dX10_readClause_158 : decode cX10_readClause 158 = .ok (.ireturn, 1) := by decide +kernel
theorem dX10_readClause_159 : decode cX10_readClause 159 = .ok (.aload_n 0, 1) := by decide +kernel
theorem dX10_readClause_160 : decode cX10_readClause 160 = .ok (.invokevirtual 60, 3) := by decide +kernel
theorem dX10_readClause_163 : decode cX10_readClause 163 = .ok (.ireturn, 1) := by decide +kernel
theorem dX10_readClause_164 : decode cX10_readClause 164 = .ok (.aload_n 0, 1) := by decide +kernel
theorem dX10_readClause_165 : decode cX10_readClause 165 = .ok (.invokevirtual 63, 3) := by decide +kernel
theorem dX10_readClause_168 : decode cX10_readClause 168 = .ok (.ireturn, 1) := by decide +kernel
theorem dX10_isFull_0 : decode cX10_isFull 0 = .ok (.iload_n 1, 1) := by decide +kernel
theorem dX10_isFull_1 : decode cX10_isFull 1 = .ok (.bipush 25, 2) := by decide +kernel
theorem dX10_isFull_3 : decode cX10_isFull 3 = .ok (.if_icmp .ne 15, 3) := by decide +kernel
theorem dX10_isFull_6 : decode cX10_isFull 6 = .ok (.aload_n 0, 1) := by decide +kernel
theorem dX10_isFull_7 : decode cX10_isFull 7 = .ok (.getfield 12, 3) := by decide +kernel
theorem dX10_isFull_10 : decode cX10_isFull 10 = .ok (.getfield 66, 3) := by decide +kernel
theorem dX10_isFull_13 : decode cX10_isFull 13 = .ok (.bipush 12, 2) := by decide +kernel
theorem dX10_isFull_15 : decode cX10_isFull 15 = .ok (.if_icmp .ge 21, 3) := by decide +kernel
theorem dX10_isFull_18 : decode cX10_isFull 18 = .ok (.iload_n 1, 1) := by decide +kernel
theorem dX10_isFull_19 : decode cX10_isFull 19 = .ok (.bipush 30, 2) := by decide +kernel
theorem dX10_isFull_21 : decode cX10_isFull 21 = .ok (.if_icmp .ne 19, 3) := by decide +kernel
theorem dX10_isFull_24 : decode cX10_isFull 24 = .ok (.aload_n 0, 1) := by decide +kernel
theorem dX10_isFull_25 : decode cX10_isFull 25 = .ok (.getfield 12, 3) := by decide +kernel
theorem dX10_isFull_28 : decode cX10_isFull 28 = .ok (.getfield 70, 3) := by decide +kernel
theorem dX10_isFull_31 : decode cX10_isFull 31 = .ok (.bipush 6, 2) := by decide +kernel
theorem dX10_isFull_33 : decode cX10_isFull 33 = .ok (.if_icmp .lt 7, 3) := by decide +kernel
theorem dX10_isFull_36 : decode cX10_isFull 36 = .ok (.iconst 1, 1) := by decide +kernel
theorem dX10_isFull_37 : decode cX10_isFull 37 = .ok (.goto 4, 3) := by decide +kernel
theorem dX10_isFull_40 : decode cX10_isFull 40 = .ok (.iconst 0, 1) := by decide +kernel
theorem dX10_isFull_41 : decode cX10_isFull 41 = .ok (.ireturn, 1) := by decide +kernel
theorem dX10_readHill_0 : decode cX10_readHill 0 = .ok (.aload_n 0, 1) := by decide +kernel
theorem dX10_readHill_1 : decode cX10_readHill 1 = .ok (.getfield 12, 3) := by decide +kernel
theorem dX10_readHill_4 : decode cX10_readHill 4 = .ok (.aload_n 0, 1) := by decide +kernel
theorem dX10_readHill_5 : decode cX10_readHill 5 = .ok (.iconst 5, 1) := by decide +kernel
theorem dX10_readHill_6 : decode cX10_readHill 6 = .ok (.bipush 60, 2) := by decide +kernel
theorem dX10_readHill_8 : decode cX10_readHill 8 = .ok (.invokevirtual 73, 3) := by decide +kernel
theorem dX10_readHill_11 : decode cX10_readHill 11 = .ok (.putfield 77, 3) := by decide +kernel
theorem dX10_readHill_14 : decode cX10_readHill 14 = .ok (.aload_n 0, 1) := by decide +kernel
theorem dX10_readHill_15 : decode cX10_readHill 15 = .ok (.getfield 12, 3) := by decide +kernel
theorem dX10_readHill_18 : decode cX10_readHill 18 = .ok (.getfield 80, 3) := by decide +kernel
theorem dX10_readHill_21 : decode cX10_readHill 21 = .ok (.aload_n 0, 1) := by decide +kernel
theorem dX10_readHill_22 : decode cX10_readHill 22 = .ok (.getfield 12, 3) := by decide +kernel
theorem dX10_readHill_25 : decode cX10_readHill 25 = .ok (.getfield 77, 3) := by decide +kernel
theorem dX10_readHill_28 : decode cX10_readHill 28 = .ok (.ifCond .ge 7, 3) := by decide +kernel
theorem dX10_readHill_31 : decode cX10_readHill 31 = .ok (.iconst (-1), 1) := by decide +kernel
theorem dX10_readHill_32 : decode cX10_readHill 32 = .ok (.goto 10, 3) := by decide +kernel
theorem dX10_readHill_35 : decode cX10_readHill 35 = .ok (.aload_n 0, 1) := by decide +kernel
theorem dX10_readHill_36 : decode cX10_readHill 36 = .ok (.iconst 0, 1) := by decide +kernel
theorem dX10_readHill_37 : decode cX10_readHill 37 = .ok (.bipush 99, 2) := by decide +kernel
theorem dX10_readHill_39 : decode cX10_readHill 39 = .ok (.invokevirtual 73, 3) := by decide +kernel
theorem dX10_readHill_42 : decode cX10_readHill 42 = .ok (.putfield 84, 3) := by decide +kernel
theorem dX10_readHill_45 : decode cX10_readHill 45 = .ok (.aload_n 0, 1) := by decide +kernel
theorem dX10_readHill_46 : decode cX10_readHill 46 = .ok (.getfield 12, 3) := by decide +kernel
theorem dX10_readHill_49 : decode cX10_readHill 49 = .ok (.aload_n 0, 1) := by decide +kernel
theorem dX10_readHill_50 : decode cX10_readHill 50 = .ok (.getfield 12, 3) := by decide +kernel
theorem dX10_readHill_53 : decode cX10_readHill 53 = .ok (.getfield 80, 3) := by decide +kernel
theorem dX10_readHill_56 : decode cX10_readHill 56 = .ok (.getfield 84, 3) := by decide +kernel
theorem dX10_readHill_59 : decode cX10_readHill 59 = .ok (.ifCond .ge 7, 3) := by decide +kernel
theorem dX10_readHill_62 : decode cX10_readHill 62 = .ok (.iconst (-1), 1) := by decide +kernel
theorem dX10_readHill_63 : decode cX10_readHill 63 = .ok (.goto 10, 3) := by decide +kernel
theorem dX10_readHill_66 : decode cX10_readHill 66 = .ok (.aload_n 0, 1) := by decide +kernel
theorem dX10_readHill_67 : decode cX10_readHill 67 = .ok (.iconst 0, 1) := by decide +kernel
theorem dX10_readHill_68 : decode cX10_readHill 68 = .ok (.bipush 9, 2) := by decide +kernel
theorem dX10_readHill_70 : decode cX10_readHill 70 = .ok (.invokevirtual 73, 3) := by decide +kernel
theorem dX10_readHill_73 : decode cX10_readHill 73 = .ok (.putfield 89, 3) := by decide +kernel
theorem dX10_readHill_76 : decode cX10_readHill 76 = .ok (.aload_n 0, 1) := by decide +kernel
theorem dX10_readHill_77 : decode cX10_readHill 77 = .ok (.getfield 12, 3) := by decide +kernel
theorem dX10_readHill_80 : decode cX10_readHill 80 = .ok (.getfield 89, 3) := by decide +kernel
theorem dX10_readHill_83 : decode cX10_readHill 83 = .ok (.ifCond .lt 7, 3) := by decide +kernel
theorem dX10_readHill_86 : decode cX10_readHill 86 = .ok (.iconst 1, 1) := by decide +kernel
theorem dX10_readHill_87 : decode cX10_readHill 87 = .ok (.goto 4, 3) := by decide +kernel
theorem dX10_readHill_90 : decode cX10_readHill 90 = .ok (.iconst 0, 1) := by decide +kernel
theorem dX10_readHill_91 : decode cX10_readHill 91 = .ok (.ireturn, 1) := by decide +kernel
theorem dX10_readHeat_0 : decode cX10_readHeat 0 = .ok (.aload_n 0, 1) := by decide +kernel
theorem dX10_readHeat_1 : decode cX10_readHeat 1 = .ok (.iconst 0, 1) := by decide +kernel
theorem dX10_readHeat_2 : decode cX10_readHeat 2 = .ok (.bipush 9, 2) := by decide +kernel
theorem dX10_readHeat_4 : decode cX10_readHeat 4 = .ok (.invokevirtual 73, 3) := by decide +kernel
theorem dX10_readHeat_7 : decode cX10_readHeat 7 = .ok (.istore_n 1, 1) := by decide +kernel
theorem dX10_readHeat_8 : decode cX10_readHeat 8 = .ok (.iload_n 1, 1) := by decide +kernel
theorem dX10_readHeat_9 : decode cX10_readHeat 9 = .ok (.ifCond .lt 15, 3) := by decide +kernel
theorem dX10_readHeat_12 : decode cX10_readHeat 12 = .ok (.aload_n 0, 1) := by decide +kernel
theorem dX10_readHeat_13 : decode cX10_readHeat 13 = .ok (.getfield 12, 3) := by decide +kernel
theorem dX10_readHeat_16 : decode cX10_readHeat 16 = .ok (.getfield 66, 3) := by decide +kernel
theorem dX10_readHeat_19 : decode cX10_readHeat 19 = .ok (.bipush 12, 2) := by decide +kernel
theorem dX10_readHeat_21 : decode cX10_readHeat 21 = .ok (.if_icmp .lt 5, 3) := by decide +kernel
theorem dX10_readHeat_24 : decode cX10_readHeat 24 = .ok (.iconst 0, 1) := by decide +kernel
theorem dX10_readHeat_25 : decode cX10_readHeat 25 = .ok (.ireturn, 1) := by decide +kernel
theorem dX10_readHeat_26 : decode cX10_readHeat 26 = .ok (.aload_n 0, 1) := by decide +kernel
theorem dX10_readHeat_27 : decode cX10_readHeat 27 = .ok (.getfield 12, 3) := by decide +kernel
theorem dX10_readHeat_30 : decode cX10_readHeat 30 = .ok (.getfield 92, 3) := by decide +kernel
theorem dX10_readHeat_33 : decode cX10_readHeat 33 = .ok (.aload_n 0, 1) := by decide +kernel
theorem dX10_readHeat_34 : decode cX10_readHeat 34 = .ok (.getfield 12, 3) := by decide +kernel
theorem dX10_readHeat_37 : decode cX10_readHeat 37 = .ok (.getfield 66, 3) := by decide +kernel
theorem dX10_readHeat_40 : decode cX10_readHeat 40 = .ok (.iload_n 1, 1) := by decide +kernel
theorem dX10_readHeat_41 : decode cX10_readHeat 41 = .ok (.iastore, 1) := by decide +kernel
theorem dX10_readHeat_42 : decode cX10_readHeat 42 = .ok (.aload_n 0, 1) := by decide +kernel
theorem dX10_readHeat_43 : decode cX10_readHeat 43 = .ok (.getfield 12, 3) := by decide +kernel
theorem dX10_readHeat_46 : decode cX10_readHeat 46 = .ok (.dup, 1) := by decide +kernel
theorem dX10_readHeat_47 : decode cX10_readHeat 47 = .ok (.getfield 66, 3) := by decide +kernel
theorem dX10_readHeat_50 : decode cX10_readHeat 50 = .ok (.iconst 1, 1) := by decide +kernel
theorem dX10_readHeat_51 : decode cX10_readHeat 51 = .ok (.iadd, 1) := by decide +kernel
theorem dX10_readHeat_52 : decode cX10_readHeat 52 = .ok (.putfield 66, 3) := by decide +kernel
theorem dX10_readHeat_55 : decode cX10_readHeat 55 = .ok (.iconst 1, 1) := by decide +kernel
theorem dX10_readHeat_56 : decode cX10_readHeat 56 = .ok (.ireturn, 1) := by decide +kernel
theorem dX10_readHouse_0 : decode cX10_readHouse 0 = .ok (.aload_n 0, 1) := by decide +kernel
theorem dX10_readHouse_1 : decode cX10_readHouse 1 = .ok (.iconst 0, 1) := by decide +kernel
theorem dX10_readHouse_2 : decode cX10_readHouse 2 = .ok (.aload_n 0, 1) := by decide +kernel
theorem dX10_readHouse_3 : decode cX10_readHouse 3 = .ok (.getfield 12, 3) := by decide +kernel
theorem dX10_readHouse_6 : decode cX10_readHouse 6 = .ok (.getfield 77, 3) := by decide +kernel
theorem dX10_readHouse_9 : decode cX10_readHouse 9 = .ok (.iconst 1, 1) := by decide +kernel
theorem dX10_readHouse_10 : decode cX10_readHouse 10 = .ok (.isub, 1) := by decide +kernel
theorem dX10_readHouse_11 : decode cX10_readHouse 11 = .ok (.invokevirtual 73, 3) := by decide +kernel
theorem dX10_readHouse_14 : decode cX10_readHouse 14 = .ok (.istore_n 1, 1) := by decide +kernel
theorem dX10_readHouse_15 : decode cX10_readHouse 15 = .ok (.iload_n 1, 1) := by decide +kernel
theorem dX10_readHouse_16 : decode cX10_readHouse 16 = .ok (.ifCond .lt 15, 3) := by decide +kernel
theorem dX10_readHouse_19 : decode cX10_readHouse 19 = .ok (.aload_n 0, 1) := by decide +kernel
theorem dX10_readHouse_20 : decode cX10_readHouse 20 = .ok (.getfield 12, 3) := by decide +kernel
theorem dX10_readHouse_23 : decode cX10_readHouse 23 = .ok (.getfield 70, 3) := by decide +kernel
theorem dX10_readHouse_26 : decode cX10_readHouse 26 = .ok (.bipush 6, 2) := by decide +kernel
theorem dX10_readHouse_28 : decode cX10_readHouse 28 = .ok (.if_icmp .lt 5, 3) := by decide +kernel
theorem dX10_readHouse_31 : decode cX10_readHouse 31 = .ok (.iconst 0, 1) := by decide +kernel
theorem dX10_readHouse_32 : decode cX10_readHouse 32 = .ok (.ireturn, 1) := by decide +kernel
theorem dX10_readHouse_33 : decode cX10_readHouse 33 = .ok (.aload_n 0, 1) := by decide +kernel
theorem dX10_readHouse_34 : decode cX10_readHouse 34 = .ok (.getfield 12, 3) := by decide +kernel
theorem dX10_readHouse_37 : decode cX10_readHouse 37 = .ok (.getfield 80, 3) := by decide +kernel
theorem dX10_readHouse_40 : decode cX10_readHouse 40 = .ok (.getfield 96, 3) := by decide +kernel
theorem dX10_readHouse_43 : decode cX10_readHouse 43 = .ok (.aload_n 0, 1) := by decide +kernel
theorem dX10_readHouse_44 : decode cX10_readHouse 44 = .ok (.getfield 12, 3) := by decide +kernel
theorem dX10_readHouse_47 : decode cX10_readHouse 47 = .ok (.getfield 70, 3) := by decide +kernel
theorem dX10_readHouse_50 : decode cX10_readHouse 50 = .ok (.iload_n 1, 1) := by decide +kernel
theorem dX10_readHouse_51 : decode cX10_readHouse 51 = .ok (.iastore, 1) := by decide +kernel
theorem dX10_readHouse_52 : decode cX10_readHouse 52 = .ok (.aload_n 0, 1) := by decide +kernel
theorem dX10_readHouse_53 : decode cX10_readHouse 53 = .ok (.getfield 12, 3) := by decide +kernel
theorem dX10_readHouse_56 : decode cX10_readHouse 56 = .ok (.dup, 1) := by decide +kernel
theorem dX10_readHouse_57 : decode cX10_readHouse 57 = .ok (.getfield 70, 3) := by decide +kernel
theorem dX10_readHouse_60 : decode cX10_readHouse 60 = .ok (.iconst 1, 1) := by decide +kernel
theorem dX10_readHouse_61 : decode cX10_readHouse 61 = .ok (.iadd, 1) := by decide +kernel
theorem dX10_readHouse_62 : decode cX10_readHouse 62 = .ok (.putfield 70, 3) := by decide +kernel
theorem dX10_readHouse_65 : decode cX10_readHouse 65 = .ok (.iconst 1, 1) := by decide +kernel
theorem dX10_readHouse_66 : decode cX10_readHouse 66 = .ok (.ireturn, 1) := by decide +kernel
theorem dX10_readJoin_0 : decode cX10_readJoin 0 = .ok (.aload_n 0, 1) := by decide +kernel
theorem dX10_readJoin_1 : decode cX10_readJoin 1 = .ok (.iconst 0, 1) := by decide +kernel
theorem dX10_readJoin_2 : decode cX10_readJoin 2 = .ok (.aload_n 0, 1) := by decide +kernel
theorem dX10_readJoin_3 : decode cX10_readJoin 3 = .ok (.getfield 12, 3) := by decide +kernel
theorem dX10_readJoin_6 : decode cX10_readJoin 6 = .ok (.getfield 70, 3) := by decide +kernel
theorem dX10_readJoin_9 : decode cX10_readJoin 9 = .ok (.iconst 1, 1) := by decide +kernel
theorem dX10_readJoin_10 : decode cX10_readJoin 10 = .ok (.isub, 1) := by decide +kernel
theorem dX10_readJoin_11 : decode cX10_readJoin 11 = .ok (.invokevirtual 73, 3) := by decide +kernel
theorem dX10_readJoin_14 : decode cX10_readJoin 14 = .ok (.istore_n 1, 1) := by decide +kernel
theorem dX10_readJoin_15 : decode cX10_readJoin 15 = .ok (.iload_n 1, 1) := by decide +kernel
theorem dX10_readJoin_16 : decode cX10_readJoin 16 = .ok (.ifCond .ge 5, 3) := by decide +kernel
theorem dX10_readJoin_19 : decode cX10_readJoin 19 = .ok (.iconst 0, 1) := by decide +kernel
theorem dX10_readJoin_20 : decode cX10_readJoin 20 = .ok (.ireturn, 1) := by decide +kernel
theorem dX10_readJoin_21 : decode cX10_readJoin 21 = .ok (.aload_n 0, 1) := by decide +kernel
theorem dX10_readJoin_22 : decode cX10_readJoin 22 = .ok (.getfield 18, 3) := by decide +kernel
theorem dX10_readJoin_25 : decode cX10_readJoin 25 = .ok (.invokevirtual 34, 3) := by decide +kernel
theorem dX10_readJoin_28 : decode cX10_readJoin 28 = .ok (.iconst 1, 1) := by decide +kernel
theorem dX10_readJoin_29 : decode cX10_readJoin 29 = .ok (.if_icmp .ne 23, 3) := by decide +kernel
theorem dX10_readJoin_32 : decode cX10_readJoin 32 = .ok (.aload_n 0, 1) := by decide +kernel
theorem dX10_readJoin_33 : decode cX10_readJoin 33 = .ok (.getfield 18, 3) := by decide +kernel
theorem dX10_readJoin_36 : decode cX10_readJoin 36 = .ok (.invokevirtual 99, 3) := by decide +kernel
theorem dX10_readJoin_39 : decode cX10_readJoin 39 = .ok (.iload_n 1, 1) := by decide +kernel
theorem dX10_readJoin_40 : decode cX10_readJoin 40 = .ok (.if_icmp .ne 12, 3) := by decide +kernel
theorem dX10_readJoin_43 : decode cX10_readJoin 43 = .ok (.aload_n 0, 1) := by decide +kernel
theorem dX10_readJoin_44 : decode cX10_readJoin 44 = .ok (.getfield 18, 3) := by decide +kernel
theorem dX10_readJoin_47 : decode cX10_readJoin 47 = .ok (.iconst 1, 1) := by decide +kernel
theorem dX10_readJoin_48 : decode cX10_readJoin 48 = .ok (.invokevirtual 44, 3) := by decide +kernel
theorem dX10_readJoin_51 : decode cX10_readJoin 51 = .ok (.ireturn, 1) := by decide +kernel
theorem dX10_readJoin_52 : decode cX10_readJoin 52 = .ok (.aload_n 0, 1) := by decide +kernel
theorem dX10_readJoin_53 : decode cX10_readJoin 53 = .ok (.iconst 0, 1) := by decide +kernel
theorem dX10_readJoin_54 : decode cX10_readJoin 54 = .ok (.aload_n 0, 1) := by decide +kernel
theorem dX10_readJoin_55 : decode cX10_readJoin 55 = .ok (.getfield 12, 3) := by decide +kernel
theorem dX10_readJoin_58 : decode cX10_readJoin 58 = .ok (.getfield 70, 3) := by decide +kernel
theorem dX10_readJoin_61 : decode cX10_readJoin 61 = .ok (.iconst 1, 1) := by decide +kernel
theorem dX10_readJoin_62 : decode cX10_readJoin 62 = .ok (.isub, 1) := by decide +kernel
theorem dX10_readJoin_63 : decode cX10_readJoin 63 = .ok (.invokevirtual 73, 3) := by decide +kernel
theorem dX10_readJoin_66 : decode cX10_readJoin 66 = .ok (.istore_n 2, 1) := by decide +kernel
theorem dX10_readJoin_67 : decode cX10_readJoin 67 = .ok (.iload_n 2, 1) := by decide +kernel
theorem dX10_readJoin_68 : decode cX10_readJoin 68 = .ok (.ifCond .ge 7, 3) := by decide +kernel
theorem dX10_readJoin_71 : decode cX10_readJoin 71 = .ok (.iconst (-1), 1) := by decide +kernel
theorem dX10_readJoin_72 : decode cX10_readJoin 72 = .ok (.goto 10, 3) := by decide +kernel
theorem dX10_readJoin_75 : decode cX10_readJoin 75 = .ok (.aload_n 0, 1) := by decide +kernel
theorem dX10_readJoin_76 : decode cX10_readJoin 76 = .ok (.iconst 1, 1) := by decide +kernel
theorem dX10_readJoin_77 : decode cX10_readJoin 77 = .ok (.bipush 9, 2) := by decide +kernel
theorem dX10_readJoin_79 : decode cX10_readJoin 79 = .ok (.invokevirtual 73, 3) := by decide +kernel
theorem dX10_readJoin_82 : decode cX10_readJoin 82 = .ok (.istore_n 3, 1) := by decide +kernel
theorem dX10_readJoin_83 : decode cX10_readJoin 83 = .ok (.iload_n 3, 1) := by decide +kernel
theorem dX10_readJoin_84 : decode cX10_readJoin 84 = .ok (.ifCond .ge 5, 3) := by decide +kernel
theorem dX10_readJoin_87 : decode cX10_readJoin 87 = .ok (.iconst 0, 1) := by decide +kernel
theorem dX10_readJoin_88 : decode cX10_readJoin 88 = .ok (.ireturn, 1) := by decide +kernel
theorem dX10_readJoin_89 : decode cX10_readJoin 89 = .ok (.aload_n 0, 1) := by decide +kernel
theorem dX10_readJoin_90 : decode cX10_readJoin 90 = .ok (.getfield 12, 3) := by decide +kernel
theorem dX10_readJoin_93 : decode cX10_readJoin 93 = .ok (.getfield 80, 3) := by decide +kernel
theorem dX10_readJoin_96 : decode cX10_readJoin 96 = .ok (.iload_n 1, 1) := by decide +kernel
theorem dX10_readJoin_97 : decode cX10_readJoin 97 = .ok (.iload_n 2, 1) := by decide +kernel
theorem dX10_readJoin_98 : decode cX10_readJoin 98 = .ok (.iload_n 3, 1) := by decide +kernel
theorem dX10_readJoin_99 : decode cX10_readJoin 99 = .ok (.invokevirtual 102, 3) := by decide +kernel
theorem dX10_readJoin_102 : decode cX10_readJoin 102 = .ok (.iconst 1, 1) := by decide +kernel
theorem dX10_readJoin_103 : decode cX10_readJoin 103 = .ok (.ireturn, 1) := by decide +kernel
theorem dX10_readRock_0 : decode cX10_readRock 0 = .ok (.aload_n 0, 1) := by decide +kernel
theorem dX10_readRock_1 : decode cX10_readRock 1 = .ok (.iconst 0, 1) := by decide +kernel
theorem dX10_readRock_2 : decode cX10_readRock 2 = .ok (.aload_n 0, 1) := by decide +kernel
theorem dX10_readRock_3 : decode cX10_readRock 3 = .ok (.getfield 12, 3) := by decide +kernel
theorem dX10_readRock_6 : decode cX10_readRock 6 = .ok (.getfield 70, 3) := by decide +kernel
theorem dX10_readRock_9 : decode cX10_readRock 9 = .ok (.iconst 1, 1) := by decide +kernel
theorem dX10_readRock_10 : decode cX10_readRock 10 = .ok (.isub, 1) := by decide +kernel
theorem dX10_readRock_11 : decode cX10_readRock 11 = .ok (.invokevirtual 73, 3) := by decide +kernel
theorem dX10_readRock_14 : decode cX10_readRock 14 = .ok (.istore_n 1, 1) := by decide +kernel
theorem dX10_readRock_15 : decode cX10_readRock 15 = .ok (.iload_n 1, 1) := by decide +kernel
theorem dX10_readRock_16 : decode cX10_readRock 16 = .ok (.ifCond .ge 7, 3) := by decide +kernel
theorem dX10_readRock_19 : decode cX10_readRock 19 = .ok (.iconst (-1), 1) := by decide +kernel
theorem dX10_readRock_20 : decode cX10_readRock 20 = .ok (.goto 10, 3) := by decide +kernel
theorem dX10_readRock_23 : decode cX10_readRock 23 = .ok (.aload_n 0, 1) := by decide +kernel
theorem dX10_readRock_24 : decode cX10_readRock 24 = .ok (.iconst 1, 1) := by decide +kernel
theorem dX10_readRock_25 : decode cX10_readRock 25 = .ok (.bipush 9, 2) := by decide +kernel
theorem dX10_readRock_27 : decode cX10_readRock 27 = .ok (.invokevirtual 73, 3) := by decide +kernel
theorem dX10_readRock_30 : decode cX10_readRock 30 = .ok (.istore_n 2, 1) := by decide +kernel
theorem dX10_readRock_31 : decode cX10_readRock 31 = .ok (.iload_n 2, 1) := by decide +kernel
theorem dX10_readRock_32 : decode cX10_readRock 32 = .ok (.ifCond .ge 5, 3) := by decide +kernel
theorem dX10_readRock_35 : decode cX10_readRock 35 = .ok (.iconst 0, 1) := by decide +kernel
theorem dX10_readRock_36 : decode cX10_readRock 36 = .ok (.ireturn, 1) := by decide +kernel
theorem dX10_readRock_37 : decode cX10_readRock 37 = .ok (.aload_n 0, 1) := by decide +kernel
theorem dX10_readRock_38 : decode cX10_readRock 38 = .ok (.getfield 12, 3) := by decide +kernel
theorem dX10_readRock_41 : decode cX10_readRock 41 = .ok (.getfield 80, 3) := by decide +kernel
theorem dX10_readRock_44 : decode cX10_readRock 44 = .ok (.getfield 106, 3) := by decide +kernel
theorem dX10_readRock_47 : decode cX10_readRock 47 = .ok (.iload_n 1, 1) := by decide +kernel
theorem dX10_readRock_48 : decode cX10_readRock 48 = .ok (.iload_n 2, 1) := by decide +kernel
theorem dX10_readRock_49 : decode cX10_readRock 49 = .ok (.iastore, 1) := by decide +kernel
theorem dX10_readRock_50 : decode cX10_readRock 50 = .ok (.iconst 1, 1) := by decide +kernel
theorem dX10_readRock_51 : decode cX10_readRock 51 = .ok (.ireturn, 1) := by decide +kernel
theorem dX10_readNumber_0 : decode cX10_readNumber 0 = .ok (.aload_n 0, 1) := by decide +kernel
theorem dX10_readNumber_1 : decode cX10_readNumber 1 = .ok (.getfield 18, 3) := by decide +kernel
theorem dX10_readNumber_4 : decode cX10_readNumber 4 = .ok (.invokevirtual 34, 3) := by decide +kernel
theorem dX10_readNumber_7 : decode cX10_readNumber 7 = .ok (.iconst 1, 1) := by decide +kernel
theorem dX10_readNumber_8 : decode cX10_readNumber 8 = .ok (.if_icmp .eq 25, 3) := by decide +kernel
theorem dX10_readNumber_11 : decode cX10_readNumber 11 = .ok (.aload_n 0, 1) := by decide +kernel
theorem dX10_readNumber_12 : decode cX10_readNumber 12 = .ok (.getfield 18, 3) := by decide +kernel
theorem dX10_readNumber_15 : decode cX10_readNumber 15 = .ok (.invokevirtual 34, 3) := by decide +kernel
theorem dX10_readNumber_18 : decode cX10_readNumber 18 = .ok (.iconst 2, 1) := by decide +kernel
theorem dX10_readNumber_19 : decode cX10_readNumber 19 = .ok (.if_icmp .eq 14, 3) := by decide +kernel
theorem dX10_readNumber_22 : decode cX10_readNumber 22 = .ok (.aload_n 0, 1) := by decide +kernel
theorem dX10_readNumber_23 : decode cX10_readNumber 23 = .ok (.getfield 18, 3) := by decide +kernel
theorem dX10_readNumber_26 : decode cX10_readNumber 26 = .ok (.iconst 0, 1) := by decide +kernel
theorem dX10_readNumber_27 : decode cX10_readNumber 27 = .ok (.invokevirtual 44, 3) := by decide +kernel
theorem dX10_readNumber_30 : decode cX10_readNumber 30 = .ok (.pop, 1) := by decide +kernel
theorem dX10_readNumber_31 : decode cX10_readNumber 31 = .ok (.iconst (-1), 1) := by decide +kernel
theorem dX10_readNumber_32 : decode cX10_readNumber 32 = .ok (.ireturn, 1) := by decide +kernel
theorem dX10_readNumber_33 : decode cX10_readNumber 33 = .ok (.aload_n 0, 1) := by decide +kernel
theorem dX10_readNumber_34 : decode cX10_readNumber 34 = .ok (.getfield 18, 3) := by decide +kernel
theorem dX10_readNumber_37 : decode cX10_readNumber 37 = .ok (.invokevirtual 34, 3) := by decide +kernel
theorem dX10_readNumber_40 : decode cX10_readNumber 40 = .ok (.iconst 2, 1) := by decide +kernel
theorem dX10_readNumber_41 : decode cX10_readNumber 41 = .ok (.if_icmp .eq 18, 3) := by decide +kernel
theorem dX10_readNumber_44 : decode cX10_readNumber 44 = .ok (.aload_n 0, 1) := by decide +kernel
theorem dX10_readNumber_45 : decode cX10_readNumber 45 = .ok (.getfield 18, 3) := by decide +kernel
theorem dX10_readNumber_48 : decode cX10_readNumber 48 = .ok (.invokevirtual 99, 3) := by decide +kernel
theorem dX10_readNumber_51 : decode cX10_readNumber 51 = .ok (.iload_n 1, 1) := by decide +kernel
theorem dX10_readNumber_52 : decode cX10_readNumber 52 = .ok (.iload_n 2, 1) := by decide +kernel
theorem dX10_readNumber_53 : decode cX10_readNumber 53 = .ok (.invokestatic 109, 3) := by decide +kernel
theorem dX10_readNumber_56 : decode cX10_readNumber 56 = .ok (.ifCond .ne 14, 3) := by decide +kernel
theorem dX10_readNumber_59 : decode cX10_readNumber 59 = .ok (.aload_n 0, 1) := by decide +kernel
theorem dX10_readNumber_60 : decode cX10_readNumber 60 = .ok (.getfield 18, 3) := by decide +kernel
theorem dX10_readNumber_63 : decode cX10_readNumber 63 = .ok (.iconst 1, 1) := by decide +kernel
theorem dX10_readNumber_64 : decode cX10_readNumber 64 = .ok (.invokevirtual 44, 3) := by decide +kernel
theorem dX10_readNumber_67 : decode cX10_readNumber 67 = .ok (.pop, 1) := by decide +kernel
theorem dX10_readNumber_68 : decode cX10_readNumber 68 = .ok (.iconst (-1), 1) := by decide +kernel
theorem dX10_readNumber_69 : decode cX10_readNumber 69 = .ok (.ireturn, 1) := by decide +kernel
theorem dX10_readNumber_70 : decode cX10_readNumber 70 = .ok (.aload_n 0, 1) := by decide +kernel
theorem dX10_readNumber_71 : decode cX10_readNumber 71 = .ok (.getfield 18, 3) := by decide +kernel
theorem dX10_readNumber_74 : decode cX10_readNumber 74 = .ok (.invokevirtual 99, 3) := by decide +kernel
theorem dX10_readNumber_77 : decode cX10_readNumber 77 = .ok (.istore_n 3, 1) := by decide +kernel
theorem dX10_readNumber_78 : decode cX10_readNumber 78 = .ok (.aload_n 0, 1) := by decide +kernel
theorem dX10_readNumber_79 : decode cX10_readNumber 79 = .ok (.getfield 18, 3) := by decide +kernel
theorem dX10_readNumber_82 : decode cX10_readNumber 82 = .ok (.invokevirtual 41, 3) := by decide +kernel
theorem dX10_readNumber_85 : decode cX10_readNumber 85 = .ok (.iload_n 3, 1) := by decide +kernel
theorem dX10_readNumber_86 : decode cX10_readNumber 86 = .ok (.ireturn, 1) := by decide +kernel
