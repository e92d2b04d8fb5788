theorem dX11_init_0 : decode cX11_init 0 = .ok (.aload_n 0, 1) := by decide +kernel
theorem dX11_init_1 : decode cX11_init 1 = .ok (.invokespecial 3, 3) := by decide +kernel
theorem dX11_init_4 : decode cX11_init 4 = .ok (.aload_n 0, 1) := by decide +kernel
theorem dX11_init_5 : decode cX11_init 5 = .ok (.new 9, 3) := by decide +kernel
theorem dX11_init_8 : decode cX11_init 8 = .ok (.dup, 1) := by decide +kernel
theorem dX11_init_9 : decode cX11_init 9 = .ok (.invokespecial 11, 3) := by decide +kernel
theorem dX11_init_12 : decode cX11_init 12 = .ok (.putfield 12, 3) := by decide +kernel
theorem dX11_init_15 : decode cX11_init 15 = .ok (.aload_n 0, 1) := by decide +kernel
theorem dX11_init_16 : decode cX11_init 16 = .ok (.new 16, 3) := by decide +kernel
theorem dX11_init_19 : decode cX11_init 19 = .ok (.dup, 1) := by decide +kernel
theorem dX11_init_20 : decode cX11_init 20 = .ok (.aload_n 0, 1) := by decide +kernel
theorem dX11_init_21 : decode cX11_init 21 = .ok (.getfield 12, 3) := by decide +kernel
theorem dX11_init_24 : decode cX11_init 24 = .ok (.invokespecial 18, 3) := by decide +kernel
theorem dX11_init_27 : decode cX11_init 27 = .ok (.putfield 21, 3) := by decide +kernel
theorem dX11_init_30 : decode cX11_init 30 = .ok (.aload_n 0, 1) := by decide +kernel
theorem dX11_init_31 : decode cX11_init 31 = .ok (.new 25, 3) := by decide +kernel
theorem dX11_init_34 : decode cX11_init 34 = .ok (.dup, 1) := by decide +kernel
theorem dX11_init_35 : decode cX11_init 35 = .ok (.aload_n 0, 1) := by decide +kernel
theorem dX11_init_36 : decode cX11_init 36 = .ok (.getfield 12, 3) := by decide +kernel
theorem dX11_init_39 : decode cX11_init 39 = .ok (.invokespecial 27, 3) := by decide +kernel
theorem dX11_init_42 : decode cX11_init 42 = .ok (.putfield 28, 3) := by decide +kernel
theorem dX11_init_45 : decode cX11_init 45 = .ok (.aload_n 0, 1) := by decide +kernel
theorem dX11_init_46 : decode cX11_init 46 = .ok (.bipush 6, 2) := by decide +kernel
theorem dX11_init_48 : decode cX11_init 48 = .ok (.anewarray 32, 3) := by decide +kernel
theorem dX11_init_51 : decode cX11_init 51 = .ok (.putfield 34, 3) := by decide +kernel
theorem dX11_init_54 : decode cX11_init 54 = .ok (.aload_n 0, 1) := by decide +kernel
theorem dX11_init_55 : decode cX11_init 55 = .ok (.new 38, 3) := by decide +kernel
theorem dX11_init_58 : decode cX11_init 58 = .ok (.dup, 1) := by decide +kernel
theorem dX11_init_59 : decode cX11_init 59 = .ok (.invokespecial 40, 3) := by decide +kernel
theorem dX11_init_62 : decode cX11_init 62 = .ok (.putfield 41, 3) := by decide +kernel
theorem dX11_init_65 : decode cX11_init 65 = .ok (.aload_n 0, 1) := by decide +kernel
theorem dX11_init_66 : decode cX11_init 66 = .ok (.iconst 4, 1) := by decide +kernel
theorem dX11_init_67 : decode cX11_init 67 = .ok (.anewarray 38, 3) := by decide +kernel
theorem dX11_init_70 : decode cX11_init 70 = .ok (.putfield 45, 3) := by decide +kernel
theorem dX11_init_73 : decode cX11_init 73 = .ok (.aload_n 0, 1) := by decide +kernel
theorem dX11_init_74 : decode cX11_init 74 = .ok (.new 49, 3) := by decide +kernel
theorem dX11_init_77 : decode cX11_init 77 = .ok (.dup, 1) := by decide +kernel
theorem dX11_init_78 : decode cX11_init 78 = .ok (.aload_n 0, 1) := by decide +kernel
theorem dX11_init_79 : decode cX11_init 79 = .ok (.getfield 41, 3) := by decide +kernel
theorem dX11_init_82 : decode cX11_init 82 = .ok (.getfield 51, 3) := by decide +kernel
theorem dX11_init_85 : decode cX11_init 85 = .ok (.invokespecial 55, 3) := by decide +kernel
theorem dX11_init_88 : decode cX11_init 88 = .ok (.putfield 58, 3) := by decide +kernel
theorem dX11_init_91 : decode cX11_init 91 = .ok (.aload_n 0, 1) := by decide +kernel
theorem dX11_init_92 : decode cX11_init 92 = .ok (.new 62, 3) := by decide +kernel
theorem dX11_init_95 : decode cX11_init 95 = .ok (.dup, 1) := by decide +kernel
theorem dX11_init_96 : decode cX11_init 96 = .ok (.invokespecial 64, 3) := by decide +kernel
theorem dX11_init_99 : decode cX11_init 99 = .ok (.putfield 65, 3) := by decide +kernel
theorem dX11_init_102 : decode cX11_init 102 = .ok (.aload_n 0, 1) := by decide +kernel
theorem dX11_init_103 : decode cX11_init 103 = .ok (.bipush 6, 2) := by decide +kernel
theorem dX11_init_105 : decode cX11_init 105 = .ok (.newarray .int, 2) := by decide +kernel
theorem dX11_init_107 : decode cX11_init 107 = .ok (.putfield 69, 3) := by decide +kernel
theorem dX11_init_110 : decode cX11_init 110 = .ok (.aload_n 0, 1) := by decide +kernel
theorem dX11_init_111 : decode cX11_init 111 = .ok (.new 73, 3) := by decide +kernel
theorem dX11_init_114 : decode cX11_init 114 = .ok (.dup, 1) := by decide +kernel
theorem dX11_init_115 : decode cX11_init 115 = .ok (.aload_n 0, 1) := by decide +kernel
theorem dX11_init_116 : decode cX11_init 116 = .ok (.getfield 58, 3) := by decide +kernel
theorem dX11_init_119 : decode cX11_init 119 = .ok (.invokespecial 75, 3) := by decide +kernel
theorem dX11_init_122 : decode cX11_init 122 = .ok (.putfield 78, 3) := by decide +kernel
theorem dX11_init_125 : decode cX11_init 125 = .ok (.aload_n 0, 1) := by decide +kernel
theorem dX11_init_126 : decode cX11_init 126 = .ok (.new 82, 3) := by decide +kernel
theorem dX11_init_129 : decode cX11_init 129 = .ok (.dup, 1) := by decide +kernel
theorem dX11_init_130 : decode cX11_init 130 = .ok (.aload_n 0, 1) := by decide +kernel
theorem dX11_init_131 : decode cX11_init 131 = .ok (.getfield 58, 3) := by decide +kernel
theorem dX11_init_134 : decode cX11_init 134 = .ok (.invokespecial 84, 3) := by decide +kernel
theorem dX11_init_137 : decode cX11_init 137 = .ok (.putfield 85, 3) := by decide +kernel
theorem dX11_init_140 : decode cX11_init 140 = .ok (.aload_n 0, 1) := by decide +kernel
theorem dX11_init_141 : decode cX11_init 141 = .ok (.new 89, 3) := by decide +kernel
theorem dX11_init_144 : decode cX11_init 144 = .ok (.dup, 1) := by decide +kernel
theorem dX11_init_145 : decode cX11_init 145 = .ok (.aload_n 0, 1) := by decide +kernel
theorem dX11_init_146 : decode cX11_init 146 = .ok (.getfield 58, 3) := by decide +kernel
theorem dX11_init_149 : decode cX11_init 149 = .ok (.invokespecial 91, 3) := by decide +kernel
theorem dX11_init_152 : decode cX11_init 152 = .ok (.putfield 92, 3) := by decide +kernel
theorem dX11_init_155 : decode cX11_init 155 = .ok (.return_, 1) := by decide +kernel
theorem dX11_feed_0 : decode cX11_feed 0 = .ok (.aload_n 0, 1) := by decide +kernel
theorem dX11_feed_1 : decode cX11_feed 1 = .ok (.getfield 12, 3) := by decide +kernel
theorem dX11_feed_4 : decode cX11_feed 4 = .ok (.getfield 96, 3) := by decide +kernel
theorem dX11_feed_7 : decode cX11_feed 7 = .ok (.bipush 20, 2) := by decide +kernel
theorem dX11_feed_9 : decode cX11_feed 9 = .ok (.iadd, 1) := by decide +kernel
theorem dX11_feed_10 : decode cX11_feed 10 = .ok (.sipush 400, 3) := by decide +kernel
theorem dX11_feed_13 : decode cX11_feed 13 = .ok (.if_icmp .le 5, 3) := by decide +kernel
theorem dX11_feed_16 : decode cX11_feed 16 = .ok (.iconst (-1), 1) := by decide +kernel
theorem dX11_feed_17 : decode cX11_feed 17 = .ok (.ireturn, 1) := by decide +kernel
theorem dX11_feed_18 : decode cX11_feed 18 = .ok (.aload_n 0, 1) := by decide +kernel
theorem dX11_feed_19 : decode cX11_feed 19 = .ok (.getfield 12, 3) := by decide +kernel
theorem dX11_feed_22 : decode cX11_feed 22 = .ok (.iload_n 1, 1) := by decide +kernel
theorem dX11_feed_23 : decode cX11_feed 23 = .ok (.invokevirtual 100, 3) := by decide +kernel
theorem dX11_feed_26 : decode cX11_feed 26 = .ok (.aload_n 0, 1) := by decide +kernel
theorem dX11_feed_27 : decode cX11_feed 27 = .ok (.getfield 12, 3) := by decide +kernel
theorem dX11_feed_30 : decode cX11_feed 30 = .ok (.iload_n 2, 1) := by decide +kernel
theorem dX11_feed_31 : decode cX11_feed 31 = .ok (.invokevirtual 100, 3) := by decide +kernel
theorem dX11_feed_34 : decode cX11_feed 34 = .ok (.aload_n 0, 1) := by decide +kernel
theorem dX11_feed_35 : decode cX11_feed 35 = .ok (.getfield 12, 3) := by decide +kernel
theorem dX11_feed_38 : decode cX11_feed 38 = .ok (.iload_n 3, 1) := by decide +kernel
theorem dX11_feed_39 : decode cX11_feed 39 = .ok (.invokevirtual 100, 3) := by decide +kernel
theorem dX11_feed_42 : decode cX11_feed 42 = .ok (.aload_n 0, 1) := by decide +kernel
theorem dX11_feed_43 : decode cX11_feed 43 = .ok (.getfield 12, 3) := by decide +kernel
theorem dX11_feed_46 : decode cX11_feed 46 = .ok (.iload 4, 2) := by decide +kernel
theorem dX11_feed_48 : decode cX11_feed 48 = .ok (.invokevirtual 100, 3) := by decide +kernel
theorem dX11_feed_51 : decode cX11_feed 51 = .ok (.aload_n 0, 1) := by decide +kernel
theorem dX11_feed_52 : decode cX11_feed 52 = .ok (.getfield 12, 3) := by decide +kernel
theorem dX11_feed_55 : decode cX11_feed 55 = .ok (.iload 5, 2) := by decide +kernel
theorem dX11_feed_57 : decode cX11_feed 57 = .ok (.invokevirtual 100, 3) := by decide +kernel
theorem dX11_feed_60 : decode cX11_feed 60 = .ok (.aload_n 0, 1) := by decide +kernel
theorem dX11_feed_61 : decode cX11_feed 61 = .ok (.getfield 12, 3) := by decide +kernel
theorem dX11_feed_64 : decode cX11_feed 64 = .ok (.getfield 96, 3) := by decide +kernel
theorem dX11_feed_67 : decode cX11_feed 67 = .ok (.ireturn, 1) := by decide +kernel
theorem dX11_end_0 : decode cX11_end 0 = .ok (.iload_n 1, 1) := by decide +kernel
theorem dX11_end_1 : decode cX11_end 1 = .ok (.ifCond .lt 14, 3) := by decide +kernel
theorem dX11_end_4 : decode cX11_end 4 = .ok (.iload_n 1, 1) := by decide +kernel
theorem dX11_end_5 : decode cX11_end 5 = .ok (.aload_n 0, 1) := by decide +kernel
theorem dX11_end_6 : decode cX11_end 6 = .ok (.getfield 12, 3) := by decide +kernel
theorem dX11_end_9 : decode cX11_end 9 = .ok (.getfield 96, 3) := by decide +kernel
theorem dX11_end_12 : decode cX11_end 12 = .ok (.if_icmp .le 5, 3) := by decide +kernel
theorem dX11_end_15 : decode cX11_end 15 = .ok (.iconst (-1), 1) := by decide +kernel
theorem dX11_end_16 : decode cX11_end 16 = .ok (.ireturn, 1) := by decide +kernel
theorem dX11_end_17 : decode cX11_end 17 = .ok (.aload_n 0, 1) := by decide +kernel
theorem dX11_end_18 : decode cX11_end 18 = .ok (.getfield 12, 3) := by decide +kernel
theorem dX11_end_21 : decode cX11_end 21 = .ok (.iload_n 1, 1) := by decide +kernel
theorem dX11_end_22 : decode cX11_end 22 = .ok (.putfield 96, 3) := by decide +kernel
theorem dX11_end_25 : decode cX11_end 25 = .ok (.iload_n 1, 1) := by decide +kernel
theorem dX11_end_26 : decode cX11_end 26 = .ok (.ireturn, 1) := by decide +kernel
theorem dX11_town_0 : decode cX11_town 0 = .ok (.aload_n 0, 1) := by decide +kernel
theorem dX11_town_1 : decode cX11_town 1 = .ok (.getfield 21, 3) := by decide +kernel
theorem dX11_town_4 : decode cX11_town 4 = .ok (.invokevirtual 104, 3) := by decide +kernel
theorem dX11_town_7 : decode cX11_town 7 = .ok (.istore_n 1, 1) := by decide +kernel
theorem dX11_town_8 : decode cX11_town 8 = .ok (.aload_n 0, 1) := by decide +kernel
theorem dX11_town_9 : decode cX11_town 9 = .ok (.getfield 12, 3) := by decide +kernel
theorem dX11_town_12 : decode cX11_town 12 = .ok (.iconst 0, 1) := by decide +kernel
theorem dX11_town_13 : decode cX11_town 13 = .ok (.putfield 96, 3) := by decide +kernel
theorem dX11_town_16 : decode cX11_town 16 = .ok (.iload_n 1, 1) := by decide +kernel
theorem dX11_town_17 : decode cX11_town 17 = .ok (.ifCond .ne 14, 3) := by decide +kernel
theorem dX11_town_20 : decode cX11_town 20 = .ok (.bipush (-2), 2) := by decide +kernel
theorem dX11_town_22 : decode cX11_town 22 = .ok (.aload_n 0, 1) := by decide +kernel
theorem dX11_town_23 : decode cX11_town 23 = .ok (.getfield 12, 3) := by decide +kernel
theorem dX11_town_26 : decode cX11_town 26 = .ok (.getfield 108, 3) := by decide +kernel
theorem dX11_town_29 : decode cX11_town 29 = .ok (.isub, 1) := by decide +kernel
theorem dX11_town_30 : decode cX11_town 30 = .ok (.ireturn, 1) := by decide +kernel
theorem dX11_town_31 : decode cX11_town 31 = .ok (.aload_n 0, 1) := by decide +kernel
theorem dX11_town_32 : decode cX11_town 32 = .ok (.getfield 41, 3) := by decide +kernel
theorem dX11_town_35 : decode cX11_town 35 = .ok (.aload_n 0, 1) := by decide +kernel
theorem dX11_town_36 : decode cX11_town 36 = .ok (.getfield 21, 3) := by decide +kernel
theorem dX11_town_39 : decode cX11_town 39 = .ok (.getfield 111, 3) := by decide +kernel
theorem dX11_town_42 : decode cX11_town 42 = .ok (.invokevirtual 114, 3) := by decide +kernel
theorem dX11_town_45 : decode cX11_town 45 = .ok (.aload_n 0, 1) := by decide +kernel
theorem dX11_town_46 : decode cX11_town 46 = .ok (.getfield 41, 3) := by decide +kernel
theorem dX11_town_49 : decode cX11_town 49 = .ok (.getfield 51, 3) := by decide +kernel
theorem dX11_town_52 : decode cX11_town 52 = .ok (.getfield 117, 3) := by decide +kernel
theorem dX11_town_55 : decode cX11_town 55 = .ok (.ireturn, 1) := by decide +kernel
theorem dX11_rule_0 : decode cX11_rule 0 = .ok (.aload_n 0, 1) := by decide +kernel
theorem dX11_rule_1 : decode cX11_rule 1 = .ok (.getfield 122, 3) := by decide +kernel
theorem dX11_rule_4 : decode cX11_rule 4 = .ok (.bipush 6, 2) := by decide +kernel
theorem dX11_rule_6 : decode cX11_rule 6 = .ok (.if_icmp .lt 5, 3) := by decide +kernel
theorem dX11_rule_9 : decode cX11_rule 9 = .ok (.iconst (-1), 1) := by decide +kernel
theorem dX11_rule_10 : decode cX11_rule 10 = .ok (.ireturn, 1) := by decide +kernel
theorem dX11_rule_11 : decode cX11_rule 11 = .ok (.aload_n 0, 1) := by decide +kernel
theorem dX11_rule_12 : decode cX11_rule 12 = .ok (.getfield 28, 3) := by decide +kernel
theorem dX11_rule_15 : decode cX11_rule 15 = .ok (.invokevirtual 125, 3) := by decide +kernel
theorem dX11_rule_18 : decode cX11_rule 18 = .ok (.istore_n 1, 1) := by decide +kernel
theorem dX11_rule_19 : decode cX11_rule 19 = .ok (.aload_n 0, 1) := by decide +kernel
theorem dX11_rule_20 : decode cX11_rule 20 = .ok (.getfield 12, 3) := by decide +kernel
theorem dX11_rule_23 : decode cX11_rule 23 = .ok (.iconst 0, 1) := by decide +kernel
theorem dX11_rule_24 : decode cX11_rule 24 = .ok (.putfield 96, 3) := by decide +kernel
theorem dX11_rule_27 : decode cX11_rule 27 = .ok (.iload_n 1, 1) := by decide +kernel
theorem dX11_rule_28 : decode cX11_rule 28 = .ok (.ifCond .ne 14, 3) := by decide +kernel
theorem dX11_rule_31 : decode cX11_rule 31 = .ok (.bipush (-2), 2) := by decide +kernel
theorem dX11_rule_33 : decode cX11_rule 33 = .ok (.aload_n 0, 1) := by decide +kernel
theorem dX11_rule_34 : decode cX11_rule 34 = .ok (.getfield 12, 3) := by decide +kernel
theorem dX11_rule_37 : decode cX11_rule 37 = .ok (.getfield 108, 3) := by decide +kernel
theorem dX11_rule_40 : decode cX11_rule 40 = .ok (.isub, 1) := by decide +kernel
theorem dX11_rule_41 : decode cX11_rule 41 = .ok (.ireturn, 1) := by decide +kernel
theorem dX11_rule_42 : decode cX11_rule 42 = .ok (.aload_n 0, 1) := by decide +kernel
theorem dX11_rule_43 : decode cX11_rule 43 = .ok (.getfield 34, 3) := by decide +kernel
theorem dX11_rule_46 : decode cX11_rule 46 = .ok (.aload_n 0, 1) := by decide +kernel
theorem dX11_rule_47 : decode cX11_rule 47 = .ok (.getfield 122, 3) := by decide +kernel
theorem dX11_rule_50 : decode cX11_rule 50 = .ok (.new 32, 3) := by decide +kernel
theorem dX11_rule_53 : decode cX11_rule 53 = .ok (.dup, 1) := by decide +kernel
theorem dX11_rule_54 : decode cX11_rule 54 = .ok (.aload_n 0, 1) := by decide +kernel
theorem dX11_rule_55 : decode cX11_rule 55 = .ok (.getfield 28, 3) := by decide +kernel
theorem dX11_rule_58 : decode cX11_rule 58 = .ok (.invokevirtual 126, 3) := by decide +kernel
theorem dX11_rule_61 : decode cX11_rule 61 = .ok (.invokespecial 130, 3) := by decide +kernel
theorem dX11_rule_64 : decode cX11_rule 64 = .ok (.aastore, 1) := by decide +kernel
theorem dX11_rule_65 : decode cX11_rule 65 = .ok (.aload_n 0, 1) := by decide +kernel
theorem dX11_rule_66 : decode cX11_rule 66 = .ok (.dup, 1) := by decide +kernel
theorem dX11_rule_67 : decode cX11_rule 67 = .ok (.getfield 122, 3) := by decide +kernel
theorem dX11_rule_70 : decode cX11_rule 70 = .ok (.iconst 1, 1) := by decide +kernel
theorem dX11_rule_71 : decode cX11_rule 71 = .ok (.iadd, 1) := by decide +kernel
theorem dX11_rule_72 : decode cX11_rule 72 = .ok (.putfield 122, 3) := by decide +kernel
theorem dX11_rule_75 : decode cX11_rule 75 = .ok (.aload_n 0, 1) := by decide +kernel
theorem dX11_rule_76 : decode cX11_rule 76 = .ok (.getfield 122, 3) := by decide +kernel
theorem dX11_rule_79 : decode cX11_rule 79 = .ok (.iconst 1, 1) := by decide +kernel
theorem dX11_rule_80 : decode cX11_rule 80 = .ok (.isub, 1) := by decide +kernel
theorem dX11_rule_81 : decode cX11_rule 81 = .ok (.ireturn, 1) := by decide +kernel
theorem dX11_force_0 : decode cX11_force 0 = .ok (.iload_n 1, 1) := by decide +kernel
theorem dX11_force_1 : decode cX11_force 1 = .ok (.iconst (-1), 1) := by decide +kernel
theorem dX11_force_2 : decode cX11_force 2 = .ok (.if_icmp .lt 11, 3) := by decide +kernel
theorem dX11_force_5 : decode cX11_force 5 = .ok (.iload_n 1, 1) := by decide +kernel
theorem dX11_force_6 : decode cX11_force 6 = .ok (.aload_n 0, 1) := by decide +kernel
theorem dX11_force_7 : decode cX11_force 7 = .ok (.getfield 122, 3) := by decide +kernel
theorem dX11_force_10 : decode cX11_force 10 = .ok (.if_icmp .lt 6, 3) := by decide +kernel
theorem dX11_force_13 : decode cX11_force 13 = .ok (.bipush (-2), 2) := by decide +kernel
theorem dX11_force_15 : decode cX11_force 15 = .ok (.ireturn, 1) := by decide +kernel
theorem dX11_force_16 : decode cX11_force 16 = .ok (.aload_n 0, 1) := by decide +kernel
theorem dX11_force_17 : decode cX11_force 17 = .ok (.getfield 41, 3) := by decide +kernel
theorem dX11_force_20 : decode cX11_force 20 = .ok (.getfield 133, 3) := by decide +kernel
theorem dX11_force_23 : decode cX11_force 23 = .ok (.istore_n 2, 1) := by decide +kernel
theorem dX11_force_24 : decode cX11_force 24 = .ok (.aload_n 0, 1) := by decide +kernel
theorem dX11_force_25 : decode cX11_force 25 = .ok (.getfield 41, 3) := by decide +kernel
theorem dX11_force_28 : decode cX11_force 28 = .ok (.iload_n 1, 1) := by decide +kernel
theorem dX11_force_29 : decode cX11_force 29 = .ok (.putfield 133, 3) := by decide +kernel
theorem dX11_force_32 : decode cX11_force 32 = .ok (.iload_n 2, 1) := by decide +kernel
theorem dX11_force_33 : decode cX11_force 33 = .ok (.ireturn, 1) := by decide +kernel
theorem dX11_house_0 : decode cX11_house 0 = .ok (.aload_n 0, 1) := by decide +kernel
theorem dX11_house_1 : decode cX11_house 1 = .ok (.iload_n 1, 1) := by decide +kernel
theorem dX11_house_2 : decode cX11_house 2 = .ok (.invokevirtual 136, 3) := by decide +kernel
theorem dX11_house_5 : decode cX11_house 5 = .ok (.ifCond .ne 5, 3) := by decide +kernel
theorem dX11_house_8 : decode cX11_house 8 = .ok (.iconst (-1), 1) := by decide +kernel
theorem dX11_house_9 : decode cX11_house 9 = .ok (.ireturn, 1) := by decide +kernel
theorem dX11_house_10 : decode cX11_house 10 = .ok (.iload_n 2, 1) := by decide +kernel
theorem dX11_house_11 : decode cX11_house 11 = .ok (.tableswitch 91 0 4 #[33, 46, 59, 71, 77], 33) := by decide +kernel
theorem dX11_house_44 : decode cX11_house 44 = .ok (.aload_n 0, 1) := by decide +kernel
theorem dX11_house_45 : decode cX11_house 45 = .ok (.getfield 41, 3) := by decide +kernel
theorem dX11_house_48 : decode cX11_house 48 = .ok (.getfield 140, 3) := by decide +kernel
theorem dX11_house_51 : decode cX11_house 51 = .ok (.getfield 143, 3) := by decide +kernel
theorem dX11_house_54 : decode cX11_house 54 = .ok (.iload_n 1, 1) := by decide +kernel
theorem dX11_house_55 : decode cX11_house 55 = .ok (.iaload, 1) := by decide +kernel
theorem dX11_house_56 : decode cX11_house 56 = .ok (.ireturn, 1) := by decide +kernel
theorem dX11_house_57 : decode cX11_house 57 = .ok (.aload_n 0, 1) := by decide +kernel
theorem dX11_house_58 : decode cX11_house 58 = .ok (.getfield 41, 3) := by decide +kernel
theorem dX11_house_61 : decode cX11_house 61 = .ok (.getfield 140, 3) := by decide +kernel
theorem dX11_house_64 : decode cX11_house 64 = .ok (.getfield 146, 3) := by decide +kernel
theorem dX11_house_67 : decode cX11_house 67 = .ok (.iload_n 1, 1) := by decide +kernel
theorem dX11_house_68 : decode cX11_house 68 = .ok (.iaload, 1) := by decide +kernel
theorem dX11_house_69 : decode cX11_house 69 = .ok (.ireturn, 1) := by decide +kernel
theorem dX11_house_70 : decode cX11_house 70 = .ok (.aload_n 0, 1) := by decide +kernel
theorem dX11_house_71 : decode cX11_house 71 = .ok (.getfield 41, 3) := by decide +kernel
theorem dX11_house_74 : decode cX11_house 74 = .ok (.getfield 140, 3) := by decide +kernel
theorem dX11_house_77 : decode cX11_house 77 = .ok (.iload_n 1, 1) := by decide +kernel
theorem dX11_house_78 : decode cX11_house 78 = .ok (.invokevirtual 149, 3) := by decide +kernel
theorem dX11_house_81 : decode cX11_house 81 = .ok (.ireturn, 1) := by decide +kernel
theorem dX11_house_82 : decode cX11_house 82 = .ok (.aload_n 0, 1) := by decide +kernel
theorem dX11_house_83 : decode cX11_house 83 = .ok (.iload_n 1, 1) := by decide +kernel
theorem dX11_house_84 : decode cX11_house 84 = .ok (.invokevirtual 153, 3) := by decide +kernel
theorem dX11_house_87 : decode cX11_house 87 = .ok (.ireturn, 1) := by decide +kernel
theorem dX11_house_88 : decode cX11_house 88 = .ok (.aload_n 0, 1) := by decide +kernel
theorem dX11_house_89 : decode cX11_house 89 = .ok (.iload_n 1, 1) := by decide +kernel
theorem dX11_house_90 : decode cX11_house 90 = .ok (.invokevirtual 156, 3) := by decide +kernel
theorem dX11_house_93 : decode cX11_house 93 = .ok (.ifCond .eq 7, 3) := by decide +kernel
theorem dX11_house_96 : decode cX11_house 96 = .ok (.iconst 1, 1) := by decide +kernel
theorem dX11_house_97 : decode cX11_house 97 = .ok (.goto 4, 3) := by decide +kernel
theorem dX11_house_100 : decode cX11_house 100 = .ok (.iconst 0, 1) := by decide +kernel
theorem dX11_house_101 : decode cX11_house 101 = .ok (.ireturn, 1) := by decide +kernel
theorem dX11_house_102 : decode cX11_house 102 = .ok (.iconst (-1), 1) := by decide +kernel
theorem dX11_house_103 : decode cX11_house 103 = .ok (.ireturn, 1) := by decide +kernel
theorem dX11_pourOf_0 : decode cX11_pourOf 0 = .ok (.aload_n 0, 1) := by decide +kernel
theorem dX11_pourOf_1 : decode cX11_pourOf 1 = .ok (.iload_n 1, 1) := by decide +kernel
theorem dX11_pourOf_2 : decode cX11_pourOf 2 = .ok (.iload_n 2, 1) := by decide +kernel
theorem dX11_pourOf_3 : decode cX11_pourOf 3 = .ok (.invokevirtual 159, 3) := by decide +kernel
theorem dX11_pourOf_6 : decode cX11_pourOf 6 = .ok (.ifCond .eq 18, 3) := by decide +kernel
theorem dX11_pourOf_9 : decode cX11_pourOf 9 = .ok (.aload_n 0, 1) := by decide +kernel
theorem dX11_pourOf_10 : decode cX11_pourOf 10 = .ok (.getfield 41, 3) := by decide +kernel
theorem dX11_pourOf_13 : decode cX11_pourOf 13 = .ok (.getfield 140, 3) := by decide +kernel
theorem dX11_pourOf_16 : decode cX11_pourOf 16 = .ok (.iload_n 1, 1) := by decide +kernel
theorem dX11_pourOf_17 : decode cX11_pourOf 17 = .ok (.iload_n 2, 1) := by decide +kernel
theorem dX11_pourOf_18 : decode cX11_pourOf 18 = .ok (.invokevirtual 163, 3) := by decide +kernel
theorem dX11_pourOf_21 : decode cX11_pourOf 21 = .ok (.goto 4, 3) := by decide +kernel
theorem dX11_pourOf_24 : decode cX11_pourOf 24 = .ok (.iconst (-1), 1) := by decide +kernel
theorem dX11_pourOf_25 : decode cX11_pourOf 25 = .ok (.ireturn, 1) := by decide +kernel
theorem dX11_day_0 : decode cX11_day 0 = .ok (.aload_n 0, 1) := by decide +kernel
theorem dX11_day_1 : decode cX11_day 1 = .ok (.invokevirtual 167, 3) := by decide +kernel
theorem dX11_day_4 : decode cX11_day 4 = .ok (.ifCond .eq 19, 3) := by decide +kernel
theorem dX11_day_7 : decode cX11_day 7 = .ok (.aload_n 0, 1) := by decide +kernel
theorem dX11_day_8 : decode cX11_day 8 = .ok (.getfield 41, 3) := by decide +kernel
theorem dX11_day_11 : decode cX11_day 11 = .ok (.getfield 140, 3) := by decide +kernel
theorem dX11_day_14 : decode cX11_day 14 = .ok (.getfield 170, 3) := by decide +kernel
theorem dX11_day_17 : decode cX11_day 17 = .ok (.sipush 999, 3) := by decide +kernel
theorem dX11_day_20 : decode cX11_day 20 = .ok (.if_icmp .lt 5, 3) := by decide +kernel
theorem dX11_day_23 : decode cX11_day 23 = .ok (.iconst (-1), 1) := by decide +kernel
theorem dX11_day_24 : decode cX11_day 24 = .ok (.ireturn, 1) := by decide +kernel
theorem dX11_day_25 : decode cX11_day 25 = .ok (.aload_n 0, 1) := by decide +kernel
theorem dX11_day_26 : decode cX11_day 26 = .ok (.getfield 41, 3) := by decide +kernel
theorem dX11_day_29 : decode cX11_day 29 = .ok (.invokevirtual 173, 3) := by decide +kernel
theorem dX11_day_32 : decode cX11_day 32 = .ok (.aload_n 0, 1) := by decide +kernel
theorem dX11_day_33 : decode cX11_day 33 = .ok (.getfield 58, 3) := by decide +kernel
theorem dX11_day_36 : decode cX11_day 36 = .ok (.aload_n 0, 1) := by decide +kernel
theorem dX11_day_37 : decode cX11_day 37 = .ok (.getfield 41, 3) := by decide +kernel
theorem dX11_day_40 : decode cX11_day 40 = .ok (.getfield 140, 3) := by decide +kernel
theorem dX11_day_43 : decode cX11_day 43 = .ok (.aload_n 0, 1) := by decide +kernel
theorem dX11_day_44 : decode cX11_day 44 = .ok (.invokevirtual 176, 3) := by decide +kernel
theorem dX11_day_47 : decode cX11_day 47 = .ok (.aload_n 0, 1) := by decide +kernel
theorem dX11_day_48 : decode cX11_day 48 = .ok (.getfield 41, 3) := by decide +kernel
theorem dX11_day_51 : decode cX11_day 51 = .ok (.getfield 51, 3) := by decide +kernel
theorem dX11_day_54 : decode cX11_day 54 = .ok (.aload_n 0, 1) := by decide +kernel
theorem dX11_day_55 : decode cX11_day 55 = .ok (.getfield 41, 3) := by decide +kernel
theorem dX11_day_58 : decode cX11_day 58 = .ok (.getfield 140, 3) := by decide +kernel
theorem dX11_day_61 : decode cX11_day 61 = .ok (.invokevirtual 180, 3) := by decide +kernel
theorem dX11_day_64 : decode cX11_day 64 = .ok (.invokevirtual 184, 3) := by decide +kernel
theorem dX11_day_67 : decode cX11_day 67 = .ok (.ireturn, 1) := by decide +kernel
theorem dX11_crack_0 : decode cX11_crack 0 = .ok (.aload_n 0, 1) := by decide +kernel
theorem dX11_crack_1 : decode cX11_crack 1 = .ok (.iload_n 1, 1) := by decide +kernel
theorem dX11_crack_2 : decode cX11_crack 2 = .ok (.iload_n 2, 1) := by decide +kernel
theorem dX11_crack_3 : decode cX11_crack 3 = .ok (.invokevirtual 159, 3) := by decide +kernel
theorem dX11_crack_6 : decode cX11_crack 6 = .ok (.ifCond .eq 18, 3) := by decide +kernel
theorem dX11_crack_9 : decode cX11_crack 9 = .ok (.aload_n 0, 1) := by decide +kernel
theorem dX11_crack_10 : decode cX11_crack 10 = .ok (.getfield 41, 3) := by decide +kernel
theorem dX11_crack_13 : decode cX11_crack 13 = .ok (.getfield 140, 3) := by decide +kernel
theorem dX11_crack_16 : decode cX11_crack 16 = .ok (.iload_n 1, 1) := by decide +kernel
theorem dX11_crack_17 : decode cX11_crack 17 = .ok (.iload_n 2, 1) := by decide +kernel
theorem dX11_crack_18 : decode cX11_crack 18 = .ok (.invokevirtual 163, 3) := by decide +kernel
theorem dX11_crack_21 : decode cX11_crack 21 = .ok (.ifCond .ne 5, 3) := by decide +kernel
theorem dX11_crack_24 : decode cX11_crack 24 = .ok (.iconst (-1), 1) := by decide +kernel
theorem dX11_crack_25 : decode cX11_crack 25 = .ok (.ireturn, 1) := by decide +kernel
theorem dX11_crack_26 : decode cX11_crack 26 = .ok (.aload_n 0, 1) := by decide +kernel
theorem dX11_crack_27 : decode cX11_crack 27 = .ok (.getfield 41, 3) := by decide +kernel
theorem dX11_crack_30 : decode cX11_crack 30 = .ok (.getfield 140, 3) := by decide +kernel
theorem dX11_crack_33 : decode cX11_crack 33 = .ok (.iload_n 1, 1) := by decide +kernel
theorem dX11_crack_34 : decode cX11_crack 34 = .ok (.iload_n 2, 1) := by decide +kernel
theorem dX11_crack_35 : decode cX11_crack 35 = .ok (.invokevirtual 163, 3) := by decide +kernel
theorem dX11_crack_38 : decode cX11_crack 38 = .ok (.istore_n 3, 1) := by decide +kernel
theorem dX11_crack_39 : decode cX11_crack 39 = .ok (.aload_n 0, 1) := by decide +kernel
theorem dX11_crack_40 : decode cX11_crack 40 = .ok (.getfield 41, 3) := by decide +kernel
theorem dX11_crack_43 : decode cX11_crack 43 = .ok (.invokevirtual 173, 3) := by decide +kernel
theorem dX11_crack_46 : decode cX11_crack 46 = .ok (.aload_n 0, 1) := by decide +kernel
theorem dX11_crack_47 : decode cX11_crack 47 = .ok (.getfield 41, 3) := by decide +kernel
theorem dX11_crack_50 : decode cX11_crack 50 = .ok (.getfield 140, 3) := by decide +kernel
theorem dX11_crack_53 : decode cX11_crack 53 = .ok (.iload_n 1, 1) := by decide +kernel
theorem dX11_crack_54 : decode cX11_crack 54 = .ok (.iload_n 2, 1) := by decide +kernel
theorem dX11_crack_55 : decode cX11_crack 55 = .ok (.iconst 0, 1) := by decide +kernel
theorem dX11_crack_56 : decode cX11_crack 56 = .ok (.invokevirtual 188, 3) := by decide +kernel
theorem dX11_crack_59 : decode cX11_crack 59 = .ok (.iload_n 3, 1) := by decide +kernel
theorem dX11_crack_60 : decode cX11_crack 60 = .ok (.ireturn, 1) := by decide +kernel
theorem dX11_pour_0 : decode cX11_pour 0 = .ok (.aload_n 0, 1) := by decide +kernel
theorem dX11_pour_1 : decode cX11_pour 1 = .ok (.iload_n 1, 1) := by decide +kernel
theorem dX11_pour_2 : decode cX11_pour 2 = .ok (.iload_n 2, 1) := by decide +kernel
theorem dX11_pour_3 : decode cX11_pour 3 = .ok (.invokevirtual 159, 3) := by decide +kernel
theorem dX11_pour_6 : decode cX11_pour 6 = .ok (.ifCond .eq 36, 3) := by decide +kernel
theorem dX11_pour_9 : decode cX11_pour 9 = .ok (.iload_n 3, 1) := by decide +kernel
theorem dX11_pour_10 : decode cX11_pour 10 = .ok (.iconst 1, 1) := by decide +kernel
theorem dX11_pour_11 : decode cX11_pour 11 = .ok (.bipush 9, 2) := by decide +kernel
theorem dX11_pour_13 : decode cX11_pour 13 = .ok (.invokestatic 192, 3) := by decide +kernel
theorem dX11_pour_16 : decode cX11_pour 16 = .ok (.ifCond .eq 26, 3) := by decide +kernel
theorem dX11_pour_19 : decode cX11_pour 19 = .ok (.aload_n 0, 1) := by decide +kernel
theorem dX11_pour_20 : decode cX11_pour 20 = .ok (.iload_n 1, 1) := by decide +kernel
theorem dX11_pour_21 : decode cX11_pour 21 = .ok (.iload_n 2, 1) := by decide +kernel
theorem dX11_pour_22 : decode cX11_pour 22 = .ok (.invokevirtual 196, 3) := by decide +kernel
theorem dX11_pour_25 : decode cX11_pour 25 = .ok (.ifCond .eq 17, 3) := by decide +kernel
theorem dX11_pour_28 : decode cX11_pour 28 = .ok (.aload_n 0, 1) := by decide +kernel
theorem dX11_pour_29 : decode cX11_pour 29 = .ok (.getfield 41, 3) := by decide +kernel
theorem dX11_pour_32 : decode cX11_pour 32 = .ok (.getfield 140, 3) := by decide +kernel
theorem dX11_pour_35 : decode cX11_pour 35 = .ok (.getfield 199, 3) := by decide +kernel
theorem dX11_pour_38 : decode cX11_pour 38 = .ok (.iload_n 3, 1) := by decide +kernel
theorem dX11_pour_39 : decode cX11_pour 39 = .ok (.if_icmp .ge 5, 3) := by decide +kernel
theorem dX11_pour_42 : decode cX11_pour 42 = .ok (.iconst (-1), 1) := by decide +kernel
theorem dX11_pour_43 : decode cX11_pour 43 = .ok (.ireturn, 1) := by decide +kernel
theorem dX11_pour_44 : decode cX11_pour 44 = .ok (.aload_n 0, 1) := by decide +kernel
theorem dX11_pour_45 : decode cX11_pour 45 = .ok (.getfield 41, 3) := by decide +kernel
theorem dX11_pour_48 : decode cX11_pour 48 = .ok (.invokevirtual 173, 3) := by decide +kernel
theorem dX11_pour_51 : decode cX11_pour 51 = .ok (.aload_n 0, 1) := by decide +kernel
theorem dX11_pour_52 : decode cX11_pour 52 = .ok (.getfield 41, 3) := by decide +kernel
theorem dX11_pour_55 : decode cX11_pour 55 = .ok (.getfield 140, 3) := by decide +kernel
theorem dX11_pour_58 : decode cX11_pour 58 = .ok (.iload_n 1, 1) := by decide +kernel
theorem dX11_pour_59 : decode cX11_pour 59 = .ok (.iload_n 2, 1) := by decide +kernel
theorem dX11_pour_60 : decode cX11_pour 60 = .ok (.iload_n 3, 1) := by decide +kernel
theorem dX11_pour_61 : decode cX11_pour 61 = .ok (.invokevirtual 188, 3) := by decide +kernel
theorem dX11_pour_64 : decode cX11_pour 64 = .ok (.aload_n 0, 1) := by decide +kernel
theorem dX11_pour_65 : decode cX11_pour 65 = .ok (.getfield 41, 3) := by decide +kernel
theorem dX11_pour_68 : decode cX11_pour 68 = .ok (.getfield 140, 3) := by decide +kernel
theorem dX11_pour_71 : decode cX11_pour 71 = .ok (.dup, 1) := by decide +kernel
theorem dX11_pour_72 : decode cX11_pour 72 = .ok (.getfield 199, 3) := by decide +kernel
theorem dX11_pour_75 : decode cX11_pour 75 = .ok (.iload_n 3, 1) := by decide +kernel
theorem dX11_pour_76 : decode cX11_pour 76 = .ok (.isub, 1) := by decide +kernel
theorem dX11_pour_77 : decode cX11_pour 77 = .ok (.putfield 199, 3) := by decide +kernel
theorem dX11_pour_80 : decode cX11_pour 80 = .ok (.aload_n 0, 1) := by decide +kernel
theorem dX11_pour_81 : decode cX11_pour 81 = .ok (.getfield 41, 3) := by decide +kernel
theorem dX11_pour_84 : decode cX11_pour 84 = .ok (.getfield 140, 3) := by decide +kernel
theorem dX11_pour_87 : decode cX11_pour 87 = .ok (.getfield 199, 3) := by decide +kernel
theorem dX11_pour_90 : decode cX11_pour 90 = .ok (.ireturn, 1) := by decide +kernel
theorem dX11_rock_0 : decode cX11_rock 0 = .ok (.aload_n 0, 1) := by decide +kernel
theorem dX11_rock_1 : decode cX11_rock 1 = .ok (.iload_n 1, 1) := by decide +kernel
theorem dX11_rock_2 : decode cX11_rock 2 = .ok (.invokevirtual 136, 3) := by decide +kernel
theorem dX11_rock_5 : decode cX11_rock 5 = .ok (.ifCond .eq 28, 3) := by decide +kernel
theorem dX11_rock_8 : decode cX11_rock 8 = .ok (.aload_n 0, 1) := by decide +kernel
theorem dX11_rock_9 : decode cX11_rock 9 = .ok (.getfield 41, 3) := by decide +kernel
theorem dX11_rock_12 : decode cX11_rock 12 = .ok (.getfield 140, 3) := by decide +kernel
theorem dX11_rock_15 : decode cX11_rock 15 = .ok (.getfield 143, 3) := by decide +kernel
theorem dX11_rock_18 : decode cX11_rock 18 = .ok (.iload_n 1, 1) := by decide +kernel
theorem dX11_rock_19 : decode cX11_rock 19 = .ok (.iaload, 1) := by decide +kernel
theorem dX11_rock_20 : decode cX11_rock 20 = .ok (.aload_n 0, 1) := by decide +kernel
theorem dX11_rock_21 : decode cX11_rock 21 = .ok (.getfield 41, 3) := by decide +kernel
theorem dX11_rock_24 : decode cX11_rock 24 = .ok (.getfield 51, 3) := by decide +kernel
theorem dX11_rock_27 : decode cX11_rock 27 = .ok (.getfield 202, 3) := by decide +kernel
theorem dX11_rock_30 : decode cX11_rock 30 = .ok (.if_icmp .lt 5, 3) := by decide +kernel
theorem dX11_rock_33 : decode cX11_rock 33 = .ok (.iconst (-1), 1) := by decide +kernel
theorem dX11_rock_34 : decode cX11_rock 34 = .ok (.ireturn, 1) := by decide +kernel
theorem dX11_rock_35 : decode cX11_rock 35 = .ok (.aload_n 0, 1) := by decide +kernel
theorem dX11_rock_36 : decode cX11_rock 36 = .ok (.getfield 41, 3) := by decide +kernel
theorem dX11_rock_39 : decode cX11_rock 39 = .ok (.getfield 140, 3) := by decide +kernel
theorem dX11_rock_42 : decode cX11_rock 42 = .ok (.getfield 146, 3) := by decide +kernel
theorem dX11_rock_45 : decode cX11_rock 45 = .ok (.iload_n 1, 1) := by decide +kernel
theorem dX11_rock_46 : decode cX11_rock 46 = .ok (.iaload, 1) := by decide +kernel
theorem dX11_rock_47 : decode cX11_rock 47 = .ok (.istore_n 3, 1) := by decide +kernel
theorem dX11_rock_48 : decode cX11_rock 48 = .ok (.iload_n 2, 1) := by decide +kernel
theorem dX11_rock_49 : decode cX11_rock 49 = .ok (.iload_n 3, 1) := by decide +kernel
theorem dX11_rock_50 : decode cX11_rock 50 = .ok (.iconst 1, 1) := by decide +kernel
theorem dX11_rock_51 : decode cX11_rock 51 = .ok (.iadd, 1) := by decide +kernel
theorem dX11_rock_52 : decode cX11_rock 52 = .ok (.bipush 9, 2) := by decide +kernel
theorem dX11_rock_54 : decode cX11_rock 54 = .ok (.invokestatic 192, 3) := by decide +kernel
theorem dX11_rock_57 : decode cX11_rock 57 = .ok (.ifCond .eq 19, 3) := by decide +kernel
theorem dX11_rock_60 : decode cX11_rock 60 = .ok (.aload_n 0, 1) := by decide +kernel
theorem dX11_rock_61 : decode cX11_rock 61 = .ok (.getfield 41, 3) := by decide +kernel
theorem dX11_rock_64 : decode cX11_rock 64 = .ok (.getfield 140, 3) := by decide +kernel
theorem dX11_rock_67 : decode cX11_rock 67 = .ok (.getfield 199, 3) := by decide +kernel
theorem dX11_rock_70 : decode cX11_rock 70 = .ok (.iload_n 2, 1) := by decide +kernel
theorem dX11_rock_71 : decode cX11_rock 71 = .ok (.iload_n 3, 1) := by decide +kernel
theorem dX11_rock_72 : decode cX11_rock 72 = .ok (.isub, 1) := by decide +kernel
theorem dX11_rock_73 : decode cX11_rock 73 = .ok (.if_icmp .ge 5, 3) := by decide +kernel
theorem dX11_rock_76 : decode cX11_rock 76 = .ok (.iconst (-1), 1) := by decide +kernel
theorem dX11_rock_77 : decode cX11_rock 77 = .ok (.ireturn, 1) := by decide +kernel
theorem dX11_rock_78 : decode cX11_rock 78 = .ok (.aload_n 0, 1) := by decide +kernel
theorem dX11_rock_79 : decode cX11_rock 79 = .ok (.getfield 41, 3) := by decide +kernel
theorem dX11_rock_82 : decode cX11_rock 82 = .ok (.invokevirtual 173, 3) := by decide +kernel
theorem dX11_rock_85 : decode cX11_rock 85 = .ok (.aload_n 0, 1) := by decide +kernel
theorem dX11_rock_86 : decode cX11_rock 86 = .ok (.getfield 41, 3) := by decide +kernel
theorem dX11_rock_89 : decode cX11_rock 89 = .ok (.getfield 140, 3) := by decide +kernel
theorem dX11_rock_92 : decode cX11_rock 92 = .ok (.getfield 146, 3) := by decide +kernel
theorem dX11_rock_95 : decode cX11_rock 95 = .ok (.iload_n 1, 1) := by decide +kernel
theorem dX11_rock_96 : decode cX11_rock 96 = .ok (.iload_n 2, 1) := by decide +kernel
theorem dX11_rock_97 : decode cX11_rock 97 = .ok (.iastore, 1) := by decide +kernel
theorem dX11_rock_98 : decode cX11_rock 98 = .ok (.aload_n 0, 1) := by decide +kernel
theorem dX11_rock_99 : decode cX11_rock 99 = .ok (.getfield 41, 3) := by decide +kernel
theorem dX11_rock_102 : decode cX11_rock 102 = .ok (.getfield 140, 3) := by decide +kernel
theorem dX11_rock_105 : decode cX11_rock 105 = .ok (.dup, 1) := by decide +kernel
theorem dX11_rock_106 : decode cX11_rock 106 = .ok (.getfield 199, 3) := by decide +kernel
theorem dX11_rock_109 : decode cX11_rock 109 = .ok (.iload_n 2, 1) := by decide +kernel
theorem dX11_rock_110 : decode cX11_rock 110 = .ok (.iload_n 3, 1) := by decide +kernel
theorem dX11_rock_111 : decode cX11_rock 111 = .ok (.isub, 1) := by decide +kernel
theorem dX11_rock_112 : decode cX11_rock 112 = .ok (.isub, 1) := by decide +kernel
theorem dX11_rock_113 : decode cX11_rock 113 = .ok (.putfield 199, 3) := by decide +kernel
theorem dX11_rock_116 : decode cX11_rock 116 = .ok (.aload_n 0, 1) := by decide +kernel
theorem dX11_rock_117 : decode cX11_rock 117 = .ok (.getfield 41, 3) := by decide +kernel
theorem dX11_rock_120 : decode cX11_rock 120 = .ok (.getfield 140, 3) := by decide +kernel
theorem dX11_rock_123 : decode cX11_rock 123 = .ok (.getfield 199, 3) := by decide +kernel
theorem dX11_rock_126 : decode cX11_rock 126 = .ok (.ireturn, 1) := by decide +kernel
theorem dX11_ice_0 : decode cX11_ice 0 = .ok (.aload_n 0, 1) := by decide +kernel
theorem dX11_ice_1 : decode cX11_ice 1 = .ok (.invokevirtual 167, 3) := by decide +kernel
theorem dX11_ice_4 : decode cX11_ice 4 = .ok (.ifCond .eq 13, 3) := by decide +kernel
theorem dX11_ice_7 : decode cX11_ice 7 = .ok (.iload_n 1, 1) := by decide +kernel
theorem dX11_ice_8 : decode cX11_ice 8 = .ok (.iconst 1, 1) := by decide +kernel
theorem dX11_ice_9 : decode cX11_ice 9 = .ok (.bipush 9, 2) := by decide +kernel
theorem dX11_ice_11 : decode cX11_ice 11 = .ok (.invokestatic 192, 3) := by decide +kernel
theorem dX11_ice_14 : decode cX11_ice 14 = .ok (.ifCond .ne 5, 3) := by decide +kernel
theorem dX11_ice_17 : decode cX11_ice 17 = .ok (.iconst (-1), 1) := by decide +kernel
theorem dX11_ice_18 : decode cX11_ice 18 = .ok (.ireturn, 1) := by decide +kernel
theorem dX11_ice_19 : decode cX11_ice 19 = .ok (.aload_n 0, 1) := by decide +kernel
theorem dX11_ice_20 : decode cX11_ice 20 = .ok (.getfield 41, 3) := by decide +kernel
theorem dX11_ice_23 : decode cX11_ice 23 = .ok (.getfield 140, 3) := by decide +kernel
theorem dX11_ice_26 : decode cX11_ice 26 = .ok (.getfield 205, 3) := by decide +kernel
theorem dX11_ice_29 : decode cX11_ice 29 = .ok (.istore_n 2, 1) := by decide +kernel
theorem dX11_ice_30 : decode cX11_ice 30 = .ok (.aload_n 0, 1) := by decide +kernel
theorem dX11_ice_31 : decode cX11_ice 31 = .ok (.getfield 41, 3) := by decide +kernel
theorem dX11_ice_34 : decode cX11_ice 34 = .ok (.invokevirtual 173, 3) := by decide +kernel
theorem dX11_ice_37 : decode cX11_ice 37 = .ok (.aload_n 0, 1) := by decide +kernel
theorem dX11_ice_38 : decode cX11_ice 38 = .ok (.getfield 41, 3) := by decide +kernel
theorem dX11_ice_41 : decode cX11_ice 41 = .ok (.getfield 140, 3) := by decide +kernel
theorem dX11_ice_44 : decode cX11_ice 44 = .ok (.iload_n 1, 1) := by decide +kernel
theorem dX11_ice_45 : decode cX11_ice 45 = .ok (.putfield 205, 3) := by decide +kernel
theorem dX11_ice_48 : decode cX11_ice 48 = .ok (.iload_n 2, 1) := by decide +kernel
theorem dX11_ice_49 : decode cX11_ice 49 = .ok (.ireturn, 1) := by decide +kernel
theorem dX11_undo_0 : decode cX11_undo 0 = .ok (.aload_n 0, 1) := by decide +kernel
theorem dX11_undo_1 : decode cX11_undo 1 = .ok (.getfield 41, 3) := by decide +kernel
theorem dX11_undo_4 : decode cX11_undo 4 = .ok (.invokevirtual 208, 3) := by decide +kernel
theorem dX11_undo_7 : decode cX11_undo 7 = .ok (.ifCond .eq 13, 3) := by decide +kernel
theorem dX11_undo_10 : decode cX11_undo 10 = .ok (.aload_n 0, 1) := by decide +kernel
theorem dX11_undo_11 : decode cX11_undo 11 = .ok (.getfield 41, 3) := by decide +kernel
theorem dX11_undo_14 : decode cX11_undo 14 = .ok (.getfield 211, 3) := by decide +kernel
theorem dX11_undo_17 : decode cX11_undo 17 = .ok (.goto 5, 3) := by decide +kernel
theorem dX11_undo_20 : decode cX11_undo 20 = .ok (.bipush (-2), 2) := by decide +kernel
theorem dX11_undo_22 : decode cX11_undo 22 = .ok (.ireturn, 1) := by decide +kernel
theorem dX11_ahead_0 : decode cX11_ahead 0 = .ok (.aload_n 0, 1) := by decide +kernel
theorem dX11_ahead_1 : decode cX11_ahead 1 = .ok (.invokevirtual 167, 3) := by decide +kernel
theorem dX11_ahead_4 : decode cX11_ahead 4 = .ok (.ifCond .eq 34, 3) := by decide +kernel
theorem dX11_ahead_7 : decode cX11_ahead 7 = .ok (.iload_n 2, 1) := by decide +kernel
theorem dX11_ahead_8 : decode cX11_ahead 8 = .ok (.iconst 0, 1) := by decide +kernel
theorem dX11_ahead_9 : decode cX11_ahead 9 = .ok (.bipush 100, 2) := by decide +kernel
theorem dX11_ahead_11 : decode cX11_ahead 11 = .ok (.invokestatic 192, 3) := by decide +kernel
theorem dX11_ahead_14 : decode cX11_ahead 14 = .ok (.ifCond .eq 24, 3) := by decide +kernel
theorem dX11_ahead_17 : decode cX11_ahead 17 = .ok (.iload_n 3, 1) := by decide +kernel
theorem dX11_ahead_18 : decode cX11_ahead 18 = .ok (.iconst 0, 1) := by decide +kernel
theorem dX11_ahead_19 : decode cX11_ahead 19 = .ok (.iconst 2, 1) := by decide +kernel
theorem dX11_ahead_20 : decode cX11_ahead 20 = .ok (.invokestatic 192, 3) := by decide +kernel
theorem dX11_ahead_23 : decode cX11_ahead 23 = .ok (.ifCond .eq 15, 3) := by decide +kernel
theorem dX11_ahead_26 : decode cX11_ahead 26 = .ok (.iload_n 3, 1) := by decide +kernel
theorem dX11_ahead_27 : decode cX11_ahead 27 = .ok (.ifCond .ne 13, 3) := by decide +kernel
theorem dX11_ahead_30 : decode cX11_ahead 30 = .ok (.aload_n 0, 1) := by decide +kernel
theorem dX11_ahead_31 : decode cX11_ahead 31 = .ok (.iload_n 1, 1) := by decide +kernel
theorem dX11_ahead_32 : decode cX11_ahead 32 = .ok (.invokevirtual 136, 3) := by decide +kernel
theorem dX11_ahead_35 : decode cX11_ahead 35 = .ok (.ifCond .ne 5, 3) := by decide +kernel
theorem dX11_ahead_38 : decode cX11_ahead 38 = .ok (.iconst (-1), 1) := by decide +kernel
theorem dX11_ahead_39 : decode cX11_ahead 39 = .ok (.ireturn, 1) := by decide +kernel
theorem dX11_ahead_40 : decode cX11_ahead 40 = .ok (.aload_n 0, 1) := by decide +kernel
theorem dX11_ahead_41 : decode cX11_ahead 41 = .ok (.getfield 65, 3) := by decide +kernel
theorem dX11_ahead_44 : decode cX11_ahead 44 = .ok (.aload_n 0, 1) := by decide +kernel
theorem dX11_ahead_45 : decode cX11_ahead 45 = .ok (.getfield 41, 3) := by decide +kernel
theorem dX11_ahead_48 : decode cX11_ahead 48 = .ok (.getfield 140, 3) := by decide +kernel
theorem dX11_ahead_51 : decode cX11_ahead 51 = .ok (.invokevirtual 214, 3) := by decide +kernel
theorem dX11_ahead_54 : decode cX11_ahead 54 = .ok (.aload_n 0, 1) := by decide +kernel
theorem dX11_ahead_55 : decode cX11_ahead 55 = .ok (.getfield 58, 3) := by decide +kernel
theorem dX11_ahead_58 : decode cX11_ahead 58 = .ok (.aload_n 0, 1) := by decide +kernel
theorem dX11_ahead_59 : decode cX11_ahead 59 = .ok (.getfield 65, 3) := by decide +kernel
theorem dX11_ahead_62 : decode cX11_ahead 62 = .ok (.aload_n 0, 1) := by decide +kernel
theorem dX11_ahead_63 : decode cX11_ahead 63 = .ok (.invokevirtual 176, 3) := by decide +kernel
theorem dX11_ahead_66 : decode cX11_ahead 66 = .ok (.iload_n 2, 1) := by decide +kernel
theorem dX11_ahead_67 : decode cX11_ahead 67 = .ok (.invokevirtual 218, 3) := by decide +kernel
theorem dX11_ahead_70 : decode cX11_ahead 70 = .ok (.iload_n 3, 1) := by decide +kernel
theorem dX11_ahead_71 : decode cX11_ahead 71 = .ok (.ifCond .ne 13, 3) := by decide +kernel
theorem dX11_ahead_74 : decode cX11_ahead 74 = .ok (.aload_n 0, 1) := by decide +kernel
theorem dX11_ahead_75 : decode cX11_ahead 75 = .ok (.getfield 65, 3) := by decide +kernel
theorem dX11_ahead_78 : decode cX11_ahead 78 = .ok (.getfield 143, 3) := by decide +kernel
theorem dX11_ahead_81 : decode cX11_ahead 81 = .ok (.iload_n 1, 1) := by decide +kernel
theorem dX11_ahead_82 : decode cX11_ahead 82 = .ok (.iaload, 1) := by decide +kernel
theorem dX11_ahead_83 : decode cX11_ahead 83 = .ok (.ireturn, 1) := by decide +kernel
theorem dX11_ahead_84 : decode cX11_ahead 84 = .ok (.iload_n 3, 1) := by decide +kernel
theorem dX11_ahead_85 : decode cX11_ahead 85 = .ok (.iconst 1, 1) := by decide +kernel
theorem dX11_ahead_86 : decode cX11_ahead 86 = .ok (.if_icmp .ne 23, 3) := by decide +kernel
theorem dX11_ahead_89 : decode cX11_ahead 89 = .ok (.aload_n 0, 1) := by decide +kernel
theorem dX11_ahead_90 : decode cX11_ahead 90 = .ok (.getfield 41, 3) := by decide +kernel
theorem dX11_ahead_93 : decode cX11_ahead 93 = .ok (.getfield 51, 3) := by decide +kernel
theorem dX11_ahead_96 : decode cX11_ahead 96 = .ok (.aload_n 0, 1) := by decide +kernel
theorem dX11_ahead_97 : decode cX11_ahead 97 = .ok (.getfield 65, 3) := by decide +kernel
theorem dX11_ahead_100 : decode cX11_ahead 100 = .ok (.invokevirtual 222, 3) := by decide +kernel
theorem dX11_ahead_103 : decode cX11_ahead 103 = .ok (.invokestatic 225, 3) := by decide +kernel
theorem dX11_ahead_106 : decode cX11_ahead 106 = .ok (.goto 10, 3) := by decide +kernel
theorem dX11_ahead_109 : decode cX11_ahead 109 = .ok (.aload_n 0, 1) := by decide +kernel
theorem dX11_ahead_110 : decode cX11_ahead 110 = .ok (.getfield 65, 3) := by decide +kernel
theorem dX11_ahead_113 : decode cX11_ahead 113 = .ok (.getfield 199, 3) := by decide +kernel
theorem dX11_ahead_116 : decode cX11_ahead 116 = .ok (.ireturn, 1) := by decide +kernel
theorem dX11_down_0 : decode cX11_down 0 = .ok (.aload_n 0, 1) := by decide +kernel
theorem dX11_down_1 : decode cX11_down 1 = .ok (.iload_n 1, 1) := by decide +kernel
theorem dX11_down_2 : decode cX11_down 2 = .ok (.invokevirtual 136, 3) := by decide +kernel
theorem dX11_down_5 : decode cX11_down 5 = .ok (.ifCond .ne 5, 3) := by decide +kernel
theorem dX11_down_8 : decode cX11_down 8 = .ok (.iconst (-1), 1) := by decide +kernel
theorem dX11_down_9 : decode cX11_down 9 = .ok (.ireturn, 1) := by decide +kernel
theorem dX11_down_10 : decode cX11_down 10 = .ok (.aload_n 0, 1) := by decide +kernel
theorem dX11_down_11 : decode cX11_down 11 = .ok (.invokevirtual 230, 3) := by decide +kernel
theorem dX11_down_14 : decode cX11_down 14 = .ok (.aload_n 0, 1) := by decide +kernel
theorem dX11_down_15 : decode cX11_down 15 = .ok (.getfield 69, 3) := by decide +kernel
theorem dX11_down_18 : decode cX11_down 18 = .ok (.iload_n 1, 1) := by decide +kernel
theorem dX11_down_19 : decode cX11_down 19 = .ok (.iaload, 1) := by decide +kernel
theorem dX11_down_20 : decode cX11_down 20 = .ok (.bipush 100, 2) := by decide +kernel
theorem dX11_down_22 : decode cX11_down 22 = .ok (.if_icmp .ge 23, 3) := by decide +kernel
theorem dX11_down_25 : decode cX11_down 25 = .ok (.aload_n 0, 1) := by decide +kernel
theorem dX11_down_26 : decode cX11_down 26 = .ok (.getfield 41, 3) := by decide +kernel
theorem dX11_down_29 : decode cX11_down 29 = .ok (.getfield 140, 3) := by decide +kernel
theorem dX11_down_32 : decode cX11_down 32 = .ok (.getfield 170, 3) := by decide +kernel
theorem dX11_down_35 : decode cX11_down 35 = .ok (.aload_n 0, 1) := by decide +kernel
theorem dX11_down_36 : decode cX11_down 36 = .ok (.getfield 69, 3) := by decide +kernel
theorem dX11_down_39 : decode cX11_down 39 = .ok (.iload_n 1, 1) := by decide +kernel
theorem dX11_down_40 : decode cX11_down 40 = .ok (.iaload, 1) := by decide +kernel
theorem dX11_down_41 : decode cX11_down 41 = .ok (.iadd, 1) := by decide +kernel
theorem dX11_down_42 : decode cX11_down 42 = .ok (.goto 5, 3) := by decide +kernel
theorem dX11_down_45 : decode cX11_down 45 = .ok (.bipush (-2), 2) := by decide +kernel
theorem dX11_down_47 : decode cX11_down 47 = .ok (.ireturn, 1) := by decide +kernel
theorem dX11_part_0 : decode cX11_part 0 = .ok (.aload_n 0, 1) := by decide +kernel
theorem dX11_part_1 : decode cX11_part 1 = .ok (.iload_n 1, 1) := by decide +kernel
theorem dX11_part_2 : decode cX11_part 2 = .ok (.iload_n 2, 1) := by decide +kernel
theorem dX11_part_3 : decode cX11_part 3 = .ok (.invokevirtual 159, 3) := by decide +kernel
theorem dX11_part_6 : decode cX11_part 6 = .ok (.ifCond .eq 12, 3) := by decide +kernel
theorem dX11_part_9 : decode cX11_part 9 = .ok (.iload_n 3, 1) := by decide +kernel
theorem dX11_part_10 : decode cX11_part 10 = .ok (.iconst 0, 1) := by decide +kernel
theorem dX11_part_11 : decode cX11_part 11 = .ok (.iconst 1, 1) := by decide +kernel
theorem dX11_part_12 : decode cX11_part 12 = .ok (.invokestatic 192, 3) := by decide +kernel
theorem dX11_part_15 : decode cX11_part 15 = .ok (.ifCond .ne 5, 3) := by decide +kernel
theorem dX11_part_18 : decode cX11_part 18 = .ok (.iconst (-1), 1) := by decide +kernel
theorem dX11_part_19 : decode cX11_part 19 = .ok (.ireturn, 1) := by decide +kernel
theorem dX11_part_20 : decode cX11_part 20 = .ok (.ldc 233, 2) := by decide +kernel
theorem dX11_part_22 : decode cX11_part 22 = .ok (.istore 4, 2) := by decide +kernel
theorem dX11_part_24 : decode cX11_part 24 = .ok (.iconst 0, 1) := by decide +kernel
theorem dX11_part_25 : decode cX11_part 25 = .ok (.istore 5, 2) := by decide +kernel
theorem dX11_part_27 : decode cX11_part 27 = .ok (.iconst 0, 1) := by decide +kernel
theorem dX11_part_28 : decode cX11_part 28 = .ok (.istore 6, 2) := by decide +kernel
theorem dX11_part_30 : decode cX11_part 30 = .ok (.iload 6, 2) := by decide +kernel
theorem dX11_part_32 : decode cX11_part 32 = .ok (.iconst 1, 1) := by decide +kernel
theorem dX11_part_33 : decode cX11_part 33 = .ok (.aload_n 0, 1) := by decide +kernel
theorem dX11_part_34 : decode cX11_part 34 = .ok (.getfield 41, 3) := by decide +kernel
theorem dX11_part_37 : decode cX11_part 37 = .ok (.getfield 51, 3) := by decide +kernel
theorem dX11_part_40 : decode cX11_part 40 = .ok (.getfield 117, 3) := by decide +kernel
theorem dX11_part_43 : decode cX11_part 43 = .ok (.ishl, 1) := by decide +kernel
theorem dX11_part_44 : decode cX11_part 44 = .ok (.if_icmp .ge 50, 3) := by decide +kernel
theorem dX11_part_47 : decode cX11_part 47 = .ok (.iload 6, 2) := by decide +kernel
theorem dX11_part_49 : decode cX11_part 49 = .ok (.iload_n 1, 1) := by decide +kernel
theorem dX11_part_50 : decode cX11_part 50 = .ok (.invokestatic 234, 3) := by decide +kernel
theorem dX11_part_53 : decode cX11_part 53 = .ok (.ifCond .eq 35, 3) := by decide +kernel
theorem dX11_part_56 : decode cX11_part 56 = .ok (.iload 6, 2) := by decide +kernel
theorem dX11_part_58 : decode cX11_part 58 = .ok (.iload_n 2, 1) := by decide +kernel
theorem dX11_part_59 : decode cX11_part 59 = .ok (.invokestatic 234, 3) := by decide +kernel
theorem dX11_part_62 : decode cX11_part 62 = .ok (.ifCond .ne 26, 3) := by decide +kernel
theorem dX11_part_65 : decode cX11_part 65 = .ok (.aload_n 0, 1) := by decide +kernel
theorem dX11_part_66 : decode cX11_part 66 = .ok (.iload 6, 2) := by decide +kernel
theorem dX11_part_68 : decode cX11_part 68 = .ok (.invokevirtual 237, 3) := by decide +kernel
theorem dX11_part_71 : decode cX11_part 71 = .ok (.iload 4, 2) := by decide +kernel
theorem dX11_part_73 : decode cX11_part 73 = .ok (.if_icmp .ge 15, 3) := by decide +kernel
theorem dX11_part_76 : decode cX11_part 76 = .ok (.aload_n 0, 1) := by decide +kernel
theorem dX11_part_77 : decode cX11_part 77 = .ok (.iload 6, 2) := by decide +kernel
theorem dX11_part_79 : decode cX11_part 79 = .ok (.invokevirtual 237, 3) := by decide +kernel
theorem dX11_part_82 : decode cX11_part 82 = .ok (.istore 4, 2) := by decide +kernel
theorem dX11_part_84 : decode cX11_part 84 = .ok (.iload 6, 2) := by decide +kernel
theorem dX11_part_86 : decode cX11_part 86 = .ok (.istore 5, 2) := by decide +kernel
theorem dX11_part_88 : decode cX11_part 88 = .ok (.iinc 6 1, 3) := by decide +kernel
theorem dX11_part_91 : decode cX11_part 91 = .ok (.goto (-61), 3) := by decide +kernel
theorem dX11_part_94 : decode cX11_part 94 = .ok (.iload_n 3, 1) := by decide +kernel
theorem dX11_part_95 : decode cX11_part 95 = .ok (.ifCond .ne 8, 3) := by decide +kernel
theorem dX11_part_98 : decode cX11_part 98 = .ok (.iload 4, 2) := by decide +kernel
theorem dX11_part_100 : decode cX11_part 100 = .ok (.goto 5, 3) := by decide +kernel
theorem dX11_part_103 : decode cX11_part 103 = .ok (.iload 5, 2) := by decide +kernel
theorem dX11_part_105 : decode cX11_part 105 = .ok (.ireturn, 1) := by decide +kernel
theorem dX11_blocks_0 : decode cX11_blocks 0 = .ok (.aload_n 0, 1) := by decide +kernel
theorem dX11_blocks_1 : decode cX11_blocks 1 = .ok (.invokevirtual 167, 3) := by decide +kernel
theorem dX11_blocks_4 : decode cX11_blocks 4 = .ok (.ifCond .eq 12, 3) := by decide +kernel
theorem dX11_blocks_7 : decode cX11_blocks 7 = .ok (.iload_n 1, 1) := by decide +kernel
theorem dX11_blocks_8 : decode cX11_blocks 8 = .ok (.iconst 0, 1) := by decide +kernel
theorem dX11_blocks_9 : decode cX11_blocks 9 = .ok (.iconst 1, 1) := by decide +kernel
theorem dX11_blocks_10 : decode cX11_blocks 10 = .ok (.invokestatic 192, 3) := by decide +kernel
theorem dX11_blocks_13 : decode cX11_blocks 13 = .ok (.ifCond .ne 5, 3) := by decide +kernel
theorem dX11_blocks_16 : decode cX11_blocks 16 = .ok (.iconst (-1), 1) := by decide +kernel
theorem dX11_blocks_17 : decode cX11_blocks 17 = .ok (.ireturn, 1) := by decide +kernel
theorem dX11_blocks_18 : decode cX11_blocks 18 = .ok (.aload_n 0, 1) := by decide +kernel
theorem dX11_blocks_19 : decode cX11_blocks 19 = .ok (.getfield 58, 3) := by decide +kernel
theorem dX11_blocks_22 : decode cX11_blocks 22 = .ok (.aload_n 0, 1) := by decide +kernel
theorem dX11_blocks_23 : decode cX11_blocks 23 = .ok (.getfield 41, 3) := by decide +kernel
theorem dX11_blocks_26 : decode cX11_blocks 26 = .ok (.getfield 140, 3) := by decide +kernel
theorem dX11_blocks_29 : decode cX11_blocks 29 = .ok (.aload_n 0, 1) := by decide +kernel
theorem dX11_blocks_30 : decode cX11_blocks 30 = .ok (.getfield 41, 3) := by decide +kernel
theorem dX11_blocks_33 : decode cX11_blocks 33 = .ok (.getfield 51, 3) := by decide +kernel
theorem dX11_blocks_36 : decode cX11_blocks 36 = .ok (.aload_n 0, 1) := by decide +kernel
theorem dX11_blocks_37 : decode cX11_blocks 37 = .ok (.getfield 41, 3) := by decide +kernel
theorem dX11_blocks_40 : decode cX11_blocks 40 = .ok (.getfield 140, 3) := by decide +kernel
theorem dX11_blocks_43 : decode cX11_blocks 43 = .ok (.invokevirtual 180, 3) := by decide +kernel
theorem dX11_blocks_46 : decode cX11_blocks 46 = .ok (.invokevirtual 240, 3) := by decide +kernel
theorem dX11_blocks_49 : decode cX11_blocks 49 = .ok (.aload_n 0, 1) := by decide +kernel
theorem dX11_blocks_50 : decode cX11_blocks 50 = .ok (.getfield 41, 3) := by decide +kernel
theorem dX11_blocks_53 : decode cX11_blocks 53 = .ok (.getfield 51, 3) := by decide +kernel
theorem dX11_blocks_56 : decode cX11_blocks 56 = .ok (.aload_n 0, 1) := by decide +kernel
theorem dX11_blocks_57 : decode cX11_blocks 57 = .ok (.getfield 41, 3) := by decide +kernel
theorem dX11_blocks_60 : decode cX11_blocks 60 = .ok (.getfield 140, 3) := by decide +kernel
theorem dX11_blocks_63 : decode cX11_blocks 63 = .ok (.invokevirtual 222, 3) := by decide +kernel
theorem dX11_blocks_66 : decode cX11_blocks 66 = .ok (.istore_n 2, 1) := by decide +kernel
theorem dX11_blocks_67 : decode cX11_blocks 67 = .ok (.iconst 0, 1) := by decide +kernel
theorem dX11_blocks_68 : decode cX11_blocks 68 = .ok (.istore_n 3, 1) := by decide +kernel
theorem dX11_blocks_69 : decode cX11_blocks 69 = .ok (.iconst 0, 1) := by decide +kernel
theorem dX11_blocks_70 : decode cX11_blocks 70 = .ok (.istore 4, 2) := by decide +kernel
theorem dX11_blocks_72 : decode cX11_blocks 72 = .ok (.iconst 0, 1) := by decide +kernel
theorem dX11_blocks_73 : decode cX11_blocks 73 = .ok (.istore 5, 2) := by decide +kernel
theorem dX11_blocks_75 : decode cX11_blocks 75 = .ok (.iload 5, 2) := by decide +kernel
theorem dX11_blocks_77 : decode cX11_blocks 77 = .ok (.aload_n 0, 1) := by decide +kernel
theorem dX11_blocks_78 : decode cX11_blocks 78 = .ok (.getfield 41, 3) := by decide +kernel
theorem dX11_blocks_81 : decode cX11_blocks 81 = .ok (.getfield 51, 3) := by decide +kernel
theorem dX11_blocks_84 : decode cX11_blocks 84 = .ok (.getfield 117, 3) := by decide +kernel
theorem dX11_blocks_87 : decode cX11_blocks 87 = .ok (.if_icmp .ge 59, 3) := by decide +kernel
theorem dX11_blocks_90 : decode cX11_blocks 90 = .ok (.iload_n 2, 1) := by decide +kernel
theorem dX11_blocks_91 : decode cX11_blocks 91 = .ok (.iload 5, 2) := by decide +kernel
theorem dX11_blocks_93 : decode cX11_blocks 93 = .ok (.invokestatic 234, 3) := by decide +kernel
theorem dX11_blocks_96 : decode cX11_blocks 96 = .ok (.ifCond .ne 44, 3) := by decide +kernel
theorem dX11_blocks_99 : decode cX11_blocks 99 = .ok (.aload_n 0, 1) := by decide +kernel
theorem dX11_blocks_100 : decode cX11_blocks 100 = .ok (.getfield 58, 3) := by decide +kernel
theorem dX11_blocks_103 : decode cX11_blocks 103 = .ok (.iload 5, 2) := by decide +kernel
theorem dX11_blocks_105 : decode cX11_blocks 105 = .ok (.invokevirtual 244, 3) := by decide +kernel
theorem dX11_blocks_108 : decode cX11_blocks 108 = .ok (.istore 6, 2) := by decide +kernel
theorem dX11_blocks_110 : decode cX11_blocks 110 = .ok (.iload_n 2, 1) := by decide +kernel
theorem dX11_blocks_111 : decode cX11_blocks 111 = .ok (.iload 6, 2) := by decide +kernel
theorem dX11_blocks_113 : decode cX11_blocks 113 = .ok (.ior, 1) := by decide +kernel
theorem dX11_blocks_114 : decode cX11_blocks 114 = .ok (.istore_n 2, 1) := by decide +kernel
theorem dX11_blocks_115 : decode cX11_blocks 115 = .ok (.iinc 3 1, 3) := by decide +kernel
theorem dX11_blocks_118 : decode cX11_blocks 118 = .ok (.iload 6, 2) := by decide +kernel
theorem dX11_blocks_120 : decode cX11_blocks 120 = .ok (.invokestatic 225, 3) := by decide +kernel
theorem dX11_blocks_123 : decode cX11_blocks 123 = .ok (.iload 4, 2) := by decide +kernel
theorem dX11_blocks_125 : decode cX11_blocks 125 = .ok (.invokestatic 225, 3) := by decide +kernel
theorem dX11_blocks_128 : decode cX11_blocks 128 = .ok (.if_icmp .le 8, 3) := by decide +kernel
theorem dX11_blocks_131 : decode cX11_blocks 131 = .ok (.iload 6, 2) := by decide +kernel
theorem dX11_blocks_133 : decode cX11_blocks 133 = .ok (.goto 5, 3) := by decide +kernel
theorem dX11_blocks_136 : decode cX11_blocks 136 = .ok (.iload 4, 2) := by decide +kernel
theorem dX11_blocks_138 : decode cX11_blocks 138 = .ok (.istore 4, 2) := by decide +kernel
theorem dX11_blocks_140 : decode cX11_blocks 140 = .ok (.iinc 5 1, 3) := by decide +kernel
theorem dX11_blocks_143 : decode cX11_blocks 143 = .ok (.goto (-68), 3) := by decide +kernel
theorem dX11_blocks_146 : decode cX11_blocks 146 = .ok (.iload_n 1, 1) := by decide +kernel
theorem dX11_blocks_147 : decode cX11_blocks 147 = .ok (.ifCond .ne 7, 3) := by decide +kernel
theorem dX11_blocks_150 : decode cX11_blocks 150 = .ok (.iload_n 3, 1) := by decide +kernel
theorem dX11_blocks_151 : decode cX11_blocks 151 = .ok (.goto 5, 3) := by decide +kernel
theorem dX11_blocks_154 : decode cX11_blocks 154 = .ok (.iload 4, 2) := by decide +kernel
theorem dX11_blocks_156 : decode cX11_blocks 156 = .ok (.ireturn, 1) := by decide +kernel
theorem dX11_stay_0 : decode cX11_stay 0 = .ok (.aload_n 0, 1) := by decide +kernel
theorem dX11_stay_1 : decode cX11_stay 1 = .ok (.iload_n 1, 1) := by decide +kernel
theorem dX11_stay_2 : decode cX11_stay 2 = .ok (.invokevirtual 136, 3) := by decide +kernel
theorem dX11_stay_5 : decode cX11_stay 5 = .ok (.ifCond .eq 13, 3) := by decide +kernel
theorem dX11_stay_8 : decode cX11_stay 8 = .ok (.iload_n 2, 1) := by decide +kernel
theorem dX11_stay_9 : decode cX11_stay 9 = .ok (.iconst 1, 1) := by decide +kernel
theorem dX11_stay_10 : decode cX11_stay 10 = .ok (.bipush 60, 2) := by decide +kernel
theorem dX11_stay_12 : decode cX11_stay 12 = .ok (.invokestatic 192, 3) := by decide +kernel
theorem dX11_stay_15 : decode cX11_stay 15 = .ok (.ifCond .ne 5, 3) := by decide +kernel
theorem dX11_stay_18 : decode cX11_stay 18 = .ok (.iconst (-1), 1) := by decide +kernel
theorem dX11_stay_19 : decode cX11_stay 19 = .ok (.ireturn, 1) := by decide +kernel
theorem dX11_stay_20 : decode cX11_stay 20 = .ok (.iconst 0, 1) := by decide +kernel
theorem dX11_stay_21 : decode cX11_stay 21 = .ok (.istore_n 3, 1) := by decide +kernel
theorem dX11_stay_22 : decode cX11_stay 22 = .ok (.iload_n 3, 1) := by decide +kernel
theorem dX11_stay_23 : decode cX11_stay 23 = .ok (.bipush 9, 2) := by decide +kernel
theorem dX11_stay_25 : decode cX11_stay 25 = .ok (.if_icmp .gt 75, 3) := by decide +kernel
theorem dX11_stay_28 : decode cX11_stay 28 = .ok (.aload_n 0, 1) := by decide +kernel
theorem dX11_stay_29 : decode cX11_stay 29 = .ok (.getfield 65, 3) := by decide +kernel
theorem dX11_stay_32 : decode cX11_stay 32 = .ok (.aload_n 0, 1) := by decide +kernel
theorem dX11_stay_33 : decode cX11_stay 33 = .ok (.getfield 41, 3) := by decide +kernel
theorem dX11_stay_36 : decode cX11_stay 36 = .ok (.getfield 140, 3) := by decide +kernel
theorem dX11_stay_39 : decode cX11_stay 39 = .ok (.invokevirtual 214, 3) := by decide +kernel
theorem dX11_stay_42 : decode cX11_stay 42 = .ok (.aload_n 0, 1) := by decide +kernel
theorem dX11_stay_43 : decode cX11_stay 43 = .ok (.getfield 65, 3) := by decide +kernel
theorem dX11_stay_46 : decode cX11_stay 46 = .ok (.getfield 146, 3) := by decide +kernel
theorem dX11_stay_49 : decode cX11_stay 49 = .ok (.iload_n 1, 1) := by decide +kernel
theorem dX11_stay_50 : decode cX11_stay 50 = .ok (.iload_n 3, 1) := by decide +kernel
theorem dX11_stay_51 : decode cX11_stay 51 = .ok (.iastore, 1) := by decide +kernel
theorem dX11_stay_52 : decode cX11_stay 52 = .ok (.aload_n 0, 1) := by decide +kernel
theorem dX11_stay_53 : decode cX11_stay 53 = .ok (.getfield 58, 3) := by decide +kernel
theorem dX11_stay_56 : decode cX11_stay 56 = .ok (.aload_n 0, 1) := by decide +kernel
theorem dX11_stay_57 : decode cX11_stay 57 = .ok (.getfield 65, 3) := by decide +kernel
theorem dX11_stay_60 : decode cX11_stay 60 = .ok (.aload_n 0, 1) := by decide +kernel
theorem dX11_stay_61 : decode cX11_stay 61 = .ok (.invokevirtual 176, 3) := by decide +kernel
theorem dX11_stay_64 : decode cX11_stay 64 = .ok (.iload_n 2, 1) := by decide +kernel
theorem dX11_stay_65 : decode cX11_stay 65 = .ok (.invokevirtual 218, 3) := by decide +kernel
theorem dX11_stay_68 : decode cX11_stay 68 = .ok (.aload_n 0, 1) := by decide +kernel
theorem dX11_stay_69 : decode cX11_stay 69 = .ok (.getfield 65, 3) := by decide +kernel
theorem dX11_stay_72 : decode cX11_stay 72 = .ok (.getfield 143, 3) := by decide +kernel
theorem dX11_stay_75 : decode cX11_stay 75 = .ok (.iload_n 1, 1) := by decide +kernel
theorem dX11_stay_76 : decode cX11_stay 76 = .ok (.iaload, 1) := by decide +kernel
theorem dX11_stay_77 : decode cX11_stay 77 = .ok (.aload_n 0, 1) := by decide +kernel
theorem dX11_stay_78 : decode cX11_stay 78 = .ok (.getfield 41, 3) := by decide +kernel
theorem dX11_stay_81 : decode cX11_stay 81 = .ok (.getfield 140, 3) := by decide +kernel
theorem dX11_stay_84 : decode cX11_stay 84 = .ok (.getfield 143, 3) := by decide +kernel
theorem dX11_stay_87 : decode cX11_stay 87 = .ok (.iload_n 1, 1) := by decide +kernel
theorem dX11_stay_88 : decode cX11_stay 88 = .ok (.iaload, 1) := by decide +kernel
theorem dX11_stay_89 : decode cX11_stay 89 = .ok (.if_icmp .ne 5, 3) := by decide +kernel
theorem dX11_stay_92 : decode cX11_stay 92 = .ok (.iload_n 3, 1) := by decide +kernel
theorem dX11_stay_93 : decode cX11_stay 93 = .ok (.ireturn, 1) := by decide +kernel
theorem dX11_stay_94 : decode cX11_stay 94 = .ok (.iinc 3 1, 3) := by decide +kernel
theorem dX11_stay_97 : decode cX11_stay 97 = .ok (.goto (-75), 3) := by decide +kernel
theorem dX11_stay_100 : decode cX11_stay 100 = .ok (.bipush (-2), 2) := by decide +kernel
theorem dX11_stay_102 : decode cX11_stay 102 = .ok (.ireturn, 1) := by decide +kernel
theorem dX11_iced_0 : decode cX11_iced 0 = .ok (.aload_n 0, 1) := by decide +kernel
theorem dX11_iced_1 : decode cX11_iced 1 = .ok (.invokevirtual 167, 3) := by decide +kernel
theorem dX11_iced_4 : decode cX11_iced 4 = .ok (.ifCond .eq 13, 3) := by decide +kernel
theorem dX11_iced_7 : decode cX11_iced 7 = .ok (.iload_n 1, 1) := by decide +kernel
theorem dX11_iced_8 : decode cX11_iced 8 = .ok (.iconst 1, 1) := by decide +kernel
theorem dX11_iced_9 : decode cX11_iced 9 = .ok (.bipush 60, 2) := by decide +kernel
theorem dX11_iced_11 : decode cX11_iced 11 = .ok (.invokestatic 192, 3) := by decide +kernel
theorem dX11_iced_14 : decode cX11_iced 14 = .ok (.ifCond .ne 5, 3) := by decide +kernel
theorem dX11_iced_17 : decode cX11_iced 17 = .ok (.iconst (-1), 1) := by decide +kernel
theorem dX11_iced_18 : decode cX11_iced 18 = .ok (.ireturn, 1) := by decide +kernel
theorem dX11_iced_19 : decode cX11_iced 19 = .ok (.iconst 0, 1) := by decide +kernel
theorem dX11_iced_20 : decode cX11_iced 20 = .ok (.istore_n 2, 1) := by decide +kernel
theorem dX11_iced_21 : decode cX11_iced 21 = .ok (.iload_n 2, 1) := by decide +kernel
theorem dX11_iced_22 : decode cX11_iced 22 = .ok (.bipush 9, 2) := by decide +kernel
theorem dX11_iced_24 : decode cX11_iced 24 = .ok (.if_icmp .gt 83, 3) := by decide +kernel
theorem dX11_iced_27 : decode cX11_iced 27 = .ok (.aload_n 0, 1) := by decide +kernel
theorem dX11_iced_28 : decode cX11_iced 28 = .ok (.getfield 65, 3) := by decide +kernel
theorem dX11_iced_31 : decode cX11_iced 31 = .ok (.aload_n 0, 1) := by decide +kernel
theorem dX11_iced_32 : decode cX11_iced 32 = .ok (.getfield 41, 3) := by decide +kernel
theorem dX11_iced_35 : decode cX11_iced 35 = .ok (.getfield 140, 3) := by decide +kernel
theorem dX11_iced_38 : decode cX11_iced 38 = .ok (.invokevirtual 214, 3) := by decide +kernel
theorem dX11_iced_41 : decode cX11_iced 41 = .ok (.aload_n 0, 1) := by decide +kernel
theorem dX11_iced_42 : decode cX11_iced 42 = .ok (.getfield 65, 3) := by decide +kernel
theorem dX11_iced_45 : decode cX11_iced 45 = .ok (.iload_n 2, 1) := by decide +kernel
theorem dX11_iced_46 : decode cX11_iced 46 = .ok (.putfield 205, 3) := by decide +kernel
theorem dX11_iced_49 : decode cX11_iced 49 = .ok (.aload_n 0, 1) := by decide +kernel
theorem dX11_iced_50 : decode cX11_iced 50 = .ok (.getfield 58, 3) := by decide +kernel
theorem dX11_iced_53 : decode cX11_iced 53 = .ok (.aload_n 0, 1) := by decide +kernel
theorem dX11_iced_54 : decode cX11_iced 54 = .ok (.getfield 65, 3) := by decide +kernel
theorem dX11_iced_57 : decode cX11_iced 57 = .ok (.aload_n 0, 1) := by decide +kernel
theorem dX11_iced_58 : decode cX11_iced 58 = .ok (.invokevirtual 176, 3) := by decide +kernel
theorem dX11_iced_61 : decode cX11_iced 61 = .ok (.iload_n 1, 1) := by decide +kernel
theorem dX11_iced_62 : decode cX11_iced 62 = .ok (.invokevirtual 218, 3) := by decide +kernel
theorem dX11_iced_65 : decode cX11_iced 65 = .ok (.aload_n 0, 1) := by decide +kernel
theorem dX11_iced_66 : decode cX11_iced 66 = .ok (.getfield 41, 3) := by decide +kernel
theorem dX11_iced_69 : decode cX11_iced 69 = .ok (.getfield 51, 3) := by decide +kernel
theorem dX11_iced_72 : decode cX11_iced 72 = .ok (.aload_n 0, 1) := by decide +kernel
theorem dX11_iced_73 : decode cX11_iced 73 = .ok (.getfield 65, 3) := by decide +kernel
theorem dX11_iced_76 : decode cX11_iced 76 = .ok (.invokevirtual 222, 3) := by decide +kernel
theorem dX11_iced_79 : decode cX11_iced 79 = .ok (.aload_n 0, 1) := by decide +kernel
theorem dX11_iced_80 : decode cX11_iced 80 = .ok (.getfield 41, 3) := by decide +kernel
theorem dX11_iced_83 : decode cX11_iced 83 = .ok (.getfield 51, 3) := by decide +kernel
theorem dX11_iced_86 : decode cX11_iced 86 = .ok (.aload_n 0, 1) := by decide +kernel
theorem dX11_iced_87 : decode cX11_iced 87 = .ok (.getfield 41, 3) := by decide +kernel
theorem dX11_iced_90 : decode cX11_iced 90 = .ok (.getfield 140, 3) := by decide +kernel
theorem dX11_iced_93 : decode cX11_iced 93 = .ok (.invokevirtual 222, 3) := by decide +kernel
theorem dX11_iced_96 : decode cX11_iced 96 = .ok (.if_icmp .ne 5, 3) := by decide +kernel
theorem dX11_iced_99 : decode cX11_iced 99 = .ok (.iload_n 2, 1) := by decide +kernel
theorem dX11_iced_100 : decode cX11_iced 100 = .ok (.ireturn, 1) := by decide +kernel
theorem dX11_iced_101 : decode cX11_iced 101 = .ok (.iinc 2 1, 3) := by decide +kernel
theorem dX11_iced_104 : decode cX11_iced 104 = .ok (.goto (-83), 3) := by decide +kernel
theorem dX11_iced_107 : decode cX11_iced 107 = .ok (.bipush (-2), 2) := by decide +kernel
theorem dX11_iced_109 : decode cX11_iced 109 = .ok (.ireturn, 1) := by decide +kernel
theorem dX11_stood_0 : decode cX11_stood 0 = .ok (.aload_n 0, 1) := by decide +kernel
theorem dX11_stood_1 : decode cX11_stood 1 = .ok (.iload_n 1, 1) := by decide +kernel
theorem dX11_stood_2 : decode cX11_stood 2 = .ok (.invokevirtual 136, 3) := by decide +kernel
theorem dX11_stood_5 : decode cX11_stood 5 = .ok (.ifCond .eq 41, 3) := by decide +kernel
theorem dX11_stood_8 : decode cX11_stood 8 = .ok (.iload_n 2, 1) := by decide +kernel
theorem dX11_stood_9 : decode cX11_stood 9 = .ok (.iconst 0, 1) := by decide +kernel
theorem dX11_stood_10 : decode cX11_stood 10 = .ok (.aload_n 0, 1) := by decide +kernel
theorem dX11_stood_11 : decode cX11_stood 11 = .ok (.getfield 41, 3) := by decide +kernel
theorem dX11_stood_14 : decode cX11_stood 14 = .ok (.getfield 51, 3) := by decide +kernel
theorem dX11_stood_17 : decode cX11_stood 17 = .ok (.getfield 202, 3) := by decide +kernel
theorem dX11_stood_20 : decode cX11_stood 20 = .ok (.invokestatic 192, 3) := by decide +kernel
theorem dX11_stood_23 : decode cX11_stood 23 = .ok (.ifCond .eq 23, 3) := by decide +kernel
theorem dX11_stood_26 : decode cX11_stood 26 = .ok (.iload_n 3, 1) := by decide +kernel
theorem dX11_stood_27 : decode cX11_stood 27 = .ok (.iconst 1, 1) := by decide +kernel
theorem dX11_stood_28 : decode cX11_stood 28 = .ok (.bipush 30, 2) := by decide +kernel
theorem dX11_stood_30 : decode cX11_stood 30 = .ok (.invokestatic 192, 3) := by decide +kernel
theorem dX11_stood_33 : decode cX11_stood 33 = .ok (.ifCond .eq 13, 3) := by decide +kernel
theorem dX11_stood_36 : decode cX11_stood 36 = .ok (.iload 4, 2) := by decide +kernel
theorem dX11_stood_38 : decode cX11_stood 38 = .ok (.iconst 0, 1) := by decide +kernel
theorem dX11_stood_39 : decode cX11_stood 39 = .ok (.iconst 1, 1) := by decide +kernel
theorem dX11_stood_40 : decode cX11_stood 40 = .ok (.invokestatic 192, 3) := by decide +kernel
theorem dX11_stood_43 : decode cX11_stood 43 = .ok (.ifCond .ne 5, 3) := by decide +kernel
theorem dX11_stood_46 : decode cX11_stood 46 = .ok (.iconst (-1), 1) := by decide +kernel
theorem dX11_stood_47 : decode cX11_stood 47 = .ok (.ireturn, 1) := by decide +kernel
theorem dX11_stood_48 : decode cX11_stood 48 = .ok (.iconst 0, 1) := by decide +kernel
theorem dX11_stood_49 : decode cX11_stood 49 = .ok (.istore 5, 2) := by decide +kernel
theorem dX11_stood_51 : decode cX11_stood 51 = .ok (.bipush (-2), 2) := by decide +kernel
theorem dX11_stood_53 : decode cX11_stood 53 = .ok (.istore 6, 2) := by decide +kernel
theorem dX11_stood_55 : decode cX11_stood 55 = .ok (.iconst 0, 1) := by decide +kernel
theorem dX11_stood_56 : decode cX11_stood 56 = .ok (.istore 7, 2) := by decide +kernel
theorem dX11_stood_58 : decode cX11_stood 58 = .ok (.iload 7, 2) := by decide +kernel
theorem dX11_stood_60 : decode cX11_stood 60 = .ok (.iload_n 2, 1) := by decide +kernel
theorem dX11_stood_61 : decode cX11_stood 61 = .ok (.if_icmp .gt 95, 3) := by decide +kernel
theorem dX11_stood_64 : decode cX11_stood 64 = .ok (.iload 7, 2) := by decide +kernel
theorem dX11_stood_66 : decode cX11_stood 66 = .ok (.aload_n 0, 1) := by decide +kernel
theorem dX11_stood_67 : decode cX11_stood 67 = .ok (.getfield 41, 3) := by decide +kernel
theorem dX11_stood_70 : decode cX11_stood 70 = .ok (.getfield 51, 3) := by decide +kernel
theorem dX11_stood_73 : decode cX11_stood 73 = .ok (.getfield 202, 3) := by decide +kernel
theorem dX11_stood_76 : decode cX11_stood 76 = .ok (.if_icmp .ge 80, 3) := by decide +kernel
theorem dX11_stood_79 : decode cX11_stood 79 = .ok (.aload_n 0, 1) := by decide +kernel
theorem dX11_stood_80 : decode cX11_stood 80 = .ok (.getfield 65, 3) := by decide +kernel
theorem dX11_stood_83 : decode cX11_stood 83 = .ok (.aload_n 0, 1) := by decide +kernel
theorem dX11_stood_84 : decode cX11_stood 84 = .ok (.getfield 41, 3) := by decide +kernel
theorem dX11_stood_87 : decode cX11_stood 87 = .ok (.getfield 140, 3) := by decide +kernel
theorem dX11_stood_90 : decode cX11_stood 90 = .ok (.invokevirtual 214, 3) := by decide +kernel
theorem dX11_stood_93 : decode cX11_stood 93 = .ok (.aload_n 0, 1) := by decide +kernel
theorem dX11_stood_94 : decode cX11_stood 94 = .ok (.getfield 65, 3) := by decide +kernel
theorem dX11_stood_97 : decode cX11_stood 97 = .ok (.getfield 143, 3) := by decide +kernel
theorem dX11_stood_100 : decode cX11_stood 100 = .ok (.iload_n 1, 1) := by decide +kernel
theorem dX11_stood_101 : decode cX11_stood 101 = .ok (.iload 7, 2) := by decide +kernel
theorem dX11_stood_103 : decode cX11_stood 103 = .ok (.iastore, 1) := by decide +kernel
theorem dX11_stood_104 : decode cX11_stood 104 = .ok (.aload_n 0, 1) := by decide +kernel
theorem dX11_stood_105 : decode cX11_stood 105 = .ok (.getfield 58, 3) := by decide +kernel
theorem dX11_stood_108 : decode cX11_stood 108 = .ok (.aload_n 0, 1) := by decide +kernel
theorem dX11_stood_109 : decode cX11_stood 109 = .ok (.getfield 65, 3) := by decide +kernel
theorem dX11_stood_112 : decode cX11_stood 112 = .ok (.aload_n 0, 1) := by decide +kernel
theorem dX11_stood_113 : decode cX11_stood 113 = .ok (.invokevirtual 176, 3) := by decide +kernel
theorem dX11_stood_116 : decode cX11_stood 116 = .ok (.iload_n 3, 1) := by decide +kernel
theorem dX11_stood_117 : decode cX11_stood 117 = .ok (.invokevirtual 218, 3) := by decide +kernel
theorem dX11_stood_120 : decode cX11_stood 120 = .ok (.aload_n 0, 1) := by decide +kernel
theorem dX11_stood_121 : decode cX11_stood 121 = .ok (.getfield 65, 3) := by decide +kernel
theorem dX11_stood_124 : decode cX11_stood 124 = .ok (.getfield 143, 3) := by decide +kernel
theorem dX11_stood_127 : decode cX11_stood 127 = .ok (.iload_n 1, 1) := by decide +kernel
theorem dX11_stood_128 : decode cX11_stood 128 = .ok (.iaload, 1) := by decide +kernel
theorem dX11_stood_129 : decode cX11_stood 129 = .ok (.iload_n 2, 1) := by decide +kernel
theorem dX11_stood_130 : decode cX11_stood 130 = .ok (.if_icmp .ne 20, 3) := by decide +kernel
theorem dX11_stood_133 : decode cX11_stood 133 = .ok (.iload 5, 2) := by decide +kernel
theorem dX11_stood_135 : decode cX11_stood 135 = .ok (.ifCond .ne 8, 3) := by decide +kernel
theorem dX11_stood_138 : decode cX11_stood 138 = .ok (.iload 7, 2) := by decide +kernel
theorem dX11_stood_140 : decode cX11_stood 140 = .ok (.goto 5, 3) := by decide +kernel
theorem dX11_stood_143 : decode cX11_stood 143 = .ok (.iload 6, 2) := by decide +kernel
theorem dX11_stood_145 : decode cX11_stood 145 = .ok (.istore 6, 2) := by decide +kernel
theorem dX11_stood_147 : decode cX11_stood 147 = .ok (.iinc 5 1, 3) := by decide +kernel
theorem dX11_stood_150 : decode cX11_stood 150 = .ok (.iinc 7 1, 3) := by decide +kernel
theorem dX11_stood_153 : decode cX11_stood 153 = .ok (.goto (-95), 3) := by decide +kernel
theorem dX11_stood_156 : decode cX11_stood 156 = .ok (.iload 4, 2) := by decide +kernel
theorem dX11_stood_158 : decode cX11_stood 158 = .ok (.ifCond .ne 8, 3) := by decide +kernel
theorem dX11_stood_161 : decode cX11_stood 161 = .ok (.iload 5, 2) := by decide +kernel
theorem dX11_stood_163 : decode cX11_stood 163 = .ok (.goto 5, 3) := by decide +kernel
theorem dX11_stood_166 : decode cX11_stood 166 = .ok (.iload 6, 2) := by decide +kernel
theorem dX11_stood_168 : decode cX11_stood 168 = .ok (.ireturn, 1) := by decide +kernel
theorem dX11_row_0 : decode cX11_row 0 = .ok (.aload_n 0, 1) := by decide +kernel
theorem dX11_row_1 : decode cX11_row 1 = .ok (.invokevirtual 167, 3) := by decide +kernel
theorem dX11_row_4 : decode cX11_row 4 = .ok (.ifCond .eq 21, 3) := by decide +kernel
theorem dX11_row_7 : decode cX11_row 7 = .ok (.iload_n 1, 1) := by decide +kernel
theorem dX11_row_8 : decode cX11_row 8 = .ok (.iconst 1, 1) := by decide +kernel
theorem dX11_row_9 : decode cX11_row 9 = .ok (.iconst 3, 1) := by decide +kernel
theorem dX11_row_10 : decode cX11_row 10 = .ok (.invokestatic 192, 3) := by decide +kernel
theorem dX11_row_13 : decode cX11_row 13 = .ok (.ifCond .eq 12, 3) := by decide +kernel
theorem dX11_row_16 : decode cX11_row 16 = .ok (.iload_n 2, 1) := by decide +kernel
theorem dX11_row_17 : decode cX11_row 17 = .ok (.iconst 0, 1) := by decide +kernel
theorem dX11_row_18 : decode cX11_row 18 = .ok (.iconst 3, 1) := by decide +kernel
theorem dX11_row_19 : decode cX11_row 19 = .ok (.invokestatic 192, 3) := by decide +kernel
theorem dX11_row_22 : decode cX11_row 22 = .ok (.ifCond .ne 6, 3) := by decide +kernel
theorem dX11_row_25 : decode cX11_row 25 = .ok (.bipush (-3), 2) := by decide +kernel
theorem dX11_row_27 : decode cX11_row 27 = .ok (.ireturn, 1) := by decide +kernel
theorem dX11_row_28 : decode cX11_row 28 = .ok (.iload_n 2, 1) := by decide +kernel
theorem dX11_row_29 : decode cX11_row 29 = .ok (.iload_n 1, 1) := by decide +kernel
theorem dX11_row_30 : decode cX11_row 30 = .ok (.if_icmp .le 6, 3) := by decide +kernel
theorem dX11_row_33 : decode cX11_row 33 = .ok (.bipush (-2), 2) := by decide +kernel
theorem dX11_row_35 : decode cX11_row 35 = .ok (.ireturn, 1) := by decide +kernel
theorem dX11_row_36 : decode cX11_row 36 = .ok (.aload_n 0, 1) := by decide +kernel
theorem dX11_row_37 : decode cX11_row 37 = .ok (.getfield 78, 3) := by decide +kernel
theorem dX11_row_40 : decode cX11_row 40 = .ok (.aload_n 0, 1) := by decide +kernel
theorem dX11_row_41 : decode cX11_row 41 = .ok (.getfield 41, 3) := by decide +kernel
theorem dX11_row_44 : decode cX11_row 44 = .ok (.getfield 140, 3) := by decide +kernel
theorem dX11_row_47 : decode cX11_row 47 = .ok (.iload_n 1, 1) := by decide +kernel
theorem dX11_row_48 : decode cX11_row 48 = .ok (.invokevirtual 247, 3) := by decide +kernel
theorem dX11_row_51 : decode cX11_row 51 = .ok (.iload_n 2, 1) := by decide +kernel
theorem dX11_row_52 : decode cX11_row 52 = .ok (.ifCond .ne 13, 3) := by decide +kernel
theorem dX11_row_55 : decode cX11_row 55 = .ok (.aload_n 0, 1) := by decide +kernel
theorem dX11_row_56 : decode cX11_row 56 = .ok (.getfield 78, 3) := by decide +kernel
theorem dX11_row_59 : decode cX11_row 59 = .ok (.getfield 250, 3) := by decide +kernel
theorem dX11_row_62 : decode cX11_row 62 = .ok (.goto 14, 3) := by decide +kernel
theorem dX11_row_65 : decode cX11_row 65 = .ok (.aload_n 0, 1) := by decide +kernel
theorem dX11_row_66 : decode cX11_row 66 = .ok (.getfield 78, 3) := by decide +kernel
theorem dX11_row_69 : decode cX11_row 69 = .ok (.getfield 253, 3) := by decide +kernel
theorem dX11_row_72 : decode cX11_row 72 = .ok (.iload_n 2, 1) := by decide +kernel
theorem dX11_row_73 : decode cX11_row 73 = .ok (.iconst 1, 1) := by decide +kernel
theorem dX11_row_74 : decode cX11_row 74 = .ok (.isub, 1) := by decide +kernel
theorem dX11_row_75 : decode cX11_row 75 = .ok (.iaload, 1) := by decide +kernel
theorem dX11_row_76 : decode cX11_row 76 = .ok (.ireturn, 1) := by decide +kernel
theorem dX11_order_0 : decode cX11_order 0 = .ok (.aload_n 0, 1) := by decide +kernel
theorem dX11_order_1 : decode cX11_order 1 = .ok (.iload_n 1, 1) := by decide +kernel
theorem dX11_order_2 : decode cX11_order 2 = .ok (.invokevirtual 136, 3) := by decide +kernel
theorem dX11_order_5 : decode cX11_order 5 = .ok (.ifCond .ne 5, 3) := by decide +kernel
theorem dX11_order_8 : decode cX11_order 8 = .ok (.iconst (-1), 1) := by decide +kernel
theorem dX11_order_9 : decode cX11_order 9 = .ok (.ireturn, 1) := by decide +kernel
theorem dX11_order_10 : decode cX11_order 10 = .ok (.aload_n 0, 1) := by decide +kernel
theorem dX11_order_11 : decode cX11_order 11 = .ok (.invokevirtual 230, 3) := by decide +kernel
theorem dX11_order_14 : decode cX11_order 14 = .ok (.iconst 0, 1) := by decide +kernel
theorem dX11_order_15 : decode cX11_order 15 = .ok (.istore_n 2, 1) := by decide +kernel
theorem dX11_order_16 : decode cX11_order 16 = .ok (.iconst 0, 1) := by decide +kernel
theorem dX11_order_17 : decode cX11_order 17 = .ok (.istore_n 3, 1) := by decide +kernel
theorem dX11_order_18 : decode cX11_order 18 = .ok (.iload_n 3, 1) := by decide +kernel
theorem dX11_order_19 : decode cX11_order 19 = .ok (.aload_n 0, 1) := by decide +kernel
theorem dX11_order_20 : decode cX11_order 20 = .ok (.getfield 41, 3) := by decide +kernel
theorem dX11_order_23 : decode cX11_order 23 = .ok (.getfield 51, 3) := by decide +kernel
theorem dX11_order_26 : decode cX11_order 26 = .ok (.getfield 117, 3) := by decide +kernel
theorem dX11_order_29 : decode cX11_order 29 = .ok (.if_icmp .ge 59, 3) := by decide +kernel
theorem dX11_order_32 : decode cX11_order 32 = .ok (.aload_n 0, 1) := by decide +kernel
theorem dX11_order_33 : decode cX11_order 33 = .ok (.getfield 69, 3) := by decide +kernel
theorem dX11_order_36 : decode cX11_order 36 = .ok (.iload_n 3, 1) := by decide +kernel
theorem dX11_order_37 : decode cX11_order 37 = .ok (.iaload, 1) := by decide +kernel
theorem dX11_order_38 : decode cX11_order 38 = .ok (.aload_n 0, 1) := by decide +kernel
theorem dX11_order_39 : decode cX11_order 39 = .ok (.getfield 69, 3) := by decide +kernel
theorem dX11_order_42 : decode cX11_order 42 = .ok (.iload_n 1, 1) := by decide +kernel
theorem dX11_order_43 : decode cX11_order 43 = .ok (.iaload, 1) := by decide +kernel
theorem dX11_order_44 : decode cX11_order 44 = .ok (.if_icmp .ge 7, 3) := by decide +kernel
theorem dX11_order_47 : decode cX11_order 47 = .ok (.iconst 1, 1) := by decide +kernel
theorem dX11_order_48 : decode cX11_order 48 = .ok (.goto 4, 3) := by decide +kernel
theorem dX11_order_51 : decode cX11_order 51 = .ok (.iconst 0, 1) := by decide +kernel
theorem dX11_order_52 : decode cX11_order 52 = .ok (.istore 4, 2) := by decide +kernel
theorem dX11_order_54 : decode cX11_order 54 = .ok (.iload 4, 2) := by decide +kernel
theorem dX11_order_56 : decode cX11_order 56 = .ok (.ifCond .ne 23, 3) := by decide +kernel
theorem dX11_order_59 : decode cX11_order 59 = .ok (.aload_n 0, 1) := by decide +kernel
theorem dX11_order_60 : decode cX11_order 60 = .ok (.getfield 69, 3) := by decide +kernel
theorem dX11_order_63 : decode cX11_order 63 = .ok (.iload_n 3, 1) := by decide +kernel
theorem dX11_order_64 : decode cX11_order 64 = .ok (.iaload, 1) := by decide +kernel
theorem dX11_order_65 : decode cX11_order 65 = .ok (.aload_n 0, 1) := by decide +kernel
theorem dX11_order_66 : decode cX11_order 66 = .ok (.getfield 69, 3) := by decide +kernel
theorem dX11_order_69 : decode cX11_order 69 = .ok (.iload_n 1, 1) := by decide +kernel
theorem dX11_order_70 : decode cX11_order 70 = .ok (.iaload, 1) := by decide +kernel
theorem dX11_order_71 : decode cX11_order 71 = .ok (.if_icmp .ne 11, 3) := by decide +kernel
theorem dX11_order_74 : decode cX11_order 74 = .ok (.iload_n 3, 1) := by decide +kernel
theorem dX11_order_75 : decode cX11_order 75 = .ok (.iload_n 1, 1) := by decide +kernel
theorem dX11_order_76 : decode cX11_order 76 = .ok (.if_icmp .ge 6, 3) := by decide +kernel
theorem dX11_order_79 : decode cX11_order 79 = .ok (.iinc 2 1, 3) := by decide +kernel
theorem dX11_order_82 : decode cX11_order 82 = .ok (.iinc 3 1, 3) := by decide +kernel
theorem dX11_order_85 : decode cX11_order 85 = .ok (.goto (-67), 3) := by decide +kernel
theorem dX11_order_88 : decode cX11_order 88 = .ok (.iload_n 2, 1) := by decide +kernel
theorem dX11_order_89 : decode cX11_order 89 = .ok (.ireturn, 1) := by decide +kernel
theorem dX11_rests_0 : decode cX11_rests 0 = .ok (.aload_n 0, 1) := by decide +kernel
theorem dX11_rests_1 : decode cX11_rests 1 = .ok (.iload_n 1, 1) := by decide +kernel
theorem dX11_rests_2 : decode cX11_rests 2 = .ok (.iload_n 2, 1) := by decide +kernel
theorem dX11_rests_3 : decode cX11_rests 3 = .ok (.invokevirtual 159, 3) := by decide +kernel
theorem dX11_rests_6 : decode cX11_rests 6 = .ok (.ifCond .eq 23, 3) := by decide +kernel
theorem dX11_rests_9 : decode cX11_rests 9 = .ok (.iload_n 3, 1) := by decide +kernel
theorem dX11_rests_10 : decode cX11_rests 10 = .ok (.iconst 1, 1) := by decide +kernel
theorem dX11_rests_11 : decode cX11_rests 11 = .ok (.bipush 20, 2) := by decide +kernel
theorem dX11_rests_13 : decode cX11_rests 13 = .ok (.invokestatic 192, 3) := by decide +kernel
theorem dX11_rests_16 : decode cX11_rests 16 = .ok (.ifCond .eq 13, 3) := by decide +kernel
theorem dX11_rests_19 : decode cX11_rests 19 = .ok (.iload 4, 2) := by decide +kernel
theorem dX11_rests_21 : decode cX11_rests 21 = .ok (.iconst 0, 1) := by decide +kernel
theorem dX11_rests_22 : decode cX11_rests 22 = .ok (.iconst 2, 1) := by decide +kernel
theorem dX11_rests_23 : decode cX11_rests 23 = .ok (.invokestatic 192, 3) := by decide +kernel
theorem dX11_rests_26 : decode cX11_rests 26 = .ok (.ifCond .ne 5, 3) := by decide +kernel
theorem dX11_rests_29 : decode cX11_rests 29 = .ok (.iconst (-1), 1) := by decide +kernel
theorem dX11_rests_30 : decode cX11_rests 30 = .ok (.ireturn, 1) := by decide +kernel
theorem dX11_rests_31 : decode cX11_rests 31 = .ok (.aload_n 0, 1) := by decide +kernel
theorem dX11_rests_32 : decode cX11_rests 32 = .ok (.getfield 85, 3) := by decide +kernel
theorem dX11_rests_35 : decode cX11_rests 35 = .ok (.aload_n 0, 1) := by decide +kernel
theorem dX11_rests_36 : decode cX11_rests 36 = .ok (.getfield 41, 3) := by decide +kernel
theorem dX11_rests_39 : decode cX11_rests 39 = .ok (.getfield 140, 3) := by decide +kernel
theorem dX11_rests_42 : decode cX11_rests 42 = .ok (.aload_n 0, 1) := by decide +kernel
theorem dX11_rests_43 : decode cX11_rests 43 = .ok (.invokevirtual 176, 3) := by decide +kernel
theorem dX11_rests_46 : decode cX11_rests 46 = .ok (.iload_n 1, 1) := by decide +kernel
theorem dX11_rests_47 : decode cX11_rests 47 = .ok (.iload_n 2, 1) := by decide +kernel
theorem dX11_rests_48 : decode cX11_rests 48 = .ok (.iload_n 3, 1) := by decide +kernel
theorem dX11_rests_49 : decode cX11_rests 49 = .ok (.invokevirtual 256, 3) := by decide +kernel
theorem dX11_rests_52 : decode cX11_rests 52 = .ok (.aload_n 0, 1) := by decide +kernel
theorem dX11_rests_53 : decode cX11_rests 53 = .ok (.getfield 85, 3) := by decide +kernel
theorem dX11_rests_56 : decode cX11_rests 56 = .ok (.invokevirtual 260, 3) := by decide +kernel
theorem dX11_rests_59 : decode cX11_rests 59 = .ok (.iload 4, 2) := by decide +kernel
theorem dX11_rests_61 : decode cX11_rests 61 = .ok (.ifCond .ne 11, 3) := by decide +kernel
theorem dX11_rests_64 : decode cX11_rests 64 = .ok (.aload_n 0, 1) := by decide +kernel
theorem dX11_rests_65 : decode cX11_rests 65 = .ok (.getfield 85, 3) := by decide +kernel
theorem dX11_rests_68 : decode cX11_rests 68 = .ok (.getfield 262, 3) := by decide +kernel
theorem dX11_rests_71 : decode cX11_rests 71 = .ok (.ireturn, 1) := by decide +kernel
theorem dX11_rests_72 : decode cX11_rests 72 = .ok (.iload 4, 2) := by decide +kernel
theorem dX11_rests_74 : decode cX11_rests 74 = .ok (.iconst 1, 1) := by decide +kernel
theorem dX11_rests_75 : decode cX11_rests 75 = .ok (.if_icmp .ne 13, 3) := by decide +kernel
theorem dX11_rests_78 : decode cX11_rests 78 = .ok (.aload_n 0, 1) := by decide +kernel
theorem dX11_rests_79 : decode cX11_rests 79 = .ok (.getfield 85, 3) := by decide +kernel
theorem dX11_rests_82 : decode cX11_rests 82 = .ok (.getfield 265, 3) := by decide +kernel
theorem dX11_rests_85 : decode cX11_rests 85 = .ok (.goto 10, 3) := by decide +kernel
theorem dX11_rests_88 : decode cX11_rests 88 = .ok (.aload_n 0, 1) := by decide +kernel
theorem dX11_rests_89 : decode cX11_rests 89 = .ok (.getfield 85, 3) := by decide +kernel
theorem dX11_rests_92 : decode cX11_rests 92 = .ok (.getfield 268, 3) := by decide +kernel
theorem dX11_rests_95 : decode cX11_rests 95 = .ok (.ireturn, 1) := by decide +kernel
theorem dX11_parts_0 : decode cX11_parts 0 = .ok (.aload_n 0, 1) := by decide +kernel
theorem dX11_parts_1 : decode cX11_parts 1 = .ok (.iload_n 2, 1) := by decide +kernel
theorem dX11_parts_2 : decode cX11_parts 2 = .ok (.invokevirtual 136, 3) := by decide +kernel
theorem dX11_parts_5 : decode cX11_parts 5 = .ok (.ifCond .eq 14, 3) := by decide +kernel
theorem dX11_parts_8 : decode cX11_parts 8 = .ok (.iload_n 1, 1) := by decide +kernel
theorem dX11_parts_9 : decode cX11_parts 9 = .ok (.iconst 0, 1) := by decide +kernel
theorem dX11_parts_10 : decode cX11_parts 10 = .ok (.sipush 9999, 3) := by decide +kernel
theorem dX11_parts_13 : decode cX11_parts 13 = .ok (.invokestatic 192, 3) := by decide +kernel
theorem dX11_parts_16 : decode cX11_parts 16 = .ok (.ifCond .ne 5, 3) := by decide +kernel
theorem dX11_parts_19 : decode cX11_parts 19 = .ok (.iconst (-1), 1) := by decide +kernel
theorem dX11_parts_20 : decode cX11_parts 20 = .ok (.ireturn, 1) := by decide +kernel
theorem dX11_parts_21 : decode cX11_parts 21 = .ok (.iconst 0, 1) := by decide +kernel
theorem dX11_parts_22 : decode cX11_parts 22 = .ok (.istore_n 3, 1) := by decide +kernel
theorem dX11_parts_23 : decode cX11_parts 23 = .ok (.iconst 0, 1) := by decide +kernel
theorem dX11_parts_24 : decode cX11_parts 24 = .ok (.istore 4, 2) := by decide +kernel
theorem dX11_parts_26 : decode cX11_parts 26 = .ok (.iload 4, 2) := by decide +kernel
theorem dX11_parts_28 : decode cX11_parts 28 = .ok (.aload_n 0, 1) := by decide +kernel
theorem dX11_parts_29 : decode cX11_parts 29 = .ok (.getfield 41, 3) := by decide +kernel
theorem dX11_parts_32 : decode cX11_parts 32 = .ok (.getfield 51, 3) := by decide +kernel
theorem dX11_parts_35 : decode cX11_parts 35 = .ok (.getfield 117, 3) := by decide +kernel
theorem dX11_parts_38 : decode cX11_parts 38 = .ok (.if_icmp .ge 24, 3) := by decide +kernel
theorem dX11_parts_41 : decode cX11_parts 41 = .ok (.iload_n 3, 1) := by decide +kernel
theorem dX11_parts_42 : decode cX11_parts 42 = .ok (.aload_n 0, 1) := by decide +kernel
theorem dX11_parts_43 : decode cX11_parts 43 = .ok (.getfield 41, 3) := by decide +kernel
theorem dX11_parts_46 : decode cX11_parts 46 = .ok (.getfield 140, 3) := by decide +kernel
theorem dX11_parts_49 : decode cX11_parts 49 = .ok (.iload 4, 2) := by decide +kernel
theorem dX11_parts_51 : decode cX11_parts 51 = .ok (.invokevirtual 271, 3) := by decide +kernel
theorem dX11_parts_54 : decode cX11_parts 54 = .ok (.iadd, 1) := by decide +kernel
theorem dX11_parts_55 : decode cX11_parts 55 = .ok (.istore_n 3, 1) := by decide +kernel
theorem dX11_parts_56 : decode cX11_parts 56 = .ok (.iinc 4 1, 3) := by decide +kernel
theorem dX11_parts_59 : decode cX11_parts 59 = .ok (.goto (-33), 3) := by decide +kernel
theorem dX11_parts_62 : decode cX11_parts 62 = .ok (.iload_n 3, 1) := by decide +kernel
theorem dX11_parts_63 : decode cX11_parts 63 = .ok (.ifCond .gt 5, 3) := by decide +kernel
theorem dX11_parts_66 : decode cX11_parts 66 = .ok (.iconst 0, 1) := by decide +kernel
theorem dX11_parts_67 : decode cX11_parts 67 = .ok (.ireturn, 1) := by decide +kernel
theorem dX11_parts_68 : decode cX11_parts 68 = .ok (.iload_n 1, 1) := by decide +kernel
theorem dX11_parts_69 : decode cX11_parts 69 = .ok (.istore 4, 2) := by decide +kernel
theorem dX11_parts_71 : decode cX11_parts 71 = .ok (.iconst 0, 1) := by decide +kernel
theorem dX11_parts_72 : decode cX11_parts 72 = .ok (.istore 5, 2) := by decide +kernel
theorem dX11_parts_74 : decode cX11_parts 74 = .ok (.iload_n 1, 1) := by decide +kernel
theorem dX11_parts_75 : decode cX11_parts 75 = .ok (.aload_n 0, 1) := by decide +kernel
theorem dX11_parts_76 : decode cX11_parts 76 = .ok (.getfield 41, 3) := by decide +kernel
theorem dX11_parts_79 : decode cX11_parts 79 = .ok (.getfield 140, 3) := by decide +kernel
theorem dX11_parts_82 : decode cX11_parts 82 = .ok (.iload_n 2, 1) := by decide +kernel
theorem dX11_parts_83 : decode cX11_parts 83 = .ok (.invokevirtual 271, 3) := by decide +kernel
theorem dX11_parts_86 : decode cX11_parts 86 = .ok (.imul, 1) := by decide +kernel
theorem dX11_parts_87 : decode cX11_parts 87 = .ok (.iload_n 3, 1) := by decide +kernel
theorem dX11_parts_88 : decode cX11_parts 88 = .ok (.irem, 1) := by decide +kernel
theorem dX11_parts_89 : decode cX11_parts 89 = .ok (.istore 6, 2) := by decide +kernel
theorem dX11_parts_91 : decode cX11_parts 91 = .ok (.iconst 0, 1) := by decide +kernel
theorem dX11_parts_92 : decode cX11_parts 92 = .ok (.istore 7, 2) := by decide +kernel
theorem dX11_parts_94 : decode cX11_parts 94 = .ok (.iload 7, 2) := by decide +kernel
theorem dX11_parts_96 : decode cX11_parts 96 = .ok (.aload_n 0, 1) := by decide +kernel
theorem dX11_parts_97 : decode cX11_parts 97 = .ok (.getfield 41, 3) := by decide +kernel
theorem dX11_parts_100 : decode cX11_parts 100 = .ok (.getfield 51, 3) := by decide +kernel
theorem dX11_parts_103 : decode cX11_parts 103 = .ok (.getfield 117, 3) := by decide +kernel
theorem dX11_parts_106 : decode cX11_parts 106 = .ok (.if_icmp .ge 61, 3) := by decide +kernel
theorem dX11_parts_109 : decode cX11_parts 109 = .ok (.iload_n 1, 1) := by decide +kernel
theorem dX11_parts_110 : decode cX11_parts 110 = .ok (.aload_n 0, 1) := by decide +kernel
theorem dX11_parts_111 : decode cX11_parts 111 = .ok (.getfield 41, 3) := by decide +kernel
theorem dX11_parts_114 : decode cX11_parts 114 = .ok (.getfield 140, 3) := by decide +kernel
theorem dX11_parts_117 : decode cX11_parts 117 = .ok (.iload 7, 2) := by decide +kernel
theorem dX11_parts_119 : decode cX11_parts 119 = .ok (.invokevirtual 271, 3) := by decide +kernel
theorem dX11_parts_122 : decode cX11_parts 122 = .ok (.imul, 1) := by decide +kernel
theorem dX11_parts_123 : decode cX11_parts 123 = .ok (.istore 8, 2) := by decide +kernel
theorem dX11_parts_125 : decode cX11_parts 125 = .ok (.iload 4, 2) := by decide +kernel
theorem dX11_parts_127 : decode cX11_parts 127 = .ok (.iload 8, 2) := by decide +kernel
theorem dX11_parts_129 : decode cX11_parts 129 = .ok (.iload_n 3, 1) := by decide +kernel
theorem dX11_parts_130 : decode cX11_parts 130 = .ok (.idiv, 1) := by decide +kernel
theorem dX11_parts_131 : decode cX11_parts 131 = .ok (.isub, 1) := by decide +kernel
theorem dX11_parts_132 : decode cX11_parts 132 = .ok (.istore 4, 2) := by decide +kernel
theorem dX11_parts_134 : decode cX11_parts 134 = .ok (.iload 8, 2) := by decide +kernel
theorem dX11_parts_136 : decode cX11_parts 136 = .ok (.iload_n 3, 1) := by decide +kernel
theorem dX11_parts_137 : decode cX11_parts 137 = .ok (.irem, 1) := by decide +kernel
theorem dX11_parts_138 : decode cX11_parts 138 = .ok (.iload 6, 2) := by decide +kernel
theorem dX11_parts_140 : decode cX11_parts 140 = .ok (.if_icmp .gt 18, 3) := by decide +kernel
theorem dX11_parts_143 : decode cX11_parts 143 = .ok (.iload 8, 2) := by decide +kernel
theorem dX11_parts_145 : decode cX11_parts 145 = .ok (.iload_n 3, 1) := by decide +kernel
theorem dX11_parts_146 : decode cX11_parts 146 = .ok (.irem, 1) := by decide +kernel
theorem dX11_parts_147 : decode cX11_parts 147 = .ok (.iload 6, 2) := by decide +kernel
theorem dX11_parts_149 : decode cX11_parts 149 = .ok (.if_icmp .ne 12, 3) := by decide +kernel
theorem dX11_parts_152 : decode cX11_parts 152 = .ok (.iload 7, 2) := by decide +kernel
theorem dX11_parts_154 : decode cX11_parts 154 = .ok (.iload_n 2, 1) := by decide +kernel
theorem dX11_parts_155 : decode cX11_parts 155 = .ok (.if_icmp .ge 6, 3) := by decide +kernel
theorem dX11_parts_158 : decode cX11_parts 158 = .ok (.iinc 5 1, 3) := by decide +kernel
theorem dX11_parts_161 : decode cX11_parts 161 = .ok (.iinc 7 1, 3) := by decide +kernel
theorem dX11_parts_164 : decode cX11_parts 164 = .ok (.goto (-70), 3) := by decide +kernel
theorem dX11_parts_167 : decode cX11_parts 167 = .ok (.iload_n 1, 1) := by decide +kernel
theorem dX11_parts_168 : decode cX11_parts 168 = .ok (.aload_n 0, 1) := by decide +kernel
theorem dX11_parts_169 : decode cX11_parts 169 = .ok (.getfield 41, 3) := by decide +kernel
theorem dX11_parts_172 : decode cX11_parts 172 = .ok (.getfield 140, 3) := by decide +kernel
theorem dX11_parts_175 : decode cX11_parts 175 = .ok (.iload_n 2, 1) := by decide +kernel
theorem dX11_parts_176 : decode cX11_parts 176 = .ok (.invokevirtual 271, 3) := by decide +kernel
theorem dX11_parts_179 : decode cX11_parts 179 = .ok (.imul, 1) := by decide +kernel
theorem dX11_parts_180 : decode cX11_parts 180 = .ok (.iload_n 3, 1) := by decide +kernel
theorem dX11_parts_181 : decode cX11_parts 181 = .ok (.idiv, 1) := by decide +kernel
theorem dX11_parts_182 : decode cX11_parts 182 = .ok (.iload 5, 2) := by decide +kernel
theorem dX11_parts_184 : decode cX11_parts 184 = .ok (.iload 4, 2) := by decide +kernel
theorem dX11_parts_186 : decode cX11_parts 186 = .ok (.if_icmp .ge 7, 3) := by decide +kernel
theorem dX11_parts_189 : decode cX11_parts 189 = .ok (.iconst 1, 1) := by decide +kernel
theorem dX11_parts_190 : decode cX11_parts 190 = .ok (.goto 4, 3) := by decide +kernel
theorem dX11_parts_193 : decode cX11_parts 193 = .ok (.iconst 0, 1) := by decide +kernel
theorem dX11_parts_194 : decode cX11_parts 194 = .ok (.iadd, 1) := by decide +kernel
theorem dX11_parts_195 : decode cX11_parts 195 = .ok (.ireturn, 1) := by decide +kernel
theorem dX11_note_0 : decode cX11_note 0 = .ok (.iload_n 1, 1) := by decide +kernel
theorem dX11_note_1 : decode cX11_note 1 = .ok (.iconst (-1), 1) := by decide +kernel
theorem dX11_note_2 : decode cX11_note 2 = .ok (.if_icmp .ne 13, 3) := by decide +kernel
theorem dX11_note_5 : decode cX11_note 5 = .ok (.aload_n 0, 1) := by decide +kernel
theorem dX11_note_6 : decode cX11_note 6 = .ok (.getfield 41, 3) := by decide +kernel
theorem dX11_note_9 : decode cX11_note 9 = .ok (.iconst 0, 1) := by decide +kernel
theorem dX11_note_10 : decode cX11_note 10 = .ok (.putfield 274, 3) := by decide +kernel
theorem dX11_note_13 : decode cX11_note 13 = .ok (.iconst 0, 1) := by decide +kernel
theorem dX11_note_14 : decode cX11_note 14 = .ok (.ireturn, 1) := by decide +kernel
theorem dX11_note_15 : decode cX11_note 15 = .ok (.iload_n 1, 1) := by decide +kernel
theorem dX11_note_16 : decode cX11_note 16 = .ok (.iconst 0, 1) := by decide +kernel
theorem dX11_note_17 : decode cX11_note 17 = .ok (.bipush 60, 2) := by decide +kernel
theorem dX11_note_19 : decode cX11_note 19 = .ok (.invokestatic 192, 3) := by decide +kernel
theorem dX11_note_22 : decode cX11_note 22 = .ok (.ifCond .eq 41, 3) := by decide +kernel
theorem dX11_note_25 : decode cX11_note 25 = .ok (.aload_n 0, 1) := by decide +kernel
theorem dX11_note_26 : decode cX11_note 26 = .ok (.iload_n 2, 1) := by decide +kernel
theorem dX11_note_27 : decode cX11_note 27 = .ok (.invokevirtual 136, 3) := by decide +kernel
theorem dX11_note_30 : decode cX11_note 30 = .ok (.ifCond .eq 33, 3) := by decide +kernel
theorem dX11_note_33 : decode cX11_note 33 = .ok (.iload_n 3, 1) := by decide +kernel
theorem dX11_note_34 : decode cX11_note 34 = .ok (.iconst 0, 1) := by decide +kernel
theorem dX11_note_35 : decode cX11_note 35 = .ok (.aload_n 0, 1) := by decide +kernel
theorem dX11_note_36 : decode cX11_note 36 = .ok (.getfield 41, 3) := by decide +kernel
theorem dX11_note_39 : decode cX11_note 39 = .ok (.getfield 51, 3) := by decide +kernel
theorem dX11_note_42 : decode cX11_note 42 = .ok (.getfield 202, 3) := by decide +kernel
theorem dX11_note_45 : decode cX11_note 45 = .ok (.invokestatic 192, 3) := by decide +kernel
theorem dX11_note_48 : decode cX11_note 48 = .ok (.ifCond .eq 15, 3) := by decide +kernel
theorem dX11_note_51 : decode cX11_note 51 = .ok (.aload_n 0, 1) := by decide +kernel
theorem dX11_note_52 : decode cX11_note 52 = .ok (.getfield 41, 3) := by decide +kernel
theorem dX11_note_55 : decode cX11_note 55 = .ok (.getfield 274, 3) := by decide +kernel
theorem dX11_note_58 : decode cX11_note 58 = .ok (.bipush 10, 2) := by decide +kernel
theorem dX11_note_60 : decode cX11_note 60 = .ok (.if_icmp .lt 6, 3) := by decide +kernel
theorem dX11_note_63 : decode cX11_note 63 = .ok (.bipush (-2), 2) := by decide +kernel
theorem dX11_note_65 : decode cX11_note 65 = .ok (.ireturn, 1) := by decide +kernel
theorem dX11_note_66 : decode cX11_note 66 = .ok (.aload_n 0, 1) := by decide +kernel
theorem dX11_note_67 : decode cX11_note 67 = .ok (.getfield 41, 3) := by decide +kernel
theorem dX11_note_70 : decode cX11_note 70 = .ok (.iload_n 1, 1) := by decide +kernel
theorem dX11_note_71 : decode cX11_note 71 = .ok (.iload_n 2, 1) := by decide +kernel
theorem dX11_note_72 : decode cX11_note 72 = .ok (.iload_n 3, 1) := by decide +kernel
theorem dX11_note_73 : decode cX11_note 73 = .ok (.invokevirtual 277, 3) := by decide +kernel
theorem dX11_note_76 : decode cX11_note 76 = .ok (.aload_n 0, 1) := by decide +kernel
theorem dX11_note_77 : decode cX11_note 77 = .ok (.getfield 41, 3) := by decide +kernel
theorem dX11_note_80 : decode cX11_note 80 = .ok (.getfield 274, 3) := by decide +kernel
theorem dX11_note_83 : decode cX11_note 83 = .ok (.ireturn, 1) := by decide +kernel
theorem dX11_ruled_0 : decode cX11_ruled 0 = .ok (.aload_n 0, 1) := by decide +kernel
theorem dX11_ruled_1 : decode cX11_ruled 1 = .ok (.invokevirtual 167, 3) := by decide +kernel
theorem dX11_ruled_4 : decode cX11_ruled 4 = .ok (.ifCond .eq 12, 3) := by decide +kernel
theorem dX11_ruled_7 : decode cX11_ruled 7 = .ok (.iload_n 1, 1) := by decide +kernel
theorem dX11_ruled_8 : decode cX11_ruled 8 = .ok (.iconst 0, 1) := by decide +kernel
theorem dX11_ruled_9 : decode cX11_ruled 9 = .ok (.iconst 1, 1) := by decide +kernel
theorem dX11_ruled_10 : decode cX11_ruled 10 = .ok (.invokestatic 192, 3) := by decide +kernel
theorem dX11_ruled_13 : decode cX11_ruled 13 = .ok (.ifCond .ne 6, 3) := by decide +kernel
theorem dX11_ruled_16 : decode cX11_ruled 16 = .ok (.bipush (-3), 2) := by decide +kernel
theorem dX11_ruled_18 : decode cX11_ruled 18 = .ok (.ireturn, 1) := by decide +kernel
theorem dX11_ruled_19 : decode cX11_ruled 19 = .ok (.aload_n 0, 1) := by decide +kernel
theorem dX11_ruled_20 : decode cX11_ruled 20 = .ok (.getfield 92, 3) := by decide +kernel
theorem dX11_ruled_23 : decode cX11_ruled 23 = .ok (.aload_n 0, 1) := by decide +kernel
theorem dX11_ruled_24 : decode cX11_ruled 24 = .ok (.getfield 41, 3) := by decide +kernel
theorem dX11_ruled_27 : decode cX11_ruled 27 = .ok (.aload_n 0, 1) := by decide +kernel
theorem dX11_ruled_28 : decode cX11_ruled 28 = .ok (.getfield 34, 3) := by decide +kernel
theorem dX11_ruled_31 : decode cX11_ruled 31 = .ok (.aload_n 0, 1) := by decide +kernel
theorem dX11_ruled_32 : decode cX11_ruled 32 = .ok (.getfield 122, 3) := by decide +kernel
theorem dX11_ruled_35 : decode cX11_ruled 35 = .ok (.iconst 0, 1) := by decide +kernel
theorem dX11_ruled_36 : decode cX11_ruled 36 = .ok (.invokevirtual 280, 3) := by decide +kernel
theorem dX11_ruled_39 : decode cX11_ruled 39 = .ok (.iload_n 1, 1) := by decide +kernel
theorem dX11_ruled_40 : decode cX11_ruled 40 = .ok (.ifCond .ne 11, 3) := by decide +kernel
theorem dX11_ruled_43 : decode cX11_ruled 43 = .ok (.aload_n 0, 1) := by decide +kernel
theorem dX11_ruled_44 : decode cX11_ruled 44 = .ok (.getfield 92, 3) := by decide +kernel
theorem dX11_ruled_47 : decode cX11_ruled 47 = .ok (.getfield 283, 3) := by decide +kernel
theorem dX11_ruled_50 : decode cX11_ruled 50 = .ok (.ireturn, 1) := by decide +kernel
theorem dX11_ruled_51 : decode cX11_ruled 51 = .ok (.aload_n 0, 1) := by decide +kernel
theorem dX11_ruled_52 : decode cX11_ruled 52 = .ok (.getfield 92, 3) := by decide +kernel
theorem dX11_ruled_55 : decode cX11_ruled 55 = .ok (.getfield 283, 3) := by decide +kernel
theorem dX11_ruled_58 : decode cX11_ruled 58 = .ok (.ifCond .le 15, 3) := by decide +kernel
theorem dX11_ruled_61 : decode cX11_ruled 61 = .ok (.aload_n 0, 1) := by decide +kernel
theorem dX11_ruled_62 : decode cX11_ruled 62 = .ok (.getfield 92, 3) := by decide +kernel
theorem dX11_ruled_65 : decode cX11_ruled 65 = .ok (.getfield 284, 3) := by decide +kernel
theorem dX11_ruled_68 : decode cX11_ruled 68 = .ok (.iconst 0, 1) := by decide +kernel
theorem dX11_ruled_69 : decode cX11_ruled 69 = .ok (.iaload, 1) := by decide +kernel
theorem dX11_ruled_70 : decode cX11_ruled 70 = .ok (.goto 5, 3) := by decide +kernel
theorem dX11_ruled_73 : decode cX11_ruled 73 = .ok (.bipush (-2), 2) := by decide +kernel
theorem dX11_ruled_75 : decode cX11_ruled 75 = .ok (.ireturn, 1) := by decide +kernel
theorem dX11_look_0 : decode cX11_look 0 = .ok (.aload_n 0, 1) := by decide +kernel
theorem dX11_look_1 : decode cX11_look 1 = .ok (.invokevirtual 167, 3) := by decide +kernel
theorem dX11_look_4 : decode cX11_look 4 = .ok (.ifCond .eq 22, 3) := by decide +kernel
theorem dX11_look_7 : decode cX11_look 7 = .ok (.iload_n 1, 1) := by decide +kernel
theorem dX11_look_8 : decode cX11_look 8 = .ok (.iconst 0, 1) := by decide +kernel
theorem dX11_look_9 : decode cX11_look 9 = .ok (.bipush 60, 2) := by decide +kernel
theorem dX11_look_11 : decode cX11_look 11 = .ok (.invokestatic 192, 3) := by decide +kernel
theorem dX11_look_14 : decode cX11_look 14 = .ok (.ifCond .eq 12, 3) := by decide +kernel
theorem dX11_look_17 : decode cX11_look 17 = .ok (.iload_n 2, 1) := by decide +kernel
theorem dX11_look_18 : decode cX11_look 18 = .ok (.iconst 0, 1) := by decide +kernel
theorem dX11_look_19 : decode cX11_look 19 = .ok (.iconst 1, 1) := by decide +kernel
theorem dX11_look_20 : decode cX11_look 20 = .ok (.invokestatic 192, 3) := by decide +kernel
theorem dX11_look_23 : decode cX11_look 23 = .ok (.ifCond .ne 5, 3) := by decide +kernel
theorem dX11_look_26 : decode cX11_look 26 = .ok (.iconst (-1), 1) := by decide +kernel
theorem dX11_look_27 : decode cX11_look 27 = .ok (.ireturn, 1) := by decide +kernel
theorem dX11_look_28 : decode cX11_look 28 = .ok (.aload_n 0, 1) := by decide +kernel
theorem dX11_look_29 : decode cX11_look 29 = .ok (.getfield 92, 3) := by decide +kernel
theorem dX11_look_32 : decode cX11_look 32 = .ok (.aload_n 0, 1) := by decide +kernel
theorem dX11_look_33 : decode cX11_look 33 = .ok (.getfield 41, 3) := by decide +kernel
theorem dX11_look_36 : decode cX11_look 36 = .ok (.aload_n 0, 1) := by decide +kernel
theorem dX11_look_37 : decode cX11_look 37 = .ok (.getfield 34, 3) := by decide +kernel
theorem dX11_look_40 : decode cX11_look 40 = .ok (.aload_n 0, 1) := by decide +kernel
theorem dX11_look_41 : decode cX11_look 41 = .ok (.getfield 122, 3) := by decide +kernel
theorem dX11_look_44 : decode cX11_look 44 = .ok (.iload_n 1, 1) := by decide +kernel
theorem dX11_look_45 : decode cX11_look 45 = .ok (.invokevirtual 280, 3) := by decide +kernel
theorem dX11_look_48 : decode cX11_look 48 = .ok (.aload_n 0, 1) := by decide +kernel
theorem dX11_look_49 : decode cX11_look 49 = .ok (.getfield 92, 3) := by decide +kernel
theorem dX11_look_52 : decode cX11_look 52 = .ok (.getfield 283, 3) := by decide +kernel
theorem dX11_look_55 : decode cX11_look 55 = .ok (.ifCond .eq 16, 3) := by decide +kernel
theorem dX11_look_58 : decode cX11_look 58 = .ok (.aload_n 0, 1) := by decide +kernel
theorem dX11_look_59 : decode cX11_look 59 = .ok (.getfield 41, 3) := by decide +kernel
theorem dX11_look_62 : decode cX11_look 62 = .ok (.getfield 51, 3) := by decide +kernel
theorem dX11_look_65 : decode cX11_look 65 = .ok (.getfield 117, 3) := by decide +kernel
theorem dX11_look_68 : decode cX11_look 68 = .ok (.ifCond .ne 6, 3) := by decide +kernel
theorem dX11_look_71 : decode cX11_look 71 = .ok (.bipush (-2), 2) := by decide +kernel
theorem dX11_look_73 : decode cX11_look 73 = .ok (.ireturn, 1) := by decide +kernel
theorem dX11_look_74 : decode cX11_look 74 = .ok (.iconst 0, 1) := by decide +kernel
theorem dX11_look_75 : decode cX11_look 75 = .ok (.istore_n 3, 1) := by decide +kernel
theorem dX11_look_76 : decode cX11_look 76 = .ok (.iconst 1, 1) := by decide +kernel
theorem dX11_look_77 : decode cX11_look 77 = .ok (.istore 4, 2) := by decide +kernel
theorem dX11_look_79 : decode cX11_look 79 = .ok (.iload 4, 2) := by decide +kernel
theorem dX11_look_81 : decode cX11_look 81 = .ok (.aload_n 0, 1) := by decide +kernel
theorem dX11_look_82 : decode cX11_look 82 = .ok (.getfield 41, 3) := by decide +kernel
theorem dX11_look_85 : decode cX11_look 85 = .ok (.getfield 51, 3) := by decide +kernel
theorem dX11_look_88 : decode cX11_look 88 = .ok (.getfield 117, 3) := by decide +kernel
theorem dX11_look_91 : decode cX11_look 91 = .ok (.if_icmp .ge 32, 3) := by decide +kernel
theorem dX11_look_94 : decode cX11_look 94 = .ok (.aload_n 0, 1) := by decide +kernel
theorem dX11_look_95 : decode cX11_look 95 = .ok (.getfield 92, 3) := by decide +kernel
theorem dX11_look_98 : decode cX11_look 98 = .ok (.iload 4, 2) := by decide +kernel
theorem dX11_look_100 : decode cX11_look 100 = .ok (.invokevirtual 287, 3) := by decide +kernel
theorem dX11_look_103 : decode cX11_look 103 = .ok (.aload_n 0, 1) := by decide +kernel
theorem dX11_look_104 : decode cX11_look 104 = .ok (.getfield 92, 3) := by decide +kernel
theorem dX11_look_107 : decode cX11_look 107 = .ok (.iload_n 3, 1) := by decide +kernel
theorem dX11_look_108 : decode cX11_look 108 = .ok (.invokevirtual 287, 3) := by decide +kernel
theorem dX11_look_111 : decode cX11_look 111 = .ok (.if_icmp .ge 6, 3) := by decide +kernel
theorem dX11_look_114 : decode cX11_look 114 = .ok (.iload 4, 2) := by decide +kernel
theorem dX11_look_116 : decode cX11_look 116 = .ok (.istore_n 3, 1) := by decide +kernel
theorem dX11_look_117 : decode cX11_look 117 = .ok (.iinc 4 1, 3) := by decide +kernel
theorem dX11_look_120 : decode cX11_look 120 = .ok (.goto (-41), 3) := by decide +kernel
theorem dX11_look_123 : decode cX11_look 123 = .ok (.iload_n 2, 1) := by decide +kernel
theorem dX11_look_124 : decode cX11_look 124 = .ok (.ifCond .ne 7, 3) := by decide +kernel
theorem dX11_look_127 : decode cX11_look 127 = .ok (.iload_n 3, 1) := by decide +kernel
theorem dX11_look_128 : decode cX11_look 128 = .ok (.goto 11, 3) := by decide +kernel
theorem dX11_look_131 : decode cX11_look 131 = .ok (.aload_n 0, 1) := by decide +kernel
theorem dX11_look_132 : decode cX11_look 132 = .ok (.getfield 92, 3) := by decide +kernel
theorem dX11_look_135 : decode cX11_look 135 = .ok (.iload_n 3, 1) := by decide +kernel
theorem dX11_look_136 : decode cX11_look 136 = .ok (.invokevirtual 287, 3) := by decide +kernel
theorem dX11_look_139 : decode cX11_look 139 = .ok (.ireturn, 1) := by decide +kernel
theorem dX11_seed_0 : decode cX11_seed 0 = .ok (.iload_n 1, 1) := by decide +kernel
theorem dX11_seed_1 : decode cX11_seed 1 = .ok (.ifCond .ge 5, 3) := by decide +kernel
theorem dX11_seed_4 : decode cX11_seed 4 = .ok (.iconst (-1), 1) := by decide +kernel
theorem dX11_seed_5 : decode cX11_seed 5 = .ok (.ireturn, 1) := by decide +kernel
theorem dX11_seed_6 : decode cX11_seed 6 = .ok (.aload_n 0, 1) := by decide +kernel
theorem dX11_seed_7 : decode cX11_seed 7 = .ok (.getfield 41, 3) := by decide +kernel
theorem dX11_seed_10 : decode cX11_seed 10 = .ok (.getfield 290, 3) := by decide +kernel
theorem dX11_seed_13 : decode cX11_seed 13 = .ok (.istore_n 2, 1) := by decide +kernel
theorem dX11_seed_14 : decode cX11_seed 14 = .ok (.aload_n 0, 1) := by decide +kernel
theorem dX11_seed_15 : decode cX11_seed 15 = .ok (.getfield 41, 3) := by decide +kernel
theorem dX11_seed_18 : decode cX11_seed 18 = .ok (.iload_n 1, 1) := by decide +kernel
theorem dX11_seed_19 : decode cX11_seed 19 = .ok (.putfield 290, 3) := by decide +kernel
theorem dX11_seed_22 : decode cX11_seed 22 = .ok (.iload_n 2, 1) := by decide +kernel
theorem dX11_seed_23 : decode cX11_seed 23 = .ok (.ireturn, 1) := by decide +kernel
theorem dX11_summers_0 : decode cX11_summers 0 = .ok (.aload_n 0, 1) := by decide +kernel
theorem dX11_summers_1 : decode cX11_summers 1 = .ok (.invokevirtual 167, 3) := by decide +kernel
theorem dX11_summers_4 : decode cX11_summers 4 = .ok (.ifCond .eq 43, 3) := by decide +kernel
theorem dX11_summers_7 : decode cX11_summers 7 = .ok (.iload_n 1, 1) := by decide +kernel
theorem dX11_summers_8 : decode cX11_summers 8 = .ok (.iconst 1, 1) := by decide +kernel
theorem dX11_summers_9 : decode cX11_summers 9 = .ok (.bipush 10, 2) := by decide +kernel
theorem dX11_summers_11 : decode cX11_summers 11 = .ok (.invokestatic 192, 3) := by decide +kernel
theorem dX11_summers_14 : decode cX11_summers 14 = .ok (.ifCond .eq 33, 3) := by decide +kernel
theorem dX11_summers_17 : decode cX11_summers 17 = .ok (.iload_n 2, 1) := by decide +kernel
theorem dX11_summers_18 : decode cX11_summers 18 = .ok (.iconst 1, 1) := by decide +kernel
theorem dX11_summers_19 : decode cX11_summers 19 = .ok (.bipush 60, 2) := by decide +kernel
theorem dX11_summers_21 : decode cX11_summers 21 = .ok (.invokestatic 192, 3) := by decide +kernel
theorem dX11_summers_24 : decode cX11_summers 24 = .ok (.ifCond .eq 23, 3) := by decide +kernel
theorem dX11_summers_27 : decode cX11_summers 27 = .ok (.iload_n 3, 1) := by decide +kernel
theorem dX11_summers_28 : decode cX11_summers 28 = .ok (.iconst 0, 1) := by decide +kernel
theorem dX11_summers_29 : decode cX11_summers 29 = .ok (.bipush 100, 2) := by decide +kernel
theorem dX11_summers_31 : decode cX11_summers 31 = .ok (.invokestatic 192, 3) := by decide +kernel
theorem dX11_summers_34 : decode cX11_summers 34 = .ok (.ifCond .eq 13, 3) := by decide +kernel
theorem dX11_summers_37 : decode cX11_summers 37 = .ok (.iload 4, 2) := by decide +kernel
theorem dX11_summers_39 : decode cX11_summers 39 = .ok (.iconst 0, 1) := by decide +kernel
theorem dX11_summers_40 : decode cX11_summers 40 = .ok (.iconst 1, 1) := by decide +kernel
theorem dX11_summers_41 : decode cX11_summers 41 = .ok (.invokestatic 192, 3) := by decide +kernel
theorem dX11_summers_44 : decode cX11_summers 44 = .ok (.ifCond .ne 5, 3) := by decide +kernel
theorem dX11_summers_47 : decode cX11_summers 47 = .ok (.iconst (-1), 1) := by decide +kernel
theorem dX11_summers_48 : decode cX11_summers 48 = .ok (.ireturn, 1) := by decide +kernel
theorem dX11_summers_49 : decode cX11_summers 49 = .ok (.iconst 0, 1) := by decide +kernel
theorem dX11_summers_50 : decode cX11_summers 50 = .ok (.istore 5, 2) := by decide +kernel
theorem dX11_summers_52 : decode cX11_summers 52 = .ok (.aload_n 0, 1) := by decide +kernel
theorem dX11_summers_53 : decode cX11_summers 53 = .ok (.getfield 41, 3) := by decide +kernel
theorem dX11_summers_56 : decode cX11_summers 56 = .ok (.getfield 290, 3) := by decide +kernel
theorem dX11_summers_59 : decode cX11_summers 59 = .ok (.istore 6, 2) := by decide +kernel
theorem dX11_summers_61 : decode cX11_summers 61 = .ok (.iconst 0, 1) := by decide +kernel
theorem dX11_summers_62 : decode cX11_summers 62 = .ok (.istore 7, 2) := by decide +kernel
theorem dX11_summers_64 : decode cX11_summers 64 = .ok (.iload 7, 2) := by decide +kernel
theorem dX11_summers_66 : decode cX11_summers 66 = .ok (.iload_n 1, 1) := by decide +kernel
theorem dX11_summers_67 : decode cX11_summers 67 = .ok (.if_icmp .ge 63, 3) := by decide +kernel
theorem dX11_summers_70 : decode cX11_summers 70 = .ok (.aload_n 0, 1) := by decide +kernel
theorem dX11_summers_71 : decode cX11_summers 71 = .ok (.iload 6, 2) := by decide +kernel
theorem dX11_summers_73 : decode cX11_summers 73 = .ok (.iload_n 2, 1) := by decide +kernel
theorem dX11_summers_74 : decode cX11_summers 74 = .ok (.iload_n 3, 1) := by decide +kernel
theorem dX11_summers_75 : decode cX11_summers 75 = .ok (.invokevirtual 293, 3) := by decide +kernel
theorem dX11_summers_78 : decode cX11_summers 78 = .ok (.istore 6, 2) := by decide +kernel
theorem dX11_summers_80 : decode cX11_summers 80 = .ok (.iload 5, 2) := by decide +kernel
theorem dX11_summers_82 : decode cX11_summers 82 = .ok (.iload 4, 2) := by decide +kernel
theorem dX11_summers_84 : decode cX11_summers 84 = .ok (.ifCond .ne 23, 3) := by decide +kernel
theorem dX11_summers_87 : decode cX11_summers 87 = .ok (.aload_n 0, 1) := by decide +kernel
theorem dX11_summers_88 : decode cX11_summers 88 = .ok (.getfield 41, 3) := by decide +kernel
theorem dX11_summers_91 : decode cX11_summers 91 = .ok (.getfield 51, 3) := by decide +kernel
theorem dX11_summers_94 : decode cX11_summers 94 = .ok (.aload_n 0, 1) := by decide +kernel
theorem dX11_summers_95 : decode cX11_summers 95 = .ok (.getfield 65, 3) := by decide +kernel
theorem dX11_summers_98 : decode cX11_summers 98 = .ok (.invokevirtual 222, 3) := by decide +kernel
theorem dX11_summers_101 : decode cX11_summers 101 = .ok (.invokestatic 225, 3) := by decide +kernel
theorem dX11_summers_104 : decode cX11_summers 104 = .ok (.goto 17, 3) := by decide +kernel
theorem dX11_summers_107 : decode cX11_summers 107 = .ok (.aload_n 0, 1) := by decide +kernel
theorem dX11_summers_108 : decode cX11_summers 108 = .ok (.getfield 41, 3) := by decide +kernel
theorem dX11_summers_111 : decode cX11_summers 111 = .ok (.getfield 51, 3) := by decide +kernel
theorem dX11_summers_114 : decode cX11_summers 114 = .ok (.aload_n 0, 1) := by decide +kernel
theorem dX11_summers_115 : decode cX11_summers 115 = .ok (.getfield 65, 3) := by decide +kernel
theorem dX11_summers_118 : decode cX11_summers 118 = .ok (.invokevirtual 297, 3) := by decide +kernel
theorem dX11_summers_121 : decode cX11_summers 121 = .ok (.iadd, 1) := by decide +kernel
theorem dX11_summers_122 : decode cX11_summers 122 = .ok (.istore 5, 2) := by decide +kernel
theorem dX11_summers_124 : decode cX11_summers 124 = .ok (.iinc 7 1, 3) := by decide +kernel
theorem dX11_summers_127 : decode cX11_summers 127 = .ok (.goto (-63), 3) := by decide +kernel
theorem dX11_summers_130 : decode cX11_summers 130 = .ok (.iload 5, 2) := by decide +kernel
theorem dX11_summers_132 : decode cX11_summers 132 = .ok (.ireturn, 1) := by decide +kernel
theorem dX11_count_0 : decode cX11_count 0 = .ok (.iload_n 1, 1) := by decide +kernel
theorem dX11_count_1 : decode cX11_count 1 = .ok (.iconst 0, 1) := by decide +kernel
theorem dX11_count_2 : decode cX11_count 2 = .ok (.iconst 5, 1) := by decide +kernel
theorem dX11_count_3 : decode cX11_count 3 = .ok (.invokestatic 192, 3) := by decide +kernel
theorem dX11_count_6 : decode cX11_count 6 = .ok (.ifCond .eq 9, 3) := by decide +kernel
theorem dX11_count_9 : decode cX11_count 9 = .ok (.aload_n 0, 1) := by decide +kernel
theorem dX11_count_10 : decode cX11_count 10 = .ok (.iload_n 1, 1) := by decide +kernel
theorem dX11_count_11 : decode cX11_count 11 = .ok (.invokevirtual 300, 3) := by decide +kernel
theorem dX11_count_14 : decode cX11_count 14 = .ok (.ireturn, 1) := by decide +kernel
theorem dX11_count_15 : decode cX11_count 15 = .ok (.iload_n 1, 1) := by decide +kernel
theorem dX11_count_16 : decode cX11_count 16 = .ok (.bipush 6, 2) := by decide +kernel
theorem dX11_count_18 : decode cX11_count 18 = .ok (.bipush 15, 2) := by decide +kernel
theorem dX11_count_20 : decode cX11_count 20 = .ok (.invokestatic 192, 3) := by decide +kernel
theorem dX11_count_23 : decode cX11_count 23 = .ok (.ifCond .eq 11, 3) := by decide +kernel
theorem dX11_count_26 : decode cX11_count 26 = .ok (.aload_n 0, 1) := by decide +kernel
theorem dX11_count_27 : decode cX11_count 27 = .ok (.iload_n 1, 1) := by decide +kernel
theorem dX11_count_28 : decode cX11_count 28 = .ok (.invokevirtual 303, 3) := by decide +kernel
theorem dX11_count_31 : decode cX11_count 31 = .ok (.goto 4, 3) := by decide +kernel
theorem dX11_count_34 : decode cX11_count 34 = .ok (.iconst (-1), 1) := by decide +kernel
theorem dX11_count_35 : decode cX11_count 35 = .ok (.ireturn, 1) := by decide +kernel
theorem dX11_image_0 : decode cX11_image 0 = .ok (.iload_n 1, 1) := by decide +kernel
theorem dX11_image_1 : decode cX11_image 1 = .ok (.iconst 0, 1) := by decide +kernel
theorem dX11_image_2 : decode cX11_image 2 = .ok (.iconst 3, 1) := by decide +kernel
theorem dX11_image_3 : decode cX11_image 3 = .ok (.invokestatic 192, 3) := by decide +kernel
theorem dX11_image_6 : decode cX11_image 6 = .ok (.ifCond .ne 5, 3) := by decide +kernel
theorem dX11_image_9 : decode cX11_image 9 = .ok (.iconst (-1), 1) := by decide +kernel
theorem dX11_image_10 : decode cX11_image 10 = .ok (.ireturn, 1) := by decide +kernel
theorem dX11_image_11 : decode cX11_image 11 = .ok (.aload_n 0, 1) := by decide +kernel
theorem dX11_image_12 : decode cX11_image 12 = .ok (.getfield 45, 3) := by decide +kernel
theorem dX11_image_15 : decode cX11_image 15 = .ok (.iload_n 1, 1) := by decide +kernel
theorem dX11_image_16 : decode cX11_image 16 = .ok (.aaload, 1) := by decide +kernel
theorem dX11_image_17 : decode cX11_image 17 = .ok (.ifnonnull 16, 3) := by decide +kernel
theorem dX11_image_20 : decode cX11_image 20 = .ok (.aload_n 0, 1) := by decide +kernel
theorem dX11_image_21 : decode cX11_image 21 = .ok (.getfield 45, 3) := by decide +kernel
theorem dX11_image_24 : decode cX11_image 24 = .ok (.iload_n 1, 1) := by decide +kernel
theorem dX11_image_25 : decode cX11_image 25 = .ok (.new 38, 3) := by decide +kernel
theorem dX11_image_28 : decode cX11_image 28 = .ok (.dup, 1) := by decide +kernel
theorem dX11_image_29 : decode cX11_image 29 = .ok (.invokespecial 40, 3) := by decide +kernel
theorem dX11_image_32 : decode cX11_image 32 = .ok (.aastore, 1) := by decide +kernel
theorem dX11_image_33 : decode cX11_image 33 = .ok (.aload_n 0, 1) := by decide +kernel
theorem dX11_image_34 : decode cX11_image 34 = .ok (.getfield 45, 3) := by decide +kernel
theorem dX11_image_37 : decode cX11_image 37 = .ok (.iload_n 1, 1) := by decide +kernel
theorem dX11_image_38 : decode cX11_image 38 = .ok (.aaload, 1) := by decide +kernel
theorem dX11_image_39 : decode cX11_image 39 = .ok (.aload_n 0, 1) := by decide +kernel
theorem dX11_image_40 : decode cX11_image 40 = .ok (.getfield 41, 3) := by decide +kernel
theorem dX11_image_43 : decode cX11_image 43 = .ok (.invokevirtual 306, 3) := by decide +kernel
theorem dX11_image_46 : decode cX11_image 46 = .ok (.aload_n 0, 1) := by decide +kernel
theorem dX11_image_47 : decode cX11_image 47 = .ok (.getfield 41, 3) := by decide +kernel
theorem dX11_image_50 : decode cX11_image 50 = .ok (.getfield 140, 3) := by decide +kernel
theorem dX11_image_53 : decode cX11_image 53 = .ok (.getfield 170, 3) := by decide +kernel
theorem dX11_image_56 : decode cX11_image 56 = .ok (.ireturn, 1) := by decide +kernel
theorem dX11_back_0 : decode cX11_back 0 = .ok (.iload_n 1, 1) := by decide +kernel
theorem dX11_back_1 : decode cX11_back 1 = .ok (.iconst 0, 1) := by decide +kernel
theorem dX11_back_2 : decode cX11_back 2 = .ok (.iconst 3, 1) := by decide +kernel
theorem dX11_back_3 : decode cX11_back 3 = .ok (.invokestatic 192, 3) := by decide +kernel
theorem dX11_back_6 : decode cX11_back 6 = .ok (.ifCond .eq 12, 3) := by decide +kernel
theorem dX11_back_9 : decode cX11_back 9 = .ok (.aload_n 0, 1) := by decide +kernel
theorem dX11_back_10 : decode cX11_back 10 = .ok (.getfield 45, 3) := by decide +kernel
theorem dX11_back_13 : decode cX11_back 13 = .ok (.iload_n 1, 1) := by decide +kernel
theorem dX11_back_14 : decode cX11_back 14 = .ok (.aaload, 1) := by decide +kernel
theorem dX11_back_15 : decode cX11_back 15 = .ok (.ifnonnull 5, 3) := by decide +kernel
theorem dX11_back_18 : decode cX11_back 18 = .ok (.iconst (-1), 1) := by decide +kernel
theorem dX11_back_19 : decode cX11_back 19 = .ok (.ireturn, 1) := by decide +kernel
theorem dX11_back_20 : decode cX11_back 20 = .ok (.aload_n 0, 1) := by decide +kernel
theorem dX11_back_21 : decode cX11_back 21 = .ok (.getfield 41, 3) := by decide +kernel
theorem dX11_back_24 : decode cX11_back 24 = .ok (.aload_n 0, 1) := by decide +kernel
theorem dX11_back_25 : decode cX11_back 25 = .ok (.getfield 45, 3) := by decide +kernel
theorem dX11_back_28 : decode cX11_back 28 = .ok (.iload_n 1, 1) := by decide +kernel
theorem dX11_back_29 : decode cX11_back 29 = .ok (.aaload, 1) := by decide +kernel
theorem dX11_back_30 : decode cX11_back 30 = .ok (.invokevirtual 306, 3) := by decide +kernel
theorem dX11_back_33 : decode cX11_back 33 = .ok (.aload_n 0, 1) := by decide +kernel
theorem dX11_back_34 : decode cX11_back 34 = .ok (.getfield 41, 3) := by decide +kernel
theorem dX11_back_37 : decode cX11_back 37 = .ok (.getfield 140, 3) := by decide +kernel
theorem dX11_back_40 : decode cX11_back 40 = .ok (.getfield 170, 3) := by decide +kernel
theorem dX11_back_43 : decode cX11_back 43 = .ok (.ireturn, 1) := by decide +kernel
theorem dX11_countTold_0 : decode cX11_countTold 0 = .ok (.iload_n 1, 1) := by decide +kernel
theorem dX11_countTold_1 : decode cX11_countTold 1 = .ok (.tableswitch 84 0 4 #[35, 46, 57, 68, 79], 35) := by decide +kernel
theorem dX11_countTold_36 : decode cX11_countTold 36 = .ok (.aload_n 0, 1) := by decide +kernel
theorem dX11_countTold_37 : decode cX11_countTold 37 = .ok (.getfield 41, 3) := by decide +kernel
theorem dX11_countTold_40 : decode cX11_countTold 40 = .ok (.getfield 51, 3) := by decide +kernel
theorem dX11_countTold_43 : decode cX11_countTold 43 = .ok (.getfield 202, 3) := by decide +kernel
theorem dX11_countTold_46 : decode cX11_countTold 46 = .ok (.ireturn, 1) := by decide +kernel
theorem dX11_countTold_47 : decode cX11_countTold 47 = .ok (.aload_n 0, 1) := by decide +kernel
theorem dX11_countTold_48 : decode cX11_countTold 48 = .ok (.getfield 41, 3) := by decide +kernel
theorem dX11_countTold_51 : decode cX11_countTold 51 = .ok (.getfield 51, 3) := by decide +kernel
theorem dX11_countTold_54 : decode cX11_countTold 54 = .ok (.getfield 309, 3) := by decide +kernel
theorem dX11_countTold_57 : decode cX11_countTold 57 = .ok (.ireturn, 1) := by decide +kernel
theorem dX11_countTold_58 : decode cX11_countTold 58 = .ok (.aload_n 0, 1) := by decide +kernel
theorem dX11_countTold_59 : decode cX11_countTold 59 = .ok (.getfield 41, 3) := by decide +kernel
theorem dX11_countTold_62 : decode cX11_countTold 62 = .ok (.getfield 51, 3) := by decide +kernel
theorem dX11_countTold_65 : decode cX11_countTold 65 = .ok (.getfield 312, 3) := by decide +kernel
theorem dX11_countTold_68 : decode cX11_countTold 68 = .ok (.ireturn, 1) := by decide +kernel
theorem dX11_countTold_69 : decode cX11_countTold 69 = .ok (.aload_n 0, 1) := by decide +kernel
theorem dX11_countTold_70 : decode cX11_countTold 70 = .ok (.getfield 41, 3) := by decide +kernel
theorem dX11_countTold_73 : decode cX11_countTold 73 = .ok (.getfield 51, 3) := by decide +kernel
theorem dX11_countTold_76 : decode cX11_countTold 76 = .ok (.getfield 117, 3) := by decide +kernel
theorem dX11_countTold_79 : decode cX11_countTold 79 = .ok (.ireturn, 1) := by decide +kernel
theorem dX11_countTold_80 : decode cX11_countTold 80 = .ok (.aload_n 0, 1) := by decide +kernel
theorem dX11_countTold_81 : decode cX11_countTold 81 = .ok (.getfield 122, 3) := by decide +kernel
theorem dX11_countTold_84 : decode cX11_countTold 84 = .ok (.ireturn, 1) := by decide +kernel
theorem dX11_countTold_85 : decode cX11_countTold 85 = .ok (.aload_n 0, 1) := by decide +kernel
theorem dX11_countTold_86 : decode cX11_countTold 86 = .ok (.getfield 41, 3) := by decide +kernel
theorem dX11_countTold_89 : decode cX11_countTold 89 = .ok (.getfield 133, 3) := by decide +kernel
theorem dX11_countTold_92 : decode cX11_countTold 92 = .ok (.ireturn, 1) := by decide +kernel
theorem dX11_countNow_0 : decode cX11_countNow 0 = .ok (.iload_n 1, 1) := by decide +kernel
theorem dX11_countNow_1 : decode cX11_countNow 1 = .ok (.tableswitch 162 6 14 #[51, 62, 80, 91, 102, 120, 138, 146, 154], 51) := by decide +kernel
theorem dX11_countNow_52 : decode cX11_countNow 52 = .ok (.aload_n 0, 1) := by decide +kernel
theorem dX11_countNow_53 : decode cX11_countNow 53 = .ok (.getfield 41, 3) := by decide +kernel
theorem dX11_countNow_56 : decode cX11_countNow 56 = .ok (.getfield 140, 3) := by decide +kernel
theorem dX11_countNow_59 : decode cX11_countNow 59 = .ok (.getfield 170, 3) := by decide +kernel
theorem dX11_countNow_62 : decode cX11_countNow 62 = .ok (.ireturn, 1) := by decide +kernel
theorem dX11_countNow_63 : decode cX11_countNow 63 = .ok (.aload_n 0, 1) := by decide +kernel
theorem dX11_countNow_64 : decode cX11_countNow 64 = .ok (.getfield 41, 3) := by decide +kernel
theorem dX11_countNow_67 : decode cX11_countNow 67 = .ok (.getfield 51, 3) := by decide +kernel
theorem dX11_countNow_70 : decode cX11_countNow 70 = .ok (.aload_n 0, 1) := by decide +kernel
theorem dX11_countNow_71 : decode cX11_countNow 71 = .ok (.getfield 41, 3) := by decide +kernel
theorem dX11_countNow_74 : decode cX11_countNow 74 = .ok (.getfield 140, 3) := by decide +kernel
theorem dX11_countNow_77 : decode cX11_countNow 77 = .ok (.invokevirtual 180, 3) := by decide +kernel
theorem dX11_countNow_80 : decode cX11_countNow 80 = .ok (.ireturn, 1) := by decide +kernel
theorem dX11_countNow_81 : decode cX11_countNow 81 = .ok (.aload_n 0, 1) := by decide +kernel
theorem dX11_countNow_82 : decode cX11_countNow 82 = .ok (.getfield 41, 3) := by decide +kernel
theorem dX11_countNow_85 : decode cX11_countNow 85 = .ok (.getfield 140, 3) := by decide +kernel
theorem dX11_countNow_88 : decode cX11_countNow 88 = .ok (.getfield 199, 3) := by decide +kernel
theorem dX11_countNow_91 : decode cX11_countNow 91 = .ok (.ireturn, 1) := by decide +kernel
theorem dX11_countNow_92 : decode cX11_countNow 92 = .ok (.aload_n 0, 1) := by decide +kernel
theorem dX11_countNow_93 : decode cX11_countNow 93 = .ok (.getfield 41, 3) := by decide +kernel
theorem dX11_countNow_96 : decode cX11_countNow 96 = .ok (.getfield 140, 3) := by decide +kernel
theorem dX11_countNow_99 : decode cX11_countNow 99 = .ok (.getfield 205, 3) := by decide +kernel
theorem dX11_countNow_102 : decode cX11_countNow 102 = .ok (.ireturn, 1) := by decide +kernel
theorem dX11_countNow_103 : decode cX11_countNow 103 = .ok (.aload_n 0, 1) := by decide +kernel
theorem dX11_countNow_104 : decode cX11_countNow 104 = .ok (.getfield 41, 3) := by decide +kernel
theorem dX11_countNow_107 : decode cX11_countNow 107 = .ok (.getfield 51, 3) := by decide +kernel
theorem dX11_countNow_110 : decode cX11_countNow 110 = .ok (.aload_n 0, 1) := by decide +kernel
theorem dX11_countNow_111 : decode cX11_countNow 111 = .ok (.getfield 41, 3) := by decide +kernel
theorem dX11_countNow_114 : decode cX11_countNow 114 = .ok (.getfield 140, 3) := by decide +kernel
theorem dX11_countNow_117 : decode cX11_countNow 117 = .ok (.invokevirtual 222, 3) := by decide +kernel
theorem dX11_countNow_120 : decode cX11_countNow 120 = .ok (.ireturn, 1) := by decide +kernel
theorem dX11_countNow_121 : decode cX11_countNow 121 = .ok (.aload_n 0, 1) := by decide +kernel
theorem dX11_countNow_122 : decode cX11_countNow 122 = .ok (.getfield 41, 3) := by decide +kernel
theorem dX11_countNow_125 : decode cX11_countNow 125 = .ok (.getfield 51, 3) := by decide +kernel
theorem dX11_countNow_128 : decode cX11_countNow 128 = .ok (.aload_n 0, 1) := by decide +kernel
theorem dX11_countNow_129 : decode cX11_countNow 129 = .ok (.getfield 41, 3) := by decide +kernel
theorem dX11_countNow_132 : decode cX11_countNow 132 = .ok (.getfield 140, 3) := by decide +kernel
theorem dX11_countNow_135 : decode cX11_countNow 135 = .ok (.invokevirtual 297, 3) := by decide +kernel
theorem dX11_countNow_138 : decode cX11_countNow 138 = .ok (.ireturn, 1) := by decide +kernel
theorem dX11_countNow_139 : decode cX11_countNow 139 = .ok (.aload_n 0, 1) := by decide +kernel
theorem dX11_countNow_140 : decode cX11_countNow 140 = .ok (.getfield 41, 3) := by decide +kernel
theorem dX11_countNow_143 : decode cX11_countNow 143 = .ok (.getfield 274, 3) := by decide +kernel
theorem dX11_countNow_146 : decode cX11_countNow 146 = .ok (.ireturn, 1) := by decide +kernel
theorem dX11_countNow_147 : decode cX11_countNow 147 = .ok (.aload_n 0, 1) := by decide +kernel
theorem dX11_countNow_148 : decode cX11_countNow 148 = .ok (.getfield 41, 3) := by decide +kernel
theorem dX11_countNow_151 : decode cX11_countNow 151 = .ok (.getfield 211, 3) := by decide +kernel
theorem dX11_countNow_154 : decode cX11_countNow 154 = .ok (.ireturn, 1) := by decide +kernel
theorem dX11_countNow_155 : decode cX11_countNow 155 = .ok (.aload_n 0, 1) := by decide +kernel
theorem dX11_countNow_156 : decode cX11_countNow 156 = .ok (.getfield 41, 3) := by decide +kernel
theorem dX11_countNow_159 : decode cX11_countNow 159 = .ok (.getfield 290, 3) := by decide +kernel
theorem dX11_countNow_162 : decode cX11_countNow 162 = .ok (.ireturn, 1) := by decide +kernel
theorem dX11_countNow_163 : decode cX11_countNow 163 = .ok (.aload_n 0, 1) := by decide +kernel
theorem dX11_countNow_164 : decode cX11_countNow 164 = .ok (.getfield 12, 3) := by decide +kernel
theorem dX11_countNow_167 : decode cX11_countNow 167 = .ok (.getfield 96, 3) := by decide +kernel
theorem dX11_countNow_170 : decode cX11_countNow 170 = .ok (.ireturn, 1) := by decide +kernel
theorem dX11_isTold_0 : decode cX11_isTold 0 = .ok (.aload_n 0, 1) := by decide +kernel
theorem dX11_isTold_1 : decode cX11_isTold 1 = .ok (.getfield 41, 3) := by decide +kernel
theorem dX11_isTold_4 : decode cX11_isTold 4 = .ok (.getfield 51, 3) := by decide +kernel
theorem dX11_isTold_7 : decode cX11_isTold 7 = .ok (.getfield 202, 3) := by decide +kernel
theorem dX11_isTold_10 : decode cX11_isTold 10 = .ok (.ifCond .le 7, 3) := by decide +kernel
theorem dX11_isTold_13 : decode cX11_isTold 13 = .ok (.iconst 1, 1) := by decide +kernel
theorem dX11_isTold_14 : decode cX11_isTold 14 = .ok (.goto 4, 3) := by decide +kernel
theorem dX11_isTold_17 : decode cX11_isTold 17 = .ok (.iconst 0, 1) := by decide +kernel
theorem dX11_isTold_18 : decode cX11_isTold 18 = .ok (.ireturn, 1) := by decide +kernel
theorem dX11_isHouse_0 : decode cX11_isHouse 0 = .ok (.iload_n 1, 1) := by decide +kernel
theorem dX11_isHouse_1 : decode cX11_isHouse 1 = .ok (.ifCond .lt 21, 3) := by decide +kernel
theorem dX11_isHouse_4 : decode cX11_isHouse 4 = .ok (.iload_n 1, 1) := by decide +kernel
theorem dX11_isHouse_5 : decode cX11_isHouse 5 = .ok (.aload_n 0, 1) := by decide +kernel
theorem dX11_isHouse_6 : decode cX11_isHouse 6 = .ok (.getfield 41, 3) := by decide +kernel
theorem dX11_isHouse_9 : decode cX11_isHouse 9 = .ok (.getfield 51, 3) := by decide +kernel
theorem dX11_isHouse_12 : decode cX11_isHouse 12 = .ok (.getfield 117, 3) := by decide +kernel
theorem dX11_isHouse_15 : decode cX11_isHouse 15 = .ok (.if_icmp .ge 7, 3) := by decide +kernel
theorem dX11_isHouse_18 : decode cX11_isHouse 18 = .ok (.iconst 1, 1) := by decide +kernel
theorem dX11_isHouse_19 : decode cX11_isHouse 19 = .ok (.goto 4, 3) := by decide +kernel
theorem dX11_isHouse_22 : decode cX11_isHouse 22 = .ok (.iconst 0, 1) := by decide +kernel
theorem dX11_isHouse_23 : decode cX11_isHouse 23 = .ok (.ireturn, 1) := by decide +kernel
theorem dX11_areTwo_0 : decode cX11_areTwo 0 = .ok (.aload_n 0, 1) := by decide +kernel
theorem dX11_areTwo_1 : decode cX11_areTwo 1 = .ok (.iload_n 1, 1) := by decide +kernel
theorem dX11_areTwo_2 : decode cX11_areTwo 2 = .ok (.invokevirtual 136, 3) := by decide +kernel
theorem dX11_areTwo_5 : decode cX11_areTwo 5 = .ok (.ifCond .eq 20, 3) := by decide +kernel
theorem dX11_areTwo_8 : decode cX11_areTwo 8 = .ok (.aload_n 0, 1) := by decide +kernel
theorem dX11_areTwo_9 : decode cX11_areTwo 9 = .ok (.iload_n 2, 1) := by decide +kernel
theorem dX11_areTwo_10 : decode cX11_areTwo 10 = .ok (.invokevirtual 136, 3) := by decide +kernel
theorem dX11_areTwo_13 : decode cX11_areTwo 13 = .ok (.ifCond .eq 12, 3) := by decide +kernel
theorem dX11_areTwo_16 : decode cX11_areTwo 16 = .ok (.iload_n 1, 1) := by decide +kernel
theorem dX11_areTwo_17 : decode cX11_areTwo 17 = .ok (.iload_n 2, 1) := by decide +kernel
theorem dX11_areTwo_18 : decode cX11_areTwo 18 = .ok (.if_icmp .eq 7, 3) := by decide +kernel
theorem dX11_areTwo_21 : decode cX11_areTwo 21 = .ok (.iconst 1, 1) := by decide +kernel
theorem dX11_areTwo_22 : decode cX11_areTwo 22 = .ok (.goto 4, 3) := by decide +kernel
theorem dX11_areTwo_25 : decode cX11_areTwo 25 = .ok (.iconst 0, 1) := by decide +kernel
theorem dX11_areTwo_26 : decode cX11_areTwo 26 = .ok (.ireturn, 1) := by decide +kernel
theorem dX11_isWithin_0 : decode cX11_isWithin 0 = .ok (.iload_n 0, 1) := by decide +kernel
theorem dX11_isWithin_1 : decode cX11_isWithin 1 = .ok (.iload_n 1, 1) := by decide +kernel
theorem dX11_isWithin_2 : decode cX11_isWithin 2 = .ok (.if_icmp .lt 12, 3) := by decide +kernel
theorem dX11_isWithin_5 : decode cX11_isWithin 5 = .ok (.iload_n 0, 1) := by decide +kernel
theorem dX11_isWithin_6 : decode cX11_isWithin 6 = .ok (.iload_n 2, 1) := by decide +kernel
theorem dX11_isWithin_7 : decode cX11_isWithin 7 = .ok (.if_icmp .gt 7, 3) := by decide +kernel
theorem dX11_isWithin_10 : decode cX11_isWithin 10 = .ok (.iconst 1, 1) := by decide +kernel
theorem dX11_isWithin_11 : decode cX11_isWithin 11 = .ok (.goto 4, 3) := by decide +kernel
theorem dX11_isWithin_14 : decode cX11_isWithin 14 = .ok (.iconst 0, 1) := by decide +kernel
theorem dX11_isWithin_15 : decode cX11_isWithin 15 = .ok (.ireturn, 1) := by decide +kernel
theorem dX11_hasBit_0 : decode cX11_hasBit 0 = .ok (.iload_n 0, 1) := by decide +kernel
theorem dX11_hasBit_1 : decode cX11_hasBit 1 = .ok (.iload_n 1, 1) := by decide +kernel
theorem dX11_hasBit_2 : decode cX11_hasBit 2 = .ok (.ishr, 1) := by decide +kernel
theorem dX11_hasBit_3 : decode cX11_hasBit 3 = .ok (.iconst 1, 1) := by decide +kernel
theorem dX11_hasBit_4 : decode cX11_hasBit 4 = .ok (.iand, 1) := by decide +kernel
theorem dX11_hasBit_5 : decode cX11_hasBit 5 = .ok (.iconst 1, 1) := by decide +kernel
theorem dX11_hasBit_6 : decode cX11_hasBit 6 = .ok (.if_icmp .ne 7, 3) := by decide +kernel
theorem dX11_hasBit_9 : decode cX11_hasBit 9 = .ok (.iconst 1, 1) := by decide +kernel
theorem dX11_hasBit_10 : decode cX11_hasBit 10 = .ok (.goto 4, 3) := by decide +kernel
theorem dX11_hasBit_13 : decode cX11_hasBit 13 = .ok (.iconst 0, 1) := by decide +kernel
theorem dX11_hasBit_14 : decode cX11_hasBit 14 = .ok (.ireturn, 1) := by decide +kernel
theorem dX11_ruleInForce_0 : decode cX11_ruleInForce 0 = .ok (.aload_n 0, 1) := by decide +kernel
theorem dX11_ruleInForce_1 : decode cX11_ruleInForce 1 = .ok (.getfield 41, 3) := by decide +kernel
theorem dX11_ruleInForce_4 : decode cX11_ruleInForce 4 = .ok (.getfield 133, 3) := by decide +kernel
theorem dX11_ruleInForce_7 : decode cX11_ruleInForce 7 = .ok (.iconst 0, 1) := by decide +kernel
theorem dX11_ruleInForce_8 : decode cX11_ruleInForce 8 = .ok (.aload_n 0, 1) := by decide +kernel
theorem dX11_ruleInForce_9 : decode cX11_ruleInForce 9 = .ok (.getfield 122, 3) := by decide +kernel
theorem dX11_ruleInForce_12 : decode cX11_ruleInForce 12 = .ok (.iconst 1, 1) := by decide +kernel
theorem dX11_ruleInForce_13 : decode cX11_ruleInForce 13 = .ok (.isub, 1) := by decide +kernel
theorem dX11_ruleInForce_14 : decode cX11_ruleInForce 14 = .ok (.invokestatic 192, 3) := by decide +kernel
theorem dX11_ruleInForce_17 : decode cX11_ruleInForce 17 = .ok (.ifCond .eq 18, 3) := by decide +kernel
theorem dX11_ruleInForce_20 : decode cX11_ruleInForce 20 = .ok (.aload_n 0, 1) := by decide +kernel
theorem dX11_ruleInForce_21 : decode cX11_ruleInForce 21 = .ok (.getfield 34, 3) := by decide +kernel
theorem dX11_ruleInForce_24 : decode cX11_ruleInForce 24 = .ok (.aload_n 0, 1) := by decide +kernel
theorem dX11_ruleInForce_25 : decode cX11_ruleInForce 25 = .ok (.getfield 41, 3) := by decide +kernel
theorem dX11_ruleInForce_28 : decode cX11_ruleInForce 28 = .ok (.getfield 133, 3) := by decide +kernel
theorem dX11_ruleInForce_31 : decode cX11_ruleInForce 31 = .ok (.aaload, 1) := by decide +kernel
theorem dX11_ruleInForce_32 : decode cX11_ruleInForce 32 = .ok (.goto 4, 3) := by decide +kernel
theorem dX11_ruleInForce_35 : decode cX11_ruleInForce 35 = .ok (.aconst_null, 1) := by decide +kernel
theorem dX11_ruleInForce_36 : decode cX11_ruleInForce 36 = .ok (.areturn, 1) := by decide +kernel
theorem dX11_blockNow_0 : decode cX11_blockNow 0 = .ok (.aload_n 0, 1) := by decide +kernel
theorem dX11_blockNow_1 : decode cX11_blockNow 1 = .ok (.getfield 58, 3) := by decide +kernel
theorem dX11_blockNow_4 : decode cX11_blockNow 4 = .ok (.aload_n 0, 1) := by decide +kernel
theorem dX11_blockNow_5 : decode cX11_blockNow 5 = .ok (.getfield 41, 3) := by decide +kernel
theorem dX11_blockNow_8 : decode cX11_blockNow 8 = .ok (.getfield 140, 3) := by decide +kernel
theorem dX11_blockNow_11 : decode cX11_blockNow 11 = .ok (.aload_n 0, 1) := by decide +kernel
theorem dX11_blockNow_12 : decode cX11_blockNow 12 = .ok (.getfield 41, 3) := by decide +kernel
theorem dX11_blockNow_15 : decode cX11_blockNow 15 = .ok (.getfield 51, 3) := by decide +kernel
theorem dX11_blockNow_18 : decode cX11_blockNow 18 = .ok (.aload_n 0, 1) := by decide +kernel
theorem dX11_blockNow_19 : decode cX11_blockNow 19 = .ok (.getfield 41, 3) := by decide +kernel
theorem dX11_blockNow_22 : decode cX11_blockNow 22 = .ok (.getfield 140, 3) := by decide +kernel
theorem dX11_blockNow_25 : decode cX11_blockNow 25 = .ok (.invokevirtual 180, 3) := by decide +kernel
theorem dX11_blockNow_28 : decode cX11_blockNow 28 = .ok (.invokevirtual 240, 3) := by decide +kernel
theorem dX11_blockNow_31 : decode cX11_blockNow 31 = .ok (.aload_n 0, 1) := by decide +kernel
theorem dX11_blockNow_32 : decode cX11_blockNow 32 = .ok (.getfield 58, 3) := by decide +kernel
theorem dX11_blockNow_35 : decode cX11_blockNow 35 = .ok (.iload_n 1, 1) := by decide +kernel
theorem dX11_blockNow_36 : decode cX11_blockNow 36 = .ok (.invokevirtual 244, 3) := by decide +kernel
theorem dX11_blockNow_39 : decode cX11_blockNow 39 = .ok (.ireturn, 1) := by decide +kernel
theorem dX11_isFastNow_0 : decode cX11_isFastNow 0 = .ok (.aload_n 0, 1) := by decide +kernel
theorem dX11_isFastNow_1 : decode cX11_isFastNow 1 = .ok (.getfield 58, 3) := by decide +kernel
theorem dX11_isFastNow_4 : decode cX11_isFastNow 4 = .ok (.aload_n 0, 1) := by decide +kernel
theorem dX11_isFastNow_5 : decode cX11_isFastNow 5 = .ok (.getfield 41, 3) := by decide +kernel
theorem dX11_isFastNow_8 : decode cX11_isFastNow 8 = .ok (.getfield 140, 3) := by decide +kernel
theorem dX11_isFastNow_11 : decode cX11_isFastNow 11 = .ok (.aload_n 0, 1) := by decide +kernel
theorem dX11_isFastNow_12 : decode cX11_isFastNow 12 = .ok (.iload_n 1, 1) := by decide +kernel
theorem dX11_isFastNow_13 : decode cX11_isFastNow 13 = .ok (.invokevirtual 153, 3) := by decide +kernel
theorem dX11_isFastNow_16 : decode cX11_isFastNow 16 = .ok (.aload_n 0, 1) := by decide +kernel
theorem dX11_isFastNow_17 : decode cX11_isFastNow 17 = .ok (.getfield 41, 3) := by decide +kernel
theorem dX11_isFastNow_20 : decode cX11_isFastNow 20 = .ok (.getfield 51, 3) := by decide +kernel
theorem dX11_isFastNow_23 : decode cX11_isFastNow 23 = .ok (.aload_n 0, 1) := by decide +kernel
theorem dX11_isFastNow_24 : decode cX11_isFastNow 24 = .ok (.getfield 41, 3) := by decide +kernel
theorem dX11_isFastNow_27 : decode cX11_isFastNow 27 = .ok (.getfield 140, 3) := by decide +kernel
theorem dX11_isFastNow_30 : decode cX11_isFastNow 30 = .ok (.invokevirtual 180, 3) := by decide +kernel
theorem dX11_isFastNow_33 : decode cX11_isFastNow 33 = .ok (.invokevirtual 315, 3) := by decide +kernel
theorem dX11_isFastNow_36 : decode cX11_isFastNow 36 = .ok (.ireturn, 1) := by decide +kernel
theorem dX11_canPour_0 : decode cX11_canPour 0 = .ok (.aload_n 0, 1) := by decide +kernel
theorem dX11_canPour_1 : decode cX11_canPour 1 = .ok (.getfield 41, 3) := by decide +kernel
theorem dX11_canPour_4 : decode cX11_canPour 4 = .ok (.getfield 140, 3) := by decide +kernel
theorem dX11_canPour_7 : decode cX11_canPour 7 = .ok (.getfield 143, 3) := by decide +kernel
theorem dX11_canPour_10 : decode cX11_canPour 10 = .ok (.iload_n 1, 1) := by decide +kernel
theorem dX11_canPour_11 : decode cX11_canPour 11 = .ok (.iaload, 1) := by decide +kernel
theorem dX11_canPour_12 : decode cX11_canPour 12 = .ok (.istore_n 3, 1) := by decide +kernel
theorem dX11_canPour_13 : decode cX11_canPour 13 = .ok (.aload_n 0, 1) := by decide +kernel
theorem dX11_canPour_14 : decode cX11_canPour 14 = .ok (.getfield 41, 3) := by decide +kernel
theorem dX11_canPour_17 : decode cX11_canPour 17 = .ok (.getfield 140, 3) := by decide +kernel
theorem dX11_canPour_20 : decode cX11_canPour 20 = .ok (.getfield 143, 3) := by decide +kernel
theorem dX11_canPour_23 : decode cX11_canPour 23 = .ok (.iload_n 2, 1) := by decide +kernel
theorem dX11_canPour_24 : decode cX11_canPour 24 = .ok (.iaload, 1) := by decide +kernel
theorem dX11_canPour_25 : decode cX11_canPour 25 = .ok (.istore 4, 2) := by decide +kernel
theorem dX11_canPour_27 : decode cX11_canPour 27 = .ok (.aload_n 0, 1) := by decide +kernel
theorem dX11_canPour_28 : decode cX11_canPour 28 = .ok (.getfield 41, 3) := by decide +kernel
theorem dX11_canPour_31 : decode cX11_canPour 31 = .ok (.getfield 140, 3) := by decide +kernel
theorem dX11_canPour_34 : decode cX11_canPour 34 = .ok (.iload_n 1, 1) := by decide +kernel
theorem dX11_canPour_35 : decode cX11_canPour 35 = .ok (.iload_n 2, 1) := by decide +kernel
theorem dX11_canPour_36 : decode cX11_canPour 36 = .ok (.invokevirtual 163, 3) := by decide +kernel
theorem dX11_canPour_39 : decode cX11_canPour 39 = .ok (.ifCond .ne 47, 3) := by decide +kernel
theorem dX11_canPour_42 : decode cX11_canPour 42 = .ok (.iload_n 3, 1) := by decide +kernel
theorem dX11_canPour_43 : decode cX11_canPour 43 = .ok (.aload_n 0, 1) := by decide +kernel
theorem dX11_canPour_44 : decode cX11_canPour 44 = .ok (.getfield 41, 3) := by decide +kernel
theorem dX11_canPour_47 : decode cX11_canPour 47 = .ok (.getfield 51, 3) := by decide +kernel
theorem dX11_canPour_50 : decode cX11_canPour 50 = .ok (.getfield 202, 3) := by decide +kernel
theorem dX11_canPour_53 : decode cX11_canPour 53 = .ok (.if_icmp .ge 33, 3) := by decide +kernel
theorem dX11_canPour_56 : decode cX11_canPour 56 = .ok (.iload 4, 2) := by decide +kernel
theorem dX11_canPour_58 : decode cX11_canPour 58 = .ok (.aload_n 0, 1) := by decide +kernel
theorem dX11_canPour_59 : decode cX11_canPour 59 = .ok (.getfield 41, 3) := by decide +kernel
theorem dX11_canPour_62 : decode cX11_canPour 62 = .ok (.getfield 51, 3) := by decide +kernel
theorem dX11_canPour_65 : decode cX11_canPour 65 = .ok (.getfield 202, 3) := by decide +kernel
theorem dX11_canPour_68 : decode cX11_canPour 68 = .ok (.if_icmp .ge 18, 3) := by decide +kernel
theorem dX11_canPour_71 : decode cX11_canPour 71 = .ok (.iload_n 3, 1) := by decide +kernel
theorem dX11_canPour_72 : decode cX11_canPour 72 = .ok (.iload 4, 2) := by decide +kernel
theorem dX11_canPour_74 : decode cX11_canPour 74 = .ok (.isub, 1) := by decide +kernel
theorem dX11_canPour_75 : decode cX11_canPour 75 = .ok (.invokestatic 319, 3) := by decide +kernel
theorem dX11_canPour_78 : decode cX11_canPour 78 = .ok (.iconst 3, 1) := by decide +kernel
theorem dX11_canPour_79 : decode cX11_canPour 79 = .ok (.if_icmp .gt 7, 3) := by decide +kernel
theorem dX11_canPour_82 : decode cX11_canPour 82 = .ok (.iconst 1, 1) := by decide +kernel
theorem dX11_canPour_83 : decode cX11_canPour 83 = .ok (.goto 4, 3) := by decide +kernel
theorem dX11_canPour_86 : decode cX11_canPour 86 = .ok (.iconst 0, 1) := by decide +kernel
theorem dX11_canPour_87 : decode cX11_canPour 87 = .ok (.ireturn, 1) := by decide +kernel
theorem dX11_poursAcross_0 : decode cX11_poursAcross 0 = .ok (.iconst 0, 1) := by decide +kernel
theorem dX11_poursAcross_1 : decode cX11_poursAcross 1 = .ok (.istore_n 2, 1) := by decide +kernel
theorem dX11_poursAcross_2 : decode cX11_poursAcross 2 = .ok (.iconst 0, 1) := by decide +kernel
theorem dX11_poursAcross_3 : decode cX11_poursAcross 3 = .ok (.istore_n 3, 1) := by decide +kernel
theorem dX11_poursAcross_4 : decode cX11_poursAcross 4 = .ok (.iload_n 3, 1) := by decide +kernel
theorem dX11_poursAcross_5 : decode cX11_poursAcross 5 = .ok (.aload_n 0, 1) := by decide +kernel
theorem dX11_poursAcross_6 : decode cX11_poursAcross 6 = .ok (.getfield 41, 3) := by decide +kernel
theorem dX11_poursAcross_9 : decode cX11_poursAcross 9 = .ok (.getfield 51, 3) := by decide +kernel
theorem dX11_poursAcross_12 : decode cX11_poursAcross 12 = .ok (.getfield 117, 3) := by decide +kernel
theorem dX11_poursAcross_15 : decode cX11_poursAcross 15 = .ok (.if_icmp .ge 38, 3) := by decide +kernel
theorem dX11_poursAcross_18 : decode cX11_poursAcross 18 = .ok (.iload_n 1, 1) := by decide +kernel
theorem dX11_poursAcross_19 : decode cX11_poursAcross 19 = .ok (.iload_n 3, 1) := by decide +kernel
theorem dX11_poursAcross_20 : decode cX11_poursAcross 20 = .ok (.invokestatic 234, 3) := by decide +kernel
theorem dX11_poursAcross_23 : decode cX11_poursAcross 23 = .ok (.ifCond .eq 24, 3) := by decide +kernel
theorem dX11_poursAcross_26 : decode cX11_poursAcross 26 = .ok (.iload_n 2, 1) := by decide +kernel
theorem dX11_poursAcross_27 : decode cX11_poursAcross 27 = .ok (.aload_n 0, 1) := by decide +kernel
theorem dX11_poursAcross_28 : decode cX11_poursAcross 28 = .ok (.getfield 41, 3) := by decide +kernel
theorem dX11_poursAcross_31 : decode cX11_poursAcross 31 = .ok (.getfield 140, 3) := by decide +kernel
theorem dX11_poursAcross_34 : decode cX11_poursAcross 34 = .ok (.iload_n 3, 1) := by decide +kernel
theorem dX11_poursAcross_35 : decode cX11_poursAcross 35 = .ok (.invokevirtual 149, 3) := by decide +kernel
theorem dX11_poursAcross_38 : decode cX11_poursAcross 38 = .ok (.iload_n 1, 1) := by decide +kernel
theorem dX11_poursAcross_39 : decode cX11_poursAcross 39 = .ok (.iconst (-1), 1) := by decide +kernel
theorem dX11_poursAcross_40 : decode cX11_poursAcross 40 = .ok (.ixor, 1) := by decide +kernel
theorem dX11_poursAcross_41 : decode cX11_poursAcross 41 = .ok (.iand, 1) := by decide +kernel
theorem dX11_poursAcross_42 : decode cX11_poursAcross 42 = .ok (.invokestatic 225, 3) := by decide +kernel
theorem dX11_poursAcross_45 : decode cX11_poursAcross 45 = .ok (.iadd, 1) := by decide +kernel
theorem dX11_poursAcross_46 : decode cX11_poursAcross 46 = .ok (.istore_n 2, 1) := by decide +kernel
theorem dX11_poursAcross_47 : decode cX11_poursAcross 47 = .ok (.iinc 3 1, 3) := by decide +kernel
theorem dX11_poursAcross_50 : decode cX11_poursAcross 50 = .ok (.goto (-46), 3) := by decide +kernel
theorem dX11_poursAcross_53 : decode cX11_poursAcross 53 = .ok (.iload_n 2, 1) := by decide +kernel
theorem dX11_poursAcross_54 : decode cX11_poursAcross 54 = .ok (.ireturn, 1) := by decide +kernel
theorem dX11_findComesDown_0 : decode cX11_findComesDown 0 = .ok (.aload_n 0, 1) := by decide +kernel
theorem dX11_findComesDown_1 : decode cX11_findComesDown 1 = .ok (.getfield 69, 3) := by decide +kernel
theorem dX11_findComesDown_4 : decode cX11_findComesDown 4 = .ok (.bipush 100, 2) := by decide +kernel
theorem dX11_findComesDown_6 : decode cX11_findComesDown 6 = .ok (.invokestatic 324, 3) := by decide +kernel
theorem dX11_findComesDown_9 : decode cX11_findComesDown 9 = .ok (.aload_n 0, 1) := by decide +kernel
theorem dX11_findComesDown_10 : decode cX11_findComesDown 10 = .ok (.getfield 65, 3) := by decide +kernel
theorem dX11_findComesDown_13 : decode cX11_findComesDown 13 = .ok (.aload_n 0, 1) := by decide +kernel
theorem dX11_findComesDown_14 : decode cX11_findComesDown 14 = .ok (.getfield 41, 3) := by decide +kernel
theorem dX11_findComesDown_17 : decode cX11_findComesDown 17 = .ok (.getfield 140, 3) := by decide +kernel
theorem dX11_findComesDown_20 : decode cX11_findComesDown 20 = .ok (.invokevirtual 214, 3) := by decide +kernel
theorem dX11_findComesDown_23 : decode cX11_findComesDown 23 = .ok (.iconst 0, 1) := by decide +kernel
theorem dX11_findComesDown_24 : decode cX11_findComesDown 24 = .ok (.istore_n 1, 1) := by decide +kernel
theorem dX11_findComesDown_25 : decode cX11_findComesDown 25 = .ok (.iload_n 1, 1) := by decide +kernel
theorem dX11_findComesDown_26 : decode cX11_findComesDown 26 = .ok (.bipush 100, 2) := by decide +kernel
theorem dX11_findComesDown_28 : decode cX11_findComesDown 28 = .ok (.if_icmp .ge 101, 3) := by decide +kernel
theorem dX11_findComesDown_31 : decode cX11_findComesDown 31 = .ok (.iconst 0, 1) := by decide +kernel
theorem dX11_findComesDown_32 : decode cX11_findComesDown 32 = .ok (.istore_n 2, 1) := by decide +kernel
theorem dX11_findComesDown_33 : decode cX11_findComesDown 33 = .ok (.iload_n 2, 1) := by decide +kernel
theorem dX11_findComesDown_34 : decode cX11_findComesDown 34 = .ok (.aload_n 0, 1) := by decide +kernel
theorem dX11_findComesDown_35 : decode cX11_findComesDown 35 = .ok (.getfield 41, 3) := by decide +kernel
theorem dX11_findComesDown_38 : decode cX11_findComesDown 38 = .ok (.getfield 51, 3) := by decide +kernel
theorem dX11_findComesDown_41 : decode cX11_findComesDown 41 = .ok (.getfield 117, 3) := by decide +kernel
theorem dX11_findComesDown_44 : decode cX11_findComesDown 44 = .ok (.if_icmp .ge 49, 3) := by decide +kernel
theorem dX11_findComesDown_47 : decode cX11_findComesDown 47 = .ok (.aload_n 0, 1) := by decide +kernel
theorem dX11_findComesDown_48 : decode cX11_findComesDown 48 = .ok (.getfield 69, 3) := by decide +kernel
theorem dX11_findComesDown_51 : decode cX11_findComesDown 51 = .ok (.iload_n 2, 1) := by decide +kernel
theorem dX11_findComesDown_52 : decode cX11_findComesDown 52 = .ok (.iaload, 1) := by decide +kernel
theorem dX11_findComesDown_53 : decode cX11_findComesDown 53 = .ok (.bipush 100, 2) := by decide +kernel
theorem dX11_findComesDown_55 : decode cX11_findComesDown 55 = .ok (.if_icmp .ne 32, 3) := by decide +kernel
theorem dX11_findComesDown_58 : decode cX11_findComesDown 58 = .ok (.aload_n 0, 1) := by decide +kernel
theorem dX11_findComesDown_59 : decode cX11_findComesDown 59 = .ok (.getfield 65, 3) := by decide +kernel
theorem dX11_findComesDown_62 : decode cX11_findComesDown 62 = .ok (.getfield 143, 3) := by decide +kernel
theorem dX11_findComesDown_65 : decode cX11_findComesDown 65 = .ok (.iload_n 2, 1) := by decide +kernel
theorem dX11_findComesDown_66 : decode cX11_findComesDown 66 = .ok (.iaload, 1) := by decide +kernel
theorem dX11_findComesDown_67 : decode cX11_findComesDown 67 = .ok (.aload_n 0, 1) := by decide +kernel
theorem dX11_findComesDown_68 : decode cX11_findComesDown 68 = .ok (.getfield 41, 3) := by decide +kernel
theorem dX11_findComesDown_71 : decode cX11_findComesDown 71 = .ok (.getfield 51, 3) := by decide +kernel
theorem dX11_findComesDown_74 : decode cX11_findComesDown 74 = .ok (.getfield 202, 3) := by decide +kernel
theorem dX11_findComesDown_77 : decode cX11_findComesDown 77 = .ok (.if_icmp .lt 10, 3) := by decide +kernel
theorem dX11_findComesDown_80 : decode cX11_findComesDown 80 = .ok (.aload_n 0, 1) := by decide +kernel
theorem dX11_findComesDown_81 : decode cX11_findComesDown 81 = .ok (.getfield 69, 3) := by decide +kernel
theorem dX11_findComesDown_84 : decode cX11_findComesDown 84 = .ok (.iload_n 2, 1) := by decide +kernel
theorem dX11_findComesDown_85 : decode cX11_findComesDown 85 = .ok (.iload_n 1, 1) := by decide +kernel
theorem dX11_findComesDown_86 : decode cX11_findComesDown 86 = .ok (.iastore, 1) := by decide +kernel
theorem dX11_findComesDown_87 : decode cX11_findComesDown 87 = .ok (.iinc 2 1, 3) := by decide +kernel
theorem dX11_findComesDown_90 : decode cX11_findComesDown 90 = .ok (.goto (-57), 3) := by decide +kernel
theorem dX11_findComesDown_93 : decode cX11_findComesDown 93 = .ok (.aload_n 0, 1) := by decide +kernel
theorem dX11_findComesDown_94 : decode cX11_findComesDown 94 = .ok (.getfield 58, 3) := by decide +kernel
theorem dX11_findComesDown_97 : decode cX11_findComesDown 97 = .ok (.aload_n 0, 1) := by decide +kernel
theorem dX11_findComesDown_98 : decode cX11_findComesDown 98 = .ok (.getfield 65, 3) := by decide +kernel
theorem dX11_findComesDown_101 : decode cX11_findComesDown 101 = .ok (.aload_n 0, 1) := by decide +kernel
theorem dX11_findComesDown_102 : decode cX11_findComesDown 102 = .ok (.invokevirtual 176, 3) := by decide +kernel
theorem dX11_findComesDown_105 : decode cX11_findComesDown 105 = .ok (.aload_n 0, 1) := by decide +kernel
theorem dX11_findComesDown_106 : decode cX11_findComesDown 106 = .ok (.getfield 41, 3) := by decide +kernel
theorem dX11_findComesDown_109 : decode cX11_findComesDown 109 = .ok (.getfield 51, 3) := by decide +kernel
theorem dX11_findComesDown_112 : decode cX11_findComesDown 112 = .ok (.aload_n 0, 1) := by decide +kernel
theorem dX11_findComesDown_113 : decode cX11_findComesDown 113 = .ok (.getfield 65, 3) := by decide +kernel
theorem dX11_findComesDown_116 : decode cX11_findComesDown 116 = .ok (.invokevirtual 180, 3) := by decide +kernel
theorem dX11_findComesDown_119 : decode cX11_findComesDown 119 = .ok (.invokevirtual 184, 3) := by decide +kernel
theorem dX11_findComesDown_122 : decode cX11_findComesDown 122 = .ok (.pop, 1) := by decide +kernel
theorem dX11_findComesDown_123 : decode cX11_findComesDown 123 = .ok (.iinc 1 1, 3) := by decide +kernel
theorem dX11_findComesDown_126 : decode cX11_findComesDown 126 = .ok (.goto (-101), 3) := by decide +kernel
theorem dX11_findComesDown_129 : decode cX11_findComesDown 129 = .ok (.return_, 1) := by decide +kernel
theorem dX11_passSummer_0 : decode cX11_passSummer 0 = .ok (.iload_n 1, 1) := by decide +kernel
theorem dX11_passSummer_1 : decode cX11_passSummer 1 = .ok (.istore 4, 2) := by decide +kernel
theorem dX11_passSummer_3 : decode cX11_passSummer 3 = .ok (.aload_n 0, 1) := by decide +kernel
theorem dX11_passSummer_4 : decode cX11_passSummer 4 = .ok (.getfield 65, 3) := by decide +kernel
theorem dX11_passSummer_7 : decode cX11_passSummer 7 = .ok (.aload_n 0, 1) := by decide +kernel
theorem dX11_passSummer_8 : decode cX11_passSummer 8 = .ok (.getfield 41, 3) := by decide +kernel
theorem dX11_passSummer_11 : decode cX11_passSummer 11 = .ok (.getfield 140, 3) := by decide +kernel
theorem dX11_passSummer_14 : decode cX11_passSummer 14 = .ok (.invokevirtual 214, 3) := by decide +kernel
theorem dX11_passSummer_17 : decode cX11_passSummer 17 = .ok (.iconst 0, 1) := by decide +kernel
theorem dX11_passSummer_18 : decode cX11_passSummer 18 = .ok (.istore 5, 2) := by decide +kernel
theorem dX11_passSummer_20 : decode cX11_passSummer 20 = .ok (.iload 5, 2) := by decide +kernel
theorem dX11_passSummer_22 : decode cX11_passSummer 22 = .ok (.iload_n 2, 1) := by decide +kernel
theorem dX11_passSummer_23 : decode cX11_passSummer 23 = .ok (.if_icmp .ge 81, 3) := by decide +kernel
theorem dX11_passSummer_26 : decode cX11_passSummer 26 = .ok (.aload_n 0, 1) := by decide +kernel
theorem dX11_passSummer_27 : decode cX11_passSummer 27 = .ok (.getfield 41, 3) := by decide +kernel
theorem dX11_passSummer_30 : decode cX11_passSummer 30 = .ok (.getfield 51, 3) := by decide +kernel
theorem dX11_passSummer_33 : decode cX11_passSummer 33 = .ok (.aload_n 0, 1) := by decide +kernel
theorem dX11_passSummer_34 : decode cX11_passSummer 34 = .ok (.getfield 65, 3) := by decide +kernel
theorem dX11_passSummer_37 : decode cX11_passSummer 37 = .ok (.invokevirtual 180, 3) := by decide +kernel
theorem dX11_passSummer_40 : decode cX11_passSummer 40 = .ok (.istore 6, 2) := by decide +kernel
theorem dX11_passSummer_42 : decode cX11_passSummer 42 = .ok (.iload 4, 2) := by decide +kernel
theorem dX11_passSummer_44 : decode cX11_passSummer 44 = .ok (.invokestatic 330, 3) := by decide +kernel
theorem dX11_passSummer_47 : decode cX11_passSummer 47 = .ok (.istore 4, 2) := by decide +kernel
theorem dX11_passSummer_49 : decode cX11_passSummer 49 = .ok (.iload 4, 2) := by decide +kernel
theorem dX11_passSummer_51 : decode cX11_passSummer 51 = .ok (.ldc_w 333, 3) := by decide +kernel
theorem dX11_passSummer_54 : decode cX11_passSummer 54 = .ok (.idiv, 1) := by decide +kernel
theorem dX11_passSummer_55 : decode cX11_passSummer 55 = .ok (.bipush 100, 2) := by decide +kernel
theorem dX11_passSummer_57 : decode cX11_passSummer 57 = .ok (.irem, 1) := by decide +kernel
theorem dX11_passSummer_58 : decode cX11_passSummer 58 = .ok (.iload_n 3, 1) := by decide +kernel
theorem dX11_passSummer_59 : decode cX11_passSummer 59 = .ok (.if_icmp .ge 21, 3) := by decide +kernel
theorem dX11_passSummer_62 : decode cX11_passSummer 62 = .ok (.iload 4, 2) := by decide +kernel
theorem dX11_passSummer_64 : decode cX11_passSummer 64 = .ok (.invokestatic 330, 3) := by decide +kernel
theorem dX11_passSummer_67 : decode cX11_passSummer 67 = .ok (.istore 4, 2) := by decide +kernel
theorem dX11_passSummer_69 : decode cX11_passSummer 69 = .ok (.iload 4, 2) := by decide +kernel
theorem dX11_passSummer_71 : decode cX11_passSummer 71 = .ok (.ldc_w 333, 3) := by decide +kernel
theorem dX11_passSummer_74 : decode cX11_passSummer 74 = .ok (.idiv, 1) := by decide +kernel
theorem dX11_passSummer_75 : decode cX11_passSummer 75 = .ok (.bipush 10, 2) := by decide +kernel
theorem dX11_passSummer_77 : decode cX11_passSummer 77 = .ok (.irem, 1) := by decide +kernel
theorem dX11_passSummer_78 : decode cX11_passSummer 78 = .ok (.istore 6, 2) := by decide +kernel
theorem dX11_passSummer_80 : decode cX11_passSummer 80 = .ok (.aload_n 0, 1) := by decide +kernel
theorem dX11_passSummer_81 : decode cX11_passSummer 81 = .ok (.getfield 58, 3) := by decide +kernel
theorem dX11_passSummer_84 : decode cX11_passSummer 84 = .ok (.aload_n 0, 1) := by decide +kernel
theorem dX11_passSummer_85 : decode cX11_passSummer 85 = .ok (.getfield 65, 3) := by decide +kernel
theorem dX11_passSummer_88 : decode cX11_passSummer 88 = .ok (.aload_n 0, 1) := by decide +kernel
theorem dX11_passSummer_89 : decode cX11_passSummer 89 = .ok (.invokevirtual 176, 3) := by decide +kernel
theorem dX11_passSummer_92 : decode cX11_passSummer 92 = .ok (.iload 6, 2) := by decide +kernel
theorem dX11_passSummer_94 : decode cX11_passSummer 94 = .ok (.invokevirtual 184, 3) := by decide +kernel
theorem dX11_passSummer_97 : decode cX11_passSummer 97 = .ok (.pop, 1) := by decide +kernel
theorem dX11_passSummer_98 : decode cX11_passSummer 98 = .ok (.iinc 5 1, 3) := by decide +kernel
theorem dX11_passSummer_101 : decode cX11_passSummer 101 = .ok (.goto (-81), 3) := by decide +kernel
theorem dX11_passSummer_104 : decode cX11_passSummer 104 = .ok (.iload 4, 2) := by decide +kernel
theorem dX11_passSummer_106 : decode cX11_passSummer 106 = .ok (.ireturn, 1) := by decide +kernel
theorem dX11_behindDraw_0 : decode cX11_behindDraw 0 = .ok (.iload_n 0, 1) := by decide +kernel
theorem dX11_behindDraw_1 : decode cX11_behindDraw 1 = .ok (.i2l, 1) := by decide +kernel
theorem dX11_behindDraw_2 : decode cX11_behindDraw 2 = .ok (.ldc2_w 334, 3) := by decide +kernel
theorem dX11_behindDraw_5 : decode cX11_behindDraw 5 = .ok (.lmul, 1) := by decide +kernel
theorem dX11_behindDraw_6 : decode cX11_behindDraw 6 = .ok (.ldc2_w 336, 3) := by decide +kernel
theorem dX11_behindDraw_9 : decode cX11_behindDraw 9 = .ok (.ladd, 1) := by decide +kernel
theorem dX11_behindDraw_10 : decode cX11_behindDraw 10 = .ok (.ldc2_w 338, 3) := by decide +kernel
theorem dX11_behindDraw_13 : decode cX11_behindDraw 13 = .ok (.lrem, 1) := by decide +kernel
theorem dX11_behindDraw_14 : decode cX11_behindDraw 14 = .ok (.l2i, 1) := by decide +kernel
theorem dX11_behindDraw_15 : decode cX11_behindDraw 15 = .ok (.ireturn, 1) := by decide +kernel
theorem dJ0_length_8abf5_0 : decode cJ0_length_8abf5 0 = .ok (.aload_n 0, 1) := by decide +kernel
theorem dJ0_length_8abf5_1 : decode cJ0_length_8abf5 1 = .ok (.getfield 9, 3) := by decide +kernel
theorem dJ0_length_8abf5_4 : decode cJ0_length_8abf5 4 = .ok (.arraylength, 1) := by decide +kernel
theorem dJ0_length_8abf5_5 : decode cJ0_length_8abf5 5 = .ok (.aload_n 0, 1) := by decide +kernel
theorem dJ0_length_8abf5_6 : decode cJ0_length_8abf5 6 = .ok (.invokevirtual 335, 3) := by decide +kernel
theorem dJ0_length_8abf5_9 : decode cJ0_length_8abf5 9 = .ok (.ishr, 1) := by decide +kernel
theorem dJ0_length_8abf5_10 : decode cJ0_length_8abf5 10 = .ok (.ireturn, 1) := by decide +kernel
theorem dJ0_charAt_5068e_0 : decode cJ0_charAt_5068e 0 = .ok (.aload_n 0, 1) := by decide +kernel
theorem dJ0_charAt_5068e_1 : decode cJ0_charAt_5068e 1 = .ok (.invokevirtual 492, 3) := by decide +kernel
theorem dJ0_charAt_5068e_4 : decode cJ0_charAt_5068e 4 = .ok (.ifCond .eq 12, 3) := by decide +kernel
theorem dJ0_charAt_5068e_7 : decode cJ0_charAt_5068e 7 = .ok (.aload_n 0, 1) := by decide +kernel
theorem dJ0_charAt_5068e_8 : decode cJ0_charAt_5068e 8 = .ok (.getfield 9, 3) := by decide +kernel
theorem dJ0_charAt_5068e_11 : decode cJ0_charAt_5068e 11 = .ok (.iload_n 1, 1) := by decide +kernel
theorem dJ0_charAt_5068e_12 : decode cJ0_charAt_5068e 12 = .ok (.invokestatic 495, 3) := by decide +kernel
theorem dJ0_charAt_5068e_15 : decode cJ0_charAt_5068e 15 = .ok (.ireturn, 1) := by decide +kernel
theorem dJ0_charAt_5068e_16 : decode cJ0_charAt_5068e 16 = .ok (.aload_n 0, 1) := by decide +kernel
theorem dJ0_charAt_5068e_17 : decode cJ0_charAt_5068e 17 = .ok (.getfield 9, 3) := by decide +kernel
theorem dJ0_charAt_5068e_20 : decode cJ0_charAt_5068e 20 = .ok (.iload_n 1, 1) := by decide +kernel
theorem dJ0_charAt_5068e_21 : decode cJ0_charAt_5068e 21 = .ok (.invokestatic 498, 3) := by decide +kernel
theorem dJ0_charAt_5068e_24 : decode cJ0_charAt_5068e 24 = .ok (.ireturn, 1) := by decide +kernel
theorem dJ0_coder_7d493_0 : decode cJ0_coder_7d493 0 = .ok (.getstatic 38, 3) := by decide +kernel
theorem dJ0_coder_7d493_3 : decode cJ0_coder_7d493 3 = .ok (.ifCond .eq 10, 3) := by decide +kernel
theorem dJ0_coder_7d493_6 : decode cJ0_coder_7d493 6 = .ok (.aload_n 0, 1) := by decide +kernel
theorem dJ0_coder_7d493_7 : decode cJ0_coder_7d493 7 = .ok (.getfield 15, 3) := by decide +kernel
theorem dJ0_coder_7d493_10 : decode cJ0_coder_7d493 10 = .ok (.goto 4, 3) := by decide +kernel
theorem dJ0_coder_7d493_13 : decode cJ0_coder_7d493 13 = .ok (.iconst 1, 1) := by decide +kernel
theorem dJ0_coder_7d493_14 : decode cJ0_coder_7d493 14 = .ok (.ireturn, 1) := by decide +kernel
theorem dJ0_isLatin1_aae02_0 : decode cJ0_isLatin1_aae02 0 = .ok (.getstatic 38, 3) := by decide +kernel
theorem dJ0_isLatin1_aae02_3 : decode cJ0_isLatin1_aae02 3 = .ok (.ifCond .eq 14, 3) := by decide +kernel
theorem dJ0_isLatin1_aae02_6 : decode cJ0_isLatin1_aae02 6 = .ok (.aload_n 0, 1) := by decide +kernel
theorem dJ0_isLatin1_aae02_7 : decode cJ0_isLatin1_aae02 7 = .ok (.getfield 15, 3) := by decide +kernel
theorem dJ0_isLatin1_aae02_10 : decode cJ0_isLatin1_aae02 10 = .ok (.ifCond .ne 7, 3) := by decide +kernel
theorem dJ0_isLatin1_aae02_13 : decode cJ0_isLatin1_aae02 13 = .ok (.iconst 1, 1) := by decide +kernel
theorem dJ0_isLatin1_aae02_14 : decode cJ0_isLatin1_aae02 14 = .ok (.goto 4, 3) := by decide +kernel
theorem dJ0_isLatin1_aae02_17 : decode cJ0_isLatin1_aae02 17 = .ok (.iconst 0, 1) := by decide +kernel
theorem dJ0_isLatin1_aae02_18 : decode cJ0_isLatin1_aae02 18 = .ok (.ireturn, 1) := by decide +kernel
theorem dJ0_checkIndex_df160_0 : decode cJ0_checkIndex_df160 0 = .ok (.iload_n 0, 1) := by decide +kernel
theorem dJ0_checkIndex_df160_1 : decode cJ0_checkIndex_df160 1 = .ok (.iload_n 1, 1) := by decide +kernel
theorem dJ0_checkIndex_df160_2 : decode cJ0_checkIndex_df160 2 = .ok (.getstatic 1053, 3) := by decide +kernel
theorem dJ0_checkIndex_df160_5 : decode cJ0_checkIndex_df160 5 = .ok (.invokestatic 1059, 3) := by decide +kernel
theorem dJ0_checkIndex_df160_8 : decode cJ0_checkIndex_df160 8 = .ok (.pop, 1) := by decide +kernel
theorem dJ0_checkIndex_df160_9 : decode cJ0_checkIndex_df160 9 = .ok (.return_, 1) := by decide +kernel
theorem dJ1_charAt_3b067_0 : decode cJ1_charAt_3b067 0 = .ok (.iload_n 1, 1) := by decide +kernel
theorem dJ1_charAt_3b067_1 : decode cJ1_charAt_3b067 1 = .ok (.aload_n 0, 1) := by decide +kernel
theorem dJ1_charAt_3b067_2 : decode cJ1_charAt_3b067 2 = .ok (.arraylength, 1) := by decide +kernel
theorem dJ1_charAt_3b067_3 : decode cJ1_charAt_3b067 3 = .ok (.invokestatic 9, 3) := by decide +kernel
theorem dJ1_charAt_3b067_6 : decode cJ1_charAt_3b067 6 = .ok (.aload_n 0, 1) := by decide +kernel
theorem dJ1_charAt_3b067_7 : decode cJ1_charAt_3b067 7 = .ok (.iload_n 1, 1) := by decide +kernel
theorem dJ1_charAt_3b067_8 : decode cJ1_charAt_3b067 8 = .ok (.baload, 1) := by decide +kernel
theorem dJ1_charAt_3b067_9 : decode cJ1_charAt_3b067 9 = .ok (.sipush 255, 3) := by decide +kernel
theorem dJ1_charAt_3b067_12 : decode cJ1_charAt_3b067 12 = .ok (.iand, 1) := by decide +kernel
theorem dJ1_charAt_3b067_13 : decode cJ1_charAt_3b067 13 = .ok (.i2c, 1) := by decide +kernel
theorem dJ1_charAt_3b067_14 : decode cJ1_charAt_3b067 14 = .ok (.ireturn, 1) := by decide +kernel
theorem dJ2_getChar_3b067_0 : decode cJ2_getChar_3b067 0 = .ok (.getstatic 44, 3) := by decide +kernel
theorem dJ2_getChar_3b067_3 : decode cJ2_getChar_3b067 3 = .ok (.ifCond .ne 25, 3) := by decide +kernel
theorem dJ2_getChar_3b067_6 : decode cJ2_getChar_3b067 6 = .ok (.iload_n 1, 1) := by decide +kernel
theorem dJ2_getChar_3b067_7 : decode cJ2_getChar_3b067 7 = .ok (.ifCond .lt 11, 3) := by decide +kernel
theorem dJ2_getChar_3b067_10 : decode cJ2_getChar_3b067 10 = .ok (.iload_n 1, 1) := by decide +kernel
theorem dJ2_getChar_3b067_11 : decode cJ2_getChar_3b067 11 = .ok (.aload_n 0, 1) := by decide +kernel
theorem dJ2_getChar_3b067_12 : decode cJ2_getChar_3b067 12 = .ok (.invokestatic 48, 3) := by decide +kernel
theorem dJ2_getChar_3b067_15 : decode cJ2_getChar_3b067 15 = .ok (.if_icmp .lt 13, 3) := by decide +kernel
theorem dJ2_getChar_3b067_18 : decode cJ2_getChar_3b067 18 = .ok (.new 52, 3) := by decide +kernel
theorem dJ2_getChar_3b067_21 : decode cJ2_getChar_3b067 21 = .ok (.dup, 1) := by decide +kernel
theorem dJ2_getChar_3b067_22 : decode cJ2_getChar_3b067 22 = .ok (.ldc 54, 2) := by decide +kernel
theorem dJ2_getChar_3b067_24 : decode cJ2_getChar_3b067 24 = .ok (.invokespecial 56, 3) := by decide +kernel
theorem dJ2_getChar_3b067_27 : decode cJ2_getChar_3b067 27 = .ok (.athrow, 1) := by decide +kernel
theorem dJ2_getChar_3b067_28 : decode cJ2_getChar_3b067 28 = .ok (.iload_n 1, 1) := by decide +kernel
theorem dJ2_getChar_3b067_29 : decode cJ2_getChar_3b067 29 = .ok (.iconst 1, 1) := by decide +kernel
theorem dJ2_getChar_3b067_30 : decode cJ2_getChar_3b067 30 = .ok (.ishl, 1) := by decide +kernel
theorem dJ2_getChar_3b067_31 : decode cJ2_getChar_3b067 31 = .ok (.istore_n 1, 1) := by decide +kernel
theorem dJ2_getChar_3b067_32 : decode cJ2_getChar_3b067 32 = .ok (.aload_n 0, 1) := by decide +kernel
theorem dJ2_getChar_3b067_33 : decode cJ2_getChar_3b067 33 = .ok (.iload_n 1, 1) := by decide +kernel
theorem dJ2_getChar_3b067_34 : decode cJ2_getChar_3b067 34 = .ok (.iinc 1 1, 3) := by decide +kernel
theorem dJ2_getChar_3b067_37 : decode cJ2_getChar_3b067 37 = .ok (.baload, 1) := by decide +kernel
theorem dJ2_getChar_3b067_38 : decode cJ2_getChar_3b067 38 = .ok (.sipush 255, 3) := by decide +kernel
theorem dJ2_getChar_3b067_41 : decode cJ2_getChar_3b067 41 = .ok (.iand, 1) := by decide +kernel
theorem dJ2_getChar_3b067_42 : decode cJ2_getChar_3b067 42 = .ok (.getstatic 59, 3) := by decide +kernel
theorem dJ2_getChar_3b067_45 : decode cJ2_getChar_3b067 45 = .ok (.ishl, 1) := by decide +kernel
theorem dJ2_getChar_3b067_46 : decode cJ2_getChar_3b067 46 = .ok (.aload_n 0, 1) := by decide +kernel
theorem dJ2_getChar_3b067_47 : decode cJ2_getChar_3b067 47 = .ok (.iload_n 1, 1) := by decide +kernel
theorem dJ2_getChar_3b067_48 : decode cJ2_getChar_3b067 48 = .ok (.baload, 1) := by decide +kernel
theorem dJ2_getChar_3b067_49 : decode cJ2_getChar_3b067 49 = .ok (.sipush 255, 3) := by decide +kernel
theorem dJ2_getChar_3b067_52 : decode cJ2_getChar_3b067 52 = .ok (.iand, 1) := by decide +kernel
theorem dJ2_getChar_3b067_53 : decode cJ2_getChar_3b067 53 = .ok (.getstatic 63, 3) := by decide +kernel
theorem dJ2_getChar_3b067_56 : decode cJ2_getChar_3b067 56 = .ok (.ishl, 1) := by decide +kernel
theorem dJ2_getChar_3b067_57 : decode cJ2_getChar_3b067 57 = .ok (.ior, 1) := by decide +kernel
theorem dJ2_getChar_3b067_58 : decode cJ2_getChar_3b067 58 = .ok (.i2c, 1) := by decide +kernel
theorem dJ2_getChar_3b067_59 : decode cJ2_getChar_3b067 59 = .ok (.ireturn, 1) := by decide +kernel
theorem dJ2_length_9d52b_0 : decode cJ2_length_9d52b 0 = .ok (.aload_n 0, 1) := by decide +kernel
theorem dJ2_length_9d52b_1 : decode cJ2_length_9d52b 1 = .ok (.arraylength, 1) := by decide +kernel
theorem dJ2_length_9d52b_2 : decode cJ2_length_9d52b 2 = .ok (.iconst 1, 1) := by decide +kernel
theorem dJ2_length_9d52b_3 : decode cJ2_length_9d52b 3 = .ok (.ishr, 1) := by decide +kernel
theorem dJ2_length_9d52b_4 : decode cJ2_length_9d52b 4 = .ok (.ireturn, 1) := by decide +kernel
theorem dJ2_charAt_3b067_0 : decode cJ2_charAt_3b067 0 = .ok (.iload_n 1, 1) := by decide +kernel
theorem dJ2_charAt_3b067_1 : decode cJ2_charAt_3b067 1 = .ok (.aload_n 0, 1) := by decide +kernel
theorem dJ2_charAt_3b067_2 : decode cJ2_charAt_3b067 2 = .ok (.invokestatic 67, 3) := by decide +kernel
theorem dJ2_charAt_3b067_5 : decode cJ2_charAt_3b067 5 = .ok (.aload_n 0, 1) := by decide +kernel
theorem dJ2_charAt_3b067_6 : decode cJ2_charAt_3b067 6 = .ok (.iload_n 1, 1) := by decide +kernel
theorem dJ2_charAt_3b067_7 : decode cJ2_charAt_3b067 7 = .ok (.invokestatic 71, 3) := by decide +kernel
theorem dJ2_charAt_3b067_10 : decode cJ2_charAt_3b067 10 = .ok (.ireturn, 1) := by decide +kernel
theorem dJ2_checkIndex_2214a_0 : decode cJ2_checkIndex_2214a 0 = .ok (.iload_n 0, 1) := by decide +kernel
theorem dJ2_checkIndex_2214a_1 : decode cJ2_checkIndex_2214a 1 = .ok (.aload_n 1, 1) := by decide +kernel
theorem dJ2_checkIndex_2214a_2 : decode cJ2_checkIndex_2214a 2 = .ok (.invokestatic 48, 3) := by decide +kernel
theorem dJ2_checkIndex_2214a_5 : decode cJ2_checkIndex_2214a 5 = .ok (.invokestatic 414, 3) := by decide +kernel
theorem dJ2_checkIndex_2214a_8 : decode cJ2_checkIndex_2214a 8 = .ok (.return_, 1) := by decide +kernel
theorem dJ3_checkIndex_8e157_0 : decode cJ3_checkIndex_8e157 0 = .ok (.iload_n 0, 1) := by decide +kernel
theorem dJ3_checkIndex_8e157_1 : decode cJ3_checkIndex_8e157 1 = .ok (.ifCond .lt 8, 3) := by decide +kernel
theorem dJ3_checkIndex_8e157_4 : decode cJ3_checkIndex_8e157 4 = .ok (.iload_n 0, 1) := by decide +kernel
theorem dJ3_checkIndex_8e157_5 : decode cJ3_checkIndex_8e157 5 = .ok (.iload_n 1, 1) := by decide +kernel
theorem dJ3_checkIndex_8e157_6 : decode cJ3_checkIndex_8e157 6 = .ok (.if_icmp .lt 10, 3) := by decide +kernel
theorem dJ3_checkIndex_8e157_9 : decode cJ3_checkIndex_8e157 9 = .ok (.aload_n 2, 1) := by decide +kernel
theorem dJ3_checkIndex_8e157_10 : decode cJ3_checkIndex_8e157 10 = .ok (.iload_n 0, 1) := by decide +kernel
theorem dJ3_checkIndex_8e157_11 : decode cJ3_checkIndex_8e157 11 = .ok (.iload_n 1, 1) := by decide +kernel
theorem dJ3_checkIndex_8e157_12 : decode cJ3_checkIndex_8e157 12 = .ok (.invokestatic 95, 3) := by decide +kernel
theorem dJ3_checkIndex_8e157_15 : decode cJ3_checkIndex_8e157 15 = .ok (.athrow, 1) := by decide +kernel
theorem dJ3_checkIndex_8e157_16 : decode cJ3_checkIndex_8e157 16 = .ok (.iload_n 0, 1) := by decide +kernel
theorem dJ3_checkIndex_8e157_17 : decode cJ3_checkIndex_8e157 17 = .ok (.ireturn, 1) := by decide +kernel
theorem dJ6_bitCount_0f7a4_0 : decode cJ6_bitCount_0f7a4 0 = .ok (.iload_n 0, 1) := by decide +kernel
theorem dJ6_bitCount_0f7a4_1 : decode cJ6_bitCount_0f7a4 1 = .ok (.iload_n 0, 1) := by decide +kernel
theorem dJ6_bitCount_0f7a4_2 : decode cJ6_bitCount_0f7a4 2 = .ok (.iconst 1, 1) := by decide +kernel
theorem dJ6_bitCount_0f7a4_3 : decode cJ6_bitCount_0f7a4 3 = .ok (.iushr, 1) := by decide +kernel
theorem dJ6_bitCount_0f7a4_4 : decode cJ6_bitCount_0f7a4 4 = .ok (.ldc_w 265, 3) := by decide +kernel
theorem dJ6_bitCount_0f7a4_7 : decode cJ6_bitCount_0f7a4 7 = .ok (.iand, 1) := by decide +kernel
theorem dJ6_bitCount_0f7a4_8 : decode cJ6_bitCount_0f7a4 8 = .ok (.isub, 1) := by decide +kernel
theorem dJ6_bitCount_0f7a4_9 : decode cJ6_bitCount_0f7a4 9 = .ok (.istore_n 0, 1) := by decide +kernel
theorem dJ6_bitCount_0f7a4_10 : decode cJ6_bitCount_0f7a4 10 = .ok (.iload_n 0, 1) := by decide +kernel
theorem dJ6_bitCount_0f7a4_11 : decode cJ6_bitCount_0f7a4 11 = .ok (.ldc_w 266, 3) := by decide +kernel
theorem dJ6_bitCount_0f7a4_14 : decode cJ6_bitCount_0f7a4 14 = .ok (.iand, 1) := by decide +kernel
theorem dJ6_bitCount_0f7a4_15 : decode cJ6_bitCount_0f7a4 15 = .ok (.iload_n 0, 1) := by decide +kernel
theorem dJ6_bitCount_0f7a4_16 : decode cJ6_bitCount_0f7a4 16 = .ok (.iconst 2, 1) := by decide +kernel
theorem dJ6_bitCount_0f7a4_17 : decode cJ6_bitCount_0f7a4 17 = .ok (.iushr, 1) := by decide +kernel
theorem dJ6_bitCount_0f7a4_18 : decode cJ6_bitCount_0f7a4 18 = .ok (.ldc_w 266, 3) := by decide +kernel
theorem dJ6_bitCount_0f7a4_21 : decode cJ6_bitCount_0f7a4 21 = .ok (.iand, 1) := by decide +kernel
theorem dJ6_bitCount_0f7a4_22 : decode cJ6_bitCount_0f7a4 22 = .ok (.iadd, 1) := by decide +kernel
theorem dJ6_bitCount_0f7a4_23 : decode cJ6_bitCount_0f7a4 23 = .ok (.istore_n 0, 1) := by decide +kernel
theorem dJ6_bitCount_0f7a4_24 : decode cJ6_bitCount_0f7a4 24 = .ok (.iload_n 0, 1) := by decide +kernel
theorem dJ6_bitCount_0f7a4_25 : decode cJ6_bitCount_0f7a4 25 = .ok (.iload_n 0, 1) := by decide +kernel
theorem dJ6_bitCount_0f7a4_26 : decode cJ6_bitCount_0f7a4 26 = .ok (.iconst 4, 1) := by decide +kernel
theorem dJ6_bitCount_0f7a4_27 : decode cJ6_bitCount_0f7a4 27 = .ok (.iushr, 1) := by decide +kernel
theorem dJ6_bitCount_0f7a4_28 : decode cJ6_bitCount_0f7a4 28 = .ok (.iadd, 1) := by decide +kernel
theorem dJ6_bitCount_0f7a4_29 : decode cJ6_bitCount_0f7a4 29 = .ok (.ldc_w 267, 3) := by decide +kernel
theorem dJ6_bitCount_0f7a4_32 : decode cJ6_bitCount_0f7a4 32 = .ok (.iand, 1) := by decide +kernel
theorem dJ6_bitCount_0f7a4_33 : decode cJ6_bitCount_0f7a4 33 = .ok (.istore_n 0, 1) := by decide +kernel
theorem dJ6_bitCount_0f7a4_34 : decode cJ6_bitCount_0f7a4 34 = .ok (.iload_n 0, 1) := by decide +kernel
theorem dJ6_bitCount_0f7a4_35 : decode cJ6_bitCount_0f7a4 35 = .ok (.iload_n 0, 1) := by decide +kernel
theorem dJ6_bitCount_0f7a4_36 : decode cJ6_bitCount_0f7a4 36 = .ok (.bipush 8, 2) := by decide +kernel
theorem dJ6_bitCount_0f7a4_38 : decode cJ6_bitCount_0f7a4 38 = .ok (.iushr, 1) := by decide +kernel
theorem dJ6_bitCount_0f7a4_39 : decode cJ6_bitCount_0f7a4 39 = .ok (.iadd, 1) := by decide +kernel
theorem dJ6_bitCount_0f7a4_40 : decode cJ6_bitCount_0f7a4 40 = .ok (.istore_n 0, 1) := by decide +kernel
theorem dJ6_bitCount_0f7a4_41 : decode cJ6_bitCount_0f7a4 41 = .ok (.iload_n 0, 1) := by decide +kernel
theorem dJ6_bitCount_0f7a4_42 : decode cJ6_bitCount_0f7a4 42 = .ok (.iload_n 0, 1) := by decide +kernel
theorem dJ6_bitCount_0f7a4_43 : decode cJ6_bitCount_0f7a4 43 = .ok (.bipush 16, 2) := by decide +kernel
theorem dJ6_bitCount_0f7a4_45 : decode cJ6_bitCount_0f7a4 45 = .ok (.iushr, 1) := by decide +kernel
theorem dJ6_bitCount_0f7a4_46 : decode cJ6_bitCount_0f7a4 46 = .ok (.iadd, 1) := by decide +kernel
theorem dJ6_bitCount_0f7a4_47 : decode cJ6_bitCount_0f7a4 47 = .ok (.istore_n 0, 1) := by decide +kernel
theorem dJ6_bitCount_0f7a4_48 : decode cJ6_bitCount_0f7a4 48 = .ok (.iload_n 0, 1) := by decide +kernel
theorem dJ6_bitCount_0f7a4_49 : decode cJ6_bitCount_0f7a4 49 = .ok (.bipush 63, 2) := by decide +kernel
theorem dJ6_bitCount_0f7a4_51 : decode cJ6_bitCount_0f7a4 51 = .ok (.iand, 1) := by decide +kernel
theorem dJ6_bitCount_0f7a4_52 : decode cJ6_bitCount_0f7a4 52 = .ok (.ireturn, 1) := by decide +kernel
theorem dJ7_fill_53178_0 : decode cJ7_fill_53178 0 = .ok (.iconst 0, 1) := by decide +kernel
theorem dJ7_fill_53178_1 : decode cJ7_fill_53178 1 = .ok (.istore_n 2, 1) := by decide +kernel
theorem dJ7_fill_53178_2 : decode cJ7_fill_53178 2 = .ok (.aload_n 0, 1) := by decide +kernel
theorem dJ7_fill_53178_3 : decode cJ7_fill_53178 3 = .ok (.arraylength, 1) := by decide +kernel
theorem dJ7_fill_53178_4 : decode cJ7_fill_53178 4 = .ok (.istore_n 3, 1) := by decide +kernel
theorem dJ7_fill_53178_5 : decode cJ7_fill_53178 5 = .ok (.iload_n 2, 1) := by decide +kernel
theorem dJ7_fill_53178_6 : decode cJ7_fill_53178 6 = .ok (.iload_n 3, 1) := by decide +kernel
theorem dJ7_fill_53178_7 : decode cJ7_fill_53178 7 = .ok (.if_icmp .ge 13, 3) := by decide +kernel
theorem dJ7_fill_53178_10 : decode cJ7_fill_53178 10 = .ok (.aload_n 0, 1) := by decide +kernel
theorem dJ7_fill_53178_11 : decode cJ7_fill_53178 11 = .ok (.iload_n 2, 1) := by decide +kernel
theorem dJ7_fill_53178_12 : decode cJ7_fill_53178 12 = .ok (.iload_n 1, 1) := by decide +kernel
theorem dJ7_fill_53178_13 : decode cJ7_fill_53178 13 = .ok (.iastore, 1) := by decide +kernel
theorem dJ7_fill_53178_14 : decode cJ7_fill_53178 14 = .ok (.iinc 2 1, 3) := by decide +kernel
theorem dJ7_fill_53178_17 : decode cJ7_fill_53178 17 = .ok (.goto (-12), 3) := by decide +kernel
theorem dJ7_fill_53178_20 : decode cJ7_fill_53178 20 = .ok (.return_, 1) := by decide +kernel
theorem dJ7_copyOf_59c91_0 : decode cJ7_copyOf_59c91 0 = .ok (.iload_n 1, 1) := by decide +kernel
theorem dJ7_copyOf_59c91_1 : decode cJ7_copyOf_59c91 1 = .ok (.aload_n 0, 1) := by decide +kernel
theorem dJ7_copyOf_59c91_2 : decode cJ7_copyOf_59c91 2 = .ok (.arraylength, 1) := by decide +kernel
theorem dJ7_copyOf_59c91_3 : decode cJ7_copyOf_59c91 3 = .ok (.if_icmp .ne 11, 3) := by decide +kernel
theorem dJ7_copyOf_59c91_6 : decode cJ7_copyOf_59c91 6 = .ok (.aload_n 0, 1) := by decide +kernel
theorem dJ7_copyOf_59c91_7 : decode cJ7_copyOf_59c91 7 = .ok (.invokevirtual 316, 3) := by decide +kernel
theorem dJ7_copyOf_59c91_10 : decode cJ7_copyOf_59c91 10 = .ok (.checkcast 317, 3) := by decide +kernel
theorem dJ7_copyOf_59c91_13 : decode cJ7_copyOf_59c91 13 = .ok (.areturn, 1) := by decide +kernel
theorem dJ7_copyOf_59c91_14 : decode cJ7_copyOf_59c91 14 = .ok (.iload_n 1, 1) := by decide +kernel
theorem dJ7_copyOf_59c91_15 : decode cJ7_copyOf_59c91 15 = .ok (.newarray .int, 2) := by decide +kernel
theorem dJ7_copyOf_59c91_17 : decode cJ7_copyOf_59c91 17 = .ok (.astore_n 2, 1) := by decide +kernel
theorem dJ7_copyOf_59c91_18 : decode cJ7_copyOf_59c91 18 = .ok (.aload_n 0, 1) := by decide +kernel
theorem dJ7_copyOf_59c91_19 : decode cJ7_copyOf_59c91 19 = .ok (.iconst 0, 1) := by decide +kernel
theorem dJ7_copyOf_59c91_20 : decode cJ7_copyOf_59c91 20 = .ok (.aload_n 2, 1) := by decide +kernel
theorem dJ7_copyOf_59c91_21 : decode cJ7_copyOf_59c91 21 = .ok (.iconst 0, 1) := by decide +kernel
theorem dJ7_copyOf_59c91_22 : decode cJ7_copyOf_59c91 22 = .ok (.aload_n 0, 1) := by decide +kernel
theorem dJ7_copyOf_59c91_23 : decode cJ7_copyOf_59c91 23 = .ok (.arraylength, 1) := by decide +kernel
theorem dJ7_copyOf_59c91_24 : decode cJ7_copyOf_59c91 24 = .ok (.iload_n 1, 1) := by decide +kernel
theorem dJ7_copyOf_59c91_25 : decode cJ7_copyOf_59c91 25 = .ok (.invokestatic 304, 3) := by decide +kernel
theorem dJ7_copyOf_59c91_28 : decode cJ7_copyOf_59c91 28 = .ok (.invokestatic 150, 3) := by decide +kernel
theorem dJ7_copyOf_59c91_31 : decode cJ7_copyOf_59c91 31 = .ok (.aload_n 2, 1) := by decide +kernel
theorem dJ7_copyOf_59c91_32 : decode cJ7_copyOf_59c91 32 = .ok (.areturn, 1) := by decide +kernel
theorem dJ9_abs_0f7a4_0 : decode cJ9_abs_0f7a4 0 = .ok (.iload_n 0, 1) := by decide +kernel
theorem dJ9_abs_0f7a4_1 : decode cJ9_abs_0f7a4 1 = .ok (.ifCond .ge 8, 3) := by decide +kernel
theorem dJ9_abs_0f7a4_4 : decode cJ9_abs_0f7a4 4 = .ok (.iload_n 0, 1) := by decide +kernel
theorem dJ9_abs_0f7a4_5 : decode cJ9_abs_0f7a4 5 = .ok (.ineg, 1) := by decide +kernel
theorem dJ9_abs_0f7a4_6 : decode cJ9_abs_0f7a4 6 = .ok (.goto 4, 3) := by decide +kernel
theorem dJ9_abs_0f7a4_9 : decode cJ9_abs_0f7a4 9 = .ok (.iload_n 0, 1) := by decide +kernel
theorem dJ9_abs_0f7a4_10 : decode cJ9_abs_0f7a4 10 = .ok (.ireturn, 1) := by decide +kernel
theorem dJ9_max_7cf53_0 : decode cJ9_max_7cf53 0 = .ok (.iload_n 0, 1) := by decide +kernel
theorem dJ9_max_7cf53_1 : decode cJ9_max_7cf53 1 = .ok (.iload_n 1, 1) := by decide +kernel
theorem dJ9_max_7cf53_2 : decode cJ9_max_7cf53 2 = .ok (.if_icmp .lt 7, 3) := by decide +kernel
theorem dJ9_max_7cf53_5 : decode cJ9_max_7cf53 5 = .ok (.iload_n 0, 1) := by decide +kernel
theorem dJ9_max_7cf53_6 : decode cJ9_max_7cf53 6 = .ok (.goto 4, 3) := by decide +kernel
theorem dJ9_max_7cf53_9 : decode cJ9_max_7cf53 9 = .ok (.iload_n 1, 1) := by decide +kernel
theorem dJ9_max_7cf53_10 : decode cJ9_max_7cf53 10 = .ok (.ireturn, 1) := by decide +kernel
theorem dJ9_min_7cf53_0 : decode cJ9_min_7cf53 0 = .ok (.iload_n 0, 1) := by decide +kernel
theorem dJ9_min_7cf53_1 : decode cJ9_min_7cf53 1 = .ok (.iload_n 1, 1) := by decide +kernel
theorem dJ9_min_7cf53_2 : decode cJ9_min_7cf53 2 = .ok (.if_icmp .gt 7, 3) := by decide +kernel
theorem dJ9_min_7cf53_5 : decode cJ9_min_7cf53 5 = .ok (.iload_n 0, 1) := by decide +kernel
theorem dJ9_min_7cf53_6 : decode cJ9_min_7cf53 6 = .ok (.goto 4, 3) := by decide +kernel
theorem dJ9_min_7cf53_9 : decode cJ9_min_7cf53 9 = .ok (.iload_n 1, 1) := by decide +kernel
theorem dJ9_min_7cf53_10 : decode cJ9_min_7cf53 10 = .ok (.ireturn, 1) := by decide +kernel
