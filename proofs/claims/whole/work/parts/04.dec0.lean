theorem dX7_init_0 : decode cX7_init 0 = .ok (.aload_n 0, 1) := by decide +kernel
theorem dX7_init_1 : decode cX7_init 1 = .ok (.invokespecial 3, 3) := by decide +kernel
theorem dX7_init_4 : decode cX7_init 4 = .ok (.aload_n 0, 1) := by decide +kernel
theorem dX7_init_5 : decode cX7_init 5 = .ok (.bipush 6, 2) := by decide +kernel
theorem dX7_init_7 : decode cX7_init 7 = .ok (.newarray .int, 2) := by decide +kernel
theorem dX7_init_9 : decode cX7_init 9 = .ok (.putfield 9, 3) := by decide +kernel
theorem dX7_init_12 : decode cX7_init 12 = .ok (.aload_n 0, 1) := by decide +kernel
theorem dX7_init_13 : decode cX7_init 13 = .ok (.bipush 6, 2) := by decide +kernel
theorem dX7_init_15 : decode cX7_init 15 = .ok (.newarray .int, 2) := by decide +kernel
theorem dX7_init_17 : decode cX7_init 17 = .ok (.putfield 15, 3) := by decide +kernel
theorem dX7_init_20 : decode cX7_init 20 = .ok (.aload_n 0, 1) := by decide +kernel
theorem dX7_init_21 : decode cX7_init 21 = .ok (.bipush 36, 2) := by decide +kernel
theorem dX7_init_23 : decode cX7_init 23 = .ok (.newarray .int, 2) := by decide +kernel
theorem dX7_init_25 : decode cX7_init 25 = .ok (.putfield 18, 3) := by decide +kernel
theorem dX7_init_28 : decode cX7_init 28 = .ok (.return_, 1) := by decide +kernel
theorem dX7_clear_0 : decode cX7_clear 0 = .ok (.aload_n 0, 1) := by decide +kernel
theorem dX7_clear_1 : decode cX7_clear 1 = .ok (.iconst 0, 1) := by decide +kernel
theorem dX7_clear_2 : decode cX7_clear 2 = .ok (.putfield 21, 3) := by decide +kernel
theorem dX7_clear_5 : decode cX7_clear 5 = .ok (.aload_n 0, 1) := by decide +kernel
theorem dX7_clear_6 : decode cX7_clear 6 = .ok (.iconst 0, 1) := by decide +kernel
theorem dX7_clear_7 : decode cX7_clear 7 = .ok (.putfield 25, 3) := by decide +kernel
theorem dX7_clear_10 : decode cX7_clear 10 = .ok (.aload_n 0, 1) := by decide +kernel
theorem dX7_clear_11 : decode cX7_clear 11 = .ok (.iconst 0, 1) := by decide +kernel
theorem dX7_clear_12 : decode cX7_clear 12 = .ok (.putfield 28, 3) := by decide +kernel
theorem dX7_clear_15 : decode cX7_clear 15 = .ok (.aload_n 0, 1) := by decide +kernel
theorem dX7_clear_16 : decode cX7_clear 16 = .ok (.getfield 9, 3) := by decide +kernel
theorem dX7_clear_19 : decode cX7_clear 19 = .ok (.iconst 0, 1) := by decide +kernel
theorem dX7_clear_20 : decode cX7_clear 20 = .ok (.invokestatic 31, 3) := by decide +kernel
theorem dX7_clear_23 : decode cX7_clear 23 = .ok (.aload_n 0, 1) := by decide +kernel
theorem dX7_clear_24 : decode cX7_clear 24 = .ok (.getfield 15, 3) := by decide +kernel
theorem dX7_clear_27 : decode cX7_clear 27 = .ok (.iconst 0, 1) := by decide +kernel
theorem dX7_clear_28 : decode cX7_clear 28 = .ok (.invokestatic 31, 3) := by decide +kernel
theorem dX7_clear_31 : decode cX7_clear 31 = .ok (.aload_n 0, 1) := by decide +kernel
theorem dX7_clear_32 : decode cX7_clear 32 = .ok (.getfield 18, 3) := by decide +kernel
theorem dX7_clear_35 : decode cX7_clear 35 = .ok (.iconst 0, 1) := by decide +kernel
theorem dX7_clear_36 : decode cX7_clear 36 = .ok (.invokestatic 31, 3) := by decide +kernel
theorem dX7_clear_39 : decode cX7_clear 39 = .ok (.return_, 1) := by decide +kernel
theorem dX7_copy_0 : decode cX7_copy 0 = .ok (.aload_n 0, 1) := by decide +kernel
theorem dX7_copy_1 : decode cX7_copy 1 = .ok (.aload_n 1, 1) := by decide +kernel
theorem dX7_copy_2 : decode cX7_copy 2 = .ok (.getfield 21, 3) := by decide +kernel
theorem dX7_copy_5 : decode cX7_copy 5 = .ok (.putfield 21, 3) := by decide +kernel
theorem dX7_copy_8 : decode cX7_copy 8 = .ok (.aload_n 0, 1) := by decide +kernel
theorem dX7_copy_9 : decode cX7_copy 9 = .ok (.aload_n 1, 1) := by decide +kernel
theorem dX7_copy_10 : decode cX7_copy 10 = .ok (.getfield 25, 3) := by decide +kernel
theorem dX7_copy_13 : decode cX7_copy 13 = .ok (.putfield 25, 3) := by decide +kernel
theorem dX7_copy_16 : decode cX7_copy 16 = .ok (.aload_n 0, 1) := by decide +kernel
theorem dX7_copy_17 : decode cX7_copy 17 = .ok (.aload_n 1, 1) := by decide +kernel
theorem dX7_copy_18 : decode cX7_copy 18 = .ok (.getfield 28, 3) := by decide +kernel
theorem dX7_copy_21 : decode cX7_copy 21 = .ok (.putfield 28, 3) := by decide +kernel
theorem dX7_copy_24 : decode cX7_copy 24 = .ok (.aload_n 1, 1) := by decide +kernel
theorem dX7_copy_25 : decode cX7_copy 25 = .ok (.getfield 9, 3) := by decide +kernel
theorem dX7_copy_28 : decode cX7_copy 28 = .ok (.iconst 0, 1) := by decide +kernel
theorem dX7_copy_29 : decode cX7_copy 29 = .ok (.aload_n 0, 1) := by decide +kernel
theorem dX7_copy_30 : decode cX7_copy 30 = .ok (.getfield 9, 3) := by decide +kernel
theorem dX7_copy_33 : decode cX7_copy 33 = .ok (.iconst 0, 1) := by decide +kernel
theorem dX7_copy_34 : decode cX7_copy 34 = .ok (.bipush 6, 2) := by decide +kernel
theorem dX7_copy_36 : decode cX7_copy 36 = .ok (.invokestatic 37, 3) := by decide +kernel
theorem dX7_copy_39 : decode cX7_copy 39 = .ok (.aload_n 1, 1) := by decide +kernel
theorem dX7_copy_40 : decode cX7_copy 40 = .ok (.getfield 15, 3) := by decide +kernel
theorem dX7_copy_43 : decode cX7_copy 43 = .ok (.iconst 0, 1) := by decide +kernel
theorem dX7_copy_44 : decode cX7_copy 44 = .ok (.aload_n 0, 1) := by decide +kernel
theorem dX7_copy_45 : decode cX7_copy 45 = .ok (.getfield 15, 3) := by decide +kernel
theorem dX7_copy_48 : decode cX7_copy 48 = .ok (.iconst 0, 1) := by decide +kernel
theorem dX7_copy_49 : decode cX7_copy 49 = .ok (.bipush 6, 2) := by decide +kernel
theorem dX7_copy_51 : decode cX7_copy 51 = .ok (.invokestatic 37, 3) := by decide +kernel
theorem dX7_copy_54 : decode cX7_copy 54 = .ok (.aload_n 1, 1) := by decide +kernel
theorem dX7_copy_55 : decode cX7_copy 55 = .ok (.getfield 18, 3) := by decide +kernel
theorem dX7_copy_58 : decode cX7_copy 58 = .ok (.iconst 0, 1) := by decide +kernel
theorem dX7_copy_59 : decode cX7_copy 59 = .ok (.aload_n 0, 1) := by decide +kernel
theorem dX7_copy_60 : decode cX7_copy 60 = .ok (.getfield 18, 3) := by decide +kernel
theorem dX7_copy_63 : decode cX7_copy 63 = .ok (.iconst 0, 1) := by decide +kernel
theorem dX7_copy_64 : decode cX7_copy 64 = .ok (.bipush 36, 2) := by decide +kernel
theorem dX7_copy_66 : decode cX7_copy 66 = .ok (.invokestatic 37, 3) := by decide +kernel
theorem dX7_copy_69 : decode cX7_copy 69 = .ok (.return_, 1) := by decide +kernel
theorem dX7_hardOf_0 : decode cX7_hardOf 0 = .ok (.aload_n 0, 1) := by decide +kernel
theorem dX7_hardOf_1 : decode cX7_hardOf 1 = .ok (.getfield 18, 3) := by decide +kernel
theorem dX7_hardOf_4 : decode cX7_hardOf 4 = .ok (.iload_n 1, 1) := by decide +kernel
theorem dX7_hardOf_5 : decode cX7_hardOf 5 = .ok (.bipush 6, 2) := by decide +kernel
theorem dX7_hardOf_7 : decode cX7_hardOf 7 = .ok (.imul, 1) := by decide +kernel
theorem dX7_hardOf_8 : decode cX7_hardOf 8 = .ok (.iload_n 2, 1) := by decide +kernel
theorem dX7_hardOf_9 : decode cX7_hardOf 9 = .ok (.iadd, 1) := by decide +kernel
theorem dX7_hardOf_10 : decode cX7_hardOf 10 = .ok (.iaload, 1) := by decide +kernel
theorem dX7_hardOf_11 : decode cX7_hardOf 11 = .ok (.ireturn, 1) := by decide +kernel
theorem dX7_setHard_0 : decode cX7_setHard 0 = .ok (.aload_n 0, 1) := by decide +kernel
theorem dX7_setHard_1 : decode cX7_setHard 1 = .ok (.getfield 18, 3) := by decide +kernel
theorem dX7_setHard_4 : decode cX7_setHard 4 = .ok (.iload_n 1, 1) := by decide +kernel
theorem dX7_setHard_5 : decode cX7_setHard 5 = .ok (.bipush 6, 2) := by decide +kernel
theorem dX7_setHard_7 : decode cX7_setHard 7 = .ok (.imul, 1) := by decide +kernel
theorem dX7_setHard_8 : decode cX7_setHard 8 = .ok (.iload_n 2, 1) := by decide +kernel
theorem dX7_setHard_9 : decode cX7_setHard 9 = .ok (.iadd, 1) := by decide +kernel
theorem dX7_setHard_10 : decode cX7_setHard 10 = .ok (.iload_n 3, 1) := by decide +kernel
theorem dX7_setHard_11 : decode cX7_setHard 11 = .ok (.iastore, 1) := by decide +kernel
theorem dX7_setHard_12 : decode cX7_setHard 12 = .ok (.aload_n 0, 1) := by decide +kernel
theorem dX7_setHard_13 : decode cX7_setHard 13 = .ok (.getfield 18, 3) := by decide +kernel
theorem dX7_setHard_16 : decode cX7_setHard 16 = .ok (.iload_n 2, 1) := by decide +kernel
theorem dX7_setHard_17 : decode cX7_setHard 17 = .ok (.bipush 6, 2) := by decide +kernel
theorem dX7_setHard_19 : decode cX7_setHard 19 = .ok (.imul, 1) := by decide +kernel
theorem dX7_setHard_20 : decode cX7_setHard 20 = .ok (.iload_n 1, 1) := by decide +kernel
theorem dX7_setHard_21 : decode cX7_setHard 21 = .ok (.iadd, 1) := by decide +kernel
theorem dX7_setHard_22 : decode cX7_setHard 22 = .ok (.iload_n 3, 1) := by decide +kernel
theorem dX7_setHard_23 : decode cX7_setHard 23 = .ok (.iastore, 1) := by decide +kernel
theorem dX7_setHard_24 : decode cX7_setHard 24 = .ok (.return_, 1) := by decide +kernel
theorem dX7_harden_0 : decode cX7_harden 0 = .ok (.aload_n 0, 1) := by decide +kernel
theorem dX7_harden_1 : decode cX7_harden 1 = .ok (.iload_n 1, 1) := by decide +kernel
theorem dX7_harden_2 : decode cX7_harden 2 = .ok (.iload_n 2, 1) := by decide +kernel
theorem dX7_harden_3 : decode cX7_harden 3 = .ok (.aload_n 0, 1) := by decide +kernel
theorem dX7_harden_4 : decode cX7_harden 4 = .ok (.iload_n 1, 1) := by decide +kernel
theorem dX7_harden_5 : decode cX7_harden 5 = .ok (.iload_n 2, 1) := by decide +kernel
theorem dX7_harden_6 : decode cX7_harden 6 = .ok (.invokevirtual 43, 3) := by decide +kernel
theorem dX7_harden_9 : decode cX7_harden 9 = .ok (.iconst 1, 1) := by decide +kernel
theorem dX7_harden_10 : decode cX7_harden 10 = .ok (.iadd, 1) := by decide +kernel
theorem dX7_harden_11 : decode cX7_harden 11 = .ok (.invokevirtual 47, 3) := by decide +kernel
theorem dX7_harden_14 : decode cX7_harden 14 = .ok (.aload_n 0, 1) := by decide +kernel
theorem dX7_harden_15 : decode cX7_harden 15 = .ok (.dup, 1) := by decide +kernel
theorem dX7_harden_16 : decode cX7_harden 16 = .ok (.getfield 25, 3) := by decide +kernel
theorem dX7_harden_19 : decode cX7_harden 19 = .ok (.iconst 1, 1) := by decide +kernel
theorem dX7_harden_20 : decode cX7_harden 20 = .ok (.isub, 1) := by decide +kernel
theorem dX7_harden_21 : decode cX7_harden 21 = .ok (.putfield 25, 3) := by decide +kernel
theorem dX7_harden_24 : decode cX7_harden 24 = .ok (.return_, 1) := by decide +kernel
theorem dX7_canHarden_0 : decode cX7_canHarden 0 = .ok (.aload_n 0, 1) := by decide +kernel
theorem dX7_canHarden_1 : decode cX7_canHarden 1 = .ok (.iload_n 1, 1) := by decide +kernel
theorem dX7_canHarden_2 : decode cX7_canHarden 2 = .ok (.iload_n 2, 1) := by decide +kernel
theorem dX7_canHarden_3 : decode cX7_canHarden 3 = .ok (.invokevirtual 43, 3) := by decide +kernel
theorem dX7_canHarden_6 : decode cX7_canHarden 6 = .ok (.ifCond .le 18, 3) := by decide +kernel
theorem dX7_canHarden_9 : decode cX7_canHarden 9 = .ok (.aload_n 0, 1) := by decide +kernel
theorem dX7_canHarden_10 : decode cX7_canHarden 10 = .ok (.iload_n 1, 1) := by decide +kernel
theorem dX7_canHarden_11 : decode cX7_canHarden 11 = .ok (.iload_n 2, 1) := by decide +kernel
theorem dX7_canHarden_12 : decode cX7_canHarden 12 = .ok (.invokevirtual 43, 3) := by decide +kernel
theorem dX7_canHarden_15 : decode cX7_canHarden 15 = .ok (.bipush 9, 2) := by decide +kernel
theorem dX7_canHarden_17 : decode cX7_canHarden 17 = .ok (.if_icmp .ge 7, 3) := by decide +kernel
theorem dX7_canHarden_20 : decode cX7_canHarden 20 = .ok (.iconst 1, 1) := by decide +kernel
theorem dX7_canHarden_21 : decode cX7_canHarden 21 = .ok (.goto 4, 3) := by decide +kernel
theorem dX7_canHarden_24 : decode cX7_canHarden 24 = .ok (.iconst 0, 1) := by decide +kernel
theorem dX7_canHarden_25 : decode cX7_canHarden 25 = .ok (.ireturn, 1) := by decide +kernel
theorem dX7_harderTo_0 : decode cX7_harderTo 0 = .ok (.iconst 0, 1) := by decide +kernel
theorem dX7_harderTo_1 : decode cX7_harderTo 1 = .ok (.istore_n 3, 1) := by decide +kernel
theorem dX7_harderTo_2 : decode cX7_harderTo 2 = .ok (.iconst 0, 1) := by decide +kernel
theorem dX7_harderTo_3 : decode cX7_harderTo 3 = .ok (.istore 4, 2) := by decide +kernel
theorem dX7_harderTo_5 : decode cX7_harderTo 5 = .ok (.iload 4, 2) := by decide +kernel
theorem dX7_harderTo_7 : decode cX7_harderTo 7 = .ok (.bipush 6, 2) := by decide +kernel
theorem dX7_harderTo_9 : decode cX7_harderTo 9 = .ok (.if_icmp .ge 32, 3) := by decide +kernel
theorem dX7_harderTo_12 : decode cX7_harderTo 12 = .ok (.aload_n 0, 1) := by decide +kernel
theorem dX7_harderTo_13 : decode cX7_harderTo 13 = .ok (.getfield 18, 3) := by decide +kernel
theorem dX7_harderTo_16 : decode cX7_harderTo 16 = .ok (.iload_n 1, 1) := by decide +kernel
theorem dX7_harderTo_17 : decode cX7_harderTo 17 = .ok (.bipush 6, 2) := by decide +kernel
theorem dX7_harderTo_19 : decode cX7_harderTo 19 = .ok (.imul, 1) := by decide +kernel
theorem dX7_harderTo_20 : decode cX7_harderTo 20 = .ok (.iload 4, 2) := by decide +kernel
theorem dX7_harderTo_22 : decode cX7_harderTo 22 = .ok (.iadd, 1) := by decide +kernel
theorem dX7_harderTo_23 : decode cX7_harderTo 23 = .ok (.iaload, 1) := by decide +kernel
theorem dX7_harderTo_24 : decode cX7_harderTo 24 = .ok (.iload_n 2, 1) := by decide +kernel
theorem dX7_harderTo_25 : decode cX7_harderTo 25 = .ok (.if_icmp .le 10, 3) := by decide +kernel
theorem dX7_harderTo_28 : decode cX7_harderTo 28 = .ok (.iload_n 3, 1) := by decide +kernel
theorem dX7_harderTo_29 : decode cX7_harderTo 29 = .ok (.iconst 1, 1) := by decide +kernel
theorem dX7_harderTo_30 : decode cX7_harderTo 30 = .ok (.iload 4, 2) := by decide +kernel
theorem dX7_harderTo_32 : decode cX7_harderTo 32 = .ok (.ishl, 1) := by decide +kernel
theorem dX7_harderTo_33 : decode cX7_harderTo 33 = .ok (.ior, 1) := by decide +kernel
theorem dX7_harderTo_34 : decode cX7_harderTo 34 = .ok (.istore_n 3, 1) := by decide +kernel
theorem dX7_harderTo_35 : decode cX7_harderTo 35 = .ok (.iinc 4 1, 3) := by decide +kernel
theorem dX7_harderTo_38 : decode cX7_harderTo 38 = .ok (.goto (-33), 3) := by decide +kernel
theorem dX7_harderTo_41 : decode cX7_harderTo 41 = .ok (.iload_n 3, 1) := by decide +kernel
theorem dX7_harderTo_42 : decode cX7_harderTo 42 = .ok (.ireturn, 1) := by decide +kernel
theorem dX7_pouredTo_0 : decode cX7_pouredTo 0 = .ok (.aload_n 0, 1) := by decide +kernel
theorem dX7_pouredTo_1 : decode cX7_pouredTo 1 = .ok (.iload_n 1, 1) := by decide +kernel
theorem dX7_pouredTo_2 : decode cX7_pouredTo 2 = .ok (.iconst 0, 1) := by decide +kernel
theorem dX7_pouredTo_3 : decode cX7_pouredTo 3 = .ok (.invokevirtual 51, 3) := by decide +kernel
theorem dX7_pouredTo_6 : decode cX7_pouredTo 6 = .ok (.ireturn, 1) := by decide +kernel
theorem dX7_hardnessOf_0 : decode cX7_hardnessOf 0 = .ok (.aload_n 0, 1) := by decide +kernel
theorem dX7_hardnessOf_1 : decode cX7_hardnessOf 1 = .ok (.getfield 15, 3) := by decide +kernel
theorem dX7_hardnessOf_4 : decode cX7_hardnessOf 4 = .ok (.iload_n 1, 1) := by decide +kernel
theorem dX7_hardnessOf_5 : decode cX7_hardnessOf 5 = .ok (.iaload, 1) := by decide +kernel
theorem dX7_hardnessOf_6 : decode cX7_hardnessOf 6 = .ok (.istore_n 2, 1) := by decide +kernel
theorem dX7_hardnessOf_7 : decode cX7_hardnessOf 7 = .ok (.iconst 0, 1) := by decide +kernel
theorem dX7_hardnessOf_8 : decode cX7_hardnessOf 8 = .ok (.istore_n 3, 1) := by decide +kernel
theorem dX7_hardnessOf_9 : decode cX7_hardnessOf 9 = .ok (.iload_n 3, 1) := by decide +kernel
theorem dX7_hardnessOf_10 : decode cX7_hardnessOf 10 = .ok (.bipush 6, 2) := by decide +kernel
theorem dX7_hardnessOf_12 : decode cX7_hardnessOf 12 = .ok (.if_icmp .ge 18, 3) := by decide +kernel
theorem dX7_hardnessOf_15 : decode cX7_hardnessOf 15 = .ok (.iload_n 2, 1) := by decide +kernel
theorem dX7_hardnessOf_16 : decode cX7_hardnessOf 16 = .ok (.aload_n 0, 1) := by decide +kernel
theorem dX7_hardnessOf_17 : decode cX7_hardnessOf 17 = .ok (.iload_n 1, 1) := by decide +kernel
theorem dX7_hardnessOf_18 : decode cX7_hardnessOf 18 = .ok (.iload_n 3, 1) := by decide +kernel
theorem dX7_hardnessOf_19 : decode cX7_hardnessOf 19 = .ok (.invokevirtual 43, 3) := by decide +kernel
theorem dX7_hardnessOf_22 : decode cX7_hardnessOf 22 = .ok (.iadd, 1) := by decide +kernel
theorem dX7_hardnessOf_23 : decode cX7_hardnessOf 23 = .ok (.istore_n 2, 1) := by decide +kernel
theorem dX7_hardnessOf_24 : decode cX7_hardnessOf 24 = .ok (.iinc 3 1, 3) := by decide +kernel
theorem dX7_hardnessOf_27 : decode cX7_hardnessOf 27 = .ok (.goto (-18), 3) := by decide +kernel
theorem dX7_hardnessOf_30 : decode cX7_hardnessOf 30 = .ok (.iload_n 2, 1) := by decide +kernel
theorem dX7_hardnessOf_31 : decode cX7_hardnessOf 31 = .ok (.ireturn, 1) := by decide +kernel
theorem dX7_loosen_0 : decode cX7_loosen 0 = .ok (.aload_n 0, 1) := by decide +kernel
theorem dX7_loosen_1 : decode cX7_loosen 1 = .ok (.getfield 15, 3) := by decide +kernel
theorem dX7_loosen_4 : decode cX7_loosen 4 = .ok (.iload_n 1, 1) := by decide +kernel
theorem dX7_loosen_5 : decode cX7_loosen 5 = .ok (.iconst 0, 1) := by decide +kernel
theorem dX7_loosen_6 : decode cX7_loosen 6 = .ok (.iastore, 1) := by decide +kernel
theorem dX7_loosen_7 : decode cX7_loosen 7 = .ok (.iconst 0, 1) := by decide +kernel
theorem dX7_loosen_8 : decode cX7_loosen 8 = .ok (.istore_n 2, 1) := by decide +kernel
theorem dX7_loosen_9 : decode cX7_loosen 9 = .ok (.iload_n 2, 1) := by decide +kernel
theorem dX7_loosen_10 : decode cX7_loosen 10 = .ok (.bipush 6, 2) := by decide +kernel
theorem dX7_loosen_12 : decode cX7_loosen 12 = .ok (.if_icmp .ge 16, 3) := by decide +kernel
theorem dX7_loosen_15 : decode cX7_loosen 15 = .ok (.aload_n 0, 1) := by decide +kernel
theorem dX7_loosen_16 : decode cX7_loosen 16 = .ok (.iload_n 1, 1) := by decide +kernel
theorem dX7_loosen_17 : decode cX7_loosen 17 = .ok (.iload_n 2, 1) := by decide +kernel
theorem dX7_loosen_18 : decode cX7_loosen 18 = .ok (.iconst 0, 1) := by decide +kernel
theorem dX7_loosen_19 : decode cX7_loosen 19 = .ok (.invokevirtual 47, 3) := by decide +kernel
theorem dX7_loosen_22 : decode cX7_loosen 22 = .ok (.iinc 2 1, 3) := by decide +kernel
theorem dX7_loosen_25 : decode cX7_loosen 25 = .ok (.goto (-16), 3) := by decide +kernel
theorem dX7_loosen_28 : decode cX7_loosen 28 = .ok (.return_, 1) := by decide +kernel
theorem dX9_init_0 : decode cX9_init 0 = .ok (.aload_n 0, 1) := by decide +kernel
theorem dX9_init_1 : decode cX9_init 1 = .ok (.invokespecial 3, 3) := by decide +kernel
theorem dX9_init_4 : decode cX9_init 4 = .ok (.aload_n 0, 1) := by decide +kernel
theorem dX9_init_5 : decode cX9_init 5 = .ok (.bipush 12, 2) := by decide +kernel
theorem dX9_init_7 : decode cX9_init 7 = .ok (.newarray .int, 2) := by decide +kernel
theorem dX9_init_9 : decode cX9_init 9 = .ok (.putfield 9, 3) := by decide +kernel
theorem dX9_init_12 : decode cX9_init 12 = .ok (.aload_n 0, 1) := by decide +kernel
theorem dX9_init_13 : decode cX9_init 13 = .ok (.new 15, 3) := by decide +kernel
theorem dX9_init_16 : decode cX9_init 16 = .ok (.dup, 1) := by decide +kernel
theorem dX9_init_17 : decode cX9_init 17 = .ok (.invokespecial 17, 3) := by decide +kernel
theorem dX9_init_20 : decode cX9_init 20 = .ok (.putfield 18, 3) := by decide +kernel
theorem dX9_init_23 : decode cX9_init 23 = .ok (.return_, 1) := by decide +kernel
theorem dX9_clear_0 : decode cX9_clear 0 = .ok (.aload_n 0, 1) := by decide +kernel
theorem dX9_clear_1 : decode cX9_clear 1 = .ok (.iconst 0, 1) := by decide +kernel
theorem dX9_clear_2 : decode cX9_clear 2 = .ok (.putfield 22, 3) := by decide +kernel
theorem dX9_clear_5 : decode cX9_clear 5 = .ok (.aload_n 0, 1) := by decide +kernel
theorem dX9_clear_6 : decode cX9_clear 6 = .ok (.iconst 0, 1) := by decide +kernel
theorem dX9_clear_7 : decode cX9_clear 7 = .ok (.putfield 26, 3) := by decide +kernel
theorem dX9_clear_10 : decode cX9_clear 10 = .ok (.aload_n 0, 1) := by decide +kernel
theorem dX9_clear_11 : decode cX9_clear 11 = .ok (.iconst 0, 1) := by decide +kernel
theorem dX9_clear_12 : decode cX9_clear 12 = .ok (.putfield 29, 3) := by decide +kernel
theorem dX9_clear_15 : decode cX9_clear 15 = .ok (.aload_n 0, 1) := by decide +kernel
theorem dX9_clear_16 : decode cX9_clear 16 = .ok (.iconst 0, 1) := by decide +kernel
theorem dX9_clear_17 : decode cX9_clear 17 = .ok (.putfield 32, 3) := by decide +kernel
theorem dX9_clear_20 : decode cX9_clear 20 = .ok (.aload_n 0, 1) := by decide +kernel
theorem dX9_clear_21 : decode cX9_clear 21 = .ok (.getfield 18, 3) := by decide +kernel
theorem dX9_clear_24 : decode cX9_clear 24 = .ok (.invokevirtual 35, 3) := by decide +kernel
theorem dX9_clear_27 : decode cX9_clear 27 = .ok (.return_, 1) := by decide +kernel
theorem dX9_copy_0 : decode cX9_copy 0 = .ok (.aload_n 0, 1) := by decide +kernel
theorem dX9_copy_1 : decode cX9_copy 1 = .ok (.aload_n 1, 1) := by decide +kernel
theorem dX9_copy_2 : decode cX9_copy 2 = .ok (.getfield 22, 3) := by decide +kernel
theorem dX9_copy_5 : decode cX9_copy 5 = .ok (.putfield 22, 3) := by decide +kernel
theorem dX9_copy_8 : decode cX9_copy 8 = .ok (.aload_n 0, 1) := by decide +kernel
theorem dX9_copy_9 : decode cX9_copy 9 = .ok (.aload_n 1, 1) := by decide +kernel
theorem dX9_copy_10 : decode cX9_copy 10 = .ok (.getfield 26, 3) := by decide +kernel
theorem dX9_copy_13 : decode cX9_copy 13 = .ok (.putfield 26, 3) := by decide +kernel
theorem dX9_copy_16 : decode cX9_copy 16 = .ok (.aload_n 0, 1) := by decide +kernel
theorem dX9_copy_17 : decode cX9_copy 17 = .ok (.aload_n 1, 1) := by decide +kernel
theorem dX9_copy_18 : decode cX9_copy 18 = .ok (.getfield 29, 3) := by decide +kernel
theorem dX9_copy_21 : decode cX9_copy 21 = .ok (.putfield 29, 3) := by decide +kernel
theorem dX9_copy_24 : decode cX9_copy 24 = .ok (.aload_n 0, 1) := by decide +kernel
theorem dX9_copy_25 : decode cX9_copy 25 = .ok (.aload_n 1, 1) := by decide +kernel
theorem dX9_copy_26 : decode cX9_copy 26 = .ok (.getfield 32, 3) := by decide +kernel
theorem dX9_copy_29 : decode cX9_copy 29 = .ok (.putfield 32, 3) := by decide +kernel
theorem dX9_copy_32 : decode cX9_copy 32 = .ok (.aload_n 1, 1) := by decide +kernel
theorem dX9_copy_33 : decode cX9_copy 33 = .ok (.getfield 9, 3) := by decide +kernel
theorem dX9_copy_36 : decode cX9_copy 36 = .ok (.iconst 0, 1) := by decide +kernel
theorem dX9_copy_37 : decode cX9_copy 37 = .ok (.aload_n 0, 1) := by decide +kernel
theorem dX9_copy_38 : decode cX9_copy 38 = .ok (.getfield 9, 3) := by decide +kernel
theorem dX9_copy_41 : decode cX9_copy 41 = .ok (.iconst 0, 1) := by decide +kernel
theorem dX9_copy_42 : decode cX9_copy 42 = .ok (.bipush 12, 2) := by decide +kernel
theorem dX9_copy_44 : decode cX9_copy 44 = .ok (.invokestatic 38, 3) := by decide +kernel
theorem dX9_copy_47 : decode cX9_copy 47 = .ok (.aload_n 0, 1) := by decide +kernel
theorem dX9_copy_48 : decode cX9_copy 48 = .ok (.getfield 18, 3) := by decide +kernel
theorem dX9_copy_51 : decode cX9_copy 51 = .ok (.aload_n 1, 1) := by decide +kernel
theorem dX9_copy_52 : decode cX9_copy 52 = .ok (.getfield 18, 3) := by decide +kernel
theorem dX9_copy_55 : decode cX9_copy 55 = .ok (.invokevirtual 44, 3) := by decide +kernel
theorem dX9_copy_58 : decode cX9_copy 58 = .ok (.return_, 1) := by decide +kernel
theorem dX9_toldHeat_0 : decode cX9_toldHeat 0 = .ok (.aload_n 0, 1) := by decide +kernel
theorem dX9_toldHeat_1 : decode cX9_toldHeat 1 = .ok (.getfield 29, 3) := by decide +kernel
theorem dX9_toldHeat_4 : decode cX9_toldHeat 4 = .ok (.ifCond .le 21, 3) := by decide +kernel
theorem dX9_toldHeat_7 : decode cX9_toldHeat 7 = .ok (.iload_n 1, 1) := by decide +kernel
theorem dX9_toldHeat_8 : decode cX9_toldHeat 8 = .ok (.ifCond .lt 17, 3) := by decide +kernel
theorem dX9_toldHeat_11 : decode cX9_toldHeat 11 = .ok (.aload_n 0, 1) := by decide +kernel
theorem dX9_toldHeat_12 : decode cX9_toldHeat 12 = .ok (.getfield 9, 3) := by decide +kernel
theorem dX9_toldHeat_15 : decode cX9_toldHeat 15 = .ok (.iload_n 1, 1) := by decide +kernel
theorem dX9_toldHeat_16 : decode cX9_toldHeat 16 = .ok (.aload_n 0, 1) := by decide +kernel
theorem dX9_toldHeat_17 : decode cX9_toldHeat 17 = .ok (.getfield 29, 3) := by decide +kernel
theorem dX9_toldHeat_20 : decode cX9_toldHeat 20 = .ok (.irem, 1) := by decide +kernel
theorem dX9_toldHeat_21 : decode cX9_toldHeat 21 = .ok (.iaload, 1) := by decide +kernel
theorem dX9_toldHeat_22 : decode cX9_toldHeat 22 = .ok (.goto 4, 3) := by decide +kernel
theorem dX9_toldHeat_25 : decode cX9_toldHeat 25 = .ok (.iconst 0, 1) := by decide +kernel
theorem dX9_toldHeat_26 : decode cX9_toldHeat 26 = .ok (.ireturn, 1) := by decide +kernel
theorem dX9_heatOf_0 : decode cX9_heatOf 0 = .ok (.aload_n 0, 1) := by decide +kernel
theorem dX9_heatOf_1 : decode cX9_heatOf 1 = .ok (.aload_n 1, 1) := by decide +kernel
theorem dX9_heatOf_2 : decode cX9_heatOf 2 = .ok (.getfield 48, 3) := by decide +kernel
theorem dX9_heatOf_5 : decode cX9_heatOf 5 = .ok (.invokevirtual 51, 3) := by decide +kernel
theorem dX9_heatOf_8 : decode cX9_heatOf 8 = .ok (.istore_n 2, 1) := by decide +kernel
theorem dX9_heatOf_9 : decode cX9_heatOf 9 = .ok (.aload_n 1, 1) := by decide +kernel
theorem dX9_heatOf_10 : decode cX9_heatOf 10 = .ok (.getfield 55, 3) := by decide +kernel
theorem dX9_heatOf_13 : decode cX9_heatOf 13 = .ok (.ifCond .le 13, 3) := by decide +kernel
theorem dX9_heatOf_16 : decode cX9_heatOf 16 = .ok (.iconst 0, 1) := by decide +kernel
theorem dX9_heatOf_17 : decode cX9_heatOf 17 = .ok (.iload_n 2, 1) := by decide +kernel
theorem dX9_heatOf_18 : decode cX9_heatOf 18 = .ok (.iconst 3, 1) := by decide +kernel
theorem dX9_heatOf_19 : decode cX9_heatOf 19 = .ok (.isub, 1) := by decide +kernel
theorem dX9_heatOf_20 : decode cX9_heatOf 20 = .ok (.invokestatic 58, 3) := by decide +kernel
theorem dX9_heatOf_23 : decode cX9_heatOf 23 = .ok (.goto 4, 3) := by decide +kernel
theorem dX9_heatOf_26 : decode cX9_heatOf 26 = .ok (.iload_n 2, 1) := by decide +kernel
theorem dX9_heatOf_27 : decode cX9_heatOf 27 = .ok (.ireturn, 1) := by decide +kernel
theorem dX9_riverBits_0 : decode cX9_riverBits 0 = .ok (.iconst 0, 1) := by decide +kernel
theorem dX9_riverBits_1 : decode cX9_riverBits 1 = .ok (.istore_n 2, 1) := by decide +kernel
theorem dX9_riverBits_2 : decode cX9_riverBits 2 = .ok (.iconst 0, 1) := by decide +kernel
theorem dX9_riverBits_3 : decode cX9_riverBits 3 = .ok (.istore_n 3, 1) := by decide +kernel
theorem dX9_riverBits_4 : decode cX9_riverBits 4 = .ok (.iload_n 3, 1) := by decide +kernel
theorem dX9_riverBits_5 : decode cX9_riverBits 5 = .ok (.aload_n 0, 1) := by decide +kernel
theorem dX9_riverBits_6 : decode cX9_riverBits 6 = .ok (.getfield 32, 3) := by decide +kernel
theorem dX9_riverBits_9 : decode cX9_riverBits 9 = .ok (.if_icmp .ge 28, 3) := by decide +kernel
theorem dX9_riverBits_12 : decode cX9_riverBits 12 = .ok (.aload_n 1, 1) := by decide +kernel
theorem dX9_riverBits_13 : decode cX9_riverBits 13 = .ok (.getfield 64, 3) := by decide +kernel
theorem dX9_riverBits_16 : decode cX9_riverBits 16 = .ok (.iload_n 3, 1) := by decide +kernel
theorem dX9_riverBits_17 : decode cX9_riverBits 17 = .ok (.iaload, 1) := by decide +kernel
theorem dX9_riverBits_18 : decode cX9_riverBits 18 = .ok (.aload_n 0, 1) := by decide +kernel
theorem dX9_riverBits_19 : decode cX9_riverBits 19 = .ok (.getfield 22, 3) := by decide +kernel
theorem dX9_riverBits_22 : decode cX9_riverBits 22 = .ok (.if_icmp .lt 9, 3) := by decide +kernel
theorem dX9_riverBits_25 : decode cX9_riverBits 25 = .ok (.iload_n 2, 1) := by decide +kernel
theorem dX9_riverBits_26 : decode cX9_riverBits 26 = .ok (.iconst 1, 1) := by decide +kernel
theorem dX9_riverBits_27 : decode cX9_riverBits 27 = .ok (.iload_n 3, 1) := by decide +kernel
theorem dX9_riverBits_28 : decode cX9_riverBits 28 = .ok (.ishl, 1) := by decide +kernel
theorem dX9_riverBits_29 : decode cX9_riverBits 29 = .ok (.ior, 1) := by decide +kernel
theorem dX9_riverBits_30 : decode cX9_riverBits 30 = .ok (.istore_n 2, 1) := by decide +kernel
theorem dX9_riverBits_31 : decode cX9_riverBits 31 = .ok (.iinc 3 1, 3) := by decide +kernel
theorem dX9_riverBits_34 : decode cX9_riverBits 34 = .ok (.goto (-30), 3) := by decide +kernel
theorem dX9_riverBits_37 : decode cX9_riverBits 37 = .ok (.iload_n 2, 1) := by decide +kernel
theorem dX9_riverBits_38 : decode cX9_riverBits 38 = .ok (.ireturn, 1) := by decide +kernel
theorem dX9_placesOf_0 : decode cX9_placesOf 0 = .ok (.iconst 0, 1) := by decide +kernel
theorem dX9_placesOf_1 : decode cX9_placesOf 1 = .ok (.istore_n 2, 1) := by decide +kernel
theorem dX9_placesOf_2 : decode cX9_placesOf 2 = .ok (.iconst 0, 1) := by decide +kernel
theorem dX9_placesOf_3 : decode cX9_placesOf 3 = .ok (.istore_n 3, 1) := by decide +kernel
theorem dX9_placesOf_4 : decode cX9_placesOf 4 = .ok (.iload_n 3, 1) := by decide +kernel
theorem dX9_placesOf_5 : decode cX9_placesOf 5 = .ok (.aload_n 0, 1) := by decide +kernel
theorem dX9_placesOf_6 : decode cX9_placesOf 6 = .ok (.getfield 32, 3) := by decide +kernel
theorem dX9_placesOf_9 : decode cX9_placesOf 9 = .ok (.if_icmp .ge 18, 3) := by decide +kernel
theorem dX9_placesOf_12 : decode cX9_placesOf 12 = .ok (.iload_n 2, 1) := by decide +kernel
theorem dX9_placesOf_13 : decode cX9_placesOf 13 = .ok (.aload_n 1, 1) := by decide +kernel
theorem dX9_placesOf_14 : decode cX9_placesOf 14 = .ok (.getfield 64, 3) := by decide +kernel
theorem dX9_placesOf_17 : decode cX9_placesOf 17 = .ok (.iload_n 3, 1) := by decide +kernel
theorem dX9_placesOf_18 : decode cX9_placesOf 18 = .ok (.iaload, 1) := by decide +kernel
theorem dX9_placesOf_19 : decode cX9_placesOf 19 = .ok (.iadd, 1) := by decide +kernel
theorem dX9_placesOf_20 : decode cX9_placesOf 20 = .ok (.istore_n 2, 1) := by decide +kernel
theorem dX9_placesOf_21 : decode cX9_placesOf 21 = .ok (.iinc 3 1, 3) := by decide +kernel
theorem dX9_placesOf_24 : decode cX9_placesOf 24 = .ok (.goto (-20), 3) := by decide +kernel
theorem dX9_placesOf_27 : decode cX9_placesOf 27 = .ok (.iload_n 2, 1) := by decide +kernel
theorem dX9_placesOf_28 : decode cX9_placesOf 28 = .ok (.ireturn, 1) := by decide +kernel
theorem dX8_init_0 : decode cX8_init 0 = .ok (.aload_n 0, 1) := by decide +kernel
theorem dX8_init_1 : decode cX8_init 1 = .ok (.invokespecial 3, 3) := by decide +kernel
theorem dX8_init_4 : decode cX8_init 4 = .ok (.aload_n 0, 1) := by decide +kernel
theorem dX8_init_5 : decode cX8_init 5 = .ok (.sipush 400, 3) := by decide +kernel
theorem dX8_init_8 : decode cX8_init 8 = .ok (.newarray .byte, 2) := by decide +kernel
theorem dX8_init_10 : decode cX8_init 10 = .ok (.putfield 9, 3) := by decide +kernel
theorem dX8_init_13 : decode cX8_init 13 = .ok (.aload_n 0, 1) := by decide +kernel
theorem dX8_init_14 : decode cX8_init 14 = .ok (.sipush 401, 3) := by decide +kernel
theorem dX8_init_17 : decode cX8_init 17 = .ok (.newarray .int, 2) := by decide +kernel
theorem dX8_init_19 : decode cX8_init 19 = .ok (.putfield 15, 3) := by decide +kernel
theorem dX8_init_22 : decode cX8_init 22 = .ok (.aload_n 0, 1) := by decide +kernel
theorem dX8_init_23 : decode cX8_init 23 = .ok (.sipush 401, 3) := by decide +kernel
theorem dX8_init_26 : decode cX8_init 26 = .ok (.newarray .int, 2) := by decide +kernel
theorem dX8_init_28 : decode cX8_init 28 = .ok (.putfield 19, 3) := by decide +kernel
theorem dX8_init_31 : decode cX8_init 31 = .ok (.aload_n 0, 1) := by decide +kernel
theorem dX8_init_32 : decode cX8_init 32 = .ok (.sipush 401, 3) := by decide +kernel
theorem dX8_init_35 : decode cX8_init 35 = .ok (.newarray .int, 2) := by decide +kernel
theorem dX8_init_37 : decode cX8_init 37 = .ok (.putfield 22, 3) := by decide +kernel
theorem dX8_init_40 : decode cX8_init 40 = .ok (.return_, 1) := by decide +kernel
theorem dX8_append_0 : decode cX8_append 0 = .ok (.bipush 24, 2) := by decide +kernel
theorem dX8_append_2 : decode cX8_append 2 = .ok (.istore_n 2, 1) := by decide +kernel
theorem dX8_append_3 : decode cX8_append 3 = .ok (.iload_n 2, 1) := by decide +kernel
theorem dX8_append_4 : decode cX8_append 4 = .ok (.ifCond .lt 42, 3) := by decide +kernel
theorem dX8_append_7 : decode cX8_append 7 = .ok (.aload_n 0, 1) := by decide +kernel
theorem dX8_append_8 : decode cX8_append 8 = .ok (.getfield 25, 3) := by decide +kernel
theorem dX8_append_11 : decode cX8_append 11 = .ok (.sipush 400, 3) := by decide +kernel
theorem dX8_append_14 : decode cX8_append 14 = .ok (.if_icmp .ge 32, 3) := by decide +kernel
theorem dX8_append_17 : decode cX8_append 17 = .ok (.aload_n 0, 1) := by decide +kernel
theorem dX8_append_18 : decode cX8_append 18 = .ok (.getfield 9, 3) := by decide +kernel
theorem dX8_append_21 : decode cX8_append 21 = .ok (.aload_n 0, 1) := by decide +kernel
theorem dX8_append_22 : decode cX8_append 22 = .ok (.getfield 25, 3) := by decide +kernel
theorem dX8_append_25 : decode cX8_append 25 = .ok (.iload_n 1, 1) := by decide +kernel
theorem dX8_append_26 : decode cX8_append 26 = .ok (.iload_n 2, 1) := by decide +kernel
theorem dX8_append_27 : decode cX8_append 27 = .ok (.ishr, 1) := by decide +kernel
theorem dX8_append_28 : decode cX8_append 28 = .ok (.i2b, 1) := by decide +kernel
theorem dX8_append_29 : decode cX8_append 29 = .ok (.bastore, 1) := by decide +kernel
theorem dX8_append_30 : decode cX8_append 30 = .ok (.aload_n 0, 1) := by decide +kernel
theorem dX8_append_31 : decode cX8_append 31 = .ok (.dup, 1) := by decide +kernel
theorem dX8_append_32 : decode cX8_append 32 = .ok (.getfield 25, 3) := by decide +kernel
theorem dX8_append_35 : decode cX8_append 35 = .ok (.iconst 1, 1) := by decide +kernel
theorem dX8_append_36 : decode cX8_append 36 = .ok (.iadd, 1) := by decide +kernel
theorem dX8_append_37 : decode cX8_append 37 = .ok (.putfield 25, 3) := by decide +kernel
theorem dX8_append_40 : decode cX8_append 40 = .ok (.iinc 2 (-8), 3) := by decide +kernel
theorem dX8_append_43 : decode cX8_append 43 = .ok (.goto (-40), 3) := by decide +kernel
theorem dX8_append_46 : decode cX8_append 46 = .ok (.return_, 1) := by decide +kernel
theorem dX8_scan_0 : decode cX8_scan 0 = .ok (.aload_n 0, 1) := by decide +kernel
theorem dX8_scan_1 : decode cX8_scan 1 = .ok (.iconst 0, 1) := by decide +kernel
theorem dX8_scan_2 : decode cX8_scan 2 = .ok (.putfield 29, 3) := by decide +kernel
theorem dX8_scan_5 : decode cX8_scan 5 = .ok (.iconst 0, 1) := by decide +kernel
theorem dX8_scan_6 : decode cX8_scan 6 = .ok (.istore_n 1, 1) := by decide +kernel
theorem dX8_scan_7 : decode cX8_scan 7 = .ok (.iconst 0, 1) := by decide +kernel
theorem dX8_scan_8 : decode cX8_scan 8 = .ok (.istore_n 2, 1) := by decide +kernel
theorem dX8_scan_9 : decode cX8_scan 9 = .ok (.iload_n 2, 1) := by decide +kernel
theorem dX8_scan_10 : decode cX8_scan 10 = .ok (.sipush 400, 3) := by decide +kernel
theorem dX8_scan_13 : decode cX8_scan 13 = .ok (.if_icmp .ge 40, 3) := by decide +kernel
theorem dX8_scan_16 : decode cX8_scan 16 = .ok (.iload_n 1, 1) := by decide +kernel
theorem dX8_scan_17 : decode cX8_scan 17 = .ok (.aload_n 0, 1) := by decide +kernel
theorem dX8_scan_18 : decode cX8_scan 18 = .ok (.getfield 25, 3) := by decide +kernel
theorem dX8_scan_21 : decode cX8_scan 21 = .ok (.if_icmp .ge 32, 3) := by decide +kernel
theorem dX8_scan_24 : decode cX8_scan 24 = .ok (.aload_n 0, 1) := by decide +kernel
theorem dX8_scan_25 : decode cX8_scan 25 = .ok (.getfield 9, 3) := by decide +kernel
theorem dX8_scan_28 : decode cX8_scan 28 = .ok (.iload_n 1, 1) := by decide +kernel
theorem dX8_scan_29 : decode cX8_scan 29 = .ok (.baload, 1) := by decide +kernel
theorem dX8_scan_30 : decode cX8_scan 30 = .ok (.bipush 32, 2) := by decide +kernel
theorem dX8_scan_32 : decode cX8_scan 32 = .ok (.if_icmp .ne 9, 3) := by decide +kernel
theorem dX8_scan_35 : decode cX8_scan 35 = .ok (.iload_n 1, 1) := by decide +kernel
theorem dX8_scan_36 : decode cX8_scan 36 = .ok (.iconst 1, 1) := by decide +kernel
theorem dX8_scan_37 : decode cX8_scan 37 = .ok (.iadd, 1) := by decide +kernel
theorem dX8_scan_38 : decode cX8_scan 38 = .ok (.goto 8, 3) := by decide +kernel
theorem dX8_scan_41 : decode cX8_scan 41 = .ok (.aload_n 0, 1) := by decide +kernel
theorem dX8_scan_42 : decode cX8_scan 42 = .ok (.iload_n 1, 1) := by decide +kernel
theorem dX8_scan_43 : decode cX8_scan 43 = .ok (.invokevirtual 32, 3) := by decide +kernel
theorem dX8_scan_46 : decode cX8_scan 46 = .ok (.istore_n 1, 1) := by decide +kernel
theorem dX8_scan_47 : decode cX8_scan 47 = .ok (.iinc 2 1, 3) := by decide +kernel
theorem dX8_scan_50 : decode cX8_scan 50 = .ok (.goto (-41), 3) := by decide +kernel
theorem dX8_scan_53 : decode cX8_scan 53 = .ok (.aload_n 0, 1) := by decide +kernel
theorem dX8_scan_54 : decode cX8_scan 54 = .ok (.iconst 0, 1) := by decide +kernel
theorem dX8_scan_55 : decode cX8_scan 55 = .ok (.aload_n 0, 1) := by decide +kernel
theorem dX8_scan_56 : decode cX8_scan 56 = .ok (.getfield 25, 3) := by decide +kernel
theorem dX8_scan_59 : decode cX8_scan 59 = .ok (.iconst 0, 1) := by decide +kernel
theorem dX8_scan_60 : decode cX8_scan 60 = .ok (.invokevirtual 36, 3) := by decide +kernel
theorem dX8_scan_63 : decode cX8_scan 63 = .ok (.aload_n 0, 1) := by decide +kernel
theorem dX8_scan_64 : decode cX8_scan 64 = .ok (.iconst 0, 1) := by decide +kernel
theorem dX8_scan_65 : decode cX8_scan 65 = .ok (.putfield 40, 3) := by decide +kernel
theorem dX8_scan_68 : decode cX8_scan 68 = .ok (.aload_n 0, 1) := by decide +kernel
theorem dX8_scan_69 : decode cX8_scan 69 = .ok (.iconst 0, 1) := by decide +kernel
theorem dX8_scan_70 : decode cX8_scan 70 = .ok (.putfield 43, 3) := by decide +kernel
theorem dX8_scan_73 : decode cX8_scan 73 = .ok (.return_, 1) := by decide +kernel
theorem dX8_code_0 : decode cX8_code 0 = .ok (.aload_n 0, 1) := by decide +kernel
theorem dX8_code_1 : decode cX8_code 1 = .ok (.getfield 40, 3) := by decide +kernel
theorem dX8_code_4 : decode cX8_code 4 = .ok (.aload_n 0, 1) := by decide +kernel
theorem dX8_code_5 : decode cX8_code 5 = .ok (.getfield 29, 3) := by decide +kernel
theorem dX8_code_8 : decode cX8_code 8 = .ok (.if_icmp .ge 15, 3) := by decide +kernel
theorem dX8_code_11 : decode cX8_code 11 = .ok (.aload_n 0, 1) := by decide +kernel
theorem dX8_code_12 : decode cX8_code 12 = .ok (.getfield 15, 3) := by decide +kernel
theorem dX8_code_15 : decode cX8_code 15 = .ok (.aload_n 0, 1) := by decide +kernel
theorem dX8_code_16 : decode cX8_code 16 = .ok (.getfield 40, 3) := by decide +kernel
theorem dX8_code_19 : decode cX8_code 19 = .ok (.iaload, 1) := by decide +kernel
theorem dX8_code_20 : decode cX8_code 20 = .ok (.goto 4, 3) := by decide +kernel
theorem dX8_code_23 : decode cX8_code 23 = .ok (.iconst 0, 1) := by decide +kernel
theorem dX8_code_24 : decode cX8_code 24 = .ok (.ireturn, 1) := by decide +kernel
theorem dX8_number_0 : decode cX8_number 0 = .ok (.aload_n 0, 1) := by decide +kernel
theorem dX8_number_1 : decode cX8_number 1 = .ok (.getfield 40, 3) := by decide +kernel
theorem dX8_number_4 : decode cX8_number 4 = .ok (.aload_n 0, 1) := by decide +kernel
theorem dX8_number_5 : decode cX8_number 5 = .ok (.getfield 29, 3) := by decide +kernel
theorem dX8_number_8 : decode cX8_number 8 = .ok (.if_icmp .ge 15, 3) := by decide +kernel
theorem dX8_number_11 : decode cX8_number 11 = .ok (.aload_n 0, 1) := by decide +kernel
theorem dX8_number_12 : decode cX8_number 12 = .ok (.getfield 22, 3) := by decide +kernel
theorem dX8_number_15 : decode cX8_number 15 = .ok (.aload_n 0, 1) := by decide +kernel
theorem dX8_number_16 : decode cX8_number 16 = .ok (.getfield 40, 3) := by decide +kernel
theorem dX8_number_19 : decode cX8_number 19 = .ok (.iaload, 1) := by decide +kernel
theorem dX8_number_20 : decode cX8_number 20 = .ok (.goto 4, 3) := by decide +kernel
theorem dX8_number_23 : decode cX8_number 23 = .ok (.iconst 0, 1) := by decide +kernel
theorem dX8_number_24 : decode cX8_number 24 = .ok (.ireturn, 1) := by decide +kernel
theorem dX8_skip_0 : decode cX8_skip 0 = .ok (.aload_n 0, 1) := by decide +kernel
theorem dX8_skip_1 : decode cX8_skip 1 = .ok (.dup, 1) := by decide +kernel
theorem dX8_skip_2 : decode cX8_skip 2 = .ok (.getfield 40, 3) := by decide +kernel
theorem dX8_skip_5 : decode cX8_skip 5 = .ok (.iconst 1, 1) := by decide +kernel
theorem dX8_skip_6 : decode cX8_skip 6 = .ok (.iadd, 1) := by decide +kernel
theorem dX8_skip_7 : decode cX8_skip 7 = .ok (.putfield 40, 3) := by decide +kernel
theorem dX8_skip_10 : decode cX8_skip 10 = .ok (.return_, 1) := by decide +kernel
theorem dX8_take_0 : decode cX8_take 0 = .ok (.aload_n 0, 1) := by decide +kernel
theorem dX8_take_1 : decode cX8_take 1 = .ok (.invokevirtual 46, 3) := by decide +kernel
theorem dX8_take_4 : decode cX8_take 4 = .ok (.iload_n 1, 1) := by decide +kernel
theorem dX8_take_5 : decode cX8_take 5 = .ok (.if_icmp .eq 9, 3) := by decide +kernel
theorem dX8_take_8 : decode cX8_take 8 = .ok (.aload_n 0, 1) := by decide +kernel
theorem dX8_take_9 : decode cX8_take 9 = .ok (.iconst 0, 1) := by decide +kernel
theorem dX8_take_10 : decode cX8_take 10 = .ok (.invokevirtual 50, 3) := by decide +kernel
theorem dX8_take_13 : decode cX8_take 13 = .ok (.ireturn, 1) := by decide +kernel
theorem dX8_take_14 : decode cX8_take 14 = .ok (.aload_n 0, 1) := by decide +kernel
theorem dX8_take_15 : decode cX8_take 15 = .ok (.dup, 1) := by decide +kernel
theorem dX8_take_16 : decode cX8_take 16 = .ok (.getfield 40, 3) := by decide +kernel
theorem dX8_take_19 : decode cX8_take 19 = .ok (.iconst 1, 1) := by decide +kernel
theorem dX8_take_20 : decode cX8_take 20 = .ok (.iadd, 1) := by decide +kernel
theorem dX8_take_21 : decode cX8_take 21 = .ok (.putfield 40, 3) := by decide +kernel
theorem dX8_take_24 : decode cX8_take 24 = .ok (.iconst 1, 1) := by decide +kernel
theorem dX8_take_25 : decode cX8_take 25 = .ok (.ireturn, 1) := by decide +kernel
theorem dX8_fail_0 : decode cX8_fail 0 = .ok (.aload_n 0, 1) := by decide +kernel
theorem dX8_fail_1 : decode cX8_fail 1 = .ok (.getfield 40, 3) := by decide +kernel
theorem dX8_fail_4 : decode cX8_fail 4 = .ok (.aload_n 0, 1) := by decide +kernel
theorem dX8_fail_5 : decode cX8_fail 5 = .ok (.getfield 29, 3) := by decide +kernel
theorem dX8_fail_8 : decode cX8_fail 8 = .ok (.if_icmp .ge 15, 3) := by decide +kernel
theorem dX8_fail_11 : decode cX8_fail 11 = .ok (.aload_n 0, 1) := by decide +kernel
theorem dX8_fail_12 : decode cX8_fail 12 = .ok (.getfield 19, 3) := by decide +kernel
theorem dX8_fail_15 : decode cX8_fail 15 = .ok (.aload_n 0, 1) := by decide +kernel
theorem dX8_fail_16 : decode cX8_fail 16 = .ok (.getfield 40, 3) := by decide +kernel
theorem dX8_fail_19 : decode cX8_fail 19 = .ok (.iaload, 1) := by decide +kernel
theorem dX8_fail_20 : decode cX8_fail 20 = .ok (.goto 7, 3) := by decide +kernel
theorem dX8_fail_23 : decode cX8_fail 23 = .ok (.aload_n 0, 1) := by decide +kernel
theorem dX8_fail_24 : decode cX8_fail 24 = .ok (.getfield 25, 3) := by decide +kernel
theorem dX8_fail_27 : decode cX8_fail 27 = .ok (.istore_n 2, 1) := by decide +kernel
theorem dX8_fail_28 : decode cX8_fail 28 = .ok (.aload_n 0, 1) := by decide +kernel
theorem dX8_fail_29 : decode cX8_fail 29 = .ok (.iconst 1, 1) := by decide +kernel
theorem dX8_fail_30 : decode cX8_fail 30 = .ok (.bipush 8, 2) := by decide +kernel
theorem dX8_fail_32 : decode cX8_fail 32 = .ok (.iload_n 2, 1) := by decide +kernel
theorem dX8_fail_33 : decode cX8_fail 33 = .ok (.imul, 1) := by decide +kernel
theorem dX8_fail_34 : decode cX8_fail 34 = .ok (.iadd, 1) := by decide +kernel
theorem dX8_fail_35 : decode cX8_fail 35 = .ok (.iload_n 1, 1) := by decide +kernel
theorem dX8_fail_36 : decode cX8_fail 36 = .ok (.iadd, 1) := by decide +kernel
theorem dX8_fail_37 : decode cX8_fail 37 = .ok (.putfield 43, 3) := by decide +kernel
theorem dX8_fail_40 : decode cX8_fail 40 = .ok (.iconst 0, 1) := by decide +kernel
theorem dX8_fail_41 : decode cX8_fail 41 = .ok (.ireturn, 1) := by decide +kernel
theorem dX8_add_0 : decode cX8_add 0 = .ok (.aload_n 0, 1) := by decide +kernel
theorem dX8_add_1 : decode cX8_add 1 = .ok (.getfield 29, 3) := by decide +kernel
theorem dX8_add_4 : decode cX8_add 4 = .ok (.aload_n 0, 1) := by decide +kernel
theorem dX8_add_5 : decode cX8_add 5 = .ok (.getfield 15, 3) := by decide +kernel
theorem dX8_add_8 : decode cX8_add 8 = .ok (.arraylength, 1) := by decide +kernel
theorem dX8_add_9 : decode cX8_add 9 = .ok (.if_icmp .ge 43, 3) := by decide +kernel
theorem dX8_add_12 : decode cX8_add 12 = .ok (.aload_n 0, 1) := by decide +kernel
theorem dX8_add_13 : decode cX8_add 13 = .ok (.getfield 15, 3) := by decide +kernel
theorem dX8_add_16 : decode cX8_add 16 = .ok (.aload_n 0, 1) := by decide +kernel
theorem dX8_add_17 : decode cX8_add 17 = .ok (.getfield 29, 3) := by decide +kernel
theorem dX8_add_20 : decode cX8_add 20 = .ok (.iload_n 1, 1) := by decide +kernel
theorem dX8_add_21 : decode cX8_add 21 = .ok (.iastore, 1) := by decide +kernel
theorem dX8_add_22 : decode cX8_add 22 = .ok (.aload_n 0, 1) := by decide +kernel
theorem dX8_add_23 : decode cX8_add 23 = .ok (.getfield 19, 3) := by decide +kernel
theorem dX8_add_26 : decode cX8_add 26 = .ok (.aload_n 0, 1) := by decide +kernel
theorem dX8_add_27 : decode cX8_add 27 = .ok (.getfield 29, 3) := by decide +kernel
theorem dX8_add_30 : decode cX8_add 30 = .ok (.iload_n 2, 1) := by decide +kernel
theorem dX8_add_31 : decode cX8_add 31 = .ok (.iastore, 1) := by decide +kernel
theorem dX8_add_32 : decode cX8_add 32 = .ok (.aload_n 0, 1) := by decide +kernel
theorem dX8_add_33 : decode cX8_add 33 = .ok (.getfield 22, 3) := by decide +kernel
theorem dX8_add_36 : decode cX8_add 36 = .ok (.aload_n 0, 1) := by decide +kernel
theorem dX8_add_37 : decode cX8_add 37 = .ok (.getfield 29, 3) := by decide +kernel
theorem dX8_add_40 : decode cX8_add 40 = .ok (.iload_n 3, 1) := by decide +kernel
theorem dX8_add_41 : decode cX8_add 41 = .ok (.iastore, 1) := by decide +kernel
theorem dX8_add_42 : decode cX8_add 42 = .ok (.aload_n 0, 1) := by decide +kernel
theorem dX8_add_43 : decode cX8_add 43 = .ok (.dup, 1) := by decide +kernel
theorem dX8_add_44 : decode cX8_add 44 = .ok (.getfield 29, 3) := by decide +kernel
theorem dX8_add_47 : decode cX8_add 47 = .ok (.iconst 1, 1) := by decide +kernel
theorem dX8_add_48 : decode cX8_add 48 = .ok (.iadd, 1) := by decide +kernel
theorem dX8_add_49 : decode cX8_add 49 = .ok (.putfield 29, 3) := by decide +kernel
theorem dX8_add_52 : decode cX8_add 52 = .ok (.return_, 1) := by decide +kernel
theorem dX8_scanOne_0 : decode cX8_scanOne 0 = .ok (.aload_n 0, 1) := by decide +kernel
theorem dX8_scanOne_1 : decode cX8_scanOne 1 = .ok (.iload_n 1, 1) := by decide +kernel
theorem dX8_scanOne_2 : decode cX8_scanOne 2 = .ok (.bipush 48, 2) := by decide +kernel
theorem dX8_scanOne_4 : decode cX8_scanOne 4 = .ok (.bipush 57, 2) := by decide +kernel
theorem dX8_scanOne_6 : decode cX8_scanOne 6 = .ok (.invokevirtual 54, 3) := by decide +kernel
theorem dX8_scanOne_9 : decode cX8_scanOne 9 = .ok (.istore_n 2, 1) := by decide +kernel
theorem dX8_scanOne_10 : decode cX8_scanOne 10 = .ok (.iload_n 2, 1) := by decide +kernel
theorem dX8_scanOne_11 : decode cX8_scanOne 11 = .ok (.iload_n 1, 1) := by decide +kernel
theorem dX8_scanOne_12 : decode cX8_scanOne 12 = .ok (.if_icmp .le 46, 3) := by decide +kernel
theorem dX8_scanOne_15 : decode cX8_scanOne 15 = .ok (.iload_n 2, 1) := by decide +kernel
theorem dX8_scanOne_16 : decode cX8_scanOne 16 = .ok (.iload_n 1, 1) := by decide +kernel
theorem dX8_scanOne_17 : decode cX8_scanOne 17 = .ok (.isub, 1) := by decide +kernel
theorem dX8_scanOne_18 : decode cX8_scanOne 18 = .ok (.iconst 5, 1) := by decide +kernel
theorem dX8_scanOne_19 : decode cX8_scanOne 19 = .ok (.if_icmp .gt 7, 3) := by decide +kernel
theorem dX8_scanOne_22 : decode cX8_scanOne 22 = .ok (.iconst 1, 1) := by decide +kernel
theorem dX8_scanOne_23 : decode cX8_scanOne 23 = .ok (.goto 4, 3) := by decide +kernel
theorem dX8_scanOne_26 : decode cX8_scanOne 26 = .ok (.iconst 0, 1) := by decide +kernel
theorem dX8_scanOne_27 : decode cX8_scanOne 27 = .ok (.istore_n 3, 1) := by decide +kernel
theorem dX8_scanOne_28 : decode cX8_scanOne 28 = .ok (.aload_n 0, 1) := by decide +kernel
theorem dX8_scanOne_29 : decode cX8_scanOne 29 = .ok (.iload_n 3, 1) := by decide +kernel
theorem dX8_scanOne_30 : decode cX8_scanOne 30 = .ok (.ifCond .eq 7, 3) := by decide +kernel
theorem dX8_scanOne_33 : decode cX8_scanOne 33 = .ok (.iconst 1, 1) := by decide +kernel
theorem dX8_scanOne_34 : decode cX8_scanOne 34 = .ok (.goto 4, 3) := by decide +kernel
theorem dX8_scanOne_37 : decode cX8_scanOne 37 = .ok (.iconst 2, 1) := by decide +kernel
theorem dX8_scanOne_38 : decode cX8_scanOne 38 = .ok (.iload_n 1, 1) := by decide +kernel
theorem dX8_scanOne_39 : decode cX8_scanOne 39 = .ok (.iload_n 3, 1) := by decide +kernel
theorem dX8_scanOne_40 : decode cX8_scanOne 40 = .ok (.ifCond .eq 12, 3) := by decide +kernel
theorem dX8_scanOne_43 : decode cX8_scanOne 43 = .ok (.aload_n 0, 1) := by decide +kernel
theorem dX8_scanOne_44 : decode cX8_scanOne 44 = .ok (.iload_n 1, 1) := by decide +kernel
theorem dX8_scanOne_45 : decode cX8_scanOne 45 = .ok (.iload_n 2, 1) := by decide +kernel
theorem dX8_scanOne_46 : decode cX8_scanOne 46 = .ok (.invokevirtual 58, 3) := by decide +kernel
theorem dX8_scanOne_49 : decode cX8_scanOne 49 = .ok (.goto 4, 3) := by decide +kernel
theorem dX8_scanOne_52 : decode cX8_scanOne 52 = .ok (.iconst 0, 1) := by decide +kernel
theorem dX8_scanOne_53 : decode cX8_scanOne 53 = .ok (.invokevirtual 36, 3) := by decide +kernel
theorem dX8_scanOne_56 : decode cX8_scanOne 56 = .ok (.iload_n 2, 1) := by decide +kernel
theorem dX8_scanOne_57 : decode cX8_scanOne 57 = .ok (.ireturn, 1) := by decide +kernel
theorem dX8_scanOne_58 : decode cX8_scanOne 58 = .ok (.aload_n 0, 1) := by decide +kernel
theorem dX8_scanOne_59 : decode cX8_scanOne 59 = .ok (.iload_n 1, 1) := by decide +kernel
theorem dX8_scanOne_60 : decode cX8_scanOne 60 = .ok (.bipush 97, 2) := by decide +kernel
theorem dX8_scanOne_62 : decode cX8_scanOne 62 = .ok (.bipush 122, 2) := by decide +kernel
theorem dX8_scanOne_64 : decode cX8_scanOne 64 = .ok (.invokevirtual 54, 3) := by decide +kernel
theorem dX8_scanOne_67 : decode cX8_scanOne 67 = .ok (.istore_n 2, 1) := by decide +kernel
theorem dX8_scanOne_68 : decode cX8_scanOne 68 = .ok (.iload_n 2, 1) := by decide +kernel
theorem dX8_scanOne_69 : decode cX8_scanOne 69 = .ok (.iload_n 1, 1) := by decide +kernel
theorem dX8_scanOne_70 : decode cX8_scanOne 70 = .ok (.if_icmp .le 17, 3) := by decide +kernel
theorem dX8_scanOne_73 : decode cX8_scanOne 73 = .ok (.aload_n 0, 1) := by decide +kernel
theorem dX8_scanOne_74 : decode cX8_scanOne 74 = .ok (.aload_n 0, 1) := by decide +kernel
theorem dX8_scanOne_75 : decode cX8_scanOne 75 = .ok (.iload_n 1, 1) := by decide +kernel
theorem dX8_scanOne_76 : decode cX8_scanOne 76 = .ok (.iload_n 2, 1) := by decide +kernel
theorem dX8_scanOne_77 : decode cX8_scanOne 77 = .ok (.invokevirtual 62, 3) := by decide +kernel
theorem dX8_scanOne_80 : decode cX8_scanOne 80 = .ok (.iload_n 1, 1) := by decide +kernel
theorem dX8_scanOne_81 : decode cX8_scanOne 81 = .ok (.iconst 0, 1) := by decide +kernel
theorem dX8_scanOne_82 : decode cX8_scanOne 82 = .ok (.invokevirtual 36, 3) := by decide +kernel
theorem dX8_scanOne_85 : decode cX8_scanOne 85 = .ok (.iload_n 2, 1) := by decide +kernel
theorem dX8_scanOne_86 : decode cX8_scanOne 86 = .ok (.ireturn, 1) := by decide +kernel
theorem dX8_scanOne_87 : decode cX8_scanOne 87 = .ok (.aload_n 0, 1) := by decide +kernel
theorem dX8_scanOne_88 : decode cX8_scanOne 88 = .ok (.iload_n 1, 1) := by decide +kernel
theorem dX8_scanOne_89 : decode cX8_scanOne 89 = .ok (.invokevirtual 65, 3) := by decide +kernel
theorem dX8_scanOne_92 : decode cX8_scanOne 92 = .ok (.istore_n 3, 1) := by decide +kernel
theorem dX8_scanOne_93 : decode cX8_scanOne 93 = .ok (.aload_n 0, 1) := by decide +kernel
theorem dX8_scanOne_94 : decode cX8_scanOne 94 = .ok (.iload_n 3, 1) := by decide +kernel
theorem dX8_scanOne_95 : decode cX8_scanOne 95 = .ok (.iload_n 1, 1) := by decide +kernel
theorem dX8_scanOne_96 : decode cX8_scanOne 96 = .ok (.iconst 0, 1) := by decide +kernel
theorem dX8_scanOne_97 : decode cX8_scanOne 97 = .ok (.invokevirtual 36, 3) := by decide +kernel
theorem dX8_scanOne_100 : decode cX8_scanOne 100 = .ok (.iload_n 1, 1) := by decide +kernel
theorem dX8_scanOne_101 : decode cX8_scanOne 101 = .ok (.iload_n 3, 1) := by decide +kernel
theorem dX8_scanOne_102 : decode cX8_scanOne 102 = .ok (.bipush 13, 2) := by decide +kernel
theorem dX8_scanOne_104 : decode cX8_scanOne 104 = .ok (.if_icmp .eq 9, 3) := by decide +kernel
theorem dX8_scanOne_107 : decode cX8_scanOne 107 = .ok (.iload_n 3, 1) := by decide +kernel
theorem dX8_scanOne_108 : decode cX8_scanOne 108 = .ok (.bipush 15, 2) := by decide +kernel
theorem dX8_scanOne_110 : decode cX8_scanOne 110 = .ok (.if_icmp .ne 7, 3) := by decide +kernel
theorem dX8_scanOne_113 : decode cX8_scanOne 113 = .ok (.iconst 2, 1) := by decide +kernel
theorem dX8_scanOne_114 : decode cX8_scanOne 114 = .ok (.goto 4, 3) := by decide +kernel
theorem dX8_scanOne_117 : decode cX8_scanOne 117 = .ok (.iconst 1, 1) := by decide +kernel
theorem dX8_scanOne_118 : decode cX8_scanOne 118 = .ok (.iadd, 1) := by decide +kernel
theorem dX8_scanOne_119 : decode cX8_scanOne 119 = .ok (.ireturn, 1) := by decide +kernel
theorem dX8_behindRun_0 : decode cX8_behindRun 0 = .ok (.iload_n 1, 1) := by decide +kernel
theorem dX8_behindRun_1 : decode cX8_behindRun 1 = .ok (.istore 4, 2) := by decide +kernel
theorem dX8_behindRun_3 : decode cX8_behindRun 3 = .ok (.iload 4, 2) := by decide +kernel
theorem dX8_behindRun_5 : decode cX8_behindRun 5 = .ok (.aload_n 0, 1) := by decide +kernel
theorem dX8_behindRun_6 : decode cX8_behindRun 6 = .ok (.getfield 25, 3) := by decide +kernel
theorem dX8_behindRun_9 : decode cX8_behindRun 9 = .ok (.if_icmp .ge 31, 3) := by decide +kernel
theorem dX8_behindRun_12 : decode cX8_behindRun 12 = .ok (.aload_n 0, 1) := by decide +kernel
theorem dX8_behindRun_13 : decode cX8_behindRun 13 = .ok (.getfield 9, 3) := by decide +kernel
theorem dX8_behindRun_16 : decode cX8_behindRun 16 = .ok (.iload 4, 2) := by decide +kernel
theorem dX8_behindRun_18 : decode cX8_behindRun 18 = .ok (.baload, 1) := by decide +kernel
theorem dX8_behindRun_19 : decode cX8_behindRun 19 = .ok (.iload_n 2, 1) := by decide +kernel
theorem dX8_behindRun_20 : decode cX8_behindRun 20 = .ok (.if_icmp .lt 20, 3) := by decide +kernel
theorem dX8_behindRun_23 : decode cX8_behindRun 23 = .ok (.aload_n 0, 1) := by decide +kernel
theorem dX8_behindRun_24 : decode cX8_behindRun 24 = .ok (.getfield 9, 3) := by decide +kernel
theorem dX8_behindRun_27 : decode cX8_behindRun 27 = .ok (.iload 4, 2) := by decide +kernel
theorem dX8_behindRun_29 : decode cX8_behindRun 29 = .ok (.baload, 1) := by decide +kernel
theorem dX8_behindRun_30 : decode cX8_behindRun 30 = .ok (.iload_n 3, 1) := by decide +kernel
theorem dX8_behindRun_31 : decode cX8_behindRun 31 = .ok (.if_icmp .gt 9, 3) := by decide +kernel
theorem dX8_behindRun_34 : decode cX8_behindRun 34 = .ok (.iinc 4 1, 3) := by decide +kernel
theorem dX8_behindRun_37 : decode cX8_behindRun 37 = .ok (.goto (-34), 3) := by decide +kernel
theorem dX8_behindRun_40 : decode cX8_behindRun 40 = .ok (.iload 4, 2) := by decide +kernel
theorem dX8_behindRun_42 : decode cX8_behindRun 42 = .ok (.ireturn, 1) := by decide +kernel
theorem dX8_numberFrom_0 : decode cX8_numberFrom 0 = .ok (.iconst 0, 1) := by decide +kernel
theorem dX8_numberFrom_1 : decode cX8_numberFrom 1 = .ok (.istore_n 3, 1) := by decide +kernel
theorem dX8_numberFrom_2 : decode cX8_numberFrom 2 = .ok (.iload_n 1, 1) := by decide +kernel
theorem dX8_numberFrom_3 : decode cX8_numberFrom 3 = .ok (.istore 4, 2) := by decide +kernel
theorem dX8_numberFrom_5 : decode cX8_numberFrom 5 = .ok (.iload 4, 2) := by decide +kernel
theorem dX8_numberFrom_7 : decode cX8_numberFrom 7 = .ok (.iload_n 2, 1) := by decide +kernel
theorem dX8_numberFrom_8 : decode cX8_numberFrom 8 = .ok (.if_icmp .ge 25, 3) := by decide +kernel
theorem dX8_numberFrom_11 : decode cX8_numberFrom 11 = .ok (.iload_n 3, 1) := by decide +kernel
theorem dX8_numberFrom_12 : decode cX8_numberFrom 12 = .ok (.bipush 10, 2) := by decide +kernel
theorem dX8_numberFrom_14 : decode cX8_numberFrom 14 = .ok (.imul, 1) := by decide +kernel
theorem dX8_numberFrom_15 : decode cX8_numberFrom 15 = .ok (.aload_n 0, 1) := by decide +kernel
theorem dX8_numberFrom_16 : decode cX8_numberFrom 16 = .ok (.getfield 9, 3) := by decide +kernel
theorem dX8_numberFrom_19 : decode cX8_numberFrom 19 = .ok (.iload 4, 2) := by decide +kernel
theorem dX8_numberFrom_21 : decode cX8_numberFrom 21 = .ok (.baload, 1) := by decide +kernel
theorem dX8_numberFrom_22 : decode cX8_numberFrom 22 = .ok (.iadd, 1) := by decide +kernel
theorem dX8_numberFrom_23 : decode cX8_numberFrom 23 = .ok (.bipush 48, 2) := by decide +kernel
theorem dX8_numberFrom_25 : decode cX8_numberFrom 25 = .ok (.isub, 1) := by decide +kernel
theorem dX8_numberFrom_26 : decode cX8_numberFrom 26 = .ok (.istore_n 3, 1) := by decide +kernel
theorem dX8_numberFrom_27 : decode cX8_numberFrom 27 = .ok (.iinc 4 1, 3) := by decide +kernel
theorem dX8_numberFrom_30 : decode cX8_numberFrom 30 = .ok (.goto (-25), 3) := by decide +kernel
theorem dX8_numberFrom_33 : decode cX8_numberFrom 33 = .ok (.iload_n 3, 1) := by decide +kernel
theorem dX8_numberFrom_34 : decode cX8_numberFrom 34 = .ok (.ireturn, 1) := by decide +kernel
theorem dX8_wordFrom_0 : decode cX8_wordFrom 0 = .ok (.bipush 17, 2) := by decide +kernel
theorem dX8_wordFrom_2 : decode cX8_wordFrom 2 = .ok (.istore_n 3, 1) := by decide +kernel
theorem dX8_wordFrom_3 : decode cX8_wordFrom 3 = .ok (.iload_n 3, 1) := by decide +kernel
theorem dX8_wordFrom_4 : decode cX8_wordFrom 4 = .ok (.bipush 36, 2) := by decide +kernel
theorem dX8_wordFrom_6 : decode cX8_wordFrom 6 = .ok (.if_icmp .gt 24, 3) := by decide +kernel
theorem dX8_wordFrom_9 : decode cX8_wordFrom 9 = .ok (.aload_n 0, 1) := by decide +kernel
theorem dX8_wordFrom_10 : decode cX8_wordFrom 10 = .ok (.iload_n 3, 1) := by decide +kernel
theorem dX8_wordFrom_11 : decode cX8_wordFrom 11 = .ok (.invokestatic 68, 3) := by decide +kernel
theorem dX8_wordFrom_14 : decode cX8_wordFrom 14 = .ok (.iload_n 1, 1) := by decide +kernel
theorem dX8_wordFrom_15 : decode cX8_wordFrom 15 = .ok (.iload_n 2, 1) := by decide +kernel
theorem dX8_wordFrom_16 : decode cX8_wordFrom 16 = .ok (.invokevirtual 72, 3) := by decide +kernel
theorem dX8_wordFrom_19 : decode cX8_wordFrom 19 = .ok (.ifCond .eq 5, 3) := by decide +kernel
theorem dX8_wordFrom_22 : decode cX8_wordFrom 22 = .ok (.iload_n 3, 1) := by decide +kernel
theorem dX8_wordFrom_23 : decode cX8_wordFrom 23 = .ok (.ireturn, 1) := by decide +kernel
theorem dX8_wordFrom_24 : decode cX8_wordFrom 24 = .ok (.iinc 3 1, 3) := by decide +kernel
theorem dX8_wordFrom_27 : decode cX8_wordFrom 27 = .ok (.goto (-24), 3) := by decide +kernel
theorem dX8_wordFrom_30 : decode cX8_wordFrom 30 = .ok (.iconst 3, 1) := by decide +kernel
theorem dX8_wordFrom_31 : decode cX8_wordFrom 31 = .ok (.ireturn, 1) := by decide +kernel
theorem dX8_isWord_0 : decode cX8_isWord 0 = .ok (.aload_n 1, 1) := by decide +kernel
theorem dX8_isWord_1 : decode cX8_isWord 1 = .ok (.invokevirtual 76, 3) := by decide +kernel
theorem dX8_isWord_4 : decode cX8_isWord 4 = .ok (.iload_n 3, 1) := by decide +kernel
theorem dX8_isWord_5 : decode cX8_isWord 5 = .ok (.iload_n 2, 1) := by decide +kernel
theorem dX8_isWord_6 : decode cX8_isWord 6 = .ok (.isub, 1) := by decide +kernel
theorem dX8_isWord_7 : decode cX8_isWord 7 = .ok (.if_icmp .eq 5, 3) := by decide +kernel
theorem dX8_isWord_10 : decode cX8_isWord 10 = .ok (.iconst 0, 1) := by decide +kernel
theorem dX8_isWord_11 : decode cX8_isWord 11 = .ok (.ireturn, 1) := by decide +kernel
theorem dX8_isWord_12 : decode cX8_isWord 12 = .ok (.iconst 0, 1) := by decide +kernel
theorem dX8_isWord_13 : decode cX8_isWord 13 = .ok (.istore 4, 2) := by decide +kernel
theorem dX8_isWord_15 : decode cX8_isWord 15 = .ok (.iload 4, 2) := by decide +kernel
theorem dX8_isWord_17 : decode cX8_isWord 17 = .ok (.aload_n 1, 1) := by decide +kernel
theorem dX8_isWord_18 : decode cX8_isWord 18 = .ok (.invokevirtual 76, 3) := by decide +kernel
theorem dX8_isWord_21 : decode cX8_isWord 21 = .ok (.if_icmp .ge 29, 3) := by decide +kernel
theorem dX8_isWord_24 : decode cX8_isWord 24 = .ok (.aload_n 0, 1) := by decide +kernel
theorem dX8_isWord_25 : decode cX8_isWord 25 = .ok (.getfield 9, 3) := by decide +kernel
theorem dX8_isWord_28 : decode cX8_isWord 28 = .ok (.iload_n 2, 1) := by decide +kernel
theorem dX8_isWord_29 : decode cX8_isWord 29 = .ok (.iload 4, 2) := by decide +kernel
theorem dX8_isWord_31 : decode cX8_isWord 31 = .ok (.iadd, 1) := by decide +kernel
theorem dX8_isWord_32 : decode cX8_isWord 32 = .ok (.baload, 1) := by decide +kernel
theorem dX8_isWord_33 : decode cX8_isWord 33 = .ok (.aload_n 1, 1) := by decide +kernel
theorem dX8_isWord_34 : decode cX8_isWord 34 = .ok (.iload 4, 2) := by decide +kernel
theorem dX8_isWord_36 : decode cX8_isWord 36 = .ok (.invokevirtual 81, 3) := by decide +kernel
theorem dX8_isWord_39 : decode cX8_isWord 39 = .ok (.if_icmp .eq 5, 3) := by decide +kernel
theorem dX8_isWord_42 : decode cX8_isWord 42 = .ok (.iconst 0, 1) := by decide +kernel
theorem dX8_isWord_43 : decode cX8_isWord 43 = .ok (.ireturn, 1) := by decide +kernel
theorem dX8_isWord_44 : decode cX8_isWord 44 = .ok (.iinc 4 1, 3) := by decide +kernel
theorem dX8_isWord_47 : decode cX8_isWord 47 = .ok (.goto (-32), 3) := by decide +kernel
theorem dX8_isWord_50 : decode cX8_isWord 50 = .ok (.iconst 1, 1) := by decide +kernel
theorem dX8_isWord_51 : decode cX8_isWord 51 = .ok (.ireturn, 1) := by decide +kernel
theorem dX8_signAt_0 : decode cX8_signAt 0 = .ok (.iload_n 1, 1) := by decide +kernel
theorem dX8_signAt_1 : decode cX8_signAt 1 = .ok (.iconst 1, 1) := by decide +kernel
theorem dX8_signAt_2 : decode cX8_signAt 2 = .ok (.iadd, 1) := by decide +kernel
theorem dX8_signAt_3 : decode cX8_signAt 3 = .ok (.aload_n 0, 1) := by decide +kernel
theorem dX8_signAt_4 : decode cX8_signAt 4 = .ok (.getfield 25, 3) := by decide +kernel
theorem dX8_signAt_7 : decode cX8_signAt 7 = .ok (.if_icmp .ge 20, 3) := by decide +kernel
theorem dX8_signAt_10 : decode cX8_signAt 10 = .ok (.aload_n 0, 1) := by decide +kernel
theorem dX8_signAt_11 : decode cX8_signAt 11 = .ok (.getfield 9, 3) := by decide +kernel
theorem dX8_signAt_14 : decode cX8_signAt 14 = .ok (.iload_n 1, 1) := by decide +kernel
theorem dX8_signAt_15 : decode cX8_signAt 15 = .ok (.iconst 1, 1) := by decide +kernel
theorem dX8_signAt_16 : decode cX8_signAt 16 = .ok (.iadd, 1) := by decide +kernel
theorem dX8_signAt_17 : decode cX8_signAt 17 = .ok (.baload, 1) := by decide +kernel
theorem dX8_signAt_18 : decode cX8_signAt 18 = .ok (.bipush 61, 2) := by decide +kernel
theorem dX8_signAt_20 : decode cX8_signAt 20 = .ok (.if_icmp .ne 7, 3) := by decide +kernel
theorem dX8_signAt_23 : decode cX8_signAt 23 = .ok (.iconst 1, 1) := by decide +kernel
theorem dX8_signAt_24 : decode cX8_signAt 24 = .ok (.goto 4, 3) := by decide +kernel
theorem dX8_signAt_27 : decode cX8_signAt 27 = .ok (.iconst 0, 1) := by decide +kernel
theorem dX8_signAt_28 : decode cX8_signAt 28 = .ok (.istore_n 2, 1) := by decide +kernel
theorem dX8_signAt_29 : decode cX8_signAt 29 = .ok (.aload_n 0, 1) := by decide +kernel
theorem dX8_signAt_30 : decode cX8_signAt 30 = .ok (.getfield 9, 3) := by decide +kernel
theorem dX8_signAt_33 : decode cX8_signAt 33 = .ok (.iload_n 1, 1) := by decide +kernel
theorem dX8_signAt_34 : decode cX8_signAt 34 = .ok (.baload, 1) := by decide +kernel
theorem dX8_signAt_35 : decode cX8_signAt 35 = .ok (.lookupswitch 146 #[(37, 116), (42, 110), (43, 104), (45, 107), (47, 113), (59, 97), (60, 122), (61, 119), (62, 134), (91, 99), (93, 101)], 97) := by decide +kernel
theorem dX8_signAt_132 : decode cX8_signAt 132 = .ok (.iconst 4, 1) := by decide +kernel
theorem dX8_signAt_133 : decode cX8_signAt 133 = .ok (.ireturn, 1) := by decide +kernel
theorem dX8_signAt_134 : decode cX8_signAt 134 = .ok (.iconst 5, 1) := by decide +kernel
theorem dX8_signAt_135 : decode cX8_signAt 135 = .ok (.ireturn, 1) := by decide +kernel
theorem dX8_signAt_136 : decode cX8_signAt 136 = .ok (.bipush 6, 2) := by decide +kernel
theorem dX8_signAt_138 : decode cX8_signAt 138 = .ok (.ireturn, 1) := by decide +kernel
theorem dX8_signAt_139 : decode cX8_signAt 139 = .ok (.bipush 7, 2) := by decide +kernel
theorem dX8_signAt_141 : decode cX8_signAt 141 = .ok (.ireturn, 1) := by decide +kernel
theorem dX8_signAt_142 : decode cX8_signAt 142 = .ok (.bipush 8, 2) := by decide +kernel
theorem dX8_signAt_144 : decode cX8_signAt 144 = .ok (.ireturn, 1) := by decide +kernel
theorem dX8_signAt_145 : decode cX8_signAt 145 = .ok (.bipush 9, 2) := by decide +kernel
theorem dX8_signAt_147 : decode cX8_signAt 147 = .ok (.ireturn, 1) := by decide +kernel
theorem dX8_signAt_148 : decode cX8_signAt 148 = .ok (.bipush 10, 2) := by decide +kernel
theorem dX8_signAt_150 : decode cX8_signAt 150 = .ok (.ireturn, 1) := by decide +kernel
theorem dX8_signAt_151 : decode cX8_signAt 151 = .ok (.bipush 11, 2) := by decide +kernel
theorem dX8_signAt_153 : decode cX8_signAt 153 = .ok (.ireturn, 1) := by decide +kernel
theorem dX8_signAt_154 : decode cX8_signAt 154 = .ok (.bipush 14, 2) := by decide +kernel
theorem dX8_signAt_156 : decode cX8_signAt 156 = .ok (.ireturn, 1) := by decide +kernel
theorem dX8_signAt_157 : decode cX8_signAt 157 = .ok (.iload_n 2, 1) := by decide +kernel
theorem dX8_signAt_158 : decode cX8_signAt 158 = .ok (.ifCond .eq 8, 3) := by decide +kernel
theorem dX8_signAt_161 : decode cX8_signAt 161 = .ok (.bipush 13, 2) := by decide +kernel
theorem dX8_signAt_163 : decode cX8_signAt 163 = .ok (.goto 5, 3) := by decide +kernel
theorem dX8_signAt_166 : decode cX8_signAt 166 = .ok (.bipush 12, 2) := by decide +kernel
theorem dX8_signAt_168 : decode cX8_signAt 168 = .ok (.ireturn, 1) := by decide +kernel
theorem dX8_signAt_169 : decode cX8_signAt 169 = .ok (.iload_n 2, 1) := by decide +kernel
theorem dX8_signAt_170 : decode cX8_signAt 170 = .ok (.ifCond .eq 8, 3) := by decide +kernel
theorem dX8_signAt_173 : decode cX8_signAt 173 = .ok (.bipush 15, 2) := by decide +kernel
theorem dX8_signAt_175 : decode cX8_signAt 175 = .ok (.goto 5, 3) := by decide +kernel
theorem dX8_signAt_178 : decode cX8_signAt 178 = .ok (.bipush 16, 2) := by decide +kernel
theorem dX8_signAt_180 : decode cX8_signAt 180 = .ok (.ireturn, 1) := by decide +kernel
theorem dX8_signAt_181 : decode cX8_signAt 181 = .ok (.iconst 3, 1) := by decide +kernel
theorem dX8_signAt_182 : decode cX8_signAt 182 = .ok (.ireturn, 1) := by decide +kernel
theorem dX8_wordOf_0 : decode cX8_wordOf 0 = .ok (.iload_n 0, 1) := by decide +kernel
theorem dX8_wordOf_1 : decode cX8_wordOf 1 = .ok (.tableswitch 148 17 35 #[91, 94, 97, 100, 103, 106, 109, 112, 115, 118, 121, 124, 127, 130, 133, 136, 139, 142, 145], 91) := by decide +kernel
theorem dX8_wordOf_92 : decode cX8_wordOf 92 = .ok (.ldc 85, 2) := by decide +kernel
theorem dX8_wordOf_94 : decode cX8_wordOf 94 = .ok (.areturn, 1) := by decide +kernel
theorem dX8_wordOf_95 : decode cX8_wordOf 95 = .ok (.ldc 87, 2) := by decide +kernel
theorem dX8_wordOf_97 : decode cX8_wordOf 97 = .ok (.areturn, 1) := by decide +kernel
theorem dX8_wordOf_98 : decode cX8_wordOf 98 = .ok (.ldc 89, 2) := by decide +kernel
theorem dX8_wordOf_100 : decode cX8_wordOf 100 = .ok (.areturn, 1) := by decide +kernel
theorem dX8_wordOf_101 : decode cX8_wordOf 101 = .ok (.ldc 91, 2) := by decide +kernel
theorem dX8_wordOf_103 : decode cX8_wordOf 103 = .ok (.areturn, 1) := by decide +kernel
theorem dX8_wordOf_104 : decode cX8_wordOf 104 = .ok (.ldc 93, 2) := by decide +kernel
theorem dX8_wordOf_106 : decode cX8_wordOf 106 = .ok (.areturn, 1) := by decide +kernel
theorem dX8_wordOf_107 : decode cX8_wordOf 107 = .ok (.ldc 95, 2) := by decide +kernel
theorem dX8_wordOf_109 : decode cX8_wordOf 109 = .ok (.areturn, 1) := by decide +kernel
theorem dX8_wordOf_110 : decode cX8_wordOf 110 = .ok (.ldc 97, 2) := by decide +kernel
theorem dX8_wordOf_112 : decode cX8_wordOf 112 = .ok (.areturn, 1) := by decide +kernel
theorem dX8_wordOf_113 : decode cX8_wordOf 113 = .ok (.ldc 99, 2) := by decide +kernel
theorem dX8_wordOf_115 : decode cX8_wordOf 115 = .ok (.areturn, 1) := by decide +kernel
theorem dX8_wordOf_116 : decode cX8_wordOf 116 = .ok (.ldc 101, 2) := by decide +kernel
theorem dX8_wordOf_118 : decode cX8_wordOf 118 = .ok (.areturn, 1) := by decide +kernel
theorem dX8_wordOf_119 : decode cX8_wordOf 119 = .ok (.ldc 103, 2) := by decide +kernel
theorem dX8_wordOf_121 : decode cX8_wordOf 121 = .ok (.areturn, 1) := by decide +kernel
theorem dX8_wordOf_122 : decode cX8_wordOf 122 = .ok (.ldc 105, 2) := by decide +kernel
theorem dX8_wordOf_124 : decode cX8_wordOf 124 = .ok (.areturn, 1) := by decide +kernel
theorem dX8_wordOf_125 : decode cX8_wordOf 125 = .ok (.ldc 107, 2) := by decide +kernel
theorem dX8_wordOf_127 : decode cX8_wordOf 127 = .ok (.areturn, 1) := by decide +kernel
theorem dX8_wordOf_128 : decode cX8_wordOf 128 = .ok (.ldc 109, 2) := by decide +kernel
theorem dX8_wordOf_130 : decode cX8_wordOf 130 = .ok (.areturn, 1) := by decide +kernel
theorem dX8_wordOf_131 : decode cX8_wordOf 131 = .ok (.ldc 111, 2) := by decide +kernel
theorem dX8_wordOf_133 : decode cX8_wordOf 133 = .ok (.areturn, 1) := by decide +kernel
theorem dX8_wordOf_134 : decode cX8_wordOf 134 = .ok (.ldc 113, 2) := by decide +kernel
theorem dX8_wordOf_136 : decode cX8_wordOf 136 = .ok (.areturn, 1) := by decide +kernel
theorem dX8_wordOf_137 : decode cX8_wordOf 137 = .ok (.ldc 115, 2) := by decide +kernel
theorem dX8_wordOf_139 : decode cX8_wordOf 139 = .ok (.areturn, 1) := by decide +kernel
theorem dX8_wordOf_140 : decode cX8_wordOf 140 = .ok (.ldc 117, 2) := by decide +kernel
theorem dX8_wordOf_142 : decode cX8_wordOf 142 = .ok (.areturn, 1) := by decide +kernel
theorem dX8_wordOf_143 : decode cX8_wordOf 143 = .ok (.ldc 119, 2) := by decide +kernel
theorem dX8_wordOf_145 : decode cX8_wordOf 145 = .ok (.areturn, 1) := by decide +kernel
theorem dX8_wordOf_146 : decode cX8_wordOf 146 = .ok (.ldc 121, 2) := by decide +kernel
theorem dX8_wordOf_148 : decode cX8_wordOf 148 = .ok (.areturn, 1) := by decide +kernel
theorem dX8_wordOf_149 : decode cX8_wordOf 149 = .ok (.ldc 123, 2) := by decide +kernel
theorem dX8_wordOf_151 : decode cX8_wordOf 151 = .ok (.areturn, 1) := by decide +kernel
theorem dX6_init_0 : decode cX6_init 0 = .ok (.aload_n 0, 1) := by decide +kernel
theorem dX6_init_1 : decode cX6_init 1 = .ok (.invokespecial 3, 3) := by decide +kernel
theorem dX6_init_4 : decode cX6_init 4 = .ok (.aload_n 0, 1) := by decide +kernel
theorem dX6_init_5 : decode cX6_init 5 = .ok (.new 9, 3) := by decide +kernel
theorem dX6_init_8 : decode cX6_init 8 = .ok (.dup, 1) := by decide +kernel
theorem dX6_init_9 : decode cX6_init 9 = .ok (.invokespecial 11, 3) := by decide +kernel
theorem dX6_init_12 : decode cX6_init 12 = .ok (.putfield 12, 3) := by decide +kernel
theorem dX6_init_15 : decode cX6_init 15 = .ok (.aload_n 0, 1) := by decide +kernel
theorem dX6_init_16 : decode cX6_init 16 = .ok (.new 18, 3) := by decide +kernel
theorem dX6_init_19 : decode cX6_init 19 = .ok (.dup, 1) := by decide +kernel
theorem dX6_init_20 : decode cX6_init 20 = .ok (.invokespecial 20, 3) := by decide +kernel
theorem dX6_init_23 : decode cX6_init 23 = .ok (.putfield 21, 3) := by decide +kernel
theorem dX6_init_26 : decode cX6_init 26 = .ok (.aload_n 0, 1) := by decide +kernel
theorem dX6_init_27 : decode cX6_init 27 = .ok (.bipush 20, 2) := by decide +kernel
theorem dX6_init_29 : decode cX6_init 29 = .ok (.anewarray 18, 3) := by decide +kernel
theorem dX6_init_32 : decode cX6_init 32 = .ok (.putfield 25, 3) := by decide +kernel
theorem dX6_init_35 : decode cX6_init 35 = .ok (.aload_n 0, 1) := by decide +kernel
theorem dX6_init_36 : decode cX6_init 36 = .ok (.bipush 10, 2) := by decide +kernel
theorem dX6_init_38 : decode cX6_init 38 = .ok (.newarray .int, 2) := by decide +kernel
theorem dX6_init_40 : decode cX6_init 40 = .ok (.putfield 29, 3) := by decide +kernel
theorem dX6_init_43 : decode cX6_init 43 = .ok (.aload_n 0, 1) := by decide +kernel
theorem dX6_init_44 : decode cX6_init 44 = .ok (.bipush 10, 2) := by decide +kernel
theorem dX6_init_46 : decode cX6_init 46 = .ok (.newarray .int, 2) := by decide +kernel
theorem dX6_init_48 : decode cX6_init 48 = .ok (.putfield 33, 3) := by decide +kernel
theorem dX6_init_51 : decode cX6_init 51 = .ok (.aload_n 0, 1) := by decide +kernel
theorem dX6_init_52 : decode cX6_init 52 = .ok (.bipush 10, 2) := by decide +kernel
theorem dX6_init_54 : decode cX6_init 54 = .ok (.newarray .int, 2) := by decide +kernel
theorem dX6_init_56 : decode cX6_init 56 = .ok (.putfield 36, 3) := by decide +kernel
theorem dX6_init_59 : decode cX6_init 59 = .ok (.aload_n 0, 1) := by decide +kernel
theorem dX6_init_60 : decode cX6_init 60 = .ok (.iconst (-1), 1) := by decide +kernel
theorem dX6_init_61 : decode cX6_init 61 = .ok (.putfield 39, 3) := by decide +kernel
theorem dX6_init_64 : decode cX6_init 64 = .ok (.return_, 1) := by decide +kernel
theorem dX6_open_0 : decode cX6_open 0 = .ok (.aload_n 0, 1) := by decide +kernel
theorem dX6_open_1 : decode cX6_open 1 = .ok (.getfield 12, 3) := by decide +kernel
theorem dX6_open_4 : decode cX6_open 4 = .ok (.aload_n 1, 1) := by decide +kernel
theorem dX6_open_5 : decode cX6_open 5 = .ok (.invokevirtual 43, 3) := by decide +kernel
theorem dX6_open_8 : decode cX6_open 8 = .ok (.aload_n 0, 1) := by decide +kernel
theorem dX6_open_9 : decode cX6_open 9 = .ok (.getfield 21, 3) := by decide +kernel
theorem dX6_open_12 : decode cX6_open 12 = .ok (.aload_n 1, 1) := by decide +kernel
theorem dX6_open_13 : decode cX6_open 13 = .ok (.getfield 47, 3) := by decide +kernel
theorem dX6_open_16 : decode cX6_open 16 = .ok (.invokevirtual 50, 3) := by decide +kernel
theorem dX6_open_19 : decode cX6_open 19 = .ok (.aload_n 0, 1) := by decide +kernel
theorem dX6_open_20 : decode cX6_open 20 = .ok (.iconst 0, 1) := by decide +kernel
theorem dX6_open_21 : decode cX6_open 21 = .ok (.putfield 53, 3) := by decide +kernel
theorem dX6_open_24 : decode cX6_open 24 = .ok (.aload_n 0, 1) := by decide +kernel
theorem dX6_open_25 : decode cX6_open 25 = .ok (.iconst 0, 1) := by decide +kernel
theorem dX6_open_26 : decode cX6_open 26 = .ok (.putfield 56, 3) := by decide +kernel
theorem dX6_open_29 : decode cX6_open 29 = .ok (.return_, 1) := by decide +kernel
theorem dX6_copy_0 : decode cX6_copy 0 = .ok (.aload_n 0, 1) := by decide +kernel
theorem dX6_copy_1 : decode cX6_copy 1 = .ok (.getfield 12, 3) := by decide +kernel
theorem dX6_copy_4 : decode cX6_copy 4 = .ok (.aload_n 1, 1) := by decide +kernel
theorem dX6_copy_5 : decode cX6_copy 5 = .ok (.getfield 12, 3) := by decide +kernel
theorem dX6_copy_8 : decode cX6_copy 8 = .ok (.invokevirtual 43, 3) := by decide +kernel
theorem dX6_copy_11 : decode cX6_copy 11 = .ok (.aload_n 0, 1) := by decide +kernel
theorem dX6_copy_12 : decode cX6_copy 12 = .ok (.getfield 21, 3) := by decide +kernel
theorem dX6_copy_15 : decode cX6_copy 15 = .ok (.aload_n 1, 1) := by decide +kernel
theorem dX6_copy_16 : decode cX6_copy 16 = .ok (.getfield 21, 3) := by decide +kernel
theorem dX6_copy_19 : decode cX6_copy 19 = .ok (.invokevirtual 50, 3) := by decide +kernel
theorem dX6_copy_22 : decode cX6_copy 22 = .ok (.aload_n 0, 1) := by decide +kernel
theorem dX6_copy_23 : decode cX6_copy 23 = .ok (.aload_n 1, 1) := by decide +kernel
theorem dX6_copy_24 : decode cX6_copy 24 = .ok (.getfield 53, 3) := by decide +kernel
theorem dX6_copy_27 : decode cX6_copy 27 = .ok (.putfield 53, 3) := by decide +kernel
theorem dX6_copy_30 : decode cX6_copy 30 = .ok (.iconst 0, 1) := by decide +kernel
theorem dX6_copy_31 : decode cX6_copy 31 = .ok (.istore_n 2, 1) := by decide +kernel
theorem dX6_copy_32 : decode cX6_copy 32 = .ok (.iload_n 2, 1) := by decide +kernel
theorem dX6_copy_33 : decode cX6_copy 33 = .ok (.aload_n 0, 1) := by decide +kernel
theorem dX6_copy_34 : decode cX6_copy 34 = .ok (.getfield 53, 3) := by decide +kernel
theorem dX6_copy_37 : decode cX6_copy 37 = .ok (.if_icmp .ge 22, 3) := by decide +kernel
theorem dX6_copy_40 : decode cX6_copy 40 = .ok (.aload_n 0, 1) := by decide +kernel
theorem dX6_copy_41 : decode cX6_copy 41 = .ok (.iload_n 2, 1) := by decide +kernel
theorem dX6_copy_42 : decode cX6_copy 42 = .ok (.invokevirtual 59, 3) := by decide +kernel
theorem dX6_copy_45 : decode cX6_copy 45 = .ok (.aload_n 1, 1) := by decide +kernel
theorem dX6_copy_46 : decode cX6_copy 46 = .ok (.iload_n 2, 1) := by decide +kernel
theorem dX6_copy_47 : decode cX6_copy 47 = .ok (.invokevirtual 59, 3) := by decide +kernel
theorem dX6_copy_50 : decode cX6_copy 50 = .ok (.invokevirtual 50, 3) := by decide +kernel
theorem dX6_copy_53 : decode cX6_copy 53 = .ok (.iinc 2 1, 3) := by decide +kernel
theorem dX6_copy_56 : decode cX6_copy 56 = .ok (.goto (-24), 3) := by decide +kernel
theorem dX6_copy_59 : decode cX6_copy 59 = .ok (.aload_n 0, 1) := by decide +kernel
theorem dX6_copy_60 : decode cX6_copy 60 = .ok (.aload_n 1, 1) := by decide +kernel
theorem dX6_copy_61 : decode cX6_copy 61 = .ok (.getfield 56, 3) := by decide +kernel
theorem dX6_copy_64 : decode cX6_copy 64 = .ok (.putfield 56, 3) := by decide +kernel
theorem dX6_copy_67 : decode cX6_copy 67 = .ok (.aload_n 1, 1) := by decide +kernel
theorem dX6_copy_68 : decode cX6_copy 68 = .ok (.getfield 29, 3) := by decide +kernel
theorem dX6_copy_71 : decode cX6_copy 71 = .ok (.iconst 0, 1) := by decide +kernel
theorem dX6_copy_72 : decode cX6_copy 72 = .ok (.aload_n 0, 1) := by decide +kernel
theorem dX6_copy_73 : decode cX6_copy 73 = .ok (.getfield 29, 3) := by decide +kernel
theorem dX6_copy_76 : decode cX6_copy 76 = .ok (.iconst 0, 1) := by decide +kernel
theorem dX6_copy_77 : decode cX6_copy 77 = .ok (.bipush 10, 2) := by decide +kernel
theorem dX6_copy_79 : decode cX6_copy 79 = .ok (.invokestatic 63, 3) := by decide +kernel
theorem dX6_copy_82 : decode cX6_copy 82 = .ok (.aload_n 1, 1) := by decide +kernel
theorem dX6_copy_83 : decode cX6_copy 83 = .ok (.getfield 33, 3) := by decide +kernel
theorem dX6_copy_86 : decode cX6_copy 86 = .ok (.iconst 0, 1) := by decide +kernel
theorem dX6_copy_87 : decode cX6_copy 87 = .ok (.aload_n 0, 1) := by decide +kernel
theorem dX6_copy_88 : decode cX6_copy 88 = .ok (.getfield 33, 3) := by decide +kernel
theorem dX6_copy_91 : decode cX6_copy 91 = .ok (.iconst 0, 1) := by decide +kernel
theorem dX6_copy_92 : decode cX6_copy 92 = .ok (.bipush 10, 2) := by decide +kernel
theorem dX6_copy_94 : decode cX6_copy 94 = .ok (.invokestatic 63, 3) := by decide +kernel
theorem dX6_copy_97 : decode cX6_copy 97 = .ok (.aload_n 1, 1) := by decide +kernel
theorem dX6_copy_98 : decode cX6_copy 98 = .ok (.getfield 36, 3) := by decide +kernel
theorem dX6_copy_101 : decode cX6_copy 101 = .ok (.iconst 0, 1) := by decide +kernel
theorem dX6_copy_102 : decode cX6_copy 102 = .ok (.aload_n 0, 1) := by decide +kernel
theorem dX6_copy_103 : decode cX6_copy 103 = .ok (.getfield 36, 3) := by decide +kernel
theorem dX6_copy_106 : decode cX6_copy 106 = .ok (.iconst 0, 1) := by decide +kernel
theorem dX6_copy_107 : decode cX6_copy 107 = .ok (.bipush 10, 2) := by decide +kernel
theorem dX6_copy_109 : decode cX6_copy 109 = .ok (.invokestatic 63, 3) := by decide +kernel
theorem dX6_copy_112 : decode cX6_copy 112 = .ok (.aload_n 0, 1) := by decide +kernel
theorem dX6_copy_113 : decode cX6_copy 113 = .ok (.aload_n 1, 1) := by decide +kernel
theorem dX6_copy_114 : decode cX6_copy 114 = .ok (.getfield 39, 3) := by decide +kernel
theorem dX6_copy_117 : decode cX6_copy 117 = .ok (.putfield 39, 3) := by decide +kernel
theorem dX6_copy_120 : decode cX6_copy 120 = .ok (.aload_n 0, 1) := by decide +kernel
theorem dX6_copy_121 : decode cX6_copy 121 = .ok (.aload_n 1, 1) := by decide +kernel
theorem dX6_copy_122 : decode cX6_copy 122 = .ok (.getfield 69, 3) := by decide +kernel
theorem dX6_copy_125 : decode cX6_copy 125 = .ok (.putfield 69, 3) := by decide +kernel
theorem dX6_copy_128 : decode cX6_copy 128 = .ok (.return_, 1) := by decide +kernel
theorem dX6_pastAt_0 : decode cX6_pastAt 0 = .ok (.aload_n 0, 1) := by decide +kernel
theorem dX6_pastAt_1 : decode cX6_pastAt 1 = .ok (.getfield 25, 3) := by decide +kernel
theorem dX6_pastAt_4 : decode cX6_pastAt 4 = .ok (.iload_n 1, 1) := by decide +kernel
theorem dX6_pastAt_5 : decode cX6_pastAt 5 = .ok (.aaload, 1) := by decide +kernel
theorem dX6_pastAt_6 : decode cX6_pastAt 6 = .ok (.ifnonnull 16, 3) := by decide +kernel
theorem dX6_pastAt_9 : decode cX6_pastAt 9 = .ok (.aload_n 0, 1) := by decide +kernel
theorem dX6_pastAt_10 : decode cX6_pastAt 10 = .ok (.getfield 25, 3) := by decide +kernel
theorem dX6_pastAt_13 : decode cX6_pastAt 13 = .ok (.iload_n 1, 1) := by decide +kernel
theorem dX6_pastAt_14 : decode cX6_pastAt 14 = .ok (.new 18, 3) := by decide +kernel
theorem dX6_pastAt_17 : decode cX6_pastAt 17 = .ok (.dup, 1) := by decide +kernel
theorem dX6_pastAt_18 : decode cX6_pastAt 18 = .ok (.invokespecial 20, 3) := by decide +kernel
theorem dX6_pastAt_21 : decode cX6_pastAt 21 = .ok (.aastore, 1) := by decide +kernel
theorem dX6_pastAt_22 : decode cX6_pastAt 22 = .ok (.aload_n 0, 1) := by decide +kernel
theorem dX6_pastAt_23 : decode cX6_pastAt 23 = .ok (.getfield 25, 3) := by decide +kernel
theorem dX6_pastAt_26 : decode cX6_pastAt 26 = .ok (.iload_n 1, 1) := by decide +kernel
theorem dX6_pastAt_27 : decode cX6_pastAt 27 = .ok (.aaload, 1) := by decide +kernel
theorem dX6_pastAt_28 : decode cX6_pastAt 28 = .ok (.areturn, 1) := by decide +kernel
theorem dX6_remember_0 : decode cX6_remember 0 = .ok (.aload_n 0, 1) := by decide +kernel
theorem dX6_remember_1 : decode cX6_remember 1 = .ok (.getfield 53, 3) := by decide +kernel
theorem dX6_remember_4 : decode cX6_remember 4 = .ok (.bipush 20, 2) := by decide +kernel
theorem dX6_remember_6 : decode cX6_remember 6 = .ok (.if_icmp .ne 7, 3) := by decide +kernel
theorem dX6_remember_9 : decode cX6_remember 9 = .ok (.aload_n 0, 1) := by decide +kernel
theorem dX6_remember_10 : decode cX6_remember 10 = .ok (.invokevirtual 72, 3) := by decide +kernel
theorem dX6_remember_13 : decode cX6_remember 13 = .ok (.aload_n 0, 1) := by decide +kernel
theorem dX6_remember_14 : decode cX6_remember 14 = .ok (.aload_n 0, 1) := by decide +kernel
theorem dX6_remember_15 : decode cX6_remember 15 = .ok (.getfield 53, 3) := by decide +kernel
theorem dX6_remember_18 : decode cX6_remember 18 = .ok (.invokevirtual 59, 3) := by decide +kernel
theorem dX6_remember_21 : decode cX6_remember 21 = .ok (.aload_n 0, 1) := by decide +kernel
theorem dX6_remember_22 : decode cX6_remember 22 = .ok (.getfield 21, 3) := by decide +kernel
theorem dX6_remember_25 : decode cX6_remember 25 = .ok (.invokevirtual 50, 3) := by decide +kernel
theorem dX6_remember_28 : decode cX6_remember 28 = .ok (.aload_n 0, 1) := by decide +kernel
theorem dX6_remember_29 : decode cX6_remember 29 = .ok (.dup, 1) := by decide +kernel
theorem dX6_remember_30 : decode cX6_remember 30 = .ok (.getfield 53, 3) := by decide +kernel
theorem dX6_remember_33 : decode cX6_remember 33 = .ok (.iconst 1, 1) := by decide +kernel
theorem dX6_remember_34 : decode cX6_remember 34 = .ok (.iadd, 1) := by decide +kernel
theorem dX6_remember_35 : decode cX6_remember 35 = .ok (.putfield 53, 3) := by decide +kernel
theorem dX6_remember_38 : decode cX6_remember 38 = .ok (.return_, 1) := by decide +kernel
theorem dX6_forgetFirst_0 : decode cX6_forgetFirst 0 = .ok (.aload_n 0, 1) := by decide +kernel
theorem dX6_forgetFirst_1 : decode cX6_forgetFirst 1 = .ok (.getfield 25, 3) := by decide +kernel
theorem dX6_forgetFirst_4 : decode cX6_forgetFirst 4 = .ok (.iconst 0, 1) := by decide +kernel
theorem dX6_forgetFirst_5 : decode cX6_forgetFirst 5 = .ok (.aaload, 1) := by decide +kernel
theorem dX6_forgetFirst_6 : decode cX6_forgetFirst 6 = .ok (.astore_n 1, 1) := by decide +kernel
theorem dX6_forgetFirst_7 : decode cX6_forgetFirst 7 = .ok (.iconst 1, 1) := by decide +kernel
theorem dX6_forgetFirst_8 : decode cX6_forgetFirst 8 = .ok (.istore_n 2, 1) := by decide +kernel
theorem dX6_forgetFirst_9 : decode cX6_forgetFirst 9 = .ok (.iload_n 2, 1) := by decide +kernel
theorem dX6_forgetFirst_10 : decode cX6_forgetFirst 10 = .ok (.bipush 20, 2) := by decide +kernel
theorem dX6_forgetFirst_12 : decode cX6_forgetFirst 12 = .ok (.if_icmp .ge 23, 3) := by decide +kernel
theorem dX6_forgetFirst_15 : decode cX6_forgetFirst 15 = .ok (.aload_n 0, 1) := by decide +kernel
theorem dX6_forgetFirst_16 : decode cX6_forgetFirst 16 = .ok (.getfield 25, 3) := by decide +kernel
theorem dX6_forgetFirst_19 : decode cX6_forgetFirst 19 = .ok (.iload_n 2, 1) := by decide +kernel
theorem dX6_forgetFirst_20 : decode cX6_forgetFirst 20 = .ok (.iconst 1, 1) := by decide +kernel
theorem dX6_forgetFirst_21 : decode cX6_forgetFirst 21 = .ok (.isub, 1) := by decide +kernel
theorem dX6_forgetFirst_22 : decode cX6_forgetFirst 22 = .ok (.aload_n 0, 1) := by decide +kernel
theorem dX6_forgetFirst_23 : decode cX6_forgetFirst 23 = .ok (.getfield 25, 3) := by decide +kernel
theorem dX6_forgetFirst_26 : decode cX6_forgetFirst 26 = .ok (.iload_n 2, 1) := by decide +kernel
theorem dX6_forgetFirst_27 : decode cX6_forgetFirst 27 = .ok (.aaload, 1) := by decide +kernel
theorem dX6_forgetFirst_28 : decode cX6_forgetFirst 28 = .ok (.aastore, 1) := by decide +kernel
theorem dX6_forgetFirst_29 : decode cX6_forgetFirst 29 = .ok (.iinc 2 1, 3) := by decide +kernel
theorem dX6_forgetFirst_32 : decode cX6_forgetFirst 32 = .ok (.goto (-23), 3) := by decide +kernel
theorem dX6_forgetFirst_35 : decode cX6_forgetFirst 35 = .ok (.aload_n 0, 1) := by decide +kernel
theorem dX6_forgetFirst_36 : decode cX6_forgetFirst 36 = .ok (.getfield 25, 3) := by decide +kernel
theorem dX6_forgetFirst_39 : decode cX6_forgetFirst 39 = .ok (.bipush 19, 2) := by decide +kernel
theorem dX6_forgetFirst_41 : decode cX6_forgetFirst 41 = .ok (.aload_n 1, 1) := by decide +kernel
theorem dX6_forgetFirst_42 : decode cX6_forgetFirst 42 = .ok (.aastore, 1) := by decide +kernel
theorem dX6_forgetFirst_43 : decode cX6_forgetFirst 43 = .ok (.aload_n 0, 1) := by decide +kernel
theorem dX6_forgetFirst_44 : decode cX6_forgetFirst 44 = .ok (.dup, 1) := by decide +kernel
theorem dX6_forgetFirst_45 : decode cX6_forgetFirst 45 = .ok (.getfield 53, 3) := by decide +kernel
theorem dX6_forgetFirst_48 : decode cX6_forgetFirst 48 = .ok (.iconst 1, 1) := by decide +kernel
theorem dX6_forgetFirst_49 : decode cX6_forgetFirst 49 = .ok (.isub, 1) := by decide +kernel
theorem dX6_forgetFirst_50 : decode cX6_forgetFirst 50 = .ok (.putfield 53, 3) := by decide +kernel
theorem dX6_forgetFirst_53 : decode cX6_forgetFirst 53 = .ok (.return_, 1) := by decide +kernel
theorem dX6_goBackAnAct_0 : decode cX6_goBackAnAct 0 = .ok (.aload_n 0, 1) := by decide +kernel
theorem dX6_goBackAnAct_1 : decode cX6_goBackAnAct 1 = .ok (.getfield 53, 3) := by decide +kernel
theorem dX6_goBackAnAct_4 : decode cX6_goBackAnAct 4 = .ok (.ifCond .ne 5, 3) := by decide +kernel
theorem dX6_goBackAnAct_7 : decode cX6_goBackAnAct 7 = .ok (.iconst 0, 1) := by decide +kernel
theorem dX6_goBackAnAct_8 : decode cX6_goBackAnAct 8 = .ok (.ireturn, 1) := by decide +kernel
theorem dX6_goBackAnAct_9 : decode cX6_goBackAnAct 9 = .ok (.aload_n 0, 1) := by decide +kernel
theorem dX6_goBackAnAct_10 : decode cX6_goBackAnAct 10 = .ok (.dup, 1) := by decide +kernel
theorem dX6_goBackAnAct_11 : decode cX6_goBackAnAct 11 = .ok (.getfield 53, 3) := by decide +kernel
theorem dX6_goBackAnAct_14 : decode cX6_goBackAnAct 14 = .ok (.iconst 1, 1) := by decide +kernel
theorem dX6_goBackAnAct_15 : decode cX6_goBackAnAct 15 = .ok (.isub, 1) := by decide +kernel
theorem dX6_goBackAnAct_16 : decode cX6_goBackAnAct 16 = .ok (.putfield 53, 3) := by decide +kernel
theorem dX6_goBackAnAct_19 : decode cX6_goBackAnAct 19 = .ok (.aload_n 0, 1) := by decide +kernel
theorem dX6_goBackAnAct_20 : decode cX6_goBackAnAct 20 = .ok (.getfield 21, 3) := by decide +kernel
theorem dX6_goBackAnAct_23 : decode cX6_goBackAnAct 23 = .ok (.aload_n 0, 1) := by decide +kernel
theorem dX6_goBackAnAct_24 : decode cX6_goBackAnAct 24 = .ok (.aload_n 0, 1) := by decide +kernel
theorem dX6_goBackAnAct_25 : decode cX6_goBackAnAct 25 = .ok (.getfield 53, 3) := by decide +kernel
theorem dX6_goBackAnAct_28 : decode cX6_goBackAnAct 28 = .ok (.invokevirtual 59, 3) := by decide +kernel
theorem dX6_goBackAnAct_31 : decode cX6_goBackAnAct 31 = .ok (.invokevirtual 50, 3) := by decide +kernel
theorem dX6_goBackAnAct_34 : decode cX6_goBackAnAct 34 = .ok (.iconst 1, 1) := by decide +kernel
theorem dX6_goBackAnAct_35 : decode cX6_goBackAnAct 35 = .ok (.ireturn, 1) := by decide +kernel
theorem dX6_addNote_0 : decode cX6_addNote 0 = .ok (.aload_n 0, 1) := by decide +kernel
theorem dX6_addNote_1 : decode cX6_addNote 1 = .ok (.getfield 56, 3) := by decide +kernel
theorem dX6_addNote_4 : decode cX6_addNote 4 = .ok (.bipush 10, 2) := by decide +kernel
theorem dX6_addNote_6 : decode cX6_addNote 6 = .ok (.if_icmp .ge 43, 3) := by decide +kernel
theorem dX6_addNote_9 : decode cX6_addNote 9 = .ok (.aload_n 0, 1) := by decide +kernel
theorem dX6_addNote_10 : decode cX6_addNote 10 = .ok (.getfield 29, 3) := by decide +kernel
theorem dX6_addNote_13 : decode cX6_addNote 13 = .ok (.aload_n 0, 1) := by decide +kernel
theorem dX6_addNote_14 : decode cX6_addNote 14 = .ok (.getfield 56, 3) := by decide +kernel
theorem dX6_addNote_17 : decode cX6_addNote 17 = .ok (.iload_n 1, 1) := by decide +kernel
theorem dX6_addNote_18 : decode cX6_addNote 18 = .ok (.iastore, 1) := by decide +kernel
theorem dX6_addNote_19 : decode cX6_addNote 19 = .ok (.aload_n 0, 1) := by decide +kernel
theorem dX6_addNote_20 : decode cX6_addNote 20 = .ok (.getfield 33, 3) := by decide +kernel
theorem dX6_addNote_23 : decode cX6_addNote 23 = .ok (.aload_n 0, 1) := by decide +kernel
theorem dX6_addNote_24 : decode cX6_addNote 24 = .ok (.getfield 56, 3) := by decide +kernel
theorem dX6_addNote_27 : decode cX6_addNote 27 = .ok (.iload_n 2, 1) := by decide +kernel
theorem dX6_addNote_28 : decode cX6_addNote 28 = .ok (.iastore, 1) := by decide +kernel
theorem dX6_addNote_29 : decode cX6_addNote 29 = .ok (.aload_n 0, 1) := by decide +kernel
theorem dX6_addNote_30 : decode cX6_addNote 30 = .ok (.getfield 36, 3) := by decide +kernel
theorem dX6_addNote_33 : decode cX6_addNote 33 = .ok (.aload_n 0, 1) := by decide +kernel
theorem dX6_addNote_34 : decode cX6_addNote 34 = .ok (.getfield 56, 3) := by decide +kernel
theorem dX6_addNote_37 : decode cX6_addNote 37 = .ok (.iload_n 3, 1) := by decide +kernel
theorem dX6_addNote_38 : decode cX6_addNote 38 = .ok (.iastore, 1) := by decide +kernel
theorem dX6_addNote_39 : decode cX6_addNote 39 = .ok (.aload_n 0, 1) := by decide +kernel
theorem dX6_addNote_40 : decode cX6_addNote 40 = .ok (.dup, 1) := by decide +kernel
theorem dX6_addNote_41 : decode cX6_addNote 41 = .ok (.getfield 56, 3) := by decide +kernel
theorem dX6_addNote_44 : decode cX6_addNote 44 = .ok (.iconst 1, 1) := by decide +kernel
theorem dX6_addNote_45 : decode cX6_addNote 45 = .ok (.iadd, 1) := by decide +kernel
theorem dX6_addNote_46 : decode cX6_addNote 46 = .ok (.putfield 56, 3) := by decide +kernel
theorem dX6_addNote_49 : decode cX6_addNote 49 = .ok (.return_, 1) := by decide +kernel
theorem dX6_isAsNoted_0 : decode cX6_isAsNoted 0 = .ok (.iconst 0, 1) := by decide +kernel
theorem dX6_isAsNoted_1 : decode cX6_isAsNoted 1 = .ok (.istore_n 2, 1) := by decide +kernel
theorem dX6_isAsNoted_2 : decode cX6_isAsNoted 2 = .ok (.iload_n 2, 1) := by decide +kernel
theorem dX6_isAsNoted_3 : decode cX6_isAsNoted 3 = .ok (.aload_n 0, 1) := by decide +kernel
theorem dX6_isAsNoted_4 : decode cX6_isAsNoted 4 = .ok (.getfield 56, 3) := by decide +kernel
theorem dX6_isAsNoted_7 : decode cX6_isAsNoted 7 = .ok (.if_icmp .ge 44, 3) := by decide +kernel
theorem dX6_isAsNoted_10 : decode cX6_isAsNoted 10 = .ok (.aload_n 0, 1) := by decide +kernel
theorem dX6_isAsNoted_11 : decode cX6_isAsNoted 11 = .ok (.getfield 29, 3) := by decide +kernel
theorem dX6_isAsNoted_14 : decode cX6_isAsNoted 14 = .ok (.iload_n 2, 1) := by decide +kernel
theorem dX6_isAsNoted_15 : decode cX6_isAsNoted 15 = .ok (.iaload, 1) := by decide +kernel
theorem dX6_isAsNoted_16 : decode cX6_isAsNoted 16 = .ok (.aload_n 1, 1) := by decide +kernel
theorem dX6_isAsNoted_17 : decode cX6_isAsNoted 17 = .ok (.getfield 75, 3) := by decide +kernel
theorem dX6_isAsNoted_20 : decode cX6_isAsNoted 20 = .ok (.if_icmp .ne 25, 3) := by decide +kernel
theorem dX6_isAsNoted_23 : decode cX6_isAsNoted 23 = .ok (.aload_n 1, 1) := by decide +kernel
theorem dX6_isAsNoted_24 : decode cX6_isAsNoted 24 = .ok (.getfield 78, 3) := by decide +kernel
theorem dX6_isAsNoted_27 : decode cX6_isAsNoted 27 = .ok (.aload_n 0, 1) := by decide +kernel
theorem dX6_isAsNoted_28 : decode cX6_isAsNoted 28 = .ok (.getfield 33, 3) := by decide +kernel
theorem dX6_isAsNoted_31 : decode cX6_isAsNoted 31 = .ok (.iload_n 2, 1) := by decide +kernel
theorem dX6_isAsNoted_32 : decode cX6_isAsNoted 32 = .ok (.iaload, 1) := by decide +kernel
theorem dX6_isAsNoted_33 : decode cX6_isAsNoted 33 = .ok (.iaload, 1) := by decide +kernel
theorem dX6_isAsNoted_34 : decode cX6_isAsNoted 34 = .ok (.aload_n 0, 1) := by decide +kernel
theorem dX6_isAsNoted_35 : decode cX6_isAsNoted 35 = .ok (.getfield 36, 3) := by decide +kernel
theorem dX6_isAsNoted_38 : decode cX6_isAsNoted 38 = .ok (.iload_n 2, 1) := by decide +kernel
theorem dX6_isAsNoted_39 : decode cX6_isAsNoted 39 = .ok (.iaload, 1) := by decide +kernel
theorem dX6_isAsNoted_40 : decode cX6_isAsNoted 40 = .ok (.if_icmp .eq 5, 3) := by decide +kernel
theorem dX6_isAsNoted_43 : decode cX6_isAsNoted 43 = .ok (.iconst 0, 1) := by decide +kernel
theorem dX6_isAsNoted_44 : decode cX6_isAsNoted 44 = .ok (.ireturn, 1) := by decide +kernel
theorem dX6_isAsNoted_45 : decode cX6_isAsNoted 45 = .ok (.iinc 2 1, 3) := by decide +kernel
theorem dX6_isAsNoted_48 : decode cX6_isAsNoted 48 = .ok (.goto (-46), 3) := by decide +kernel
theorem dX6_isAsNoted_51 : decode cX6_isAsNoted 51 = .ok (.iconst 1, 1) := by decide +kernel
theorem dX6_isAsNoted_52 : decode cX6_isAsNoted 52 = .ok (.ireturn, 1) := by decide +kernel
theorem dX6_lastNotedDay_0 : decode cX6_lastNotedDay 0 = .ok (.iconst 0, 1) := by decide +kernel
theorem dX6_lastNotedDay_1 : decode cX6_lastNotedDay 1 = .ok (.istore_n 1, 1) := by decide +kernel
theorem dX6_lastNotedDay_2 : decode cX6_lastNotedDay 2 = .ok (.iconst 0, 1) := by decide +kernel
theorem dX6_lastNotedDay_3 : decode cX6_lastNotedDay 3 = .ok (.istore_n 2, 1) := by decide +kernel
theorem dX6_lastNotedDay_4 : decode cX6_lastNotedDay 4 = .ok (.iload_n 2, 1) := by decide +kernel
theorem dX6_lastNotedDay_5 : decode cX6_lastNotedDay 5 = .ok (.aload_n 0, 1) := by decide +kernel
theorem dX6_lastNotedDay_6 : decode cX6_lastNotedDay 6 = .ok (.getfield 56, 3) := by decide +kernel
theorem dX6_lastNotedDay_9 : decode cX6_lastNotedDay 9 = .ok (.if_icmp .ge 20, 3) := by decide +kernel
theorem dX6_lastNotedDay_12 : decode cX6_lastNotedDay 12 = .ok (.iload_n 1, 1) := by decide +kernel
theorem dX6_lastNotedDay_13 : decode cX6_lastNotedDay 13 = .ok (.aload_n 0, 1) := by decide +kernel
theorem dX6_lastNotedDay_14 : decode cX6_lastNotedDay 14 = .ok (.getfield 29, 3) := by decide +kernel
theorem dX6_lastNotedDay_17 : decode cX6_lastNotedDay 17 = .ok (.iload_n 2, 1) := by decide +kernel
theorem dX6_lastNotedDay_18 : decode cX6_lastNotedDay 18 = .ok (.iaload, 1) := by decide +kernel
theorem dX6_lastNotedDay_19 : decode cX6_lastNotedDay 19 = .ok (.invokestatic 81, 3) := by decide +kernel
theorem dX6_lastNotedDay_22 : decode cX6_lastNotedDay 22 = .ok (.istore_n 1, 1) := by decide +kernel
theorem dX6_lastNotedDay_23 : decode cX6_lastNotedDay 23 = .ok (.iinc 2 1, 3) := by decide +kernel
theorem dX6_lastNotedDay_26 : decode cX6_lastNotedDay 26 = .ok (.goto (-22), 3) := by decide +kernel
theorem dX6_lastNotedDay_29 : decode cX6_lastNotedDay 29 = .ok (.iload_n 1, 1) := by decide +kernel
theorem dX6_lastNotedDay_30 : decode cX6_lastNotedDay 30 = .ok (.ireturn, 1) := by decide +kernel
theorem dX4_init_0 : decode cX4_init 0 = .ok (.aload_n 0, 1) := by decide +kernel
theorem dX4_init_1 : decode cX4_init 1 = .ok (.invokespecial 3, 3) := by decide +kernel
theorem dX4_init_4 : decode cX4_init 4 = .ok (.aload_n 0, 1) := by decide +kernel
theorem dX4_init_5 : decode cX4_init 5 = .ok (.bipush 40, 2) := by decide +kernel
theorem dX4_init_7 : decode cX4_init 7 = .ok (.newarray .long, 2) := by decide +kernel
theorem dX4_init_9 : decode cX4_init 9 = .ok (.putfield 11, 3) := by decide +kernel
theorem dX4_init_12 : decode cX4_init 12 = .ok (.aload_n 0, 1) := by decide +kernel
theorem dX4_init_13 : decode cX4_init 13 = .ok (.aload_n 1, 1) := by decide +kernel
theorem dX4_init_14 : decode cX4_init 14 = .ok (.putfield 15, 3) := by decide +kernel
theorem dX4_init_17 : decode cX4_init 17 = .ok (.return_, 1) := by decide +kernel
theorem dX4_worth_0 : decode cX4_worth 0 = .ok (.iconst 0, 1) := by decide +kernel
theorem dX4_worth_1 : decode cX4_worth 1 = .ok (.istore_n 2, 1) := by decide +kernel
theorem dX4_worth_2 : decode cX4_worth 2 = .ok (.iconst 0, 1) := by decide +kernel
theorem dX4_worth_3 : decode cX4_worth 3 = .ok (.istore_n 3, 1) := by decide +kernel
theorem dX4_worth_4 : decode cX4_worth 4 = .ok (.iload_n 3, 1) := by decide +kernel
theorem dX4_worth_5 : decode cX4_worth 5 = .ok (.aload_n 0, 1) := by decide +kernel
theorem dX4_worth_6 : decode cX4_worth 6 = .ok (.getfield 15, 3) := by decide +kernel
theorem dX4_worth_9 : decode cX4_worth 9 = .ok (.arraylength, 1) := by decide +kernel
theorem dX4_worth_10 : decode cX4_worth 10 = .ok (.if_icmp .ge 212, 3) := by decide +kernel
theorem dX4_worth_13 : decode cX4_worth 13 = .ok (.aload_n 0, 1) := by decide +kernel
theorem dX4_worth_14 : decode cX4_worth 14 = .ok (.getfield 15, 3) := by decide +kernel
theorem dX4_worth_17 : decode cX4_worth 17 = .ok (.iload_n 3, 1) := by decide +kernel
theorem dX4_worth_18 : decode cX4_worth 18 = .ok (.iaload, 1) := by decide +kernel
theorem dX4_worth_19 : decode cX4_worth 19 = .ok (.bipush 63, 2) := by decide +kernel
theorem dX4_worth_21 : decode cX4_worth 21 = .ok (.iand, 1) := by decide +kernel
theorem dX4_worth_22 : decode cX4_worth 22 = .ok (.istore 4, 2) := by decide +kernel
theorem dX4_worth_24 : decode cX4_worth 24 = .ok (.iload 4, 2) := by decide +kernel
theorem dX4_worth_26 : decode cX4_worth 26 = .ok (.iconst 1, 1) := by decide +kernel
theorem dX4_worth_27 : decode cX4_worth 27 = .ok (.if_icmp .eq 15, 3) := by decide +kernel
theorem dX4_worth_30 : decode cX4_worth 30 = .ok (.iload 4, 2) := by decide +kernel
theorem dX4_worth_32 : decode cX4_worth 32 = .ok (.bipush 17, 2) := by decide +kernel
theorem dX4_worth_34 : decode cX4_worth 34 = .ok (.bipush 28, 2) := by decide +kernel
theorem dX4_worth_36 : decode cX4_worth 36 = .ok (.invokestatic 19, 3) := by decide +kernel
theorem dX4_worth_39 : decode cX4_worth 39 = .ok (.ifCond .eq 49, 3) := by decide +kernel
theorem dX4_worth_42 : decode cX4_worth 42 = .ok (.iload_n 2, 1) := by decide +kernel
theorem dX4_worth_43 : decode cX4_worth 43 = .ok (.bipush 40, 2) := by decide +kernel
theorem dX4_worth_45 : decode cX4_worth 45 = .ok (.if_icmp .lt 5, 3) := by decide +kernel
theorem dX4_worth_48 : decode cX4_worth 48 = .ok (.lconst 0, 1) := by decide +kernel
theorem dX4_worth_49 : decode cX4_worth 49 = .ok (.lreturn, 1) := by decide +kernel
theorem dX4_worth_50 : decode cX4_worth 50 = .ok (.aload_n 0, 1) := by decide +kernel
theorem dX4_worth_51 : decode cX4_worth 51 = .ok (.getfield 11, 3) := by decide +kernel
theorem dX4_worth_54 : decode cX4_worth 54 = .ok (.iload_n 2, 1) := by decide +kernel
theorem dX4_worth_55 : decode cX4_worth 55 = .ok (.iload 4, 2) := by decide +kernel
theorem dX4_worth_57 : decode cX4_worth 57 = .ok (.iconst 1, 1) := by decide +kernel
theorem dX4_worth_58 : decode cX4_worth 58 = .ok (.if_icmp .ne 16, 3) := by decide +kernel
theorem dX4_worth_61 : decode cX4_worth 61 = .ok (.aload_n 0, 1) := by decide +kernel
theorem dX4_worth_62 : decode cX4_worth 62 = .ok (.getfield 15, 3) := by decide +kernel
theorem dX4_worth_65 : decode cX4_worth 65 = .ok (.iload_n 3, 1) := by decide +kernel
theorem dX4_worth_66 : decode cX4_worth 66 = .ok (.iaload, 1) := by decide +kernel
theorem dX4_worth_67 : decode cX4_worth 67 = .ok (.bipush 6, 2) := by decide +kernel
theorem dX4_worth_69 : decode cX4_worth 69 = .ok (.ishr, 1) := by decide +kernel
theorem dX4_worth_70 : decode cX4_worth 70 = .ok (.i2l, 1) := by decide +kernel
theorem dX4_worth_71 : decode cX4_worth 71 = .ok (.goto 10, 3) := by decide +kernel
theorem dX4_worth_74 : decode cX4_worth 74 = .ok (.aload_n 1, 1) := by decide +kernel
theorem dX4_worth_75 : decode cX4_worth 75 = .ok (.iload 4, 2) := by decide +kernel
theorem dX4_worth_77 : decode cX4_worth 77 = .ok (.bipush 17, 2) := by decide +kernel
theorem dX4_worth_79 : decode cX4_worth 79 = .ok (.isub, 1) := by decide +kernel
theorem dX4_worth_80 : decode cX4_worth 80 = .ok (.laload, 1) := by decide +kernel
theorem dX4_worth_81 : decode cX4_worth 81 = .ok (.lastore, 1) := by decide +kernel
theorem dX4_worth_82 : decode cX4_worth 82 = .ok (.iinc 2 1, 3) := by decide +kernel
theorem dX4_worth_85 : decode cX4_worth 85 = .ok (.goto 131, 3) := by decide +kernel
theorem dX4_worth_88 : decode cX4_worth 88 = .ok (.iload_n 2, 1) := by decide +kernel
theorem dX4_worth_89 : decode cX4_worth 89 = .ok (.iconst 1, 1) := by decide +kernel
theorem dX4_worth_90 : decode cX4_worth 90 = .ok (.if_icmp .lt 31, 3) := by decide +kernel
theorem dX4_worth_93 : decode cX4_worth 93 = .ok (.iload 4, 2) := by decide +kernel
theorem dX4_worth_95 : decode cX4_worth 95 = .ok (.bipush 36, 2) := by decide +kernel
theorem dX4_worth_97 : decode cX4_worth 97 = .ok (.if_icmp .ne 24, 3) := by decide +kernel
theorem dX4_worth_100 : decode cX4_worth 100 = .ok (.aload_n 0, 1) := by decide +kernel
theorem dX4_worth_101 : decode cX4_worth 101 = .ok (.getfield 11, 3) := by decide +kernel
theorem dX4_worth_104 : decode cX4_worth 104 = .ok (.iload_n 2, 1) := by decide +kernel
theorem dX4_worth_105 : decode cX4_worth 105 = .ok (.iconst 1, 1) := by decide +kernel
theorem dX4_worth_106 : decode cX4_worth 106 = .ok (.isub, 1) := by decide +kernel
theorem dX4_worth_107 : decode cX4_worth 107 = .ok (.lconst 1, 1) := by decide +kernel
theorem dX4_worth_108 : decode cX4_worth 108 = .ok (.aload_n 0, 1) := by decide +kernel
theorem dX4_worth_109 : decode cX4_worth 109 = .ok (.getfield 11, 3) := by decide +kernel
theorem dX4_worth_112 : decode cX4_worth 112 = .ok (.iload_n 2, 1) := by decide +kernel
theorem dX4_worth_113 : decode cX4_worth 113 = .ok (.iconst 1, 1) := by decide +kernel
theorem dX4_worth_114 : decode cX4_worth 114 = .ok (.isub, 1) := by decide +kernel
theorem dX4_worth_115 : decode cX4_worth 115 = .ok (.laload, 1) := by decide +kernel
theorem dX4_worth_116 : decode cX4_worth 116 = .ok (.lsub, 1) := by decide +kernel
theorem dX4_worth_117 : decode cX4_worth 117 = .ok (.lastore, 1) := by decide +kernel
theorem dX4_worth_118 : decode cX4_worth 118 = .ok (.goto 98, 3) := by decide +kernel
theorem dX4_worth_121 : decode cX4_worth 121 = .ok (.iload_n 2, 1) := by decide +kernel
theorem dX4_worth_122 : decode cX4_worth 122 = .ok (.iconst 1, 1) := by decide +kernel
theorem dX4_worth_123 : decode cX4_worth 123 = .ok (.if_icmp .lt 19, 3) := by decide +kernel
theorem dX4_worth_126 : decode cX4_worth 126 = .ok (.iload 4, 2) := by decide +kernel
theorem dX4_worth_128 : decode cX4_worth 128 = .ok (.bipush 37, 2) := by decide +kernel
theorem dX4_worth_130 : decode cX4_worth 130 = .ok (.if_icmp .ne 12, 3) := by decide +kernel
theorem dX4_worth_133 : decode cX4_worth 133 = .ok (.aload_n 0, 1) := by decide +kernel
theorem dX4_worth_134 : decode cX4_worth 134 = .ok (.getfield 11, 3) := by decide +kernel
theorem dX4_worth_137 : decode cX4_worth 137 = .ok (.iload_n 2, 1) := by decide +kernel
theorem dX4_worth_138 : decode cX4_worth 138 = .ok (.iconst 1, 1) := by decide +kernel
theorem dX4_worth_139 : decode cX4_worth 139 = .ok (.isub, 1) := by decide +kernel
theorem dX4_worth_140 : decode cX4_worth 140 = .ok (.laload, 1) := by decide +kernel
theorem dX4_worth_141 : decode cX4_worth 141 = .ok (.lreturn, 1) := by decide +kernel
theorem dX4_worth_142 : decode cX4_worth 142 = .ok (.iload_n 2, 1) := by decide +kernel
theorem dX4_worth_143 : decode cX4_worth 143 = .ok (.iconst 2, 1) := by decide +kernel
theorem dX4_worth_144 : decode cX4_worth 144 = .ok (.if_icmp .ge 5, 3) := by decide +kernel
theorem dX4_worth_147 : decode cX4_worth 147 = .ok (.lconst 0, 1) := by decide +kernel
theorem dX4_worth_148 : decode cX4_worth 148 = .ok (.lreturn, 1) := by decide +kernel
theorem dX4_worth_149 : decode cX4_worth 149 = .ok (.iload 4, 2) := by decide +kernel
theorem dX4_worth_151 : decode cX4_worth 151 = .ok (.bipush 38, 2) := by decide +kernel
theorem dX4_worth_153 : decode cX4_worth 153 = .ok (.if_icmp .eq 38, 3) := by decide +kernel
theorem dX4_worth_156 : decode cX4_worth 156 = .ok (.aload_n 0, 1) := by decide +kernel
theorem dX4_worth_157 : decode cX4_worth 157 = .ok (.getfield 11, 3) := by decide +kernel
theorem dX4_worth_160 : decode cX4_worth 160 = .ok (.iload_n 2, 1) := by decide +kernel
theorem dX4_worth_161 : decode cX4_worth 161 = .ok (.iconst 2, 1) := by decide +kernel
theorem dX4_worth_162 : decode cX4_worth 162 = .ok (.isub, 1) := by decide +kernel
theorem dX4_worth_163 : decode cX4_worth 163 = .ok (.iload 4, 2) := by decide +kernel
theorem dX4_worth_165 : decode cX4_worth 165 = .ok (.aload_n 0, 1) := by decide +kernel
theorem dX4_worth_166 : decode cX4_worth 166 = .ok (.getfield 11, 3) := by decide +kernel
theorem dX4_worth_169 : decode cX4_worth 169 = .ok (.iload_n 2, 1) := by decide +kernel
theorem dX4_worth_170 : decode cX4_worth 170 = .ok (.iconst 2, 1) := by decide +kernel
theorem dX4_worth_171 : decode cX4_worth 171 = .ok (.isub, 1) := by decide +kernel
theorem dX4_worth_172 : decode cX4_worth 172 = .ok (.laload, 1) := by decide +kernel
theorem dX4_worth_173 : decode cX4_worth 173 = .ok (.aload_n 0, 1) := by decide +kernel
theorem dX4_worth_174 : decode cX4_worth 174 = .ok (.getfield 11, 3) := by decide +kernel
theorem dX4_worth_177 : decode cX4_worth 177 = .ok (.iload_n 2, 1) := by decide +kernel
theorem dX4_worth_178 : decode cX4_worth 178 = .ok (.iconst 1, 1) := by decide +kernel
theorem dX4_worth_179 : decode cX4_worth 179 = .ok (.isub, 1) := by decide +kernel
theorem dX4_worth_180 : decode cX4_worth 180 = .ok (.laload, 1) := by decide +kernel
theorem dX4_worth_181 : decode cX4_worth 181 = .ok (.invokestatic 23, 3) := by decide +kernel
theorem dX4_worth_184 : decode cX4_worth 184 = .ok (.lastore, 1) := by decide +kernel
theorem dX4_worth_185 : decode cX4_worth 185 = .ok (.iinc 2 (-1), 3) := by decide +kernel
theorem dX4_worth_188 : decode cX4_worth 188 = .ok (.goto 28, 3) := by decide +kernel
theorem dX4_worth_191 : decode cX4_worth 191 = .ok (.aload_n 0, 1) := by decide +kernel
theorem dX4_worth_192 : decode cX4_worth 192 = .ok (.getfield 11, 3) := by decide +kernel
theorem dX4_worth_195 : decode cX4_worth 195 = .ok (.iload_n 2, 1) := by decide +kernel
theorem dX4_worth_196 : decode cX4_worth 196 = .ok (.iconst 1, 1) := by decide +kernel
theorem dX4_worth_197 : decode cX4_worth 197 = .ok (.isub, 1) := by decide +kernel
theorem dX4_worth_198 : decode cX4_worth 198 = .ok (.laload, 1) := by decide +kernel
theorem dX4_worth_199 : decode cX4_worth 199 = .ok (.lconst 1, 1) := by decide +kernel
theorem dX4_worth_200 : decode cX4_worth 200 = .ok (.lcmp, 1) := by decide +kernel
theorem dX4_worth_201 : decode cX4_worth 201 = .ok (.ifCond .ne 12, 3) := by decide +kernel
theorem dX4_worth_204 : decode cX4_worth 204 = .ok (.aload_n 0, 1) := by decide +kernel
theorem dX4_worth_205 : decode cX4_worth 205 = .ok (.getfield 11, 3) := by decide +kernel
theorem dX4_worth_208 : decode cX4_worth 208 = .ok (.iload_n 2, 1) := by decide +kernel
theorem dX4_worth_209 : decode cX4_worth 209 = .ok (.iconst 2, 1) := by decide +kernel
theorem dX4_worth_210 : decode cX4_worth 210 = .ok (.isub, 1) := by decide +kernel
theorem dX4_worth_211 : decode cX4_worth 211 = .ok (.laload, 1) := by decide +kernel
theorem dX4_worth_212 : decode cX4_worth 212 = .ok (.lreturn, 1) := by decide +kernel
theorem dX4_worth_213 : decode cX4_worth 213 = .ok (.iinc 2 (-2), 3) := by decide +kernel
theorem dX4_worth_216 : decode cX4_worth 216 = .ok (.iinc 3 1, 3) := by decide +kernel
theorem dX4_worth_219 : decode cX4_worth 219 = .ok (.goto (-215), 3) := by decide +kernel
theorem dX4_worth_222 : decode cX4_worth 222 = .ok (.lconst 0, 1) := by decide +kernel
theorem dX4_worth_223 : decode cX4_worth 223 = .ok (.lreturn, 1) := by decide +kernel
theorem dX4_joined_0 : decode cX4_joined 0 = .ok (.iload_n 0, 1) := by decide +kernel
theorem dX4_joined_1 : decode cX4_joined 1 = .ok (.tableswitch 235 7 35 #[131, 135, 139, 143, 157, 171, 183, 195, 207, 219, 235, 235, 235, 235, 235, 235, 235, 235, 235, 235, 235, 235, 235, 235, 235, 235, 235, 235, 231], 131) := by decide +kernel
theorem dX4_joined_132 : decode cX4_joined 132 = .ok (.lload_n 1, 1) := by decide +kernel
theorem dX4_joined_133 : decode cX4_joined 133 = .ok (.lload_n 3, 1) := by decide +kernel
theorem dX4_joined_134 : decode cX4_joined 134 = .ok (.ladd, 1) := by decide +kernel
theorem dX4_joined_135 : decode cX4_joined 135 = .ok (.lreturn, 1) := by decide +kernel
theorem dX4_joined_136 : decode cX4_joined 136 = .ok (.lload_n 1, 1) := by decide +kernel
theorem dX4_joined_137 : decode cX4_joined 137 = .ok (.lload_n 3, 1) := by decide +kernel
theorem dX4_joined_138 : decode cX4_joined 138 = .ok (.lsub, 1) := by decide +kernel
theorem dX4_joined_139 : decode cX4_joined 139 = .ok (.lreturn, 1) := by decide +kernel
theorem dX4_joined_140 : decode cX4_joined 140 = .ok (.lload_n 1, 1) := by decide +kernel
theorem dX4_joined_141 : decode cX4_joined 141 = .ok (.lload_n 3, 1) := by decide +kernel
theorem dX4_joined_142 : decode cX4_joined 142 = .ok (.lmul, 1) := by decide +kernel
theorem dX4_joined_143 : decode cX4_joined 143 = .ok (.lreturn, 1) := by decide +kernel
theorem dX4_joined_144 : decode cX4_joined 144 = .ok (.lload_n 3, 1) := by decide +kernel
theorem dX4_joined_145 : decode cX4_joined 145 = .ok (.lconst 0, 1) := by decide +kernel
theorem dX4_joined_146 : decode cX4_joined 146 = .ok (.lcmp, 1) := by decide +kernel
theorem dX4_joined_147 : decode cX4_joined 147 = .ok (.ifCond .ne 7, 3) := by decide +kernel
theorem dX4_joined_150 : decode cX4_joined 150 = .ok (.lconst 0, 1) := by decide +kernel
theorem dX4_joined_151 : decode cX4_joined 151 = .ok (.goto 6, 3) := by decide +kernel
theorem dX4_joined_154 : decode cX4_joined 154 = .ok (.lload_n 1, 1) := by decide +kernel
theorem dX4_joined_155 : decode cX4_joined 155 = .ok (.lload_n 3, 1) := by decide +kernel
theorem dX4_joined_156 : decode cX4_joined 156 = .ok (.ldiv, 1) := by decide +kernel
theorem dX4_joined_157 : decode cX4_joined 157 = .ok (.lreturn, 1) := by decide +kernel
theorem dX4_joined_158 : decode cX4_joined 158 = .ok (.lload_n 3, 1) := by decide +kernel
theorem dX4_joined_159 : decode cX4_joined 159 = .ok (.lconst 0, 1) := by decide +kernel
theorem dX4_joined_160 : decode cX4_joined 160 = .ok (.lcmp, 1) := by decide +kernel
theorem dX4_joined_161 : decode cX4_joined 161 = .ok (.ifCond .ne 7, 3) := by decide +kernel
theorem dX4_joined_164 : decode cX4_joined 164 = .ok (.lconst 0, 1) := by decide +kernel
theorem dX4_joined_165 : decode cX4_joined 165 = .ok (.goto 6, 3) := by decide +kernel
theorem dX4_joined_168 : decode cX4_joined 168 = .ok (.lload_n 1, 1) := by decide +kernel
theorem dX4_joined_169 : decode cX4_joined 169 = .ok (.lload_n 3, 1) := by decide +kernel
theorem dX4_joined_170 : decode cX4_joined 170 = .ok (.lrem, 1) := by decide +kernel
theorem dX4_joined_171 : decode cX4_joined 171 = .ok (.lreturn, 1) := by decide +kernel
theorem dX4_joined_172 : decode cX4_joined 172 = .ok (.lload_n 1, 1) := by decide +kernel
theorem dX4_joined_173 : decode cX4_joined 173 = .ok (.lload_n 3, 1) := by decide +kernel
theorem dX4_joined_174 : decode cX4_joined 174 = .ok (.lcmp, 1) := by decide +kernel
theorem dX4_joined_175 : decode cX4_joined 175 = .ok (.ifCond .ge 7, 3) := by decide +kernel
theorem dX4_joined_178 : decode cX4_joined 178 = .ok (.lconst 1, 1) := by decide +kernel
theorem dX4_joined_179 : decode cX4_joined 179 = .ok (.goto 4, 3) := by decide +kernel
theorem dX4_joined_182 : decode cX4_joined 182 = .ok (.lconst 0, 1) := by decide +kernel
theorem dX4_joined_183 : decode cX4_joined 183 = .ok (.lreturn, 1) := by decide +kernel
theorem dX4_joined_184 : decode cX4_joined 184 = .ok (.lload_n 1, 1) := by decide +kernel
theorem dX4_joined_185 : decode cX4_joined 185 = .ok (.lload_n 3, 1) := by decide +kernel
theorem dX4_joined_186 : decode cX4_joined 186 = .ok (.lcmp, 1) := by decide +kernel
theorem dX4_joined_187 : decode cX4_joined 187 = .ok (.ifCond .gt 7, 3) := by decide +kernel
theorem dX4_joined_190 : decode cX4_joined 190 = .ok (.lconst 1, 1) := by decide +kernel
theorem dX4_joined_191 : decode cX4_joined 191 = .ok (.goto 4, 3) := by decide +kernel
theorem dX4_joined_194 : decode cX4_joined 194 = .ok (.lconst 0, 1) := by decide +kernel
theorem dX4_joined_195 : decode cX4_joined 195 = .ok (.lreturn, 1) := by decide +kernel
theorem dX4_joined_196 : decode cX4_joined 196 = .ok (.lload_n 1, 1) := by decide +kernel
theorem dX4_joined_197 : decode cX4_joined 197 = .ok (.lload_n 3, 1) := by decide +kernel
theorem dX4_joined_198 : decode cX4_joined 198 = .ok (.lcmp, 1) := by decide +kernel
theorem dX4_joined_199 : decode cX4_joined 199 = .ok (.ifCond .ne 7, 3) := by decide +kernel
theorem dX4_joined_202 : decode cX4_joined 202 = .ok (.lconst 1, 1) := by decide +kernel
theorem dX4_joined_203 : decode cX4_joined 203 = .ok (.goto 4, 3) := by decide +kernel
theorem dX4_joined_206 : decode cX4_joined 206 = .ok (.lconst 0, 1) := by decide +kernel
theorem dX4_joined_207 : decode cX4_joined 207 = .ok (.lreturn, 1) := by decide +kernel
theorem dX4_joined_208 : decode cX4_joined 208 = .ok (.lload_n 1, 1) := by decide +kernel
theorem dX4_joined_209 : decode cX4_joined 209 = .ok (.lload_n 3, 1) := by decide +kernel
theorem dX4_joined_210 : decode cX4_joined 210 = .ok (.lcmp, 1) := by decide +kernel
theorem dX4_joined_211 : decode cX4_joined 211 = .ok (.ifCond .lt 7, 3) := by decide +kernel
theorem dX4_joined_214 : decode cX4_joined 214 = .ok (.lconst 1, 1) := by decide +kernel
theorem dX4_joined_215 : decode cX4_joined 215 = .ok (.goto 4, 3) := by decide +kernel
theorem dX4_joined_218 : decode cX4_joined 218 = .ok (.lconst 0, 1) := by decide +kernel
theorem dX4_joined_219 : decode cX4_joined 219 = .ok (.lreturn, 1) := by decide +kernel
theorem dX4_joined_220 : decode cX4_joined 220 = .ok (.lload_n 1, 1) := by decide +kernel
theorem dX4_joined_221 : decode cX4_joined 221 = .ok (.lload_n 3, 1) := by decide +kernel
theorem dX4_joined_222 : decode cX4_joined 222 = .ok (.lcmp, 1) := by decide +kernel
theorem dX4_joined_223 : decode cX4_joined 223 = .ok (.ifCond .le 7, 3) := by decide +kernel
theorem dX4_joined_226 : decode cX4_joined 226 = .ok (.lconst 1, 1) := by decide +kernel
theorem dX4_joined_227 : decode cX4_joined 227 = .ok (.goto 4, 3) := by decide +kernel
theorem dX4_joined_230 : decode cX4_joined 230 = .ok (.lconst 0, 1) := by decide +kernel
theorem dX4_joined_231 : decode cX4_joined 231 = .ok (.lreturn, 1) := by decide +kernel
theorem dX4_joined_232 : decode cX4_joined 232 = .ok (.lload_n 1, 1) := by decide +kernel
theorem dX4_joined_233 : decode cX4_joined 233 = .ok (.lload_n 3, 1) := by decide +kernel
theorem dX4_joined_234 : decode cX4_joined 234 = .ok (.land, 1) := by decide +kernel
theorem dX4_joined_235 : decode cX4_joined 235 = .ok (.lreturn, 1) := by decide +kernel
theorem dX4_joined_236 : decode cX4_joined 236 = .ok (.lload_n 1, 1) := by decide +kernel
theorem dX4_joined_237 : decode cX4_joined 237 = .ok (.lload_n 3, 1) := by decide +kernel
theorem dX4_joined_238 : decode cX4_joined 238 = .ok (.lor, 1) := by decide +kernel
theorem dX4_joined_239 : decode cX4_joined 239 = .ok (.lreturn, 1) := by decide +kernel
