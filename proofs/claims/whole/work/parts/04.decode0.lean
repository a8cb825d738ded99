theorem dX0_init_0 : decode cX0_init 0 = .ok (.aload_n 0, 1) := by decide +kernel
theorem dX0_init_1 : decode cX0_init 1 = .ok (.invokespecial 3, 3) := by decide +kernel
theorem dX0_init_4 : decode cX0_init 4 = .ok (.aload_n 0, 1) := by decide +kernel
theorem dX0_init_5 : decode cX0_init 5 = .ok (.bipush 12, 2) := by decide +kernel
theorem dX0_init_7 : decode cX0_init 7 = .ok (.newarray .int, 2) := by decide +kernel
theorem dX0_init_9 : decode cX0_init 9 = .ok (.putfield 9, 3) := by decide +kernel
theorem dX0_init_12 : decode cX0_init 12 = .ok (.aload_n 0, 1) := by decide +kernel
theorem dX0_init_13 : decode cX0_init 13 = .ok (.iconst 4, 1) := by decide +kernel
theorem dX0_init_14 : decode cX0_init 14 = .ok (.putfield 15, 3) := by decide +kernel
theorem dX0_init_17 : decode cX0_init 17 = .ok (.aload_n 0, 1) := by decide +kernel
theorem dX0_init_18 : decode cX0_init 18 = .ok (.iconst 0, 1) := by decide +kernel
theorem dX0_init_19 : decode cX0_init 19 = .ok (.putfield 19, 3) := by decide +kernel
theorem dX0_init_22 : decode cX0_init 22 = .ok (.return_, 1) := by decide +kernel
theorem dX0_frameCount_0 : decode cX0_frameCount 0 = .ok (.aload_n 0, 1) := by decide +kernel
theorem dX0_frameCount_1 : decode cX0_frameCount 1 = .ok (.getfield 15, 3) := by decide +kernel
theorem dX0_frameCount_4 : decode cX0_frameCount 4 = .ok (.ireturn, 1) := by decide +kernel
theorem dX0_size_0 : decode cX0_size 0 = .ok (.aload_n 0, 1) := by decide +kernel
theorem dX0_size_1 : decode cX0_size 1 = .ok (.getfield 19, 3) := by decide +kernel
theorem dX0_size_4 : decode cX0_size 4 = .ok (.ireturn, 1) := by decide +kernel
theorem dX0_keyAt_0 : decode cX0_keyAt 0 = .ok (.iload_n 1, 1) := by decide +kernel
theorem dX0_keyAt_1 : decode cX0_keyAt 1 = .ok (.ifCond .lt 29, 3) := by decide +kernel
theorem dX0_keyAt_4 : decode cX0_keyAt 4 = .ok (.iload_n 1, 1) := by decide +kernel
theorem dX0_keyAt_5 : decode cX0_keyAt 5 = .ok (.aload_n 0, 1) := by decide +kernel
theorem dX0_keyAt_6 : decode cX0_keyAt 6 = .ok (.getfield 19, 3) := by decide +kernel
theorem dX0_keyAt_9 : decode cX0_keyAt 9 = .ok (.if_icmp .ge 21, 3) := by decide +kernel
theorem dX0_keyAt_12 : decode cX0_keyAt 12 = .ok (.iload_n 1, 1) := by decide +kernel
theorem dX0_keyAt_13 : decode cX0_keyAt 13 = .ok (.aload_n 0, 1) := by decide +kernel
theorem dX0_keyAt_14 : decode cX0_keyAt 14 = .ok (.getfield 9, 3) := by decide +kernel
theorem dX0_keyAt_17 : decode cX0_keyAt 17 = .ok (.arraylength, 1) := by decide +kernel
theorem dX0_keyAt_18 : decode cX0_keyAt 18 = .ok (.if_icmp .ge 12, 3) := by decide +kernel
theorem dX0_keyAt_21 : decode cX0_keyAt 21 = .ok (.aload_n 0, 1) := by decide +kernel
theorem dX0_keyAt_22 : decode cX0_keyAt 22 = .ok (.getfield 9, 3) := by decide +kernel
theorem dX0_keyAt_25 : decode cX0_keyAt 25 = .ok (.iload_n 1, 1) := by decide +kernel
theorem dX0_keyAt_26 : decode cX0_keyAt 26 = .ok (.iaload, 1) := by decide +kernel
theorem dX0_keyAt_27 : decode cX0_keyAt 27 = .ok (.goto 4, 3) := by decide +kernel
theorem dX0_keyAt_30 : decode cX0_keyAt 30 = .ok (.iconst (-1), 1) := by decide +kernel
theorem dX0_keyAt_31 : decode cX0_keyAt 31 = .ok (.ireturn, 1) := by decide +kernel
theorem dX0_clear_0 : decode cX0_clear 0 = .ok (.aload_n 0, 1) := by decide +kernel
theorem dX0_clear_1 : decode cX0_clear 1 = .ok (.iconst 0, 1) := by decide +kernel
theorem dX0_clear_2 : decode cX0_clear 2 = .ok (.putfield 19, 3) := by decide +kernel
theorem dX0_clear_5 : decode cX0_clear 5 = .ok (.return_, 1) := by decide +kernel
theorem dX0_setFrames_0 : decode cX0_setFrames 0 = .ok (.aload_n 0, 1) := by decide +kernel
theorem dX0_setFrames_1 : decode cX0_setFrames 1 = .ok (.iload_n 1, 1) := by decide +kernel
theorem dX0_setFrames_2 : decode cX0_setFrames 2 = .ok (.putfield 15, 3) := by decide +kernel
theorem dX0_setFrames_5 : decode cX0_setFrames 5 = .ok (.aload_n 0, 1) := by decide +kernel
theorem dX0_setFrames_6 : decode cX0_setFrames 6 = .ok (.aload_n 0, 1) := by decide +kernel
theorem dX0_setFrames_7 : decode cX0_setFrames 7 = .ok (.getfield 19, 3) := by decide +kernel
theorem dX0_setFrames_10 : decode cX0_setFrames 10 = .ok (.iload_n 1, 1) := by decide +kernel
theorem dX0_setFrames_11 : decode cX0_setFrames 11 = .ok (.invokestatic 22, 3) := by decide +kernel
theorem dX0_setFrames_14 : decode cX0_setFrames 14 = .ok (.putfield 19, 3) := by decide +kernel
theorem dX0_setFrames_17 : decode cX0_setFrames 17 = .ok (.return_, 1) := by decide +kernel
theorem dX0_missed_0 : decode cX0_missed 0 = .ok (.aload_n 0, 1) := by decide +kernel
theorem dX0_missed_1 : decode cX0_missed 1 = .ok (.iload_n 1, 1) := by decide +kernel
theorem dX0_missed_2 : decode cX0_missed 2 = .ok (.invokevirtual 28, 3) := by decide +kernel
theorem dX0_missed_5 : decode cX0_missed 5 = .ok (.istore_n 2, 1) := by decide +kernel
theorem dX0_missed_6 : decode cX0_missed 6 = .ok (.iload_n 2, 1) := by decide +kernel
theorem dX0_missed_7 : decode cX0_missed 7 = .ok (.aload_n 0, 1) := by decide +kernel
theorem dX0_missed_8 : decode cX0_missed 8 = .ok (.getfield 19, 3) := by decide +kernel
theorem dX0_missed_11 : decode cX0_missed 11 = .ok (.if_icmp .ne 7, 3) := by decide +kernel
theorem dX0_missed_14 : decode cX0_missed 14 = .ok (.iconst 1, 1) := by decide +kernel
theorem dX0_missed_15 : decode cX0_missed 15 = .ok (.goto 4, 3) := by decide +kernel
theorem dX0_missed_18 : decode cX0_missed 18 = .ok (.iconst 0, 1) := by decide +kernel
theorem dX0_missed_19 : decode cX0_missed 19 = .ok (.istore_n 3, 1) := by decide +kernel
theorem dX0_missed_20 : decode cX0_missed 20 = .ok (.iload_n 3, 1) := by decide +kernel
theorem dX0_missed_21 : decode cX0_missed 21 = .ok (.ifCond .eq 36, 3) := by decide +kernel
theorem dX0_missed_24 : decode cX0_missed 24 = .ok (.aload_n 0, 1) := by decide +kernel
theorem dX0_missed_25 : decode cX0_missed 25 = .ok (.getfield 15, 3) := by decide +kernel
theorem dX0_missed_28 : decode cX0_missed 28 = .ok (.ifCond .gt 5, 3) := by decide +kernel
theorem dX0_missed_31 : decode cX0_missed 31 = .ok (.iconst 1, 1) := by decide +kernel
theorem dX0_missed_32 : decode cX0_missed 32 = .ok (.ireturn, 1) := by decide +kernel
theorem dX0_missed_33 : decode cX0_missed 33 = .ok (.aload_n 0, 1) := by decide +kernel
theorem dX0_missed_34 : decode cX0_missed 34 = .ok (.aload_n 0, 1) := by decide +kernel
theorem dX0_missed_35 : decode cX0_missed 35 = .ok (.getfield 19, 3) := by decide +kernel
theorem dX0_missed_38 : decode cX0_missed 38 = .ok (.iconst 1, 1) := by decide +kernel
theorem dX0_missed_39 : decode cX0_missed 39 = .ok (.iadd, 1) := by decide +kernel
theorem dX0_missed_40 : decode cX0_missed 40 = .ok (.aload_n 0, 1) := by decide +kernel
theorem dX0_missed_41 : decode cX0_missed 41 = .ok (.getfield 15, 3) := by decide +kernel
theorem dX0_missed_44 : decode cX0_missed 44 = .ok (.invokestatic 22, 3) := by decide +kernel
theorem dX0_missed_47 : decode cX0_missed 47 = .ok (.putfield 19, 3) := by decide +kernel
theorem dX0_missed_50 : decode cX0_missed 50 = .ok (.aload_n 0, 1) := by decide +kernel
theorem dX0_missed_51 : decode cX0_missed 51 = .ok (.getfield 19, 3) := by decide +kernel
theorem dX0_missed_54 : decode cX0_missed 54 = .ok (.iconst 1, 1) := by decide +kernel
theorem dX0_missed_55 : decode cX0_missed 55 = .ok (.isub, 1) := by decide +kernel
theorem dX0_missed_56 : decode cX0_missed 56 = .ok (.istore_n 2, 1) := by decide +kernel
theorem dX0_missed_57 : decode cX0_missed 57 = .ok (.iload_n 2, 1) := by decide +kernel
theorem dX0_missed_58 : decode cX0_missed 58 = .ok (.aload_n 0, 1) := by decide +kernel
theorem dX0_missed_59 : decode cX0_missed 59 = .ok (.getfield 9, 3) := by decide +kernel
theorem dX0_missed_62 : decode cX0_missed 62 = .ok (.arraylength, 1) := by decide +kernel
theorem dX0_missed_63 : decode cX0_missed 63 = .ok (.iconst 1, 1) := by decide +kernel
theorem dX0_missed_64 : decode cX0_missed 64 = .ok (.isub, 1) := by decide +kernel
theorem dX0_missed_65 : decode cX0_missed 65 = .ok (.invokestatic 22, 3) := by decide +kernel
theorem dX0_missed_68 : decode cX0_missed 68 = .ok (.istore 4, 2) := by decide +kernel
theorem dX0_missed_70 : decode cX0_missed 70 = .ok (.iload 4, 2) := by decide +kernel
theorem dX0_missed_72 : decode cX0_missed 72 = .ok (.ifCond .le 25, 3) := by decide +kernel
theorem dX0_missed_75 : decode cX0_missed 75 = .ok (.aload_n 0, 1) := by decide +kernel
theorem dX0_missed_76 : decode cX0_missed 76 = .ok (.getfield 9, 3) := by decide +kernel
theorem dX0_missed_79 : decode cX0_missed 79 = .ok (.iload 4, 2) := by decide +kernel
theorem dX0_missed_81 : decode cX0_missed 81 = .ok (.aload_n 0, 1) := by decide +kernel
theorem dX0_missed_82 : decode cX0_missed 82 = .ok (.getfield 9, 3) := by decide +kernel
theorem dX0_missed_85 : decode cX0_missed 85 = .ok (.iload 4, 2) := by decide +kernel
theorem dX0_missed_87 : decode cX0_missed 87 = .ok (.iconst 1, 1) := by decide +kernel
theorem dX0_missed_88 : decode cX0_missed 88 = .ok (.isub, 1) := by decide +kernel
theorem dX0_missed_89 : decode cX0_missed 89 = .ok (.iaload, 1) := by decide +kernel
theorem dX0_missed_90 : decode cX0_missed 90 = .ok (.iastore, 1) := by decide +kernel
theorem dX0_missed_91 : decode cX0_missed 91 = .ok (.iinc 4 (-1), 3) := by decide +kernel
theorem dX0_missed_94 : decode cX0_missed 94 = .ok (.goto (-24), 3) := by decide +kernel
theorem dX0_missed_97 : decode cX0_missed 97 = .ok (.aload_n 0, 1) := by decide +kernel
theorem dX0_missed_98 : decode cX0_missed 98 = .ok (.getfield 9, 3) := by decide +kernel
theorem dX0_missed_101 : decode cX0_missed 101 = .ok (.iconst 0, 1) := by decide +kernel
theorem dX0_missed_102 : decode cX0_missed 102 = .ok (.iload_n 1, 1) := by decide +kernel
theorem dX0_missed_103 : decode cX0_missed 103 = .ok (.iastore, 1) := by decide +kernel
theorem dX0_missed_104 : decode cX0_missed 104 = .ok (.iload_n 3, 1) := by decide +kernel
theorem dX0_missed_105 : decode cX0_missed 105 = .ok (.ireturn, 1) := by decide +kernel
theorem dX0_placeOf_0 : decode cX0_placeOf 0 = .ok (.iconst 0, 1) := by decide +kernel
theorem dX0_placeOf_1 : decode cX0_placeOf 1 = .ok (.istore_n 2, 1) := by decide +kernel
theorem dX0_placeOf_2 : decode cX0_placeOf 2 = .ok (.iload_n 2, 1) := by decide +kernel
theorem dX0_placeOf_3 : decode cX0_placeOf 3 = .ok (.aload_n 0, 1) := by decide +kernel
theorem dX0_placeOf_4 : decode cX0_placeOf 4 = .ok (.getfield 19, 3) := by decide +kernel
theorem dX0_placeOf_7 : decode cX0_placeOf 7 = .ok (.if_icmp .ge 28, 3) := by decide +kernel
theorem dX0_placeOf_10 : decode cX0_placeOf 10 = .ok (.iload_n 2, 1) := by decide +kernel
theorem dX0_placeOf_11 : decode cX0_placeOf 11 = .ok (.aload_n 0, 1) := by decide +kernel
theorem dX0_placeOf_12 : decode cX0_placeOf 12 = .ok (.getfield 9, 3) := by decide +kernel
theorem dX0_placeOf_15 : decode cX0_placeOf 15 = .ok (.arraylength, 1) := by decide +kernel
theorem dX0_placeOf_16 : decode cX0_placeOf 16 = .ok (.if_icmp .ge 19, 3) := by decide +kernel
theorem dX0_placeOf_19 : decode cX0_placeOf 19 = .ok (.aload_n 0, 1) := by decide +kernel
theorem dX0_placeOf_20 : decode cX0_placeOf 20 = .ok (.getfield 9, 3) := by decide +kernel
theorem dX0_placeOf_23 : decode cX0_placeOf 23 = .ok (.iload_n 2, 1) := by decide +kernel
theorem dX0_placeOf_24 : decode cX0_placeOf 24 = .ok (.iaload, 1) := by decide +kernel
theorem dX0_placeOf_25 : decode cX0_placeOf 25 = .ok (.iload_n 1, 1) := by decide +kernel
theorem dX0_placeOf_26 : decode cX0_placeOf 26 = .ok (.if_icmp .eq 9, 3) := by decide +kernel
theorem dX0_placeOf_29 : decode cX0_placeOf 29 = .ok (.iinc 2 1, 3) := by decide +kernel
theorem dX0_placeOf_32 : decode cX0_placeOf 32 = .ok (.goto (-30), 3) := by decide +kernel
theorem dX0_placeOf_35 : decode cX0_placeOf 35 = .ok (.iload_n 2, 1) := by decide +kernel
theorem dX0_placeOf_36 : decode cX0_placeOf 36 = .ok (.ireturn, 1) := by decide +kernel
theorem dX0_drop_0 : decode cX0_drop 0 = .ok (.iconst 0, 1) := by decide +kernel
theorem dX0_drop_1 : decode cX0_drop 1 = .ok (.istore_n 3, 1) := by decide +kernel
theorem dX0_drop_2 : decode cX0_drop 2 = .ok (.iconst 0, 1) := by decide +kernel
theorem dX0_drop_3 : decode cX0_drop 3 = .ok (.istore 4, 2) := by decide +kernel
theorem dX0_drop_5 : decode cX0_drop 5 = .ok (.iload 4, 2) := by decide +kernel
theorem dX0_drop_7 : decode cX0_drop 7 = .ok (.aload_n 0, 1) := by decide +kernel
theorem dX0_drop_8 : decode cX0_drop 8 = .ok (.getfield 19, 3) := by decide +kernel
theorem dX0_drop_11 : decode cX0_drop 11 = .ok (.if_icmp .ge 78, 3) := by decide +kernel
theorem dX0_drop_14 : decode cX0_drop 14 = .ok (.iload 4, 2) := by decide +kernel
theorem dX0_drop_16 : decode cX0_drop 16 = .ok (.aload_n 0, 1) := by decide +kernel
theorem dX0_drop_17 : decode cX0_drop 17 = .ok (.getfield 9, 3) := by decide +kernel
theorem dX0_drop_20 : decode cX0_drop 20 = .ok (.arraylength, 1) := by decide +kernel
theorem dX0_drop_21 : decode cX0_drop 21 = .ok (.if_icmp .ge 68, 3) := by decide +kernel
theorem dX0_drop_24 : decode cX0_drop 24 = .ok (.aload_n 0, 1) := by decide +kernel
theorem dX0_drop_25 : decode cX0_drop 25 = .ok (.getfield 9, 3) := by decide +kernel
theorem dX0_drop_28 : decode cX0_drop 28 = .ok (.iload 4, 2) := by decide +kernel
theorem dX0_drop_30 : decode cX0_drop 30 = .ok (.iaload, 1) := by decide +kernel
theorem dX0_drop_31 : decode cX0_drop 31 = .ok (.iload_n 1, 1) := by decide +kernel
theorem dX0_drop_32 : decode cX0_drop 32 = .ok (.if_icmp .lt 18, 3) := by decide +kernel
theorem dX0_drop_35 : decode cX0_drop 35 = .ok (.aload_n 0, 1) := by decide +kernel
theorem dX0_drop_36 : decode cX0_drop 36 = .ok (.getfield 9, 3) := by decide +kernel
theorem dX0_drop_39 : decode cX0_drop 39 = .ok (.iload 4, 2) := by decide +kernel
theorem dX0_drop_41 : decode cX0_drop 41 = .ok (.iaload, 1) := by decide +kernel
theorem dX0_drop_42 : decode cX0_drop 42 = .ok (.iload_n 2, 1) := by decide +kernel
theorem dX0_drop_43 : decode cX0_drop 43 = .ok (.if_icmp .gt 7, 3) := by decide +kernel
theorem dX0_drop_46 : decode cX0_drop 46 = .ok (.iconst 1, 1) := by decide +kernel
theorem dX0_drop_47 : decode cX0_drop 47 = .ok (.goto 4, 3) := by decide +kernel
theorem dX0_drop_50 : decode cX0_drop 50 = .ok (.iconst 0, 1) := by decide +kernel
theorem dX0_drop_51 : decode cX0_drop 51 = .ok (.istore 5, 2) := by decide +kernel
theorem dX0_drop_53 : decode cX0_drop 53 = .ok (.iload 5, 2) := by decide +kernel
theorem dX0_drop_55 : decode cX0_drop 55 = .ok (.ifCond .ne 28, 3) := by decide +kernel
theorem dX0_drop_58 : decode cX0_drop 58 = .ok (.iload_n 3, 1) := by decide +kernel
theorem dX0_drop_59 : decode cX0_drop 59 = .ok (.aload_n 0, 1) := by decide +kernel
theorem dX0_drop_60 : decode cX0_drop 60 = .ok (.getfield 9, 3) := by decide +kernel
theorem dX0_drop_63 : decode cX0_drop 63 = .ok (.arraylength, 1) := by decide +kernel
theorem dX0_drop_64 : decode cX0_drop 64 = .ok (.if_icmp .ge 19, 3) := by decide +kernel
theorem dX0_drop_67 : decode cX0_drop 67 = .ok (.aload_n 0, 1) := by decide +kernel
theorem dX0_drop_68 : decode cX0_drop 68 = .ok (.getfield 9, 3) := by decide +kernel
theorem dX0_drop_71 : decode cX0_drop 71 = .ok (.iload_n 3, 1) := by decide +kernel
theorem dX0_drop_72 : decode cX0_drop 72 = .ok (.aload_n 0, 1) := by decide +kernel
theorem dX0_drop_73 : decode cX0_drop 73 = .ok (.getfield 9, 3) := by decide +kernel
theorem dX0_drop_76 : decode cX0_drop 76 = .ok (.iload 4, 2) := by decide +kernel
theorem dX0_drop_78 : decode cX0_drop 78 = .ok (.iaload, 1) := by decide +kernel
theorem dX0_drop_79 : decode cX0_drop 79 = .ok (.iastore, 1) := by decide +kernel
theorem dX0_drop_80 : decode cX0_drop 80 = .ok (.iinc 3 1, 3) := by decide +kernel
theorem dX0_drop_83 : decode cX0_drop 83 = .ok (.iinc 4 1, 3) := by decide +kernel
theorem dX0_drop_86 : decode cX0_drop 86 = .ok (.goto (-81), 3) := by decide +kernel
theorem dX0_drop_89 : decode cX0_drop 89 = .ok (.aload_n 0, 1) := by decide +kernel
theorem dX0_drop_90 : decode cX0_drop 90 = .ok (.iload_n 3, 1) := by decide +kernel
theorem dX0_drop_91 : decode cX0_drop 91 = .ok (.putfield 19, 3) := by decide +kernel
theorem dX0_drop_94 : decode cX0_drop 94 = .ok (.return_, 1) := by decide +kernel
theorem dX0_isTidy_0 : decode cX0_isTidy 0 = .ok (.aload_n 0, 1) := by decide +kernel
theorem dX0_isTidy_1 : decode cX0_isTidy 1 = .ok (.getfield 19, 3) := by decide +kernel
theorem dX0_isTidy_4 : decode cX0_isTidy 4 = .ok (.aload_n 0, 1) := by decide +kernel
theorem dX0_isTidy_5 : decode cX0_isTidy 5 = .ok (.getfield 15, 3) := by decide +kernel
theorem dX0_isTidy_8 : decode cX0_isTidy 8 = .ok (.if_icmp .gt 7, 3) := by decide +kernel
theorem dX0_isTidy_11 : decode cX0_isTidy 11 = .ok (.iconst 1, 1) := by decide +kernel
theorem dX0_isTidy_12 : decode cX0_isTidy 12 = .ok (.goto 4, 3) := by decide +kernel
theorem dX0_isTidy_15 : decode cX0_isTidy 15 = .ok (.iconst 0, 1) := by decide +kernel
theorem dX0_isTidy_16 : decode cX0_isTidy 16 = .ok (.istore_n 1, 1) := by decide +kernel
theorem dX0_isTidy_17 : decode cX0_isTidy 17 = .ok (.iconst 0, 1) := by decide +kernel
theorem dX0_isTidy_18 : decode cX0_isTidy 18 = .ok (.istore_n 2, 1) := by decide +kernel
theorem dX0_isTidy_19 : decode cX0_isTidy 19 = .ok (.iload_n 1, 1) := by decide +kernel
theorem dX0_isTidy_20 : decode cX0_isTidy 20 = .ok (.ifCond .eq 36, 3) := by decide +kernel
theorem dX0_isTidy_23 : decode cX0_isTidy 23 = .ok (.iload_n 2, 1) := by decide +kernel
theorem dX0_isTidy_24 : decode cX0_isTidy 24 = .ok (.aload_n 0, 1) := by decide +kernel
theorem dX0_isTidy_25 : decode cX0_isTidy 25 = .ok (.getfield 19, 3) := by decide +kernel
theorem dX0_isTidy_28 : decode cX0_isTidy 28 = .ok (.if_icmp .ge 28, 3) := by decide +kernel
theorem dX0_isTidy_31 : decode cX0_isTidy 31 = .ok (.aload_n 0, 1) := by decide +kernel
theorem dX0_isTidy_32 : decode cX0_isTidy 32 = .ok (.aload_n 0, 1) := by decide +kernel
theorem dX0_isTidy_33 : decode cX0_isTidy 33 = .ok (.iload_n 2, 1) := by decide +kernel
theorem dX0_isTidy_34 : decode cX0_isTidy 34 = .ok (.invokevirtual 32, 3) := by decide +kernel
theorem dX0_isTidy_37 : decode cX0_isTidy 37 = .ok (.invokevirtual 28, 3) := by decide +kernel
theorem dX0_isTidy_40 : decode cX0_isTidy 40 = .ok (.iload_n 2, 1) := by decide +kernel
theorem dX0_isTidy_41 : decode cX0_isTidy 41 = .ok (.if_icmp .ne 7, 3) := by decide +kernel
theorem dX0_isTidy_44 : decode cX0_isTidy 44 = .ok (.iconst 1, 1) := by decide +kernel
theorem dX0_isTidy_45 : decode cX0_isTidy 45 = .ok (.goto 4, 3) := by decide +kernel
theorem dX0_isTidy_48 : decode cX0_isTidy 48 = .ok (.iconst 0, 1) := by decide +kernel
theorem dX0_isTidy_49 : decode cX0_isTidy 49 = .ok (.istore_n 1, 1) := by decide +kernel
theorem dX0_isTidy_50 : decode cX0_isTidy 50 = .ok (.iinc 2 1, 3) := by decide +kernel
theorem dX0_isTidy_53 : decode cX0_isTidy 53 = .ok (.goto (-34), 3) := by decide +kernel
theorem dX0_isTidy_56 : decode cX0_isTidy 56 = .ok (.iload_n 1, 1) := by decide +kernel
theorem dX0_isTidy_57 : decode cX0_isTidy 57 = .ok (.ireturn, 1) := by decide +kernel
theorem dX1_init_0 : decode cX1_init 0 = .ok (.aload_n 0, 1) := by decide +kernel
theorem dX1_init_1 : decode cX1_init 1 = .ok (.invokespecial 3, 3) := by decide +kernel
theorem dX1_init_4 : decode cX1_init 4 = .ok (.aload_n 0, 1) := by decide +kernel
theorem dX1_init_5 : decode cX1_init 5 = .ok (.iload_n 1, 1) := by decide +kernel
theorem dX1_init_6 : decode cX1_init 6 = .ok (.putfield 9, 3) := by decide +kernel
theorem dX1_init_9 : decode cX1_init 9 = .ok (.aload_n 0, 1) := by decide +kernel
theorem dX1_init_10 : decode cX1_init 10 = .ok (.iload_n 2, 1) := by decide +kernel
theorem dX1_init_11 : decode cX1_init 11 = .ok (.putfield 15, 3) := by decide +kernel
theorem dX1_init_14 : decode cX1_init 14 = .ok (.aload_n 0, 1) := by decide +kernel
theorem dX1_init_15 : decode cX1_init 15 = .ok (.iload_n 3, 1) := by decide +kernel
theorem dX1_init_16 : decode cX1_init 16 = .ok (.putfield 18, 3) := by decide +kernel
theorem dX1_init_19 : decode cX1_init 19 = .ok (.aload_n 0, 1) := by decide +kernel
theorem dX1_init_20 : decode cX1_init 20 = .ok (.iload 4, 2) := by decide +kernel
theorem dX1_init_22 : decode cX1_init 22 = .ok (.putfield 22, 3) := by decide +kernel
theorem dX1_init_25 : decode cX1_init 25 = .ok (.return_, 1) := by decide +kernel
theorem dX1_position_0 : decode cX1_position 0 = .ok (.aload_n 0, 1) := by decide +kernel
theorem dX1_position_1 : decode cX1_position 1 = .ok (.getfield 9, 3) := by decide +kernel
theorem dX1_position_4 : decode cX1_position 4 = .ok (.ireturn, 1) := by decide +kernel
theorem dX1_column_0 : decode cX1_column 0 = .ok (.aload_n 0, 1) := by decide +kernel
theorem dX1_column_1 : decode cX1_column 1 = .ok (.getfield 15, 3) := by decide +kernel
theorem dX1_column_4 : decode cX1_column 4 = .ok (.ireturn, 1) := by decide +kernel
theorem dX1_isEqual_0 : decode cX1_isEqual 0 = .ok (.aload_n 0, 1) := by decide +kernel
theorem dX1_isEqual_1 : decode cX1_isEqual 1 = .ok (.getfield 18, 3) := by decide +kernel
theorem dX1_isEqual_4 : decode cX1_isEqual 4 = .ok (.bipush 61, 2) := by decide +kernel
theorem dX1_isEqual_6 : decode cX1_isEqual 6 = .ok (.if_icmp .ne 7, 3) := by decide +kernel
theorem dX1_isEqual_9 : decode cX1_isEqual 9 = .ok (.iconst 1, 1) := by decide +kernel
theorem dX1_isEqual_10 : decode cX1_isEqual 10 = .ok (.goto 4, 3) := by decide +kernel
theorem dX1_isEqual_13 : decode cX1_isEqual 13 = .ok (.iconst 0, 1) := by decide +kernel
theorem dX1_isEqual_14 : decode cX1_isEqual 14 = .ok (.ireturn, 1) := by decide +kernel
theorem dX1_least_0 : decode cX1_least 0 = .ok (.aload_n 0, 1) := by decide +kernel
theorem dX1_least_1 : decode cX1_least 1 = .ok (.getfield 18, 3) := by decide +kernel
theorem dX1_least_4 : decode cX1_least 4 = .ok (.bipush 61, 2) := by decide +kernel
theorem dX1_least_6 : decode cX1_least 6 = .ok (.if_icmp .ne 10, 3) := by decide +kernel
theorem dX1_least_9 : decode cX1_least 9 = .ok (.aload_n 0, 1) := by decide +kernel
theorem dX1_least_10 : decode cX1_least 10 = .ok (.getfield 22, 3) := by decide +kernel
theorem dX1_least_13 : decode cX1_least 13 = .ok (.goto 22, 3) := by decide +kernel
theorem dX1_least_16 : decode cX1_least 16 = .ok (.aload_n 0, 1) := by decide +kernel
theorem dX1_least_17 : decode cX1_least 17 = .ok (.getfield 18, 3) := by decide +kernel
theorem dX1_least_20 : decode cX1_least 20 = .ok (.bipush 60, 2) := by decide +kernel
theorem dX1_least_22 : decode cX1_least 22 = .ok (.if_icmp .ne 7, 3) := by decide +kernel
theorem dX1_least_25 : decode cX1_least 25 = .ok (.iconst 0, 1) := by decide +kernel
theorem dX1_least_26 : decode cX1_least 26 = .ok (.goto 9, 3) := by decide +kernel
theorem dX1_least_29 : decode cX1_least 29 = .ok (.aload_n 0, 1) := by decide +kernel
theorem dX1_least_30 : decode cX1_least 30 = .ok (.getfield 22, 3) := by decide +kernel
theorem dX1_least_33 : decode cX1_least 33 = .ok (.iconst 1, 1) := by decide +kernel
theorem dX1_least_34 : decode cX1_least 34 = .ok (.iadd, 1) := by decide +kernel
theorem dX1_least_35 : decode cX1_least 35 = .ok (.ireturn, 1) := by decide +kernel
theorem dX1_greatest_0 : decode cX1_greatest 0 = .ok (.aload_n 0, 1) := by decide +kernel
theorem dX1_greatest_1 : decode cX1_greatest 1 = .ok (.getfield 18, 3) := by decide +kernel
theorem dX1_greatest_4 : decode cX1_greatest 4 = .ok (.bipush 61, 2) := by decide +kernel
theorem dX1_greatest_6 : decode cX1_greatest 6 = .ok (.if_icmp .ne 10, 3) := by decide +kernel
theorem dX1_greatest_9 : decode cX1_greatest 9 = .ok (.aload_n 0, 1) := by decide +kernel
theorem dX1_greatest_10 : decode cX1_greatest 10 = .ok (.getfield 22, 3) := by decide +kernel
theorem dX1_greatest_13 : decode cX1_greatest 13 = .ok (.goto 23, 3) := by decide +kernel
theorem dX1_greatest_16 : decode cX1_greatest 16 = .ok (.aload_n 0, 1) := by decide +kernel
theorem dX1_greatest_17 : decode cX1_greatest 17 = .ok (.getfield 18, 3) := by decide +kernel
theorem dX1_greatest_20 : decode cX1_greatest 20 = .ok (.bipush 60, 2) := by decide +kernel
theorem dX1_greatest_22 : decode cX1_greatest 22 = .ok (.if_icmp .ne 12, 3) := by decide +kernel
theorem dX1_greatest_25 : decode cX1_greatest 25 = .ok (.aload_n 0, 1) := by decide +kernel
theorem dX1_greatest_26 : decode cX1_greatest 26 = .ok (.getfield 22, 3) := by decide +kernel
theorem dX1_greatest_29 : decode cX1_greatest 29 = .ok (.iconst 1, 1) := by decide +kernel
theorem dX1_greatest_30 : decode cX1_greatest 30 = .ok (.isub, 1) := by decide +kernel
theorem dX1_greatest_31 : decode cX1_greatest 31 = .ok (.goto 5, 3) := by decide +kernel
theorem dX1_greatest_34 : decode cX1_greatest 34 = .ok (.bipush 99, 2) := by decide +kernel
theorem dX1_greatest_36 : decode cX1_greatest 36 = .ok (.ireturn, 1) := by decide +kernel
theorem dX1_allows_0 : decode cX1_allows 0 = .ok (.aload_n 0, 1) := by decide +kernel
theorem dX1_allows_1 : decode cX1_allows 1 = .ok (.getfield 18, 3) := by decide +kernel
theorem dX1_allows_4 : decode cX1_allows 4 = .ok (.bipush 61, 2) := by decide +kernel
theorem dX1_allows_6 : decode cX1_allows 6 = .ok (.if_icmp .ne 19, 3) := by decide +kernel
theorem dX1_allows_9 : decode cX1_allows 9 = .ok (.iload_n 1, 1) := by decide +kernel
theorem dX1_allows_10 : decode cX1_allows 10 = .ok (.aload_n 0, 1) := by decide +kernel
theorem dX1_allows_11 : decode cX1_allows 11 = .ok (.getfield 22, 3) := by decide +kernel
theorem dX1_allows_14 : decode cX1_allows 14 = .ok (.if_icmp .ne 7, 3) := by decide +kernel
theorem dX1_allows_17 : decode cX1_allows 17 = .ok (.iconst 1, 1) := by decide +kernel
theorem dX1_allows_18 : decode cX1_allows 18 = .ok (.goto 45, 3) := by decide +kernel
theorem dX1_allows_21 : decode cX1_allows 21 = .ok (.iconst 0, 1) := by decide +kernel
theorem dX1_allows_22 : decode cX1_allows 22 = .ok (.goto 41, 3) := by decide +kernel
theorem dX1_allows_25 : decode cX1_allows 25 = .ok (.aload_n 0, 1) := by decide +kernel
theorem dX1_allows_26 : decode cX1_allows 26 = .ok (.getfield 18, 3) := by decide +kernel
theorem dX1_allows_29 : decode cX1_allows 29 = .ok (.bipush 60, 2) := by decide +kernel
theorem dX1_allows_31 : decode cX1_allows 31 = .ok (.if_icmp .ne 19, 3) := by decide +kernel
theorem dX1_allows_34 : decode cX1_allows 34 = .ok (.iload_n 1, 1) := by decide +kernel
theorem dX1_allows_35 : decode cX1_allows 35 = .ok (.aload_n 0, 1) := by decide +kernel
theorem dX1_allows_36 : decode cX1_allows 36 = .ok (.getfield 22, 3) := by decide +kernel
theorem dX1_allows_39 : decode cX1_allows 39 = .ok (.if_icmp .ge 7, 3) := by decide +kernel
theorem dX1_allows_42 : decode cX1_allows 42 = .ok (.iconst 1, 1) := by decide +kernel
theorem dX1_allows_43 : decode cX1_allows 43 = .ok (.goto 20, 3) := by decide +kernel
theorem dX1_allows_46 : decode cX1_allows 46 = .ok (.iconst 0, 1) := by decide +kernel
theorem dX1_allows_47 : decode cX1_allows 47 = .ok (.goto 16, 3) := by decide +kernel
theorem dX1_allows_50 : decode cX1_allows 50 = .ok (.iload_n 1, 1) := by decide +kernel
theorem dX1_allows_51 : decode cX1_allows 51 = .ok (.aload_n 0, 1) := by decide +kernel
theorem dX1_allows_52 : decode cX1_allows 52 = .ok (.getfield 22, 3) := by decide +kernel
theorem dX1_allows_55 : decode cX1_allows 55 = .ok (.if_icmp .le 7, 3) := by decide +kernel
theorem dX1_allows_58 : decode cX1_allows 58 = .ok (.iconst 1, 1) := by decide +kernel
theorem dX1_allows_59 : decode cX1_allows 59 = .ok (.goto 4, 3) := by decide +kernel
theorem dX1_allows_62 : decode cX1_allows 62 = .ok (.iconst 0, 1) := by decide +kernel
theorem dX1_allows_63 : decode cX1_allows 63 = .ok (.ireturn, 1) := by decide +kernel
theorem dX2_init_0 : decode cX2_init 0 = .ok (.aload_n 0, 1) := by decide +kernel
theorem dX2_init_1 : decode cX2_init 1 = .ok (.invokespecial 3, 3) := by decide +kernel
theorem dX2_init_4 : decode cX2_init 4 = .ok (.aload_n 0, 1) := by decide +kernel
theorem dX2_init_5 : decode cX2_init 5 = .ok (.iconst 2, 1) := by decide +kernel
theorem dX2_init_6 : decode cX2_init 6 = .ok (.newarray .int, 2) := by decide +kernel
theorem dX2_init_8 : decode cX2_init 8 = .ok (.putfield 9, 3) := by decide +kernel
theorem dX2_init_11 : decode cX2_init 11 = .ok (.aload_n 0, 1) := by decide +kernel
theorem dX2_init_12 : decode cX2_init 12 = .ok (.iconst 2, 1) := by decide +kernel
theorem dX2_init_13 : decode cX2_init 13 = .ok (.newarray .int, 2) := by decide +kernel
theorem dX2_init_15 : decode cX2_init 15 = .ok (.putfield 15, 3) := by decide +kernel
theorem dX2_init_18 : decode cX2_init 18 = .ok (.aload_n 0, 1) := by decide +kernel
theorem dX2_init_19 : decode cX2_init 19 = .ok (.sipush 1024, 3) := by decide +kernel
theorem dX2_init_22 : decode cX2_init 22 = .ok (.newarray .int, 2) := by decide +kernel
theorem dX2_init_24 : decode cX2_init 24 = .ok (.putfield 18, 3) := by decide +kernel
theorem dX2_init_27 : decode cX2_init 27 = .ok (.aload_n 0, 1) := by decide +kernel
theorem dX2_init_28 : decode cX2_init 28 = .ok (.iconst 0, 1) := by decide +kernel
theorem dX2_init_29 : decode cX2_init 29 = .ok (.putfield 21, 3) := by decide +kernel
theorem dX2_init_32 : decode cX2_init 32 = .ok (.aload_n 0, 1) := by decide +kernel
theorem dX2_init_33 : decode cX2_init 33 = .ok (.iconst (-1), 1) := by decide +kernel
theorem dX2_init_34 : decode cX2_init 34 = .ok (.putfield 25, 3) := by decide +kernel
theorem dX2_init_37 : decode cX2_init 37 = .ok (.aload_n 0, 1) := by decide +kernel
theorem dX2_init_38 : decode cX2_init 38 = .ok (.iconst 0, 1) := by decide +kernel
theorem dX2_init_39 : decode cX2_init 39 = .ok (.putfield 28, 3) := by decide +kernel
theorem dX2_init_42 : decode cX2_init 42 = .ok (.return_, 1) := by decide +kernel
theorem dX2_roundCount_0 : decode cX2_roundCount 0 = .ok (.aload_n 0, 1) := by decide +kernel
theorem dX2_roundCount_1 : decode cX2_roundCount 1 = .ok (.getfield 21, 3) := by decide +kernel
theorem dX2_roundCount_4 : decode cX2_roundCount 4 = .ok (.ireturn, 1) := by decide +kernel
theorem dX2_winner_0 : decode cX2_winner 0 = .ok (.aload_n 0, 1) := by decide +kernel
theorem dX2_winner_1 : decode cX2_winner 1 = .ok (.getfield 25, 3) := by decide +kernel
theorem dX2_winner_4 : decode cX2_winner 4 = .ok (.ireturn, 1) := by decide +kernel
theorem dX2_isOpenToAppeals_0 : decode cX2_isOpenToAppeals 0 = .ok (.aload_n 0, 1) := by decide +kernel
theorem dX2_isOpenToAppeals_1 : decode cX2_isOpenToAppeals 1 = .ok (.getfield 28, 3) := by decide +kernel
theorem dX2_isOpenToAppeals_4 : decode cX2_isOpenToAppeals 4 = .ok (.ireturn, 1) := by decide +kernel
theorem dX2_closeAppeals_0 : decode cX2_closeAppeals 0 = .ok (.aload_n 0, 1) := by decide +kernel
theorem dX2_closeAppeals_1 : decode cX2_closeAppeals 1 = .ok (.iconst 0, 1) := by decide +kernel
theorem dX2_closeAppeals_2 : decode cX2_closeAppeals 2 = .ok (.putfield 28, 3) := by decide +kernel
theorem dX2_closeAppeals_5 : decode cX2_closeAppeals 5 = .ok (.return_, 1) := by decide +kernel
theorem dX2_purseOf_0 : decode cX2_purseOf 0 = .ok (.iload_n 1, 1) := by decide +kernel
theorem dX2_purseOf_1 : decode cX2_purseOf 1 = .ok (.ifCond .lt 21, 3) := by decide +kernel
theorem dX2_purseOf_4 : decode cX2_purseOf 4 = .ok (.iload_n 1, 1) := by decide +kernel
theorem dX2_purseOf_5 : decode cX2_purseOf 5 = .ok (.aload_n 0, 1) := by decide +kernel
theorem dX2_purseOf_6 : decode cX2_purseOf 6 = .ok (.getfield 9, 3) := by decide +kernel
theorem dX2_purseOf_9 : decode cX2_purseOf 9 = .ok (.arraylength, 1) := by decide +kernel
theorem dX2_purseOf_10 : decode cX2_purseOf 10 = .ok (.if_icmp .ge 12, 3) := by decide +kernel
theorem dX2_purseOf_13 : decode cX2_purseOf 13 = .ok (.aload_n 0, 1) := by decide +kernel
theorem dX2_purseOf_14 : decode cX2_purseOf 14 = .ok (.getfield 9, 3) := by decide +kernel
theorem dX2_purseOf_17 : decode cX2_purseOf 17 = .ok (.iload_n 1, 1) := by decide +kernel
theorem dX2_purseOf_18 : decode cX2_purseOf 18 = .ok (.iaload, 1) := by decide +kernel
theorem dX2_purseOf_19 : decode cX2_purseOf 19 = .ok (.goto 4, 3) := by decide +kernel
theorem dX2_purseOf_22 : decode cX2_purseOf 22 = .ok (.iconst 0, 1) := by decide +kernel
theorem dX2_purseOf_23 : decode cX2_purseOf 23 = .ok (.ireturn, 1) := by decide +kernel
theorem dX2_give_0 : decode cX2_give 0 = .ok (.iload_n 1, 1) := by decide +kernel
theorem dX2_give_1 : decode cX2_give 1 = .ok (.ifCond .lt 30, 3) := by decide +kernel
theorem dX2_give_4 : decode cX2_give 4 = .ok (.iload_n 1, 1) := by decide +kernel
theorem dX2_give_5 : decode cX2_give 5 = .ok (.aload_n 0, 1) := by decide +kernel
theorem dX2_give_6 : decode cX2_give 6 = .ok (.getfield 9, 3) := by decide +kernel
theorem dX2_give_9 : decode cX2_give 9 = .ok (.arraylength, 1) := by decide +kernel
theorem dX2_give_10 : decode cX2_give 10 = .ok (.if_icmp .ge 21, 3) := by decide +kernel
theorem dX2_give_13 : decode cX2_give 13 = .ok (.aload_n 0, 1) := by decide +kernel
theorem dX2_give_14 : decode cX2_give 14 = .ok (.getfield 9, 3) := by decide +kernel
theorem dX2_give_17 : decode cX2_give 17 = .ok (.iload_n 1, 1) := by decide +kernel
theorem dX2_give_18 : decode cX2_give 18 = .ok (.iconst 0, 1) := by decide +kernel
theorem dX2_give_19 : decode cX2_give 19 = .ok (.aload_n 0, 1) := by decide +kernel
theorem dX2_give_20 : decode cX2_give 20 = .ok (.getfield 9, 3) := by decide +kernel
theorem dX2_give_23 : decode cX2_give 23 = .ok (.iload_n 1, 1) := by decide +kernel
theorem dX2_give_24 : decode cX2_give 24 = .ok (.iaload, 1) := by decide +kernel
theorem dX2_give_25 : decode cX2_give 25 = .ok (.iload_n 2, 1) := by decide +kernel
theorem dX2_give_26 : decode cX2_give 26 = .ok (.iadd, 1) := by decide +kernel
theorem dX2_give_27 : decode cX2_give 27 = .ok (.invokestatic 32, 3) := by decide +kernel
theorem dX2_give_30 : decode cX2_give 30 = .ok (.iastore, 1) := by decide +kernel
theorem dX2_give_31 : decode cX2_give 31 = .ok (.return_, 1) := by decide +kernel
theorem dX2_bansFor_0 : decode cX2_bansFor 0 = .ok (.iload_n 1, 1) := by decide +kernel
theorem dX2_bansFor_1 : decode cX2_bansFor 1 = .ok (.ifCond .lt 21, 3) := by decide +kernel
theorem dX2_bansFor_4 : decode cX2_bansFor 4 = .ok (.iload_n 1, 1) := by decide +kernel
theorem dX2_bansFor_5 : decode cX2_bansFor 5 = .ok (.aload_n 0, 1) := by decide +kernel
theorem dX2_bansFor_6 : decode cX2_bansFor 6 = .ok (.getfield 15, 3) := by decide +kernel
theorem dX2_bansFor_9 : decode cX2_bansFor 9 = .ok (.arraylength, 1) := by decide +kernel
theorem dX2_bansFor_10 : decode cX2_bansFor 10 = .ok (.if_icmp .ge 12, 3) := by decide +kernel
theorem dX2_bansFor_13 : decode cX2_bansFor 13 = .ok (.aload_n 0, 1) := by decide +kernel
theorem dX2_bansFor_14 : decode cX2_bansFor 14 = .ok (.getfield 15, 3) := by decide +kernel
theorem dX2_bansFor_17 : decode cX2_bansFor 17 = .ok (.iload_n 1, 1) := by decide +kernel
theorem dX2_bansFor_18 : decode cX2_bansFor 18 = .ok (.iaload, 1) := by decide +kernel
theorem dX2_bansFor_19 : decode cX2_bansFor 19 = .ok (.goto 4, 3) := by decide +kernel
theorem dX2_bansFor_22 : decode cX2_bansFor 22 = .ok (.iconst 0, 1) := by decide +kernel
theorem dX2_bansFor_23 : decode cX2_bansFor 23 = .ok (.ireturn, 1) := by decide +kernel
theorem dX2_addBan_0 : decode cX2_addBan 0 = .ok (.iload_n 1, 1) := by decide +kernel
theorem dX2_addBan_1 : decode cX2_addBan 1 = .ok (.ifCond .lt 34, 3) := by decide +kernel
theorem dX2_addBan_4 : decode cX2_addBan 4 = .ok (.iload_n 1, 1) := by decide +kernel
theorem dX2_addBan_5 : decode cX2_addBan 5 = .ok (.aload_n 0, 1) := by decide +kernel
theorem dX2_addBan_6 : decode cX2_addBan 6 = .ok (.getfield 15, 3) := by decide +kernel
theorem dX2_addBan_9 : decode cX2_addBan 9 = .ok (.arraylength, 1) := by decide +kernel
theorem dX2_addBan_10 : decode cX2_addBan 10 = .ok (.if_icmp .ge 25, 3) := by decide +kernel
theorem dX2_addBan_13 : decode cX2_addBan 13 = .ok (.iload_n 2, 1) := by decide +kernel
theorem dX2_addBan_14 : decode cX2_addBan 14 = .ok (.ifCond .lt 21, 3) := by decide +kernel
theorem dX2_addBan_17 : decode cX2_addBan 17 = .ok (.iload_n 2, 1) := by decide +kernel
theorem dX2_addBan_18 : decode cX2_addBan 18 = .ok (.bipush 6, 2) := by decide +kernel
theorem dX2_addBan_20 : decode cX2_addBan 20 = .ok (.if_icmp .ge 15, 3) := by decide +kernel
theorem dX2_addBan_23 : decode cX2_addBan 23 = .ok (.aload_n 0, 1) := by decide +kernel
theorem dX2_addBan_24 : decode cX2_addBan 24 = .ok (.getfield 15, 3) := by decide +kernel
theorem dX2_addBan_27 : decode cX2_addBan 27 = .ok (.iload_n 1, 1) := by decide +kernel
theorem dX2_addBan_28 : decode cX2_addBan 28 = .ok (.dup2, 1) := by decide +kernel
theorem dX2_addBan_29 : decode cX2_addBan 29 = .ok (.iaload, 1) := by decide +kernel
theorem dX2_addBan_30 : decode cX2_addBan 30 = .ok (.iconst 1, 1) := by decide +kernel
theorem dX2_addBan_31 : decode cX2_addBan 31 = .ok (.iload_n 2, 1) := by decide +kernel
theorem dX2_addBan_32 : decode cX2_addBan 32 = .ok (.ishl, 1) := by decide +kernel
theorem dX2_addBan_33 : decode cX2_addBan 33 = .ok (.ior, 1) := by decide +kernel
theorem dX2_addBan_34 : decode cX2_addBan 34 = .ok (.iastore, 1) := by decide +kernel
theorem dX2_addBan_35 : decode cX2_addBan 35 = .ok (.return_, 1) := by decide +kernel
theorem dX2_missedIn_0 : decode cX2_missedIn 0 = .ok (.iload_n 2, 1) := by decide +kernel
theorem dX2_missedIn_1 : decode cX2_missedIn 1 = .ok (.ifCond .lt 24, 3) := by decide +kernel
theorem dX2_missedIn_4 : decode cX2_missedIn 4 = .ok (.iload_n 2, 1) := by decide +kernel
theorem dX2_missedIn_5 : decode cX2_missedIn 5 = .ok (.aload_n 0, 1) := by decide +kernel
theorem dX2_missedIn_6 : decode cX2_missedIn 6 = .ok (.getfield 21, 3) := by decide +kernel
theorem dX2_missedIn_9 : decode cX2_missedIn 9 = .ok (.if_icmp .ge 16, 3) := by decide +kernel
theorem dX2_missedIn_12 : decode cX2_missedIn 12 = .ok (.iload_n 1, 1) := by decide +kernel
theorem dX2_missedIn_13 : decode cX2_missedIn 13 = .ok (.ifCond .lt 12, 3) := by decide +kernel
theorem dX2_missedIn_16 : decode cX2_missedIn 16 = .ok (.iload_n 1, 1) := by decide +kernel
theorem dX2_missedIn_17 : decode cX2_missedIn 17 = .ok (.iconst 2, 1) := by decide +kernel
theorem dX2_missedIn_18 : decode cX2_missedIn 18 = .ok (.if_icmp .ge 7, 3) := by decide +kernel
theorem dX2_missedIn_21 : decode cX2_missedIn 21 = .ok (.iconst 1, 1) := by decide +kernel
theorem dX2_missedIn_22 : decode cX2_missedIn 22 = .ok (.goto 4, 3) := by decide +kernel
theorem dX2_missedIn_25 : decode cX2_missedIn 25 = .ok (.iconst 0, 1) := by decide +kernel
theorem dX2_missedIn_26 : decode cX2_missedIn 26 = .ok (.istore_n 3, 1) := by decide +kernel
theorem dX2_missedIn_27 : decode cX2_missedIn 27 = .ok (.iload_n 2, 1) := by decide +kernel
theorem dX2_missedIn_28 : decode cX2_missedIn 28 = .ok (.iconst 2, 1) := by decide +kernel
theorem dX2_missedIn_29 : decode cX2_missedIn 29 = .ok (.imul, 1) := by decide +kernel
theorem dX2_missedIn_30 : decode cX2_missedIn 30 = .ok (.iload_n 1, 1) := by decide +kernel
theorem dX2_missedIn_31 : decode cX2_missedIn 31 = .ok (.iadd, 1) := by decide +kernel
theorem dX2_missedIn_32 : decode cX2_missedIn 32 = .ok (.istore 4, 2) := by decide +kernel
theorem dX2_missedIn_34 : decode cX2_missedIn 34 = .ok (.iload_n 3, 1) := by decide +kernel
theorem dX2_missedIn_35 : decode cX2_missedIn 35 = .ok (.ifCond .eq 28, 3) := by decide +kernel
theorem dX2_missedIn_38 : decode cX2_missedIn 38 = .ok (.iload 4, 2) := by decide +kernel
theorem dX2_missedIn_40 : decode cX2_missedIn 40 = .ok (.ifCond .lt 23, 3) := by decide +kernel
theorem dX2_missedIn_43 : decode cX2_missedIn 43 = .ok (.iload 4, 2) := by decide +kernel
theorem dX2_missedIn_45 : decode cX2_missedIn 45 = .ok (.aload_n 0, 1) := by decide +kernel
theorem dX2_missedIn_46 : decode cX2_missedIn 46 = .ok (.getfield 18, 3) := by decide +kernel
theorem dX2_missedIn_49 : decode cX2_missedIn 49 = .ok (.arraylength, 1) := by decide +kernel
theorem dX2_missedIn_50 : decode cX2_missedIn 50 = .ok (.if_icmp .ge 13, 3) := by decide +kernel
theorem dX2_missedIn_53 : decode cX2_missedIn 53 = .ok (.aload_n 0, 1) := by decide +kernel
theorem dX2_missedIn_54 : decode cX2_missedIn 54 = .ok (.getfield 18, 3) := by decide +kernel
theorem dX2_missedIn_57 : decode cX2_missedIn 57 = .ok (.iload 4, 2) := by decide +kernel
theorem dX2_missedIn_59 : decode cX2_missedIn 59 = .ok (.iaload, 1) := by decide +kernel
theorem dX2_missedIn_60 : decode cX2_missedIn 60 = .ok (.goto 4, 3) := by decide +kernel
theorem dX2_missedIn_63 : decode cX2_missedIn 63 = .ok (.iconst (-1), 1) := by decide +kernel
theorem dX2_missedIn_64 : decode cX2_missedIn 64 = .ok (.ireturn, 1) := by decide +kernel
theorem dX2_missedInAll_0 : decode cX2_missedInAll 0 = .ok (.iconst 0, 1) := by decide +kernel
theorem dX2_missedInAll_1 : decode cX2_missedInAll 1 = .ok (.istore_n 2, 1) := by decide +kernel
theorem dX2_missedInAll_2 : decode cX2_missedInAll 2 = .ok (.iconst 0, 1) := by decide +kernel
theorem dX2_missedInAll_3 : decode cX2_missedInAll 3 = .ok (.istore_n 3, 1) := by decide +kernel
theorem dX2_missedInAll_4 : decode cX2_missedInAll 4 = .ok (.iload_n 3, 1) := by decide +kernel
theorem dX2_missedInAll_5 : decode cX2_missedInAll 5 = .ok (.aload_n 0, 1) := by decide +kernel
theorem dX2_missedInAll_6 : decode cX2_missedInAll 6 = .ok (.getfield 21, 3) := by decide +kernel
theorem dX2_missedInAll_9 : decode cX2_missedInAll 9 = .ok (.if_icmp .ge 18, 3) := by decide +kernel
theorem dX2_missedInAll_12 : decode cX2_missedInAll 12 = .ok (.iload_n 2, 1) := by decide +kernel
theorem dX2_missedInAll_13 : decode cX2_missedInAll 13 = .ok (.aload_n 0, 1) := by decide +kernel
theorem dX2_missedInAll_14 : decode cX2_missedInAll 14 = .ok (.iload_n 1, 1) := by decide +kernel
theorem dX2_missedInAll_15 : decode cX2_missedInAll 15 = .ok (.iload_n 3, 1) := by decide +kernel
theorem dX2_missedInAll_16 : decode cX2_missedInAll 16 = .ok (.invokevirtual 38, 3) := by decide +kernel
theorem dX2_missedInAll_19 : decode cX2_missedInAll 19 = .ok (.iadd, 1) := by decide +kernel
theorem dX2_missedInAll_20 : decode cX2_missedInAll 20 = .ok (.istore_n 2, 1) := by decide +kernel
theorem dX2_missedInAll_21 : decode cX2_missedInAll 21 = .ok (.iinc 3 1, 3) := by decide +kernel
theorem dX2_missedInAll_24 : decode cX2_missedInAll 24 = .ok (.goto (-20), 3) := by decide +kernel
theorem dX2_missedInAll_27 : decode cX2_missedInAll 27 = .ok (.iload_n 2, 1) := by decide +kernel
theorem dX2_missedInAll_28 : decode cX2_missedInAll 28 = .ok (.ireturn, 1) := by decide +kernel
theorem dX2_endRound_0 : decode cX2_endRound 0 = .ok (.aload_n 0, 1) := by decide +kernel
theorem dX2_endRound_1 : decode cX2_endRound 1 = .ok (.getfield 21, 3) := by decide +kernel
theorem dX2_endRound_4 : decode cX2_endRound 4 = .ok (.sipush 512, 3) := by decide +kernel
theorem dX2_endRound_7 : decode cX2_endRound 7 = .ok (.if_icmp .ge 13, 3) := by decide +kernel
theorem dX2_endRound_10 : decode cX2_endRound 10 = .ok (.aload_n 0, 1) := by decide +kernel
theorem dX2_endRound_11 : decode cX2_endRound 11 = .ok (.dup, 1) := by decide +kernel
theorem dX2_endRound_12 : decode cX2_endRound 12 = .ok (.getfield 21, 3) := by decide +kernel
theorem dX2_endRound_15 : decode cX2_endRound 15 = .ok (.iconst 1, 1) := by decide +kernel
theorem dX2_endRound_16 : decode cX2_endRound 16 = .ok (.iadd, 1) := by decide +kernel
theorem dX2_endRound_17 : decode cX2_endRound 17 = .ok (.putfield 21, 3) := by decide +kernel
theorem dX2_endRound_20 : decode cX2_endRound 20 = .ok (.aload_n 0, 1) := by decide +kernel
theorem dX2_endRound_21 : decode cX2_endRound 21 = .ok (.iload_n 1, 1) := by decide +kernel
theorem dX2_endRound_22 : decode cX2_endRound 22 = .ok (.iload_n 2, 1) := by decide +kernel
theorem dX2_endRound_23 : decode cX2_endRound 23 = .ok (.invokevirtual 41, 3) := by decide +kernel
theorem dX2_endRound_26 : decode cX2_endRound 26 = .ok (.aload_n 0, 1) := by decide +kernel
theorem dX2_endRound_27 : decode cX2_endRound 27 = .ok (.iconst 1, 1) := by decide +kernel
theorem dX2_endRound_28 : decode cX2_endRound 28 = .ok (.invokevirtual 45, 3) := by decide +kernel
theorem dX2_endRound_31 : decode cX2_endRound 31 = .ok (.iconst 0, 1) := by decide +kernel
theorem dX2_endRound_32 : decode cX2_endRound 32 = .ok (.istore_n 3, 1) := by decide +kernel
theorem dX2_endRound_33 : decode cX2_endRound 33 = .ok (.iload_n 3, 1) := by decide +kernel
theorem dX2_endRound_34 : decode cX2_endRound 34 = .ok (.aload_n 0, 1) := by decide +kernel
theorem dX2_endRound_35 : decode cX2_endRound 35 = .ok (.getfield 15, 3) := by decide +kernel
theorem dX2_endRound_38 : decode cX2_endRound 38 = .ok (.arraylength, 1) := by decide +kernel
theorem dX2_endRound_39 : decode cX2_endRound 39 = .ok (.if_icmp .ge 16, 3) := by decide +kernel
theorem dX2_endRound_42 : decode cX2_endRound 42 = .ok (.aload_n 0, 1) := by decide +kernel
theorem dX2_endRound_43 : decode cX2_endRound 43 = .ok (.getfield 15, 3) := by decide +kernel
theorem dX2_endRound_46 : decode cX2_endRound 46 = .ok (.iload_n 3, 1) := by decide +kernel
theorem dX2_endRound_47 : decode cX2_endRound 47 = .ok (.iconst 0, 1) := by decide +kernel
theorem dX2_endRound_48 : decode cX2_endRound 48 = .ok (.iastore, 1) := by decide +kernel
theorem dX2_endRound_49 : decode cX2_endRound 49 = .ok (.iinc 3 1, 3) := by decide +kernel
theorem dX2_endRound_52 : decode cX2_endRound 52 = .ok (.goto (-19), 3) := by decide +kernel
theorem dX2_endRound_55 : decode cX2_endRound 55 = .ok (.aload_n 0, 1) := by decide +kernel
theorem dX2_endRound_56 : decode cX2_endRound 56 = .ok (.iconst 1, 1) := by decide +kernel
theorem dX2_endRound_57 : decode cX2_endRound 57 = .ok (.putfield 28, 3) := by decide +kernel
theorem dX2_endRound_60 : decode cX2_endRound 60 = .ok (.return_, 1) := by decide +kernel
theorem dX2_endAppeal_0 : decode cX2_endAppeal 0 = .ok (.aload_n 0, 1) := by decide +kernel
theorem dX2_endAppeal_1 : decode cX2_endAppeal 1 = .ok (.getfield 25, 3) := by decide +kernel
theorem dX2_endAppeal_4 : decode cX2_endAppeal 4 = .ok (.istore 4, 2) := by decide +kernel
theorem dX2_endAppeal_6 : decode cX2_endAppeal 6 = .ok (.aload_n 0, 1) := by decide +kernel
theorem dX2_endAppeal_7 : decode cX2_endAppeal 7 = .ok (.iconst (-1), 1) := by decide +kernel
theorem dX2_endAppeal_8 : decode cX2_endAppeal 8 = .ok (.invokevirtual 45, 3) := by decide +kernel
theorem dX2_endAppeal_11 : decode cX2_endAppeal 11 = .ok (.aload_n 0, 1) := by decide +kernel
theorem dX2_endAppeal_12 : decode cX2_endAppeal 12 = .ok (.iload_n 2, 1) := by decide +kernel
theorem dX2_endAppeal_13 : decode cX2_endAppeal 13 = .ok (.iload_n 3, 1) := by decide +kernel
theorem dX2_endAppeal_14 : decode cX2_endAppeal 14 = .ok (.invokevirtual 41, 3) := by decide +kernel
theorem dX2_endAppeal_17 : decode cX2_endAppeal 17 = .ok (.aload_n 0, 1) := by decide +kernel
theorem dX2_endAppeal_18 : decode cX2_endAppeal 18 = .ok (.iconst 1, 1) := by decide +kernel
theorem dX2_endAppeal_19 : decode cX2_endAppeal 19 = .ok (.invokevirtual 45, 3) := by decide +kernel
theorem dX2_endAppeal_22 : decode cX2_endAppeal 22 = .ok (.aload_n 0, 1) := by decide +kernel
theorem dX2_endAppeal_23 : decode cX2_endAppeal 23 = .ok (.getfield 25, 3) := by decide +kernel
theorem dX2_endAppeal_26 : decode cX2_endAppeal 26 = .ok (.iload 4, 2) := by decide +kernel
theorem dX2_endAppeal_28 : decode cX2_endAppeal 28 = .ok (.if_icmp .ne 9, 3) := by decide +kernel
theorem dX2_endAppeal_31 : decode cX2_endAppeal 31 = .ok (.aload_n 0, 1) := by decide +kernel
theorem dX2_endAppeal_32 : decode cX2_endAppeal 32 = .ok (.iload_n 1, 1) := by decide +kernel
theorem dX2_endAppeal_33 : decode cX2_endAppeal 33 = .ok (.iconst (-1), 1) := by decide +kernel
theorem dX2_endAppeal_34 : decode cX2_endAppeal 34 = .ok (.invokevirtual 49, 3) := by decide +kernel
theorem dX2_endAppeal_37 : decode cX2_endAppeal 37 = .ok (.aload_n 0, 1) := by decide +kernel
theorem dX2_endAppeal_38 : decode cX2_endAppeal 38 = .ok (.iconst 0, 1) := by decide +kernel
theorem dX2_endAppeal_39 : decode cX2_endAppeal 39 = .ok (.putfield 28, 3) := by decide +kernel
theorem dX2_endAppeal_42 : decode cX2_endAppeal 42 = .ok (.return_, 1) := by decide +kernel
theorem dX2_setResult_0 : decode cX2_setResult 0 = .ok (.aload_n 0, 1) := by decide +kernel
theorem dX2_setResult_1 : decode cX2_setResult 1 = .ok (.getfield 21, 3) := by decide +kernel
theorem dX2_setResult_4 : decode cX2_setResult 4 = .ok (.iconst 1, 1) := by decide +kernel
theorem dX2_setResult_5 : decode cX2_setResult 5 = .ok (.isub, 1) := by decide +kernel
theorem dX2_setResult_6 : decode cX2_setResult 6 = .ok (.iconst 2, 1) := by decide +kernel
theorem dX2_setResult_7 : decode cX2_setResult 7 = .ok (.imul, 1) := by decide +kernel
theorem dX2_setResult_8 : decode cX2_setResult 8 = .ok (.istore_n 3, 1) := by decide +kernel
theorem dX2_setResult_9 : decode cX2_setResult 9 = .ok (.iload_n 3, 1) := by decide +kernel
theorem dX2_setResult_10 : decode cX2_setResult 10 = .ok (.ifCond .lt 30, 3) := by decide +kernel
theorem dX2_setResult_13 : decode cX2_setResult 13 = .ok (.iload_n 3, 1) := by decide +kernel
theorem dX2_setResult_14 : decode cX2_setResult 14 = .ok (.iconst 1, 1) := by decide +kernel
theorem dX2_setResult_15 : decode cX2_setResult 15 = .ok (.iadd, 1) := by decide +kernel
theorem dX2_setResult_16 : decode cX2_setResult 16 = .ok (.aload_n 0, 1) := by decide +kernel
theorem dX2_setResult_17 : decode cX2_setResult 17 = .ok (.getfield 18, 3) := by decide +kernel
theorem dX2_setResult_20 : decode cX2_setResult 20 = .ok (.arraylength, 1) := by decide +kernel
theorem dX2_setResult_21 : decode cX2_setResult 21 = .ok (.if_icmp .ge 19, 3) := by decide +kernel
theorem dX2_setResult_24 : decode cX2_setResult 24 = .ok (.aload_n 0, 1) := by decide +kernel
theorem dX2_setResult_25 : decode cX2_setResult 25 = .ok (.getfield 18, 3) := by decide +kernel
theorem dX2_setResult_28 : decode cX2_setResult 28 = .ok (.iload_n 3, 1) := by decide +kernel
theorem dX2_setResult_29 : decode cX2_setResult 29 = .ok (.iload_n 1, 1) := by decide +kernel
theorem dX2_setResult_30 : decode cX2_setResult 30 = .ok (.iastore, 1) := by decide +kernel
theorem dX2_setResult_31 : decode cX2_setResult 31 = .ok (.aload_n 0, 1) := by decide +kernel
theorem dX2_setResult_32 : decode cX2_setResult 32 = .ok (.getfield 18, 3) := by decide +kernel
theorem dX2_setResult_35 : decode cX2_setResult 35 = .ok (.iload_n 3, 1) := by decide +kernel
theorem dX2_setResult_36 : decode cX2_setResult 36 = .ok (.iconst 1, 1) := by decide +kernel
theorem dX2_setResult_37 : decode cX2_setResult 37 = .ok (.iadd, 1) := by decide +kernel
theorem dX2_setResult_38 : decode cX2_setResult 38 = .ok (.iload_n 2, 1) := by decide +kernel
theorem dX2_setResult_39 : decode cX2_setResult 39 = .ok (.iastore, 1) := by decide +kernel
theorem dX2_setResult_40 : decode cX2_setResult 40 = .ok (.aload_n 0, 1) := by decide +kernel
theorem dX2_setResult_41 : decode cX2_setResult 41 = .ok (.iload_n 1, 1) := by decide +kernel
theorem dX2_setResult_42 : decode cX2_setResult 42 = .ok (.iload_n 2, 1) := by decide +kernel
theorem dX2_setResult_43 : decode cX2_setResult 43 = .ok (.if_icmp .ge 7, 3) := by decide +kernel
theorem dX2_setResult_46 : decode cX2_setResult 46 = .ok (.iconst 0, 1) := by decide +kernel
theorem dX2_setResult_47 : decode cX2_setResult 47 = .ok (.goto 13, 3) := by decide +kernel
theorem dX2_setResult_50 : decode cX2_setResult 50 = .ok (.iload_n 2, 1) := by decide +kernel
theorem dX2_setResult_51 : decode cX2_setResult 51 = .ok (.iload_n 1, 1) := by decide +kernel
theorem dX2_setResult_52 : decode cX2_setResult 52 = .ok (.if_icmp .ge 7, 3) := by decide +kernel
theorem dX2_setResult_55 : decode cX2_setResult 55 = .ok (.iconst 1, 1) := by decide +kernel
theorem dX2_setResult_56 : decode cX2_setResult 56 = .ok (.goto 4, 3) := by decide +kernel
theorem dX2_setResult_59 : decode cX2_setResult 59 = .ok (.iconst (-1), 1) := by decide +kernel
theorem dX2_setResult_60 : decode cX2_setResult 60 = .ok (.putfield 25, 3) := by decide +kernel
theorem dX2_setResult_63 : decode cX2_setResult 63 = .ok (.return_, 1) := by decide +kernel
theorem dX2_pay_0 : decode cX2_pay 0 = .ok (.aload_n 0, 1) := by decide +kernel
theorem dX2_pay_1 : decode cX2_pay 1 = .ok (.getfield 25, 3) := by decide +kernel
theorem dX2_pay_4 : decode cX2_pay 4 = .ok (.iconst (-1), 1) := by decide +kernel
theorem dX2_pay_5 : decode cX2_pay 5 = .ok (.if_icmp .ne 18, 3) := by decide +kernel
theorem dX2_pay_8 : decode cX2_pay 8 = .ok (.aload_n 0, 1) := by decide +kernel
theorem dX2_pay_9 : decode cX2_pay 9 = .ok (.iconst 0, 1) := by decide +kernel
theorem dX2_pay_10 : decode cX2_pay 10 = .ok (.iload_n 1, 1) := by decide +kernel
theorem dX2_pay_11 : decode cX2_pay 11 = .ok (.invokevirtual 49, 3) := by decide +kernel
theorem dX2_pay_14 : decode cX2_pay 14 = .ok (.aload_n 0, 1) := by decide +kernel
theorem dX2_pay_15 : decode cX2_pay 15 = .ok (.iconst 1, 1) := by decide +kernel
theorem dX2_pay_16 : decode cX2_pay 16 = .ok (.iload_n 1, 1) := by decide +kernel
theorem dX2_pay_17 : decode cX2_pay 17 = .ok (.invokevirtual 49, 3) := by decide +kernel
theorem dX2_pay_20 : decode cX2_pay 20 = .ok (.goto 14, 3) := by decide +kernel
theorem dX2_pay_23 : decode cX2_pay 23 = .ok (.aload_n 0, 1) := by decide +kernel
theorem dX2_pay_24 : decode cX2_pay 24 = .ok (.aload_n 0, 1) := by decide +kernel
theorem dX2_pay_25 : decode cX2_pay 25 = .ok (.getfield 25, 3) := by decide +kernel
theorem dX2_pay_28 : decode cX2_pay 28 = .ok (.iconst 3, 1) := by decide +kernel
theorem dX2_pay_29 : decode cX2_pay 29 = .ok (.iload_n 1, 1) := by decide +kernel
theorem dX2_pay_30 : decode cX2_pay 30 = .ok (.imul, 1) := by decide +kernel
theorem dX2_pay_31 : decode cX2_pay 31 = .ok (.invokevirtual 49, 3) := by decide +kernel
theorem dX2_pay_34 : decode cX2_pay 34 = .ok (.return_, 1) := by decide +kernel
theorem dX3_init_0 : decode cX3_init 0 = .ok (.aload_n 0, 1) := by decide +kernel
theorem dX3_init_1 : decode cX3_init 1 = .ok (.invokespecial 3, 3) := by decide +kernel
theorem dX3_init_4 : decode cX3_init 4 = .ok (.aload_n 0, 1) := by decide +kernel
theorem dX3_init_5 : decode cX3_init 5 = .ok (.bipush 40, 2) := by decide +kernel
theorem dX3_init_7 : decode cX3_init 7 = .ok (.newarray .int, 2) := by decide +kernel
theorem dX3_init_9 : decode cX3_init 9 = .ok (.putfield 9, 3) := by decide +kernel
theorem dX3_init_12 : decode cX3_init 12 = .ok (.aload_n 0, 1) := by decide +kernel
theorem dX3_init_13 : decode cX3_init 13 = .ok (.iconst 0, 1) := by decide +kernel
theorem dX3_init_14 : decode cX3_init 14 = .ok (.putfield 15, 3) := by decide +kernel
theorem dX3_init_17 : decode cX3_init 17 = .ok (.aload_n 0, 1) := by decide +kernel
theorem dX3_init_18 : decode cX3_init 18 = .ok (.iload_n 1, 1) := by decide +kernel
theorem dX3_init_19 : decode cX3_init 19 = .ok (.putfield 19, 3) := by decide +kernel
theorem dX3_init_22 : decode cX3_init 22 = .ok (.aload_n 0, 1) := by decide +kernel
theorem dX3_init_23 : decode cX3_init 23 = .ok (.aload_n 2, 1) := by decide +kernel
theorem dX3_init_24 : decode cX3_init 24 = .ok (.putfield 22, 3) := by decide +kernel
theorem dX3_init_27 : decode cX3_init 27 = .ok (.aload_n 0, 1) := by decide +kernel
theorem dX3_init_28 : decode cX3_init 28 = .ok (.iload_n 3, 1) := by decide +kernel
theorem dX3_init_29 : decode cX3_init 29 = .ok (.putfield 26, 3) := by decide +kernel
theorem dX3_init_32 : decode cX3_init 32 = .ok (.return_, 1) := by decide +kernel
theorem dX3_number_0 : decode cX3_number 0 = .ok (.aload_n 0, 1) := by decide +kernel
theorem dX3_number_1 : decode cX3_number 1 = .ok (.getfield 19, 3) := by decide +kernel
theorem dX3_number_4 : decode cX3_number 4 = .ok (.ireturn, 1) := by decide +kernel
theorem dX3_isOf_0 : decode cX3_isOf 0 = .ok (.aload_n 0, 1) := by decide +kernel
theorem dX3_isOf_1 : decode cX3_isOf 1 = .ok (.getfield 22, 3) := by decide +kernel
theorem dX3_isOf_4 : decode cX3_isOf 4 = .ok (.aload_n 1, 1) := by decide +kernel
theorem dX3_isOf_5 : decode cX3_isOf 5 = .ok (.if_acmp .ne 7, 3) := by decide +kernel
theorem dX3_isOf_8 : decode cX3_isOf 8 = .ok (.iconst 1, 1) := by decide +kernel
theorem dX3_isOf_9 : decode cX3_isOf 9 = .ok (.goto 4, 3) := by decide +kernel
theorem dX3_isOf_12 : decode cX3_isOf 12 = .ok (.iconst 0, 1) := by decide +kernel
theorem dX3_isOf_13 : decode cX3_isOf 13 = .ok (.ireturn, 1) := by decide +kernel
theorem dX3_isOn_0 : decode cX3_isOn 0 = .ok (.aload_n 0, 1) := by decide +kernel
theorem dX3_isOn_1 : decode cX3_isOn 1 = .ok (.getfield 22, 3) := by decide +kernel
theorem dX3_isOn_4 : decode cX3_isOn 4 = .ok (.aload_n 1, 1) := by decide +kernel
theorem dX3_isOn_5 : decode cX3_isOn 5 = .ok (.if_acmp .ne 15, 3) := by decide +kernel
theorem dX3_isOn_8 : decode cX3_isOn 8 = .ok (.aload_n 0, 1) := by decide +kernel
theorem dX3_isOn_9 : decode cX3_isOn 9 = .ok (.getfield 26, 3) := by decide +kernel
theorem dX3_isOn_12 : decode cX3_isOn 12 = .ok (.iload_n 2, 1) := by decide +kernel
theorem dX3_isOn_13 : decode cX3_isOn 13 = .ok (.if_icmp .ne 7, 3) := by decide +kernel
theorem dX3_isOn_16 : decode cX3_isOn 16 = .ok (.iconst 1, 1) := by decide +kernel
theorem dX3_isOn_17 : decode cX3_isOn 17 = .ok (.goto 4, 3) := by decide +kernel
theorem dX3_isOn_20 : decode cX3_isOn 20 = .ok (.iconst 0, 1) := by decide +kernel
theorem dX3_isOn_21 : decode cX3_isOn 21 = .ok (.ireturn, 1) := by decide +kernel
theorem dX3_size_0 : decode cX3_size 0 = .ok (.aload_n 0, 1) := by decide +kernel
theorem dX3_size_1 : decode cX3_size 1 = .ok (.getfield 15, 3) := by decide +kernel
theorem dX3_size_4 : decode cX3_size 4 = .ok (.ireturn, 1) := by decide +kernel
theorem dX3_rowAt_0 : decode cX3_rowAt 0 = .ok (.iload_n 1, 1) := by decide +kernel
theorem dX3_rowAt_1 : decode cX3_rowAt 1 = .ok (.ifCond .lt 29, 3) := by decide +kernel
theorem dX3_rowAt_4 : decode cX3_rowAt 4 = .ok (.iload_n 1, 1) := by decide +kernel
theorem dX3_rowAt_5 : decode cX3_rowAt 5 = .ok (.aload_n 0, 1) := by decide +kernel
theorem dX3_rowAt_6 : decode cX3_rowAt 6 = .ok (.getfield 15, 3) := by decide +kernel
theorem dX3_rowAt_9 : decode cX3_rowAt 9 = .ok (.if_icmp .ge 21, 3) := by decide +kernel
theorem dX3_rowAt_12 : decode cX3_rowAt 12 = .ok (.iload_n 1, 1) := by decide +kernel
theorem dX3_rowAt_13 : decode cX3_rowAt 13 = .ok (.aload_n 0, 1) := by decide +kernel
theorem dX3_rowAt_14 : decode cX3_rowAt 14 = .ok (.getfield 9, 3) := by decide +kernel
theorem dX3_rowAt_17 : decode cX3_rowAt 17 = .ok (.arraylength, 1) := by decide +kernel
theorem dX3_rowAt_18 : decode cX3_rowAt 18 = .ok (.if_icmp .ge 12, 3) := by decide +kernel
theorem dX3_rowAt_21 : decode cX3_rowAt 21 = .ok (.aload_n 0, 1) := by decide +kernel
theorem dX3_rowAt_22 : decode cX3_rowAt 22 = .ok (.getfield 9, 3) := by decide +kernel
theorem dX3_rowAt_25 : decode cX3_rowAt 25 = .ok (.iload_n 1, 1) := by decide +kernel
theorem dX3_rowAt_26 : decode cX3_rowAt 26 = .ok (.iaload, 1) := by decide +kernel
theorem dX3_rowAt_27 : decode cX3_rowAt 27 = .ok (.goto 4, 3) := by decide +kernel
theorem dX3_rowAt_30 : decode cX3_rowAt 30 = .ok (.iconst (-1), 1) := by decide +kernel
theorem dX3_rowAt_31 : decode cX3_rowAt 31 = .ok (.ireturn, 1) := by decide +kernel
theorem dX3_valueAt_0 : decode cX3_valueAt 0 = .ok (.aload_n 0, 1) := by decide +kernel
theorem dX3_valueAt_1 : decode cX3_valueAt 1 = .ok (.iload_n 1, 1) := by decide +kernel
theorem dX3_valueAt_2 : decode cX3_valueAt 2 = .ok (.invokevirtual 29, 3) := by decide +kernel
theorem dX3_valueAt_5 : decode cX3_valueAt 5 = .ok (.istore_n 2, 1) := by decide +kernel
theorem dX3_valueAt_6 : decode cX3_valueAt 6 = .ok (.iload_n 2, 1) := by decide +kernel
theorem dX3_valueAt_7 : decode cX3_valueAt 7 = .ok (.iconst (-1), 1) := by decide +kernel
theorem dX3_valueAt_8 : decode cX3_valueAt 8 = .ok (.if_icmp .ne 7, 3) := by decide +kernel
theorem dX3_valueAt_11 : decode cX3_valueAt 11 = .ok (.iconst (-1), 1) := by decide +kernel
theorem dX3_valueAt_12 : decode cX3_valueAt 12 = .ok (.goto 15, 3) := by decide +kernel
theorem dX3_valueAt_15 : decode cX3_valueAt 15 = .ok (.aload_n 0, 1) := by decide +kernel
theorem dX3_valueAt_16 : decode cX3_valueAt 16 = .ok (.getfield 22, 3) := by decide +kernel
theorem dX3_valueAt_19 : decode cX3_valueAt 19 = .ok (.iload_n 2, 1) := by decide +kernel
theorem dX3_valueAt_20 : decode cX3_valueAt 20 = .ok (.aload_n 0, 1) := by decide +kernel
theorem dX3_valueAt_21 : decode cX3_valueAt 21 = .ok (.getfield 26, 3) := by decide +kernel
theorem dX3_valueAt_24 : decode cX3_valueAt 24 = .ok (.invokevirtual 33, 3) := by decide +kernel
theorem dX3_valueAt_27 : decode cX3_valueAt 27 = .ok (.ireturn, 1) := by decide +kernel
theorem dX3_firstFrom_0 : decode cX3_firstFrom 0 = .ok (.iconst 0, 1) := by decide +kernel
theorem dX3_firstFrom_1 : decode cX3_firstFrom 1 = .ok (.istore_n 2, 1) := by decide +kernel
theorem dX3_firstFrom_2 : decode cX3_firstFrom 2 = .ok (.iload_n 2, 1) := by decide +kernel
theorem dX3_firstFrom_3 : decode cX3_firstFrom 3 = .ok (.aload_n 0, 1) := by decide +kernel
theorem dX3_firstFrom_4 : decode cX3_firstFrom 4 = .ok (.getfield 15, 3) := by decide +kernel
theorem dX3_firstFrom_7 : decode cX3_firstFrom 7 = .ok (.if_icmp .ge 18, 3) := by decide +kernel
theorem dX3_firstFrom_10 : decode cX3_firstFrom 10 = .ok (.aload_n 0, 1) := by decide +kernel
theorem dX3_firstFrom_11 : decode cX3_firstFrom 11 = .ok (.iload_n 2, 1) := by decide +kernel
theorem dX3_firstFrom_12 : decode cX3_firstFrom 12 = .ok (.invokevirtual 39, 3) := by decide +kernel
theorem dX3_firstFrom_15 : decode cX3_firstFrom 15 = .ok (.iload_n 1, 1) := by decide +kernel
theorem dX3_firstFrom_16 : decode cX3_firstFrom 16 = .ok (.if_icmp .ge 9, 3) := by decide +kernel
theorem dX3_firstFrom_19 : decode cX3_firstFrom 19 = .ok (.iinc 2 1, 3) := by decide +kernel
theorem dX3_firstFrom_22 : decode cX3_firstFrom 22 = .ok (.goto (-20), 3) := by decide +kernel
theorem dX3_firstFrom_25 : decode cX3_firstFrom 25 = .ok (.iload_n 2, 1) := by decide +kernel
theorem dX3_firstFrom_26 : decode cX3_firstFrom 26 = .ok (.ireturn, 1) := by decide +kernel
theorem dX3_addRow_0 : decode cX3_addRow 0 = .ok (.aload_n 0, 1) := by decide +kernel
theorem dX3_addRow_1 : decode cX3_addRow 1 = .ok (.aload_n 0, 1) := by decide +kernel
theorem dX3_addRow_2 : decode cX3_addRow 2 = .ok (.getfield 22, 3) := by decide +kernel
theorem dX3_addRow_5 : decode cX3_addRow 5 = .ok (.iload_n 1, 1) := by decide +kernel
theorem dX3_addRow_6 : decode cX3_addRow 6 = .ok (.aload_n 0, 1) := by decide +kernel
theorem dX3_addRow_7 : decode cX3_addRow 7 = .ok (.getfield 26, 3) := by decide +kernel
theorem dX3_addRow_10 : decode cX3_addRow 10 = .ok (.invokevirtual 33, 3) := by decide +kernel
theorem dX3_addRow_13 : decode cX3_addRow 13 = .ok (.iconst 1, 1) := by decide +kernel
theorem dX3_addRow_14 : decode cX3_addRow 14 = .ok (.iadd, 1) := by decide +kernel
theorem dX3_addRow_15 : decode cX3_addRow 15 = .ok (.invokevirtual 42, 3) := by decide +kernel
theorem dX3_addRow_18 : decode cX3_addRow 18 = .ok (.istore_n 2, 1) := by decide +kernel
theorem dX3_addRow_19 : decode cX3_addRow 19 = .ok (.aload_n 0, 1) := by decide +kernel
theorem dX3_addRow_20 : decode cX3_addRow 20 = .ok (.getfield 15, 3) := by decide +kernel
theorem dX3_addRow_23 : decode cX3_addRow 23 = .ok (.ifCond .lt 15, 3) := by decide +kernel
theorem dX3_addRow_26 : decode cX3_addRow 26 = .ok (.aload_n 0, 1) := by decide +kernel
theorem dX3_addRow_27 : decode cX3_addRow 27 = .ok (.getfield 15, 3) := by decide +kernel
theorem dX3_addRow_30 : decode cX3_addRow 30 = .ok (.aload_n 0, 1) := by decide +kernel
theorem dX3_addRow_31 : decode cX3_addRow 31 = .ok (.getfield 9, 3) := by decide +kernel
theorem dX3_addRow_34 : decode cX3_addRow 34 = .ok (.arraylength, 1) := by decide +kernel
theorem dX3_addRow_35 : decode cX3_addRow 35 = .ok (.if_icmp .lt 4, 3) := by decide +kernel
theorem dX3_addRow_38 : decode cX3_addRow 38 = .ok (.return_, 1) := by decide +kernel
theorem dX3_addRow_39 : decode cX3_addRow 39 = .ok (.aload_n 0, 1) := by decide +kernel
theorem dX3_addRow_40 : decode cX3_addRow 40 = .ok (.getfield 15, 3) := by decide +kernel
theorem dX3_addRow_43 : decode cX3_addRow 43 = .ok (.istore_n 3, 1) := by decide +kernel
theorem dX3_addRow_44 : decode cX3_addRow 44 = .ok (.iload_n 3, 1) := by decide +kernel
theorem dX3_addRow_45 : decode cX3_addRow 45 = .ok (.iload_n 2, 1) := by decide +kernel
theorem dX3_addRow_46 : decode cX3_addRow 46 = .ok (.if_icmp .le 27, 3) := by decide +kernel
theorem dX3_addRow_49 : decode cX3_addRow 49 = .ok (.iload_n 3, 1) := by decide +kernel
theorem dX3_addRow_50 : decode cX3_addRow 50 = .ok (.ifCond .le 23, 3) := by decide +kernel
theorem dX3_addRow_53 : decode cX3_addRow 53 = .ok (.aload_n 0, 1) := by decide +kernel
theorem dX3_addRow_54 : decode cX3_addRow 54 = .ok (.getfield 9, 3) := by decide +kernel
theorem dX3_addRow_57 : decode cX3_addRow 57 = .ok (.iload_n 3, 1) := by decide +kernel
theorem dX3_addRow_58 : decode cX3_addRow 58 = .ok (.aload_n 0, 1) := by decide +kernel
theorem dX3_addRow_59 : decode cX3_addRow 59 = .ok (.getfield 9, 3) := by decide +kernel
theorem dX3_addRow_62 : decode cX3_addRow 62 = .ok (.iload_n 3, 1) := by decide +kernel
theorem dX3_addRow_63 : decode cX3_addRow 63 = .ok (.iconst 1, 1) := by decide +kernel
theorem dX3_addRow_64 : decode cX3_addRow 64 = .ok (.isub, 1) := by decide +kernel
theorem dX3_addRow_65 : decode cX3_addRow 65 = .ok (.iaload, 1) := by decide +kernel
theorem dX3_addRow_66 : decode cX3_addRow 66 = .ok (.iastore, 1) := by decide +kernel
theorem dX3_addRow_67 : decode cX3_addRow 67 = .ok (.iinc 3 (-1), 3) := by decide +kernel
theorem dX3_addRow_70 : decode cX3_addRow 70 = .ok (.goto (-26), 3) := by decide +kernel
theorem dX3_addRow_73 : decode cX3_addRow 73 = .ok (.iload_n 2, 1) := by decide +kernel
theorem dX3_addRow_74 : decode cX3_addRow 74 = .ok (.ifCond .lt 29, 3) := by decide +kernel
theorem dX3_addRow_77 : decode cX3_addRow 77 = .ok (.iload_n 2, 1) := by decide +kernel
theorem dX3_addRow_78 : decode cX3_addRow 78 = .ok (.aload_n 0, 1) := by decide +kernel
theorem dX3_addRow_79 : decode cX3_addRow 79 = .ok (.getfield 9, 3) := by decide +kernel
theorem dX3_addRow_82 : decode cX3_addRow 82 = .ok (.arraylength, 1) := by decide +kernel
theorem dX3_addRow_83 : decode cX3_addRow 83 = .ok (.if_icmp .ge 20, 3) := by decide +kernel
theorem dX3_addRow_86 : decode cX3_addRow 86 = .ok (.aload_n 0, 1) := by decide +kernel
theorem dX3_addRow_87 : decode cX3_addRow 87 = .ok (.getfield 9, 3) := by decide +kernel
theorem dX3_addRow_90 : decode cX3_addRow 90 = .ok (.iload_n 2, 1) := by decide +kernel
theorem dX3_addRow_91 : decode cX3_addRow 91 = .ok (.iload_n 1, 1) := by decide +kernel
theorem dX3_addRow_92 : decode cX3_addRow 92 = .ok (.iastore, 1) := by decide +kernel
theorem dX3_addRow_93 : decode cX3_addRow 93 = .ok (.aload_n 0, 1) := by decide +kernel
theorem dX3_addRow_94 : decode cX3_addRow 94 = .ok (.dup, 1) := by decide +kernel
theorem dX3_addRow_95 : decode cX3_addRow 95 = .ok (.getfield 15, 3) := by decide +kernel
theorem dX3_addRow_98 : decode cX3_addRow 98 = .ok (.iconst 1, 1) := by decide +kernel
theorem dX3_addRow_99 : decode cX3_addRow 99 = .ok (.iadd, 1) := by decide +kernel
theorem dX3_addRow_100 : decode cX3_addRow 100 = .ok (.putfield 15, 3) := by decide +kernel
theorem dX3_addRow_103 : decode cX3_addRow 103 = .ok (.return_, 1) := by decide +kernel
theorem dX3_dropRow_0 : decode cX3_dropRow 0 = .ok (.iconst 0, 1) := by decide +kernel
theorem dX3_dropRow_1 : decode cX3_dropRow 1 = .ok (.istore_n 2, 1) := by decide +kernel
theorem dX3_dropRow_2 : decode cX3_dropRow 2 = .ok (.iconst 0, 1) := by decide +kernel
theorem dX3_dropRow_3 : decode cX3_dropRow 3 = .ok (.istore_n 3, 1) := by decide +kernel
theorem dX3_dropRow_4 : decode cX3_dropRow 4 = .ok (.iload_n 3, 1) := by decide +kernel
theorem dX3_dropRow_5 : decode cX3_dropRow 5 = .ok (.aload_n 0, 1) := by decide +kernel
theorem dX3_dropRow_6 : decode cX3_dropRow 6 = .ok (.getfield 15, 3) := by decide +kernel
theorem dX3_dropRow_9 : decode cX3_dropRow 9 = .ok (.if_icmp .ge 52, 3) := by decide +kernel
theorem dX3_dropRow_12 : decode cX3_dropRow 12 = .ok (.iload_n 3, 1) := by decide +kernel
theorem dX3_dropRow_13 : decode cX3_dropRow 13 = .ok (.aload_n 0, 1) := by decide +kernel
theorem dX3_dropRow_14 : decode cX3_dropRow 14 = .ok (.getfield 9, 3) := by decide +kernel
theorem dX3_dropRow_17 : decode cX3_dropRow 17 = .ok (.arraylength, 1) := by decide +kernel
theorem dX3_dropRow_18 : decode cX3_dropRow 18 = .ok (.if_icmp .ge 43, 3) := by decide +kernel
theorem dX3_dropRow_21 : decode cX3_dropRow 21 = .ok (.aload_n 0, 1) := by decide +kernel
theorem dX3_dropRow_22 : decode cX3_dropRow 22 = .ok (.getfield 9, 3) := by decide +kernel
theorem dX3_dropRow_25 : decode cX3_dropRow 25 = .ok (.iload_n 3, 1) := by decide +kernel
theorem dX3_dropRow_26 : decode cX3_dropRow 26 = .ok (.iaload, 1) := by decide +kernel
theorem dX3_dropRow_27 : decode cX3_dropRow 27 = .ok (.iload_n 1, 1) := by decide +kernel
theorem dX3_dropRow_28 : decode cX3_dropRow 28 = .ok (.if_icmp .eq 27, 3) := by decide +kernel
theorem dX3_dropRow_31 : decode cX3_dropRow 31 = .ok (.iload_n 2, 1) := by decide +kernel
theorem dX3_dropRow_32 : decode cX3_dropRow 32 = .ok (.aload_n 0, 1) := by decide +kernel
theorem dX3_dropRow_33 : decode cX3_dropRow 33 = .ok (.getfield 9, 3) := by decide +kernel
theorem dX3_dropRow_36 : decode cX3_dropRow 36 = .ok (.arraylength, 1) := by decide +kernel
theorem dX3_dropRow_37 : decode cX3_dropRow 37 = .ok (.if_icmp .ge 18, 3) := by decide +kernel
theorem dX3_dropRow_40 : decode cX3_dropRow 40 = .ok (.aload_n 0, 1) := by decide +kernel
theorem dX3_dropRow_41 : decode cX3_dropRow 41 = .ok (.getfield 9, 3) := by decide +kernel
theorem dX3_dropRow_44 : decode cX3_dropRow 44 = .ok (.iload_n 2, 1) := by decide +kernel
theorem dX3_dropRow_45 : decode cX3_dropRow 45 = .ok (.aload_n 0, 1) := by decide +kernel
theorem dX3_dropRow_46 : decode cX3_dropRow 46 = .ok (.getfield 9, 3) := by decide +kernel
theorem dX3_dropRow_49 : decode cX3_dropRow 49 = .ok (.iload_n 3, 1) := by decide +kernel
theorem dX3_dropRow_50 : decode cX3_dropRow 50 = .ok (.iaload, 1) := by decide +kernel
theorem dX3_dropRow_51 : decode cX3_dropRow 51 = .ok (.iastore, 1) := by decide +kernel
theorem dX3_dropRow_52 : decode cX3_dropRow 52 = .ok (.iinc 2 1, 3) := by decide +kernel
theorem dX3_dropRow_55 : decode cX3_dropRow 55 = .ok (.iinc 3 1, 3) := by decide +kernel
theorem dX3_dropRow_58 : decode cX3_dropRow 58 = .ok (.goto (-54), 3) := by decide +kernel
theorem dX3_dropRow_61 : decode cX3_dropRow 61 = .ok (.aload_n 0, 1) := by decide +kernel
theorem dX3_dropRow_62 : decode cX3_dropRow 62 = .ok (.iload_n 2, 1) := by decide +kernel
theorem dX3_dropRow_63 : decode cX3_dropRow 63 = .ok (.putfield 15, 3) := by decide +kernel
theorem dX3_dropRow_66 : decode cX3_dropRow 66 = .ok (.return_, 1) := by decide +kernel
theorem dX3_rises_0 : decode cX3_rises 0 = .ok (.aload_n 0, 1) := by decide +kernel
theorem dX3_rises_1 : decode cX3_rises 1 = .ok (.getfield 15, 3) := by decide +kernel
theorem dX3_rises_4 : decode cX3_rises 4 = .ok (.aload_n 0, 1) := by decide +kernel
theorem dX3_rises_5 : decode cX3_rises 5 = .ok (.getfield 22, 3) := by decide +kernel
theorem dX3_rises_8 : decode cX3_rises 8 = .ok (.invokevirtual 45, 3) := by decide +kernel
theorem dX3_rises_11 : decode cX3_rises 11 = .ok (.if_icmp .ne 7, 3) := by decide +kernel
theorem dX3_rises_14 : decode cX3_rises 14 = .ok (.iconst 1, 1) := by decide +kernel
theorem dX3_rises_15 : decode cX3_rises 15 = .ok (.goto 4, 3) := by decide +kernel
theorem dX3_rises_18 : decode cX3_rises 18 = .ok (.iconst 0, 1) := by decide +kernel
theorem dX3_rises_19 : decode cX3_rises 19 = .ok (.istore_n 1, 1) := by decide +kernel
theorem dX3_rises_20 : decode cX3_rises 20 = .ok (.iconst 0, 1) := by decide +kernel
theorem dX3_rises_21 : decode cX3_rises 21 = .ok (.istore_n 2, 1) := by decide +kernel
theorem dX3_rises_22 : decode cX3_rises 22 = .ok (.iload_n 1, 1) := by decide +kernel
theorem dX3_rises_23 : decode cX3_rises 23 = .ok (.ifCond .eq 75, 3) := by decide +kernel
theorem dX3_rises_26 : decode cX3_rises 26 = .ok (.iload_n 2, 1) := by decide +kernel
theorem dX3_rises_27 : decode cX3_rises 27 = .ok (.aload_n 0, 1) := by decide +kernel
theorem dX3_rises_28 : decode cX3_rises 28 = .ok (.getfield 15, 3) := by decide +kernel
theorem dX3_rises_31 : decode cX3_rises 31 = .ok (.if_icmp .ge 67, 3) := by decide +kernel
theorem dX3_rises_34 : decode cX3_rises 34 = .ok (.aload_n 0, 1) := by decide +kernel
theorem dX3_rises_35 : decode cX3_rises 35 = .ok (.iload_n 2, 1) := by decide +kernel
theorem dX3_rises_36 : decode cX3_rises 36 = .ok (.invokevirtual 39, 3) := by decide +kernel
theorem dX3_rises_39 : decode cX3_rises 39 = .ok (.aload_n 0, 1) := by decide +kernel
theorem dX3_rises_40 : decode cX3_rises 40 = .ok (.iload_n 2, 1) := by decide +kernel
theorem dX3_rises_41 : decode cX3_rises 41 = .ok (.iconst 1, 1) := by decide +kernel
theorem dX3_rises_42 : decode cX3_rises 42 = .ok (.isub, 1) := by decide +kernel
theorem dX3_rises_43 : decode cX3_rises 43 = .ok (.invokevirtual 39, 3) := by decide +kernel
theorem dX3_rises_46 : decode cX3_rises 46 = .ok (.isub, 1) := by decide +kernel
theorem dX3_rises_47 : decode cX3_rises 47 = .ok (.istore_n 3, 1) := by decide +kernel
theorem dX3_rises_48 : decode cX3_rises 48 = .ok (.aload_n 0, 1) := by decide +kernel
theorem dX3_rises_49 : decode cX3_rises 49 = .ok (.getfield 22, 3) := by decide +kernel
theorem dX3_rises_52 : decode cX3_rises 52 = .ok (.aload_n 0, 1) := by decide +kernel
theorem dX3_rises_53 : decode cX3_rises 53 = .ok (.iload_n 2, 1) := by decide +kernel
theorem dX3_rises_54 : decode cX3_rises 54 = .ok (.invokevirtual 29, 3) := by decide +kernel
theorem dX3_rises_57 : decode cX3_rises 57 = .ok (.invokevirtual 49, 3) := by decide +kernel
theorem dX3_rises_60 : decode cX3_rises 60 = .ok (.ifCond .eq 30, 3) := by decide +kernel
theorem dX3_rises_63 : decode cX3_rises 63 = .ok (.iload_n 3, 1) := by decide +kernel
theorem dX3_rises_64 : decode cX3_rises 64 = .ok (.ifCond .gt 22, 3) := by decide +kernel
theorem dX3_rises_67 : decode cX3_rises 67 = .ok (.iload_n 3, 1) := by decide +kernel
theorem dX3_rises_68 : decode cX3_rises 68 = .ok (.ifCond .ne 22, 3) := by decide +kernel
theorem dX3_rises_71 : decode cX3_rises 71 = .ok (.aload_n 0, 1) := by decide +kernel
theorem dX3_rises_72 : decode cX3_rises 72 = .ok (.iload_n 2, 1) := by decide +kernel
theorem dX3_rises_73 : decode cX3_rises 73 = .ok (.invokevirtual 29, 3) := by decide +kernel
theorem dX3_rises_76 : decode cX3_rises 76 = .ok (.aload_n 0, 1) := by decide +kernel
theorem dX3_rises_77 : decode cX3_rises 77 = .ok (.iload_n 2, 1) := by decide +kernel
theorem dX3_rises_78 : decode cX3_rises 78 = .ok (.iconst 1, 1) := by decide +kernel
theorem dX3_rises_79 : decode cX3_rises 79 = .ok (.isub, 1) := by decide +kernel
theorem dX3_rises_80 : decode cX3_rises 80 = .ok (.invokevirtual 29, 3) := by decide +kernel
theorem dX3_rises_83 : decode cX3_rises 83 = .ok (.if_icmp .le 7, 3) := by decide +kernel
theorem dX3_rises_86 : decode cX3_rises 86 = .ok (.iconst 1, 1) := by decide +kernel
theorem dX3_rises_87 : decode cX3_rises 87 = .ok (.goto 4, 3) := by decide +kernel
theorem dX3_rises_90 : decode cX3_rises 90 = .ok (.iconst 0, 1) := by decide +kernel
theorem dX3_rises_91 : decode cX3_rises 91 = .ok (.istore_n 1, 1) := by decide +kernel
theorem dX3_rises_92 : decode cX3_rises 92 = .ok (.iinc 2 1, 3) := by decide +kernel
theorem dX3_rises_95 : decode cX3_rises 95 = .ok (.goto (-73), 3) := by decide +kernel
theorem dX3_rises_98 : decode cX3_rises 98 = .ok (.iload_n 1, 1) := by decide +kernel
theorem dX3_rises_99 : decode cX3_rises 99 = .ok (.ireturn, 1) := by decide +kernel
theorem dX4_init_0 : decode cX4_init 0 = .ok (.aload_n 0, 1) := by decide +kernel
theorem dX4_init_1 : decode cX4_init 1 = .ok (.invokespecial 3, 3) := by decide +kernel
theorem dX4_init_4 : decode cX4_init 4 = .ok (.aload_n 0, 1) := by decide +kernel
theorem dX4_init_5 : decode cX4_init 5 = .ok (.iload_n 1, 1) := by decide +kernel
theorem dX4_init_6 : decode cX4_init 6 = .ok (.putfield 9, 3) := by decide +kernel
theorem dX4_init_9 : decode cX4_init 9 = .ok (.aload_n 0, 1) := by decide +kernel
theorem dX4_init_10 : decode cX4_init 10 = .ok (.iload_n 2, 1) := by decide +kernel
theorem dX4_init_11 : decode cX4_init 11 = .ok (.putfield 15, 3) := by decide +kernel
theorem dX4_init_14 : decode cX4_init 14 = .ok (.aload_n 0, 1) := by decide +kernel
theorem dX4_init_15 : decode cX4_init 15 = .ok (.iload_n 3, 1) := by decide +kernel
theorem dX4_init_16 : decode cX4_init 16 = .ok (.putfield 18, 3) := by decide +kernel
theorem dX4_init_19 : decode cX4_init 19 = .ok (.aload_n 0, 1) := by decide +kernel
theorem dX4_init_20 : decode cX4_init 20 = .ok (.iload 4, 2) := by decide +kernel
theorem dX4_init_22 : decode cX4_init 22 = .ok (.putfield 21, 3) := by decide +kernel
theorem dX4_init_25 : decode cX4_init 25 = .ok (.return_, 1) := by decide +kernel
theorem dX4_partnerOf_0 : decode cX4_partnerOf 0 = .ok (.iload_n 1, 1) := by decide +kernel
theorem dX4_partnerOf_1 : decode cX4_partnerOf 1 = .ok (.aload_n 0, 1) := by decide +kernel
theorem dX4_partnerOf_2 : decode cX4_partnerOf 2 = .ok (.getfield 9, 3) := by decide +kernel
theorem dX4_partnerOf_5 : decode cX4_partnerOf 5 = .ok (.if_icmp .ne 10, 3) := by decide +kernel
theorem dX4_partnerOf_8 : decode cX4_partnerOf 8 = .ok (.aload_n 0, 1) := by decide +kernel
theorem dX4_partnerOf_9 : decode cX4_partnerOf 9 = .ok (.getfield 18, 3) := by decide +kernel
theorem dX4_partnerOf_12 : decode cX4_partnerOf 12 = .ok (.goto 19, 3) := by decide +kernel
theorem dX4_partnerOf_15 : decode cX4_partnerOf 15 = .ok (.iload_n 1, 1) := by decide +kernel
theorem dX4_partnerOf_16 : decode cX4_partnerOf 16 = .ok (.aload_n 0, 1) := by decide +kernel
theorem dX4_partnerOf_17 : decode cX4_partnerOf 17 = .ok (.getfield 18, 3) := by decide +kernel
theorem dX4_partnerOf_20 : decode cX4_partnerOf 20 = .ok (.if_icmp .ne 10, 3) := by decide +kernel
theorem dX4_partnerOf_23 : decode cX4_partnerOf 23 = .ok (.aload_n 0, 1) := by decide +kernel
theorem dX4_partnerOf_24 : decode cX4_partnerOf 24 = .ok (.getfield 9, 3) := by decide +kernel
theorem dX4_partnerOf_27 : decode cX4_partnerOf 27 = .ok (.goto 4, 3) := by decide +kernel
theorem dX4_partnerOf_30 : decode cX4_partnerOf 30 = .ok (.iconst (-1), 1) := by decide +kernel
theorem dX4_partnerOf_31 : decode cX4_partnerOf 31 = .ok (.ireturn, 1) := by decide +kernel
theorem dX4_columnOf_0 : decode cX4_columnOf 0 = .ok (.iload_n 1, 1) := by decide +kernel
theorem dX4_columnOf_1 : decode cX4_columnOf 1 = .ok (.aload_n 0, 1) := by decide +kernel
theorem dX4_columnOf_2 : decode cX4_columnOf 2 = .ok (.getfield 9, 3) := by decide +kernel
theorem dX4_columnOf_5 : decode cX4_columnOf 5 = .ok (.if_icmp .ne 10, 3) := by decide +kernel
theorem dX4_columnOf_8 : decode cX4_columnOf 8 = .ok (.aload_n 0, 1) := by decide +kernel
theorem dX4_columnOf_9 : decode cX4_columnOf 9 = .ok (.getfield 15, 3) := by decide +kernel
theorem dX4_columnOf_12 : decode cX4_columnOf 12 = .ok (.goto 19, 3) := by decide +kernel
theorem dX4_columnOf_15 : decode cX4_columnOf 15 = .ok (.iload_n 1, 1) := by decide +kernel
theorem dX4_columnOf_16 : decode cX4_columnOf 16 = .ok (.aload_n 0, 1) := by decide +kernel
theorem dX4_columnOf_17 : decode cX4_columnOf 17 = .ok (.getfield 18, 3) := by decide +kernel
theorem dX4_columnOf_20 : decode cX4_columnOf 20 = .ok (.if_icmp .ne 10, 3) := by decide +kernel
theorem dX4_columnOf_23 : decode cX4_columnOf 23 = .ok (.aload_n 0, 1) := by decide +kernel
theorem dX4_columnOf_24 : decode cX4_columnOf 24 = .ok (.getfield 21, 3) := by decide +kernel
theorem dX4_columnOf_27 : decode cX4_columnOf 27 = .ok (.goto 4, 3) := by decide +kernel
theorem dX4_columnOf_30 : decode cX4_columnOf 30 = .ok (.iconst (-1), 1) := by decide +kernel
theorem dX4_columnOf_31 : decode cX4_columnOf 31 = .ok (.ireturn, 1) := by decide +kernel
theorem dX5_init_0 : decode cX5_init 0 = .ok (.aload_n 0, 1) := by decide +kernel
theorem dX5_init_1 : decode cX5_init 1 = .ok (.invokespecial 3, 3) := by decide +kernel
theorem dX5_init_4 : decode cX5_init 4 = .ok (.aload_n 0, 1) := by decide +kernel
theorem dX5_init_5 : decode cX5_init 5 = .ok (.iconst 0, 1) := by decide +kernel
theorem dX5_init_6 : decode cX5_init 6 = .ok (.putfield 9, 3) := by decide +kernel
theorem dX5_init_9 : decode cX5_init 9 = .ok (.aload_n 0, 1) := by decide +kernel
theorem dX5_init_10 : decode cX5_init 10 = .ok (.iconst 3, 1) := by decide +kernel
theorem dX5_init_11 : decode cX5_init 11 = .ok (.newarray .int, 2) := by decide +kernel
theorem dX5_init_13 : decode cX5_init 13 = .ok (.putfield 15, 3) := by decide +kernel
theorem dX5_init_16 : decode cX5_init 16 = .ok (.aload_n 0, 1) := by decide +kernel
theorem dX5_init_17 : decode cX5_init 17 = .ok (.iconst 3, 1) := by decide +kernel
theorem dX5_init_18 : decode cX5_init 18 = .ok (.newarray .int, 2) := by decide +kernel
theorem dX5_init_20 : decode cX5_init 20 = .ok (.putfield 19, 3) := by decide +kernel
theorem dX5_init_23 : decode cX5_init 23 = .ok (.aload_n 0, 1) := by decide +kernel
theorem dX5_init_24 : decode cX5_init 24 = .ok (.iconst 3, 1) := by decide +kernel
theorem dX5_init_25 : decode cX5_init 25 = .ok (.newarray .char, 2) := by decide +kernel
theorem dX5_init_27 : decode cX5_init 27 = .ok (.putfield 22, 3) := by decide +kernel
theorem dX5_init_30 : decode cX5_init 30 = .ok (.aload_n 0, 1) := by decide +kernel
theorem dX5_init_31 : decode cX5_init 31 = .ok (.iconst 3, 1) := by decide +kernel
theorem dX5_init_32 : decode cX5_init 32 = .ok (.newarray .int, 2) := by decide +kernel
theorem dX5_init_34 : decode cX5_init 34 = .ok (.putfield 26, 3) := by decide +kernel
theorem dX5_init_37 : decode cX5_init 37 = .ok (.aload_n 0, 1) := by decide +kernel
theorem dX5_init_38 : decode cX5_init 38 = .ok (.iconst 3, 1) := by decide +kernel
theorem dX5_init_39 : decode cX5_init 39 = .ok (.newarray .int, 2) := by decide +kernel
theorem dX5_init_41 : decode cX5_init 41 = .ok (.putfield 29, 3) := by decide +kernel
theorem dX5_init_44 : decode cX5_init 44 = .ok (.aload_n 0, 1) := by decide +kernel
theorem dX5_init_45 : decode cX5_init 45 = .ok (.lconst 0, 1) := by decide +kernel
theorem dX5_init_46 : decode cX5_init 46 = .ok (.putfield 32, 3) := by decide +kernel
theorem dX5_init_49 : decode cX5_init 49 = .ok (.return_, 1) := by decide +kernel
theorem dX5_size_0 : decode cX5_size 0 = .ok (.aload_n 0, 1) := by decide +kernel
theorem dX5_size_1 : decode cX5_size 1 = .ok (.getfield 9, 3) := by decide +kernel
theorem dX5_size_4 : decode cX5_size 4 = .ok (.ireturn, 1) := by decide +kernel
theorem dX5_guess_0 : decode cX5_guess 0 = .ok (.aload_n 0, 1) := by decide +kernel
theorem dX5_guess_1 : decode cX5_guess 1 = .ok (.getfield 32, 3) := by decide +kernel
theorem dX5_guess_4 : decode cX5_guess 4 = .ok (.lreturn, 1) := by decide +kernel
theorem dX5_setGuess_0 : decode cX5_setGuess 0 = .ok (.aload_n 0, 1) := by decide +kernel
theorem dX5_setGuess_1 : decode cX5_setGuess 1 = .ok (.lload_n 1, 1) := by decide +kernel
theorem dX5_setGuess_2 : decode cX5_setGuess 2 = .ok (.putfield 32, 3) := by decide +kernel
theorem dX5_setGuess_5 : decode cX5_setGuess 5 = .ok (.return_, 1) := by decide +kernel
theorem dX5_positionAt_0 : decode cX5_positionAt 0 = .ok (.iload_n 1, 1) := by decide +kernel
theorem dX5_positionAt_1 : decode cX5_positionAt 1 = .ok (.ifCond .lt 21, 3) := by decide +kernel
theorem dX5_positionAt_4 : decode cX5_positionAt 4 = .ok (.iload_n 1, 1) := by decide +kernel
theorem dX5_positionAt_5 : decode cX5_positionAt 5 = .ok (.aload_n 0, 1) := by decide +kernel
theorem dX5_positionAt_6 : decode cX5_positionAt 6 = .ok (.getfield 15, 3) := by decide +kernel
theorem dX5_positionAt_9 : decode cX5_positionAt 9 = .ok (.arraylength, 1) := by decide +kernel
theorem dX5_positionAt_10 : decode cX5_positionAt 10 = .ok (.if_icmp .ge 12, 3) := by decide +kernel
theorem dX5_positionAt_13 : decode cX5_positionAt 13 = .ok (.aload_n 0, 1) := by decide +kernel
theorem dX5_positionAt_14 : decode cX5_positionAt 14 = .ok (.getfield 15, 3) := by decide +kernel
theorem dX5_positionAt_17 : decode cX5_positionAt 17 = .ok (.iload_n 1, 1) := by decide +kernel
theorem dX5_positionAt_18 : decode cX5_positionAt 18 = .ok (.iaload, 1) := by decide +kernel
theorem dX5_positionAt_19 : decode cX5_positionAt 19 = .ok (.goto 4, 3) := by decide +kernel
theorem dX5_positionAt_22 : decode cX5_positionAt 22 = .ok (.iconst (-1), 1) := by decide +kernel
theorem dX5_positionAt_23 : decode cX5_positionAt 23 = .ok (.ireturn, 1) := by decide +kernel
theorem dX5_wayAt_0 : decode cX5_wayAt 0 = .ok (.iload_n 1, 1) := by decide +kernel
theorem dX5_wayAt_1 : decode cX5_wayAt 1 = .ok (.ifCond .lt 21, 3) := by decide +kernel
theorem dX5_wayAt_4 : decode cX5_wayAt 4 = .ok (.iload_n 1, 1) := by decide +kernel
theorem dX5_wayAt_5 : decode cX5_wayAt 5 = .ok (.aload_n 0, 1) := by decide +kernel
theorem dX5_wayAt_6 : decode cX5_wayAt 6 = .ok (.getfield 22, 3) := by decide +kernel
theorem dX5_wayAt_9 : decode cX5_wayAt 9 = .ok (.arraylength, 1) := by decide +kernel
theorem dX5_wayAt_10 : decode cX5_wayAt 10 = .ok (.if_icmp .ge 12, 3) := by decide +kernel
theorem dX5_wayAt_13 : decode cX5_wayAt 13 = .ok (.aload_n 0, 1) := by decide +kernel
theorem dX5_wayAt_14 : decode cX5_wayAt 14 = .ok (.getfield 22, 3) := by decide +kernel
theorem dX5_wayAt_17 : decode cX5_wayAt 17 = .ok (.iload_n 1, 1) := by decide +kernel
theorem dX5_wayAt_18 : decode cX5_wayAt 18 = .ok (.caload, 1) := by decide +kernel
theorem dX5_wayAt_19 : decode cX5_wayAt 19 = .ok (.goto 5, 3) := by decide +kernel
theorem dX5_wayAt_22 : decode cX5_wayAt 22 = .ok (.bipush 102, 2) := by decide +kernel
theorem dX5_wayAt_24 : decode cX5_wayAt 24 = .ok (.ireturn, 1) := by decide +kernel
theorem dX5_reasonAt_0 : decode cX5_reasonAt 0 = .ok (.iload_n 1, 1) := by decide +kernel
theorem dX5_reasonAt_1 : decode cX5_reasonAt 1 = .ok (.ifCond .lt 21, 3) := by decide +kernel
theorem dX5_reasonAt_4 : decode cX5_reasonAt 4 = .ok (.iload_n 1, 1) := by decide +kernel
theorem dX5_reasonAt_5 : decode cX5_reasonAt 5 = .ok (.aload_n 0, 1) := by decide +kernel
theorem dX5_reasonAt_6 : decode cX5_reasonAt 6 = .ok (.getfield 26, 3) := by decide +kernel
theorem dX5_reasonAt_9 : decode cX5_reasonAt 9 = .ok (.arraylength, 1) := by decide +kernel
theorem dX5_reasonAt_10 : decode cX5_reasonAt 10 = .ok (.if_icmp .ge 12, 3) := by decide +kernel
theorem dX5_reasonAt_13 : decode cX5_reasonAt 13 = .ok (.aload_n 0, 1) := by decide +kernel
theorem dX5_reasonAt_14 : decode cX5_reasonAt 14 = .ok (.getfield 26, 3) := by decide +kernel
theorem dX5_reasonAt_17 : decode cX5_reasonAt 17 = .ok (.iload_n 1, 1) := by decide +kernel
theorem dX5_reasonAt_18 : decode cX5_reasonAt 18 = .ok (.iaload, 1) := by decide +kernel
theorem dX5_reasonAt_19 : decode cX5_reasonAt 19 = .ok (.goto 4, 3) := by decide +kernel
theorem dX5_reasonAt_22 : decode cX5_reasonAt 22 = .ok (.iconst (-1), 1) := by decide +kernel
theorem dX5_reasonAt_23 : decode cX5_reasonAt 23 = .ok (.ireturn, 1) := by decide +kernel
theorem dX5_indexAt_0 : decode cX5_indexAt 0 = .ok (.iload_n 1, 1) := by decide +kernel
theorem dX5_indexAt_1 : decode cX5_indexAt 1 = .ok (.ifCond .lt 21, 3) := by decide +kernel
theorem dX5_indexAt_4 : decode cX5_indexAt 4 = .ok (.iload_n 1, 1) := by decide +kernel
theorem dX5_indexAt_5 : decode cX5_indexAt 5 = .ok (.aload_n 0, 1) := by decide +kernel
theorem dX5_indexAt_6 : decode cX5_indexAt 6 = .ok (.getfield 29, 3) := by decide +kernel
theorem dX5_indexAt_9 : decode cX5_indexAt 9 = .ok (.arraylength, 1) := by decide +kernel
theorem dX5_indexAt_10 : decode cX5_indexAt 10 = .ok (.if_icmp .ge 12, 3) := by decide +kernel
theorem dX5_indexAt_13 : decode cX5_indexAt 13 = .ok (.aload_n 0, 1) := by decide +kernel
theorem dX5_indexAt_14 : decode cX5_indexAt 14 = .ok (.getfield 29, 3) := by decide +kernel
theorem dX5_indexAt_17 : decode cX5_indexAt 17 = .ok (.iload_n 1, 1) := by decide +kernel
theorem dX5_indexAt_18 : decode cX5_indexAt 18 = .ok (.iaload, 1) := by decide +kernel
theorem dX5_indexAt_19 : decode cX5_indexAt 19 = .ok (.goto 4, 3) := by decide +kernel
theorem dX5_indexAt_22 : decode cX5_indexAt 22 = .ok (.iconst (-1), 1) := by decide +kernel
theorem dX5_indexAt_23 : decode cX5_indexAt 23 = .ok (.ireturn, 1) := by decide +kernel
theorem dX5_isAhead_0 : decode cX5_isAhead 0 = .ok (.iload_n 1, 1) := by decide +kernel
theorem dX5_isAhead_1 : decode cX5_isAhead 1 = .ok (.ifCond .lt 34, 3) := by decide +kernel
theorem dX5_isAhead_4 : decode cX5_isAhead 4 = .ok (.iload_n 1, 1) := by decide +kernel
theorem dX5_isAhead_5 : decode cX5_isAhead 5 = .ok (.aload_n 0, 1) := by decide +kernel
theorem dX5_isAhead_6 : decode cX5_isAhead 6 = .ok (.getfield 9, 3) := by decide +kernel
theorem dX5_isAhead_9 : decode cX5_isAhead 9 = .ok (.if_icmp .ge 26, 3) := by decide +kernel
theorem dX5_isAhead_12 : decode cX5_isAhead 12 = .ok (.iload_n 1, 1) := by decide +kernel
theorem dX5_isAhead_13 : decode cX5_isAhead 13 = .ok (.aload_n 0, 1) := by decide +kernel
theorem dX5_isAhead_14 : decode cX5_isAhead 14 = .ok (.getfield 19, 3) := by decide +kernel
theorem dX5_isAhead_17 : decode cX5_isAhead 17 = .ok (.arraylength, 1) := by decide +kernel
theorem dX5_isAhead_18 : decode cX5_isAhead 18 = .ok (.if_icmp .ge 17, 3) := by decide +kernel
theorem dX5_isAhead_21 : decode cX5_isAhead 21 = .ok (.aload_n 0, 1) := by decide +kernel
theorem dX5_isAhead_22 : decode cX5_isAhead 22 = .ok (.getfield 19, 3) := by decide +kernel
theorem dX5_isAhead_25 : decode cX5_isAhead 25 = .ok (.iload_n 1, 1) := by decide +kernel
theorem dX5_isAhead_26 : decode cX5_isAhead 26 = .ok (.iaload, 1) := by decide +kernel
theorem dX5_isAhead_27 : decode cX5_isAhead 27 = .ok (.iload_n 2, 1) := by decide +kernel
theorem dX5_isAhead_28 : decode cX5_isAhead 28 = .ok (.if_icmp .ge 7, 3) := by decide +kernel
theorem dX5_isAhead_31 : decode cX5_isAhead 31 = .ok (.iconst 1, 1) := by decide +kernel
theorem dX5_isAhead_32 : decode cX5_isAhead 32 = .ok (.goto 4, 3) := by decide +kernel
theorem dX5_isAhead_35 : decode cX5_isAhead 35 = .ok (.iconst 0, 1) := by decide +kernel
theorem dX5_isAhead_36 : decode cX5_isAhead 36 = .ok (.ireturn, 1) := by decide +kernel
theorem dX5_usesAnyOf_0 : decode cX5_usesAnyOf 0 = .ok (.iconst 0, 1) := by decide +kernel
theorem dX5_usesAnyOf_1 : decode cX5_usesAnyOf 1 = .ok (.istore_n 2, 1) := by decide +kernel
theorem dX5_usesAnyOf_2 : decode cX5_usesAnyOf 2 = .ok (.iload_n 2, 1) := by decide +kernel
theorem dX5_usesAnyOf_3 : decode cX5_usesAnyOf 3 = .ok (.aload_n 0, 1) := by decide +kernel
theorem dX5_usesAnyOf_4 : decode cX5_usesAnyOf 4 = .ok (.getfield 9, 3) := by decide +kernel
theorem dX5_usesAnyOf_7 : decode cX5_usesAnyOf 7 = .ok (.if_icmp .ge 23, 3) := by decide +kernel
theorem dX5_usesAnyOf_10 : decode cX5_usesAnyOf 10 = .ok (.iload_n 1, 1) := by decide +kernel
theorem dX5_usesAnyOf_11 : decode cX5_usesAnyOf 11 = .ok (.aload_n 0, 1) := by decide +kernel
theorem dX5_usesAnyOf_12 : decode cX5_usesAnyOf 12 = .ok (.iload_n 2, 1) := by decide +kernel
theorem dX5_usesAnyOf_13 : decode cX5_usesAnyOf 13 = .ok (.invokevirtual 36, 3) := by decide +kernel
theorem dX5_usesAnyOf_16 : decode cX5_usesAnyOf 16 = .ok (.invokestatic 40, 3) := by decide +kernel
theorem dX5_usesAnyOf_19 : decode cX5_usesAnyOf 19 = .ok (.ifCond .eq 5, 3) := by decide +kernel
theorem dX5_usesAnyOf_22 : decode cX5_usesAnyOf 22 = .ok (.iconst 1, 1) := by decide +kernel
theorem dX5_usesAnyOf_23 : decode cX5_usesAnyOf 23 = .ok (.ireturn, 1) := by decide +kernel
theorem dX5_usesAnyOf_24 : decode cX5_usesAnyOf 24 = .ok (.iinc 2 1, 3) := by decide +kernel
theorem dX5_usesAnyOf_27 : decode cX5_usesAnyOf 27 = .ok (.goto (-25), 3) := by decide +kernel
theorem dX5_usesAnyOf_30 : decode cX5_usesAnyOf 30 = .ok (.iconst 0, 1) := by decide +kernel
theorem dX5_usesAnyOf_31 : decode cX5_usesAnyOf 31 = .ok (.ireturn, 1) := by decide +kernel
theorem dX5_setWay_0 : decode cX5_setWay 0 = .ok (.iload_n 1, 1) := by decide +kernel
theorem dX5_setWay_1 : decode cX5_setWay 1 = .ok (.ifCond .lt 30, 3) := by decide +kernel
theorem dX5_setWay_4 : decode cX5_setWay 4 = .ok (.iload_n 1, 1) := by decide +kernel
theorem dX5_setWay_5 : decode cX5_setWay 5 = .ok (.iconst 3, 1) := by decide +kernel
theorem dX5_setWay_6 : decode cX5_setWay 6 = .ok (.if_icmp .ge 25, 3) := by decide +kernel
theorem dX5_setWay_9 : decode cX5_setWay 9 = .ok (.aload_n 0, 1) := by decide +kernel
theorem dX5_setWay_10 : decode cX5_setWay 10 = .ok (.getfield 22, 3) := by decide +kernel
theorem dX5_setWay_13 : decode cX5_setWay 13 = .ok (.iload_n 1, 1) := by decide +kernel
theorem dX5_setWay_14 : decode cX5_setWay 14 = .ok (.iload_n 2, 1) := by decide +kernel
theorem dX5_setWay_15 : decode cX5_setWay 15 = .ok (.castore, 1) := by decide +kernel
theorem dX5_setWay_16 : decode cX5_setWay 16 = .ok (.aload_n 0, 1) := by decide +kernel
theorem dX5_setWay_17 : decode cX5_setWay 17 = .ok (.getfield 26, 3) := by decide +kernel
theorem dX5_setWay_20 : decode cX5_setWay 20 = .ok (.iload_n 1, 1) := by decide +kernel
theorem dX5_setWay_21 : decode cX5_setWay 21 = .ok (.iload_n 3, 1) := by decide +kernel
theorem dX5_setWay_22 : decode cX5_setWay 22 = .ok (.iastore, 1) := by decide +kernel
theorem dX5_setWay_23 : decode cX5_setWay 23 = .ok (.aload_n 0, 1) := by decide +kernel
theorem dX5_setWay_24 : decode cX5_setWay 24 = .ok (.getfield 29, 3) := by decide +kernel
theorem dX5_setWay_27 : decode cX5_setWay 27 = .ok (.iload_n 1, 1) := by decide +kernel
theorem dX5_setWay_28 : decode cX5_setWay 28 = .ok (.iload 4, 2) := by decide +kernel
theorem dX5_setWay_30 : decode cX5_setWay 30 = .ok (.iastore, 1) := by decide +kernel
theorem dX5_setWay_31 : decode cX5_setWay 31 = .ok (.return_, 1) := by decide +kernel
theorem dX5_takeOrder_0 : decode cX5_takeOrder 0 = .ok (.aload_n 0, 1) := by decide +kernel
theorem dX5_takeOrder_1 : decode cX5_takeOrder 1 = .ok (.iload_n 2, 1) := by decide +kernel
theorem dX5_takeOrder_2 : decode cX5_takeOrder 2 = .ok (.putfield 9, 3) := by decide +kernel
theorem dX5_takeOrder_5 : decode cX5_takeOrder 5 = .ok (.iconst 0, 1) := by decide +kernel
theorem dX5_takeOrder_6 : decode cX5_takeOrder 6 = .ok (.istore_n 3, 1) := by decide +kernel
theorem dX5_takeOrder_7 : decode cX5_takeOrder 7 = .ok (.iload_n 3, 1) := by decide +kernel
theorem dX5_takeOrder_8 : decode cX5_takeOrder 8 = .ok (.iconst 3, 1) := by decide +kernel
theorem dX5_takeOrder_9 : decode cX5_takeOrder 9 = .ok (.if_icmp .ge 91, 3) := by decide +kernel
theorem dX5_takeOrder_12 : decode cX5_takeOrder 12 = .ok (.iload_n 1, 1) := by decide +kernel
theorem dX5_takeOrder_13 : decode cX5_takeOrder 13 = .ok (.iconst 3, 1) := by decide +kernel
theorem dX5_takeOrder_14 : decode cX5_takeOrder 14 = .ok (.imul, 1) := by decide +kernel
theorem dX5_takeOrder_15 : decode cX5_takeOrder 15 = .ok (.iload_n 3, 1) := by decide +kernel
theorem dX5_takeOrder_16 : decode cX5_takeOrder 16 = .ok (.iadd, 1) := by decide +kernel
theorem dX5_takeOrder_17 : decode cX5_takeOrder 17 = .ok (.istore 4, 2) := by decide +kernel
theorem dX5_takeOrder_19 : decode cX5_takeOrder 19 = .ok (.iload 4, 2) := by decide +kernel
theorem dX5_takeOrder_21 : decode cX5_takeOrder 21 = .ok (.ifCond .lt 21, 3) := by decide +kernel
theorem dX5_takeOrder_24 : decode cX5_takeOrder 24 = .ok (.iload 4, 2) := by decide +kernel
theorem dX5_takeOrder_26 : decode cX5_takeOrder 26 = .ok (.getstatic 44, 3) := by decide +kernel
theorem dX5_takeOrder_29 : decode cX5_takeOrder 29 = .ok (.arraylength, 1) := by decide +kernel
theorem dX5_takeOrder_30 : decode cX5_takeOrder 30 = .ok (.if_icmp .ge 12, 3) := by decide +kernel
theorem dX5_takeOrder_33 : decode cX5_takeOrder 33 = .ok (.getstatic 44, 3) := by decide +kernel
theorem dX5_takeOrder_36 : decode cX5_takeOrder 36 = .ok (.iload 4, 2) := by decide +kernel
theorem dX5_takeOrder_38 : decode cX5_takeOrder 38 = .ok (.iaload, 1) := by decide +kernel
theorem dX5_takeOrder_39 : decode cX5_takeOrder 39 = .ok (.goto 4, 3) := by decide +kernel
theorem dX5_takeOrder_42 : decode cX5_takeOrder 42 = .ok (.iload_n 3, 1) := by decide +kernel
theorem dX5_takeOrder_43 : decode cX5_takeOrder 43 = .ok (.istore 5, 2) := by decide +kernel
theorem dX5_takeOrder_45 : decode cX5_takeOrder 45 = .ok (.iload_n 3, 1) := by decide +kernel
theorem dX5_takeOrder_46 : decode cX5_takeOrder 46 = .ok (.iload_n 2, 1) := by decide +kernel
theorem dX5_takeOrder_47 : decode cX5_takeOrder 47 = .ok (.if_icmp .lt 9, 3) := by decide +kernel
theorem dX5_takeOrder_50 : decode cX5_takeOrder 50 = .ok (.iload 5, 2) := by decide +kernel
theorem dX5_takeOrder_52 : decode cX5_takeOrder 52 = .ok (.iload_n 3, 1) := by decide +kernel
theorem dX5_takeOrder_53 : decode cX5_takeOrder 53 = .ok (.if_icmp .ne 14, 3) := by decide +kernel
theorem dX5_takeOrder_56 : decode cX5_takeOrder 56 = .ok (.iload 5, 2) := by decide +kernel
theorem dX5_takeOrder_58 : decode cX5_takeOrder 58 = .ok (.ifCond .lt 9, 3) := by decide +kernel
theorem dX5_takeOrder_61 : decode cX5_takeOrder 61 = .ok (.iload 5, 2) := by decide +kernel
theorem dX5_takeOrder_63 : decode cX5_takeOrder 63 = .ok (.iconst 3, 1) := by decide +kernel
theorem dX5_takeOrder_64 : decode cX5_takeOrder 64 = .ok (.if_icmp .lt 5, 3) := by decide +kernel
theorem dX5_takeOrder_67 : decode cX5_takeOrder 67 = .ok (.iconst 0, 1) := by decide +kernel
theorem dX5_takeOrder_68 : decode cX5_takeOrder 68 = .ok (.ireturn, 1) := by decide +kernel
theorem dX5_takeOrder_69 : decode cX5_takeOrder 69 = .ok (.aload_n 0, 1) := by decide +kernel
theorem dX5_takeOrder_70 : decode cX5_takeOrder 70 = .ok (.getfield 15, 3) := by decide +kernel
theorem dX5_takeOrder_73 : decode cX5_takeOrder 73 = .ok (.iload_n 3, 1) := by decide +kernel
theorem dX5_takeOrder_74 : decode cX5_takeOrder 74 = .ok (.iload 5, 2) := by decide +kernel
theorem dX5_takeOrder_76 : decode cX5_takeOrder 76 = .ok (.iastore, 1) := by decide +kernel
theorem dX5_takeOrder_77 : decode cX5_takeOrder 77 = .ok (.aload_n 0, 1) := by decide +kernel
theorem dX5_takeOrder_78 : decode cX5_takeOrder 78 = .ok (.getfield 19, 3) := by decide +kernel
theorem dX5_takeOrder_81 : decode cX5_takeOrder 81 = .ok (.iload 5, 2) := by decide +kernel
theorem dX5_takeOrder_83 : decode cX5_takeOrder 83 = .ok (.iload_n 3, 1) := by decide +kernel
theorem dX5_takeOrder_84 : decode cX5_takeOrder 84 = .ok (.iastore, 1) := by decide +kernel
theorem dX5_takeOrder_85 : decode cX5_takeOrder 85 = .ok (.aload_n 0, 1) := by decide +kernel
theorem dX5_takeOrder_86 : decode cX5_takeOrder 86 = .ok (.iload_n 3, 1) := by decide +kernel
theorem dX5_takeOrder_87 : decode cX5_takeOrder 87 = .ok (.bipush 102, 2) := by decide +kernel
theorem dX5_takeOrder_89 : decode cX5_takeOrder 89 = .ok (.iconst (-1), 1) := by decide +kernel
theorem dX5_takeOrder_90 : decode cX5_takeOrder 90 = .ok (.iconst (-1), 1) := by decide +kernel
theorem dX5_takeOrder_91 : decode cX5_takeOrder 91 = .ok (.invokevirtual 47, 3) := by decide +kernel
theorem dX5_takeOrder_94 : decode cX5_takeOrder 94 = .ok (.iinc 3 1, 3) := by decide +kernel
theorem dX5_takeOrder_97 : decode cX5_takeOrder 97 = .ok (.goto (-90), 3) := by decide +kernel
theorem dX5_takeOrder_100 : decode cX5_takeOrder 100 = .ok (.iconst 1, 1) := by decide +kernel
theorem dX5_takeOrder_101 : decode cX5_takeOrder 101 = .ok (.ireturn, 1) := by decide +kernel
theorem dX5_copyFrom_0 : decode cX5_copyFrom 0 = .ok (.aload_n 0, 1) := by decide +kernel
theorem dX5_copyFrom_1 : decode cX5_copyFrom 1 = .ok (.aload_n 1, 1) := by decide +kernel
theorem dX5_copyFrom_2 : decode cX5_copyFrom 2 = .ok (.invokevirtual 51, 3) := by decide +kernel
theorem dX5_copyFrom_5 : decode cX5_copyFrom 5 = .ok (.putfield 9, 3) := by decide +kernel
theorem dX5_copyFrom_8 : decode cX5_copyFrom 8 = .ok (.aload_n 0, 1) := by decide +kernel
theorem dX5_copyFrom_9 : decode cX5_copyFrom 9 = .ok (.aload_n 1, 1) := by decide +kernel
theorem dX5_copyFrom_10 : decode cX5_copyFrom 10 = .ok (.invokevirtual 54, 3) := by decide +kernel
theorem dX5_copyFrom_13 : decode cX5_copyFrom 13 = .ok (.putfield 32, 3) := by decide +kernel
theorem dX5_copyFrom_16 : decode cX5_copyFrom 16 = .ok (.iconst 0, 1) := by decide +kernel
theorem dX5_copyFrom_17 : decode cX5_copyFrom 17 = .ok (.istore_n 2, 1) := by decide +kernel
theorem dX5_copyFrom_18 : decode cX5_copyFrom 18 = .ok (.iload_n 2, 1) := by decide +kernel
theorem dX5_copyFrom_19 : decode cX5_copyFrom 19 = .ok (.iconst 3, 1) := by decide +kernel
theorem dX5_copyFrom_20 : decode cX5_copyFrom 20 = .ok (.if_icmp .ge 58, 3) := by decide +kernel
theorem dX5_copyFrom_23 : decode cX5_copyFrom 23 = .ok (.aload_n 1, 1) := by decide +kernel
theorem dX5_copyFrom_24 : decode cX5_copyFrom 24 = .ok (.iload_n 2, 1) := by decide +kernel
theorem dX5_copyFrom_25 : decode cX5_copyFrom 25 = .ok (.invokevirtual 57, 3) := by decide +kernel
theorem dX5_copyFrom_28 : decode cX5_copyFrom 28 = .ok (.istore_n 3, 1) := by decide +kernel
theorem dX5_copyFrom_29 : decode cX5_copyFrom 29 = .ok (.iload_n 3, 1) := by decide +kernel
theorem dX5_copyFrom_30 : decode cX5_copyFrom 30 = .ok (.ifCond .lt 22, 3) := by decide +kernel
theorem dX5_copyFrom_33 : decode cX5_copyFrom 33 = .ok (.iload_n 3, 1) := by decide +kernel
theorem dX5_copyFrom_34 : decode cX5_copyFrom 34 = .ok (.iconst 3, 1) := by decide +kernel
theorem dX5_copyFrom_35 : decode cX5_copyFrom 35 = .ok (.if_icmp .ge 17, 3) := by decide +kernel
theorem dX5_copyFrom_38 : decode cX5_copyFrom 38 = .ok (.aload_n 0, 1) := by decide +kernel
theorem dX5_copyFrom_39 : decode cX5_copyFrom 39 = .ok (.getfield 15, 3) := by decide +kernel
theorem dX5_copyFrom_42 : decode cX5_copyFrom 42 = .ok (.iload_n 2, 1) := by decide +kernel
theorem dX5_copyFrom_43 : decode cX5_copyFrom 43 = .ok (.iload_n 3, 1) := by decide +kernel
theorem dX5_copyFrom_44 : decode cX5_copyFrom 44 = .ok (.iastore, 1) := by decide +kernel
theorem dX5_copyFrom_45 : decode cX5_copyFrom 45 = .ok (.aload_n 0, 1) := by decide +kernel
theorem dX5_copyFrom_46 : decode cX5_copyFrom 46 = .ok (.getfield 19, 3) := by decide +kernel
theorem dX5_copyFrom_49 : decode cX5_copyFrom 49 = .ok (.iload_n 3, 1) := by decide +kernel
theorem dX5_copyFrom_50 : decode cX5_copyFrom 50 = .ok (.iload_n 2, 1) := by decide +kernel
theorem dX5_copyFrom_51 : decode cX5_copyFrom 51 = .ok (.iastore, 1) := by decide +kernel
theorem dX5_copyFrom_52 : decode cX5_copyFrom 52 = .ok (.aload_n 0, 1) := by decide +kernel
theorem dX5_copyFrom_53 : decode cX5_copyFrom 53 = .ok (.iload_n 2, 1) := by decide +kernel
theorem dX5_copyFrom_54 : decode cX5_copyFrom 54 = .ok (.aload_n 1, 1) := by decide +kernel
theorem dX5_copyFrom_55 : decode cX5_copyFrom 55 = .ok (.iload_n 2, 1) := by decide +kernel
theorem dX5_copyFrom_56 : decode cX5_copyFrom 56 = .ok (.invokevirtual 60, 3) := by decide +kernel
theorem dX5_copyFrom_59 : decode cX5_copyFrom 59 = .ok (.aload_n 1, 1) := by decide +kernel
theorem dX5_copyFrom_60 : decode cX5_copyFrom 60 = .ok (.iload_n 2, 1) := by decide +kernel
theorem dX5_copyFrom_61 : decode cX5_copyFrom 61 = .ok (.invokevirtual 64, 3) := by decide +kernel
theorem dX5_copyFrom_64 : decode cX5_copyFrom 64 = .ok (.aload_n 1, 1) := by decide +kernel
theorem dX5_copyFrom_65 : decode cX5_copyFrom 65 = .ok (.iload_n 2, 1) := by decide +kernel
theorem dX5_copyFrom_66 : decode cX5_copyFrom 66 = .ok (.invokevirtual 36, 3) := by decide +kernel
theorem dX5_copyFrom_69 : decode cX5_copyFrom 69 = .ok (.invokevirtual 47, 3) := by decide +kernel
theorem dX5_copyFrom_72 : decode cX5_copyFrom 72 = .ok (.iinc 2 1, 3) := by decide +kernel
theorem dX5_copyFrom_75 : decode cX5_copyFrom 75 = .ok (.goto (-57), 3) := by decide +kernel
theorem dX5_copyFrom_78 : decode cX5_copyFrom 78 = .ok (.return_, 1) := by decide +kernel
theorem dX6_init_0 : decode cX6_init 0 = .ok (.aload_n 0, 1) := by decide +kernel
theorem dX6_init_1 : decode cX6_init 1 = .ok (.invokespecial 3, 3) := by decide +kernel
theorem dX6_init_4 : decode cX6_init 4 = .ok (.aload_n 0, 1) := by decide +kernel
theorem dX6_init_5 : decode cX6_init 5 = .ok (.new 9, 3) := by decide +kernel
theorem dX6_init_8 : decode cX6_init 8 = .ok (.dup, 1) := by decide +kernel
theorem dX6_init_9 : decode cX6_init 9 = .ok (.invokespecial 11, 3) := by decide +kernel
theorem dX6_init_12 : decode cX6_init 12 = .ok (.putfield 12, 3) := by decide +kernel
theorem dX6_init_15 : decode cX6_init 15 = .ok (.aload_n 0, 1) := by decide +kernel
theorem dX6_init_16 : decode cX6_init 16 = .ok (.iconst 4, 1) := by decide +kernel
theorem dX6_init_17 : decode cX6_init 17 = .ok (.newarray .int, 2) := by decide +kernel
theorem dX6_init_19 : decode cX6_init 19 = .ok (.putfield 18, 3) := by decide +kernel
theorem dX6_init_22 : decode cX6_init 22 = .ok (.aload_n 0, 1) := by decide +kernel
theorem dX6_init_23 : decode cX6_init 23 = .ok (.iconst 4, 1) := by decide +kernel
theorem dX6_init_24 : decode cX6_init 24 = .ok (.newarray .int, 2) := by decide +kernel
theorem dX6_init_26 : decode cX6_init 26 = .ok (.putfield 22, 3) := by decide +kernel
theorem dX6_init_29 : decode cX6_init 29 = .ok (.aload_n 0, 1) := by decide +kernel
theorem dX6_init_30 : decode cX6_init 30 = .ok (.iconst 4, 1) := by decide +kernel
theorem dX6_init_31 : decode cX6_init 31 = .ok (.newarray .int, 2) := by decide +kernel
theorem dX6_init_33 : decode cX6_init 33 = .ok (.putfield 25, 3) := by decide +kernel
theorem dX6_init_36 : decode cX6_init 36 = .ok (.aload_n 0, 1) := by decide +kernel
theorem dX6_init_37 : decode cX6_init 37 = .ok (.iconst 3, 1) := by decide +kernel
theorem dX6_init_38 : decode cX6_init 38 = .ok (.newarray .int, 2) := by decide +kernel
theorem dX6_init_40 : decode cX6_init 40 = .ok (.putfield 28, 3) := by decide +kernel
theorem dX6_init_43 : decode cX6_init 43 = .ok (.aload_n 0, 1) := by decide +kernel
theorem dX6_init_44 : decode cX6_init 44 = .ok (.bipush 9, 2) := by decide +kernel
theorem dX6_init_46 : decode cX6_init 46 = .ok (.newarray .int, 2) := by decide +kernel
theorem dX6_init_48 : decode cX6_init 48 = .ok (.putfield 31, 3) := by decide +kernel
theorem dX6_init_51 : decode cX6_init 51 = .ok (.aload_n 0, 1) := by decide +kernel
theorem dX6_init_52 : decode cX6_init 52 = .ok (.bipush 9, 2) := by decide +kernel
theorem dX6_init_54 : decode cX6_init 54 = .ok (.newarray .int, 2) := by decide +kernel
theorem dX6_init_56 : decode cX6_init 56 = .ok (.putfield 34, 3) := by decide +kernel
theorem dX6_init_59 : decode cX6_init 59 = .ok (.return_, 1) := by decide +kernel
theorem dX6_draw_0 : decode cX6_draw 0 = .ok (.aload_n 0, 1) := by decide +kernel
theorem dX6_draw_1 : decode cX6_draw 1 = .ok (.aload_n 3, 1) := by decide +kernel
theorem dX6_draw_2 : decode cX6_draw 2 = .ok (.aload 4, 2) := by decide +kernel
theorem dX6_draw_4 : decode cX6_draw 4 = .ok (.iload 5, 2) := by decide +kernel
theorem dX6_draw_6 : decode cX6_draw 6 = .ok (.invokevirtual 37, 3) := by decide +kernel
theorem dX6_draw_9 : decode cX6_draw 9 = .ok (.aload_n 0, 1) := by decide +kernel
theorem dX6_draw_10 : decode cX6_draw 10 = .ok (.aload_n 3, 1) := by decide +kernel
theorem dX6_draw_11 : decode cX6_draw 11 = .ok (.aload 4, 2) := by decide +kernel
theorem dX6_draw_13 : decode cX6_draw 13 = .ok (.iload 5, 2) := by decide +kernel
theorem dX6_draw_15 : decode cX6_draw 15 = .ok (.invokevirtual 41, 3) := by decide +kernel
theorem dX6_draw_18 : decode cX6_draw 18 = .ok (.iload_n 2, 1) := by decide +kernel
theorem dX6_draw_19 : decode cX6_draw 19 = .ok (.ifCond .ne 13, 3) := by decide +kernel
theorem dX6_draw_22 : decode cX6_draw 22 = .ok (.aload_n 0, 1) := by decide +kernel
theorem dX6_draw_23 : decode cX6_draw 23 = .ok (.aload_n 1, 1) := by decide +kernel
theorem dX6_draw_24 : decode cX6_draw 24 = .ok (.aload 4, 2) := by decide +kernel
theorem dX6_draw_26 : decode cX6_draw 26 = .ok (.invokevirtual 44, 3) := by decide +kernel
theorem dX6_draw_29 : decode cX6_draw 29 = .ok (.goto 10, 3) := by decide +kernel
theorem dX6_draw_32 : decode cX6_draw 32 = .ok (.aload_n 0, 1) := by decide +kernel
theorem dX6_draw_33 : decode cX6_draw 33 = .ok (.aload_n 1, 1) := by decide +kernel
theorem dX6_draw_34 : decode cX6_draw 34 = .ok (.aload 4, 2) := by decide +kernel
theorem dX6_draw_36 : decode cX6_draw 36 = .ok (.invokevirtual 48, 3) := by decide +kernel
theorem dX6_draw_39 : decode cX6_draw 39 = .ok (.return_, 1) := by decide +kernel
theorem dX6_takeConditions_0 : decode cX6_takeConditions 0 = .ok (.iconst 0, 1) := by decide +kernel
theorem dX6_takeConditions_1 : decode cX6_takeConditions 1 = .ok (.istore 4, 2) := by decide +kernel
theorem dX6_takeConditions_3 : decode cX6_takeConditions 3 = .ok (.iload 4, 2) := by decide +kernel
theorem dX6_takeConditions_5 : decode cX6_takeConditions 5 = .ok (.iconst 4, 1) := by decide +kernel
theorem dX6_takeConditions_6 : decode cX6_takeConditions 6 = .ok (.if_icmp .ge 108, 3) := by decide +kernel
theorem dX6_takeConditions_9 : decode cX6_takeConditions 9 = .ok (.aload_n 2, 1) := by decide +kernel
theorem dX6_takeConditions_10 : decode cX6_takeConditions 10 = .ok (.iload 4, 2) := by decide +kernel
theorem dX6_takeConditions_12 : decode cX6_takeConditions 12 = .ok (.invokevirtual 51, 3) := by decide +kernel
theorem dX6_takeConditions_15 : decode cX6_takeConditions 15 = .ok (.astore 5, 2) := by decide +kernel
theorem dX6_takeConditions_17 : decode cX6_takeConditions 17 = .ok (.aload 5, 2) := by decide +kernel
theorem dX6_takeConditions_19 : decode cX6_takeConditions 19 = .ok (.ifnonnull 7, 3) := by decide +kernel
theorem dX6_takeConditions_22 : decode cX6_takeConditions 22 = .ok (.aconst_null, 1) := by decide +kernel
theorem dX6_takeConditions_23 : decode cX6_takeConditions 23 = .ok (.goto 12, 3) := by decide +kernel
theorem dX6_takeConditions_26 : decode cX6_takeConditions 26 = .ok (.aload_n 2, 1) := by decide +kernel
theorem dX6_takeConditions_27 : decode cX6_takeConditions 27 = .ok (.aload 5, 2) := by decide +kernel
theorem dX6_takeConditions_29 : decode cX6_takeConditions 29 = .ok (.invokevirtual 57, 3) := by decide +kernel
theorem dX6_takeConditions_32 : decode cX6_takeConditions 32 = .ok (.invokevirtual 63, 3) := by decide +kernel
theorem dX6_takeConditions_35 : decode cX6_takeConditions 35 = .ok (.astore 6, 2) := by decide +kernel
theorem dX6_takeConditions_37 : decode cX6_takeConditions 37 = .ok (.aload_n 0, 1) := by decide +kernel
theorem dX6_takeConditions_38 : decode cX6_takeConditions 38 = .ok (.getfield 25, 3) := by decide +kernel
theorem dX6_takeConditions_41 : decode cX6_takeConditions 41 = .ok (.iload 4, 2) := by decide +kernel
theorem dX6_takeConditions_43 : decode cX6_takeConditions 43 = .ok (.iconst (-1), 1) := by decide +kernel
theorem dX6_takeConditions_44 : decode cX6_takeConditions 44 = .ok (.iastore, 1) := by decide +kernel
theorem dX6_takeConditions_45 : decode cX6_takeConditions 45 = .ok (.aload 6, 2) := by decide +kernel
theorem dX6_takeConditions_47 : decode cX6_takeConditions 47 = .ok (.ifnull 61, 3) := by decide +kernel
theorem dX6_takeConditions_50 : decode cX6_takeConditions 50 = .ok (.aload 6, 2) := by decide +kernel
theorem dX6_takeConditions_52 : decode cX6_takeConditions 52 = .ok (.aload 5, 2) := by decide +kernel
theorem dX6_takeConditions_54 : decode cX6_takeConditions 54 = .ok (.invokevirtual 67, 3) := by decide +kernel
theorem dX6_takeConditions_57 : decode cX6_takeConditions 57 = .ok (.istore 7, 2) := by decide +kernel
theorem dX6_takeConditions_59 : decode cX6_takeConditions 59 = .ok (.aload_n 0, 1) := by decide +kernel
theorem dX6_takeConditions_60 : decode cX6_takeConditions 60 = .ok (.getfield 18, 3) := by decide +kernel
theorem dX6_takeConditions_63 : decode cX6_takeConditions 63 = .ok (.iload 4, 2) := by decide +kernel
theorem dX6_takeConditions_65 : decode cX6_takeConditions 65 = .ok (.iload 7, 2) := by decide +kernel
theorem dX6_takeConditions_67 : decode cX6_takeConditions 67 = .ok (.iastore, 1) := by decide +kernel
theorem dX6_takeConditions_68 : decode cX6_takeConditions 68 = .ok (.aload_n 0, 1) := by decide +kernel
theorem dX6_takeConditions_69 : decode cX6_takeConditions 69 = .ok (.getfield 22, 3) := by decide +kernel
theorem dX6_takeConditions_72 : decode cX6_takeConditions 72 = .ok (.iload 4, 2) := by decide +kernel
theorem dX6_takeConditions_74 : decode cX6_takeConditions 74 = .ok (.iconst 1, 1) := by decide +kernel
theorem dX6_takeConditions_75 : decode cX6_takeConditions 75 = .ok (.aload 6, 2) := by decide +kernel
theorem dX6_takeConditions_77 : decode cX6_takeConditions 77 = .ok (.invokevirtual 73, 3) := by decide +kernel
theorem dX6_takeConditions_80 : decode cX6_takeConditions 80 = .ok (.iload 7, 2) := by decide +kernel
theorem dX6_takeConditions_82 : decode cX6_takeConditions 82 = .ok (.imul, 1) := by decide +kernel
theorem dX6_takeConditions_83 : decode cX6_takeConditions 83 = .ok (.sipush 1000, 3) := by decide +kernel
theorem dX6_takeConditions_86 : decode cX6_takeConditions 86 = .ok (.idiv, 1) := by decide +kernel
theorem dX6_takeConditions_87 : decode cX6_takeConditions 87 = .ok (.iadd, 1) := by decide +kernel
theorem dX6_takeConditions_88 : decode cX6_takeConditions 88 = .ok (.iastore, 1) := by decide +kernel
theorem dX6_takeConditions_89 : decode cX6_takeConditions 89 = .ok (.aload_n 0, 1) := by decide +kernel
theorem dX6_takeConditions_90 : decode cX6_takeConditions 90 = .ok (.getfield 25, 3) := by decide +kernel
theorem dX6_takeConditions_93 : decode cX6_takeConditions 93 = .ok (.iload 4, 2) := by decide +kernel
theorem dX6_takeConditions_95 : decode cX6_takeConditions 95 = .ok (.aload_n 1, 1) := by decide +kernel
theorem dX6_takeConditions_96 : decode cX6_takeConditions 96 = .ok (.aload 6, 2) := by decide +kernel
theorem dX6_takeConditions_98 : decode cX6_takeConditions 98 = .ok (.aload 5, 2) := by decide +kernel
theorem dX6_takeConditions_100 : decode cX6_takeConditions 100 = .ok (.invokevirtual 76, 3) := by decide +kernel
theorem dX6_takeConditions_103 : decode cX6_takeConditions 103 = .ok (.iload_n 3, 1) := by decide +kernel
theorem dX6_takeConditions_104 : decode cX6_takeConditions 104 = .ok (.invokevirtual 79, 3) := by decide +kernel
theorem dX6_takeConditions_107 : decode cX6_takeConditions 107 = .ok (.iastore, 1) := by decide +kernel
theorem dX6_takeConditions_108 : decode cX6_takeConditions 108 = .ok (.iinc 4 1, 3) := by decide +kernel
theorem dX6_takeConditions_111 : decode cX6_takeConditions 111 = .ok (.goto (-108), 3) := by decide +kernel
theorem dX6_takeConditions_114 : decode cX6_takeConditions 114 = .ok (.return_, 1) := by decide +kernel
theorem dX6_takeJoins_0 : decode cX6_takeJoins 0 = .ok (.iconst 0, 1) := by decide +kernel
theorem dX6_takeJoins_1 : decode cX6_takeJoins 1 = .ok (.istore 4, 2) := by decide +kernel
theorem dX6_takeJoins_3 : decode cX6_takeJoins 3 = .ok (.iload 4, 2) := by decide +kernel
theorem dX6_takeJoins_5 : decode cX6_takeJoins 5 = .ok (.iconst 3, 1) := by decide +kernel
theorem dX6_takeJoins_6 : decode cX6_takeJoins 6 = .ok (.if_icmp .ge 139, 3) := by decide +kernel
theorem dX6_takeJoins_9 : decode cX6_takeJoins 9 = .ok (.aload_n 2, 1) := by decide +kernel
theorem dX6_takeJoins_10 : decode cX6_takeJoins 10 = .ok (.iload 4, 2) := by decide +kernel
theorem dX6_takeJoins_12 : decode cX6_takeJoins 12 = .ok (.invokevirtual 85, 3) := by decide +kernel
theorem dX6_takeJoins_15 : decode cX6_takeJoins 15 = .ok (.astore 5, 2) := by decide +kernel
theorem dX6_takeJoins_17 : decode cX6_takeJoins 17 = .ok (.iconst 0, 1) := by decide +kernel
theorem dX6_takeJoins_18 : decode cX6_takeJoins 18 = .ok (.istore 6, 2) := by decide +kernel
theorem dX6_takeJoins_20 : decode cX6_takeJoins 20 = .ok (.iconst 0, 1) := by decide +kernel
theorem dX6_takeJoins_21 : decode cX6_takeJoins 21 = .ok (.istore 7, 2) := by decide +kernel
theorem dX6_takeJoins_23 : decode cX6_takeJoins 23 = .ok (.aload 5, 2) := by decide +kernel
theorem dX6_takeJoins_25 : decode cX6_takeJoins 25 = .ok (.ifnull 99, 3) := by decide +kernel
theorem dX6_takeJoins_28 : decode cX6_takeJoins 28 = .ok (.iload 7, 2) := by decide +kernel
theorem dX6_takeJoins_30 : decode cX6_takeJoins 30 = .ok (.iconst 3, 1) := by decide +kernel
theorem dX6_takeJoins_31 : decode cX6_takeJoins 31 = .ok (.if_icmp .ge 93, 3) := by decide +kernel
theorem dX6_takeJoins_34 : decode cX6_takeJoins 34 = .ok (.aload_n 2, 1) := by decide +kernel
theorem dX6_takeJoins_35 : decode cX6_takeJoins 35 = .ok (.iload 7, 2) := by decide +kernel
theorem dX6_takeJoins_37 : decode cX6_takeJoins 37 = .ok (.invokevirtual 63, 3) := by decide +kernel
theorem dX6_takeJoins_40 : decode cX6_takeJoins 40 = .ok (.astore 8, 2) := by decide +kernel
theorem dX6_takeJoins_42 : decode cX6_takeJoins 42 = .ok (.aload 8, 2) := by decide +kernel
theorem dX6_takeJoins_44 : decode cX6_takeJoins 44 = .ok (.ifnull 74, 3) := by decide +kernel
theorem dX6_takeJoins_47 : decode cX6_takeJoins 47 = .ok (.aload 5, 2) := by decide +kernel
theorem dX6_takeJoins_49 : decode cX6_takeJoins 49 = .ok (.iload 7, 2) := by decide +kernel
theorem dX6_takeJoins_51 : decode cX6_takeJoins 51 = .ok (.invokevirtual 89, 3) := by decide +kernel
theorem dX6_takeJoins_54 : decode cX6_takeJoins 54 = .ok (.iconst (-1), 1) := by decide +kernel
theorem dX6_takeJoins_55 : decode cX6_takeJoins 55 = .ok (.if_icmp .eq 63, 3) := by decide +kernel
theorem dX6_takeJoins_58 : decode cX6_takeJoins 58 = .ok (.aload 5, 2) := by decide +kernel
theorem dX6_takeJoins_60 : decode cX6_takeJoins 60 = .ok (.iload 7, 2) := by decide +kernel
theorem dX6_takeJoins_62 : decode cX6_takeJoins 62 = .ok (.invokevirtual 95, 3) := by decide +kernel
theorem dX6_takeJoins_65 : decode cX6_takeJoins 65 = .ok (.istore 9, 2) := by decide +kernel
theorem dX6_takeJoins_67 : decode cX6_takeJoins 67 = .ok (.aload 8, 2) := by decide +kernel
theorem dX6_takeJoins_69 : decode cX6_takeJoins 69 = .ok (.iload 9, 2) := by decide +kernel
theorem dX6_takeJoins_71 : decode cX6_takeJoins 71 = .ok (.invokevirtual 98, 3) := by decide +kernel
theorem dX6_takeJoins_74 : decode cX6_takeJoins 74 = .ok (.istore 10, 2) := by decide +kernel
theorem dX6_takeJoins_76 : decode cX6_takeJoins 76 = .ok (.iconst 1, 1) := by decide +kernel
theorem dX6_takeJoins_77 : decode cX6_takeJoins 77 = .ok (.aload 8, 2) := by decide +kernel
theorem dX6_takeJoins_79 : decode cX6_takeJoins 79 = .ok (.invokevirtual 73, 3) := by decide +kernel
theorem dX6_takeJoins_82 : decode cX6_takeJoins 82 = .ok (.iload 10, 2) := by decide +kernel
theorem dX6_takeJoins_84 : decode cX6_takeJoins 84 = .ok (.invokestatic 101, 3) := by decide +kernel
theorem dX6_takeJoins_87 : decode cX6_takeJoins 87 = .ok (.iadd, 1) := by decide +kernel
theorem dX6_takeJoins_88 : decode cX6_takeJoins 88 = .ok (.istore 11, 2) := by decide +kernel
theorem dX6_takeJoins_90 : decode cX6_takeJoins 90 = .ok (.aload_n 0, 1) := by decide +kernel
theorem dX6_takeJoins_91 : decode cX6_takeJoins 91 = .ok (.iload 4, 2) := by decide +kernel
theorem dX6_takeJoins_93 : decode cX6_takeJoins 93 = .ok (.iload 7, 2) := by decide +kernel
theorem dX6_takeJoins_95 : decode cX6_takeJoins 95 = .ok (.iload 11, 2) := by decide +kernel
theorem dX6_takeJoins_97 : decode cX6_takeJoins 97 = .ok (.aload_n 1, 1) := by decide +kernel
theorem dX6_takeJoins_98 : decode cX6_takeJoins 98 = .ok (.aload 8, 2) := by decide +kernel
theorem dX6_takeJoins_100 : decode cX6_takeJoins 100 = .ok (.iload 9, 2) := by decide +kernel
theorem dX6_takeJoins_102 : decode cX6_takeJoins 102 = .ok (.iload_n 3, 1) := by decide +kernel
theorem dX6_takeJoins_103 : decode cX6_takeJoins 103 = .ok (.invokevirtual 79, 3) := by decide +kernel
theorem dX6_takeJoins_106 : decode cX6_takeJoins 106 = .ok (.invokevirtual 105, 3) := by decide +kernel
theorem dX6_takeJoins_109 : decode cX6_takeJoins 109 = .ok (.iload 6, 2) := by decide +kernel
theorem dX6_takeJoins_111 : decode cX6_takeJoins 111 = .ok (.iload 10, 2) := by decide +kernel
theorem dX6_takeJoins_113 : decode cX6_takeJoins 113 = .ok (.invokestatic 109, 3) := by decide +kernel
theorem dX6_takeJoins_116 : decode cX6_takeJoins 116 = .ok (.istore 6, 2) := by decide +kernel
theorem dX6_takeJoins_118 : decode cX6_takeJoins 118 = .ok (.iinc 7 1, 3) := by decide +kernel
theorem dX6_takeJoins_121 : decode cX6_takeJoins 121 = .ok (.goto (-98), 3) := by decide +kernel
theorem dX6_takeJoins_124 : decode cX6_takeJoins 124 = .ok (.aload_n 0, 1) := by decide +kernel
theorem dX6_takeJoins_125 : decode cX6_takeJoins 125 = .ok (.getfield 28, 3) := by decide +kernel
theorem dX6_takeJoins_128 : decode cX6_takeJoins 128 = .ok (.iload 4, 2) := by decide +kernel
theorem dX6_takeJoins_130 : decode cX6_takeJoins 130 = .ok (.sipush 1000, 3) := by decide +kernel
theorem dX6_takeJoins_133 : decode cX6_takeJoins 133 = .ok (.iload 6, 2) := by decide +kernel
theorem dX6_takeJoins_135 : decode cX6_takeJoins 135 = .ok (.invokestatic 101, 3) := by decide +kernel
theorem dX6_takeJoins_138 : decode cX6_takeJoins 138 = .ok (.iastore, 1) := by decide +kernel
theorem dX6_takeJoins_139 : decode cX6_takeJoins 139 = .ok (.iinc 4 1, 3) := by decide +kernel
theorem dX6_takeJoins_142 : decode cX6_takeJoins 142 = .ok (.goto (-139), 3) := by decide +kernel
theorem dX6_takeJoins_145 : decode cX6_takeJoins 145 = .ok (.return_, 1) := by decide +kernel
theorem dX6_takeJoinFrom_0 : decode cX6_takeJoinFrom 0 = .ok (.iload_n 1, 1) := by decide +kernel
theorem dX6_takeJoinFrom_1 : decode cX6_takeJoinFrom 1 = .ok (.iconst 3, 1) := by decide +kernel
theorem dX6_takeJoinFrom_2 : decode cX6_takeJoinFrom 2 = .ok (.imul, 1) := by decide +kernel
theorem dX6_takeJoinFrom_3 : decode cX6_takeJoinFrom 3 = .ok (.iload_n 2, 1) := by decide +kernel
theorem dX6_takeJoinFrom_4 : decode cX6_takeJoinFrom 4 = .ok (.iadd, 1) := by decide +kernel
theorem dX6_takeJoinFrom_5 : decode cX6_takeJoinFrom 5 = .ok (.istore 5, 2) := by decide +kernel
theorem dX6_takeJoinFrom_7 : decode cX6_takeJoinFrom 7 = .ok (.iload 5, 2) := by decide +kernel
theorem dX6_takeJoinFrom_9 : decode cX6_takeJoinFrom 9 = .ok (.ifCond .lt 40, 3) := by decide +kernel
theorem dX6_takeJoinFrom_12 : decode cX6_takeJoinFrom 12 = .ok (.iload 5, 2) := by decide +kernel
theorem dX6_takeJoinFrom_14 : decode cX6_takeJoinFrom 14 = .ok (.aload_n 0, 1) := by decide +kernel
theorem dX6_takeJoinFrom_15 : decode cX6_takeJoinFrom 15 = .ok (.getfield 31, 3) := by decide +kernel
theorem dX6_takeJoinFrom_18 : decode cX6_takeJoinFrom 18 = .ok (.arraylength, 1) := by decide +kernel
theorem dX6_takeJoinFrom_19 : decode cX6_takeJoinFrom 19 = .ok (.if_icmp .ge 30, 3) := by decide +kernel
theorem dX6_takeJoinFrom_22 : decode cX6_takeJoinFrom 22 = .ok (.iload 5, 2) := by decide +kernel
theorem dX6_takeJoinFrom_24 : decode cX6_takeJoinFrom 24 = .ok (.aload_n 0, 1) := by decide +kernel
theorem dX6_takeJoinFrom_25 : decode cX6_takeJoinFrom 25 = .ok (.getfield 34, 3) := by decide +kernel
theorem dX6_takeJoinFrom_28 : decode cX6_takeJoinFrom 28 = .ok (.arraylength, 1) := by decide +kernel
theorem dX6_takeJoinFrom_29 : decode cX6_takeJoinFrom 29 = .ok (.if_icmp .ge 20, 3) := by decide +kernel
theorem dX6_takeJoinFrom_32 : decode cX6_takeJoinFrom 32 = .ok (.aload_n 0, 1) := by decide +kernel
theorem dX6_takeJoinFrom_33 : decode cX6_takeJoinFrom 33 = .ok (.getfield 31, 3) := by decide +kernel
theorem dX6_takeJoinFrom_36 : decode cX6_takeJoinFrom 36 = .ok (.iload 5, 2) := by decide +kernel
theorem dX6_takeJoinFrom_38 : decode cX6_takeJoinFrom 38 = .ok (.iload_n 3, 1) := by decide +kernel
theorem dX6_takeJoinFrom_39 : decode cX6_takeJoinFrom 39 = .ok (.iastore, 1) := by decide +kernel
theorem dX6_takeJoinFrom_40 : decode cX6_takeJoinFrom 40 = .ok (.aload_n 0, 1) := by decide +kernel
theorem dX6_takeJoinFrom_41 : decode cX6_takeJoinFrom 41 = .ok (.getfield 34, 3) := by decide +kernel
theorem dX6_takeJoinFrom_44 : decode cX6_takeJoinFrom 44 = .ok (.iload 5, 2) := by decide +kernel
theorem dX6_takeJoinFrom_46 : decode cX6_takeJoinFrom 46 = .ok (.iload 4, 2) := by decide +kernel
theorem dX6_takeJoinFrom_48 : decode cX6_takeJoinFrom 48 = .ok (.iastore, 1) := by decide +kernel
theorem dX6_takeJoinFrom_49 : decode cX6_takeJoinFrom 49 = .ok (.return_, 1) := by decide +kernel
theorem dX6_drawByBook_0 : decode cX6_drawByBook 0 = .ok (.aload_n 1, 1) := by decide +kernel
theorem dX6_drawByBook_1 : decode cX6_drawByBook 1 = .ok (.iconst 0, 1) := by decide +kernel
theorem dX6_drawByBook_2 : decode cX6_drawByBook 2 = .ok (.aload_n 2, 1) := by decide +kernel
theorem dX6_drawByBook_3 : decode cX6_drawByBook 3 = .ok (.invokevirtual 114, 3) := by decide +kernel
theorem dX6_drawByBook_6 : decode cX6_drawByBook 6 = .ok (.invokevirtual 117, 3) := by decide +kernel
theorem dX6_drawByBook_9 : decode cX6_drawByBook 9 = .ok (.pop, 1) := by decide +kernel
theorem dX6_drawByBook_10 : decode cX6_drawByBook 10 = .ok (.iconst 0, 1) := by decide +kernel
theorem dX6_drawByBook_11 : decode cX6_drawByBook 11 = .ok (.istore_n 3, 1) := by decide +kernel
theorem dX6_drawByBook_12 : decode cX6_drawByBook 12 = .ok (.iload_n 3, 1) := by decide +kernel
theorem dX6_drawByBook_13 : decode cX6_drawByBook 13 = .ok (.aload_n 1, 1) := by decide +kernel
theorem dX6_drawByBook_14 : decode cX6_drawByBook 14 = .ok (.invokevirtual 121, 3) := by decide +kernel
theorem dX6_drawByBook_17 : decode cX6_drawByBook 17 = .ok (.if_icmp .ge 39, 3) := by decide +kernel
theorem dX6_drawByBook_20 : decode cX6_drawByBook 20 = .ok (.aload_n 0, 1) := by decide +kernel
theorem dX6_drawByBook_21 : decode cX6_drawByBook 21 = .ok (.aload_n 1, 1) := by decide +kernel
theorem dX6_drawByBook_22 : decode cX6_drawByBook 22 = .ok (.aload_n 2, 1) := by decide +kernel
theorem dX6_drawByBook_23 : decode cX6_drawByBook 23 = .ok (.iload_n 3, 1) := by decide +kernel
theorem dX6_drawByBook_24 : decode cX6_drawByBook 24 = .ok (.invokevirtual 122, 3) := by decide +kernel
theorem dX6_drawByBook_27 : decode cX6_drawByBook 27 = .ok (.ifCond .ne 23, 3) := by decide +kernel
theorem dX6_drawByBook_30 : decode cX6_drawByBook 30 = .ok (.aload_n 0, 1) := by decide +kernel
theorem dX6_drawByBook_31 : decode cX6_drawByBook 31 = .ok (.aload_n 1, 1) := by decide +kernel
theorem dX6_drawByBook_32 : decode cX6_drawByBook 32 = .ok (.aload_n 2, 1) := by decide +kernel
theorem dX6_drawByBook_33 : decode cX6_drawByBook 33 = .ok (.iload_n 3, 1) := by decide +kernel
theorem dX6_drawByBook_34 : decode cX6_drawByBook 34 = .ok (.iconst 1, 1) := by decide +kernel
theorem dX6_drawByBook_35 : decode cX6_drawByBook 35 = .ok (.invokevirtual 126, 3) := by decide +kernel
theorem dX6_drawByBook_38 : decode cX6_drawByBook 38 = .ok (.ifCond .ne 12, 3) := by decide +kernel
theorem dX6_drawByBook_41 : decode cX6_drawByBook 41 = .ok (.aload_n 0, 1) := by decide +kernel
theorem dX6_drawByBook_42 : decode cX6_drawByBook 42 = .ok (.aload_n 1, 1) := by decide +kernel
theorem dX6_drawByBook_43 : decode cX6_drawByBook 43 = .ok (.aload_n 2, 1) := by decide +kernel
theorem dX6_drawByBook_44 : decode cX6_drawByBook 44 = .ok (.iload_n 3, 1) := by decide +kernel
theorem dX6_drawByBook_45 : decode cX6_drawByBook 45 = .ok (.iconst 0, 1) := by decide +kernel
theorem dX6_drawByBook_46 : decode cX6_drawByBook 46 = .ok (.invokevirtual 126, 3) := by decide +kernel
theorem dX6_drawByBook_49 : decode cX6_drawByBook 49 = .ok (.pop, 1) := by decide +kernel
theorem dX6_drawByBook_50 : decode cX6_drawByBook 50 = .ok (.iinc 3 1, 3) := by decide +kernel
theorem dX6_drawByBook_53 : decode cX6_drawByBook 53 = .ok (.goto (-41), 3) := by decide +kernel
theorem dX6_drawByBook_56 : decode cX6_drawByBook 56 = .ok (.aload_n 1, 1) := by decide +kernel
theorem dX6_drawByBook_57 : decode cX6_drawByBook 57 = .ok (.aload_n 0, 1) := by decide +kernel
theorem dX6_drawByBook_58 : decode cX6_drawByBook 58 = .ok (.aload_n 1, 1) := by decide +kernel
theorem dX6_drawByBook_59 : decode cX6_drawByBook 59 = .ok (.aload_n 2, 1) := by decide +kernel
theorem dX6_drawByBook_60 : decode cX6_drawByBook 60 = .ok (.invokevirtual 130, 3) := by decide +kernel
theorem dX6_drawByBook_63 : decode cX6_drawByBook 63 = .ok (.invokevirtual 134, 3) := by decide +kernel
theorem dX6_drawByBook_66 : decode cX6_drawByBook 66 = .ok (.return_, 1) := by decide +kernel
theorem dX6_joinByBook_0 : decode cX6_joinByBook 0 = .ok (.iconst 0, 1) := by decide +kernel
theorem dX6_joinByBook_1 : decode cX6_joinByBook 1 = .ok (.istore 4, 2) := by decide +kernel
theorem dX6_joinByBook_3 : decode cX6_joinByBook 3 = .ok (.iload 4, 2) := by decide +kernel
theorem dX6_joinByBook_5 : decode cX6_joinByBook 5 = .ok (.iconst 3, 1) := by decide +kernel
theorem dX6_joinByBook_6 : decode cX6_joinByBook 6 = .ok (.if_icmp .ge 39, 3) := by decide +kernel
theorem dX6_joinByBook_9 : decode cX6_joinByBook 9 = .ok (.aload_n 0, 1) := by decide +kernel
theorem dX6_joinByBook_10 : decode cX6_joinByBook 10 = .ok (.aload_n 1, 1) := by decide +kernel
theorem dX6_joinByBook_11 : decode cX6_joinByBook 11 = .ok (.aload_n 2, 1) := by decide +kernel
theorem dX6_joinByBook_12 : decode cX6_joinByBook 12 = .ok (.iload_n 3, 1) := by decide +kernel
theorem dX6_joinByBook_13 : decode cX6_joinByBook 13 = .ok (.iload 4, 2) := by decide +kernel
theorem dX6_joinByBook_15 : decode cX6_joinByBook 15 = .ok (.invokevirtual 138, 3) := by decide +kernel
theorem dX6_joinByBook_18 : decode cX6_joinByBook 18 = .ok (.istore 5, 2) := by decide +kernel
theorem dX6_joinByBook_20 : decode cX6_joinByBook 20 = .ok (.iload 5, 2) := by decide +kernel
theorem dX6_joinByBook_22 : decode cX6_joinByBook 22 = .ok (.iconst (-1), 1) := by decide +kernel
theorem dX6_joinByBook_23 : decode cX6_joinByBook 23 = .ok (.if_icmp .eq 16, 3) := by decide +kernel
theorem dX6_joinByBook_26 : decode cX6_joinByBook 26 = .ok (.aload_n 1, 1) := by decide +kernel
theorem dX6_joinByBook_27 : decode cX6_joinByBook 27 = .ok (.iload_n 3, 1) := by decide +kernel
theorem dX6_joinByBook_28 : decode cX6_joinByBook 28 = .ok (.bipush 106, 2) := by decide +kernel
theorem dX6_joinByBook_30 : decode cX6_joinByBook 30 = .ok (.iload 4, 2) := by decide +kernel
theorem dX6_joinByBook_32 : decode cX6_joinByBook 32 = .ok (.iload 5, 2) := by decide +kernel
theorem dX6_joinByBook_34 : decode cX6_joinByBook 34 = .ok (.invokevirtual 142, 3) := by decide +kernel
theorem dX6_joinByBook_37 : decode cX6_joinByBook 37 = .ok (.iconst 1, 1) := by decide +kernel
theorem dX6_joinByBook_38 : decode cX6_joinByBook 38 = .ok (.ireturn, 1) := by decide +kernel
theorem dX6_joinByBook_39 : decode cX6_joinByBook 39 = .ok (.iinc 4 1, 3) := by decide +kernel
theorem dX6_joinByBook_42 : decode cX6_joinByBook 42 = .ok (.goto (-39), 3) := by decide +kernel
theorem dX6_joinByBook_45 : decode cX6_joinByBook 45 = .ok (.iconst 0, 1) := by decide +kernel
theorem dX6_joinByBook_46 : decode cX6_joinByBook 46 = .ok (.ireturn, 1) := by decide +kernel
theorem dX6_conditionByBook_0 : decode cX6_conditionByBook 0 = .ok (.iconst 0, 1) := by decide +kernel
theorem dX6_conditionByBook_1 : decode cX6_conditionByBook 1 = .ok (.istore 5, 2) := by decide +kernel
theorem dX6_conditionByBook_3 : decode cX6_conditionByBook 3 = .ok (.iload 5, 2) := by decide +kernel
theorem dX6_conditionByBook_5 : decode cX6_conditionByBook 5 = .ok (.iconst 4, 1) := by decide +kernel
theorem dX6_conditionByBook_6 : decode cX6_conditionByBook 6 = .ok (.if_icmp .ge 62, 3) := by decide +kernel
theorem dX6_conditionByBook_9 : decode cX6_conditionByBook 9 = .ok (.aload_n 2, 1) := by decide +kernel
theorem dX6_conditionByBook_10 : decode cX6_conditionByBook 10 = .ok (.iload 5, 2) := by decide +kernel
theorem dX6_conditionByBook_12 : decode cX6_conditionByBook 12 = .ok (.invokevirtual 51, 3) := by decide +kernel
theorem dX6_conditionByBook_15 : decode cX6_conditionByBook 15 = .ok (.astore 6, 2) := by decide +kernel
theorem dX6_conditionByBook_17 : decode cX6_conditionByBook 17 = .ok (.aload_n 0, 1) := by decide +kernel
theorem dX6_conditionByBook_18 : decode cX6_conditionByBook 18 = .ok (.aload_n 1, 1) := by decide +kernel
theorem dX6_conditionByBook_19 : decode cX6_conditionByBook 19 = .ok (.aload_n 2, 1) := by decide +kernel
theorem dX6_conditionByBook_20 : decode cX6_conditionByBook 20 = .ok (.iload_n 3, 1) := by decide +kernel
theorem dX6_conditionByBook_21 : decode cX6_conditionByBook 21 = .ok (.iload 5, 2) := by decide +kernel
theorem dX6_conditionByBook_23 : decode cX6_conditionByBook 23 = .ok (.invokevirtual 146, 3) := by decide +kernel
theorem dX6_conditionByBook_26 : decode cX6_conditionByBook 26 = .ok (.istore 7, 2) := by decide +kernel
theorem dX6_conditionByBook_28 : decode cX6_conditionByBook 28 = .ok (.iload 7, 2) := by decide +kernel
theorem dX6_conditionByBook_30 : decode cX6_conditionByBook 30 = .ok (.iconst (-1), 1) := by decide +kernel
theorem dX6_conditionByBook_31 : decode cX6_conditionByBook 31 = .ok (.if_icmp .eq 31, 3) := by decide +kernel
theorem dX6_conditionByBook_34 : decode cX6_conditionByBook 34 = .ok (.aload 6, 2) := by decide +kernel
theorem dX6_conditionByBook_36 : decode cX6_conditionByBook 36 = .ok (.ifnull 26, 3) := by decide +kernel
theorem dX6_conditionByBook_39 : decode cX6_conditionByBook 39 = .ok (.aload 6, 2) := by decide +kernel
theorem dX6_conditionByBook_41 : decode cX6_conditionByBook 41 = .ok (.invokevirtual 149, 3) := by decide +kernel
theorem dX6_conditionByBook_44 : decode cX6_conditionByBook 44 = .ok (.iload 4, 2) := by decide +kernel
theorem dX6_conditionByBook_46 : decode cX6_conditionByBook 46 = .ok (.if_icmp .ne 16, 3) := by decide +kernel
theorem dX6_conditionByBook_49 : decode cX6_conditionByBook 49 = .ok (.aload_n 1, 1) := by decide +kernel
theorem dX6_conditionByBook_50 : decode cX6_conditionByBook 50 = .ok (.iload_n 3, 1) := by decide +kernel
theorem dX6_conditionByBook_51 : decode cX6_conditionByBook 51 = .ok (.bipush 99, 2) := by decide +kernel
theorem dX6_conditionByBook_53 : decode cX6_conditionByBook 53 = .ok (.iload 5, 2) := by decide +kernel
theorem dX6_conditionByBook_55 : decode cX6_conditionByBook 55 = .ok (.iload 7, 2) := by decide +kernel
theorem dX6_conditionByBook_57 : decode cX6_conditionByBook 57 = .ok (.invokevirtual 142, 3) := by decide +kernel
theorem dX6_conditionByBook_60 : decode cX6_conditionByBook 60 = .ok (.iconst 1, 1) := by decide +kernel
theorem dX6_conditionByBook_61 : decode cX6_conditionByBook 61 = .ok (.ireturn, 1) := by decide +kernel
theorem dX6_conditionByBook_62 : decode cX6_conditionByBook 62 = .ok (.iinc 5 1, 3) := by decide +kernel
theorem dX6_conditionByBook_65 : decode cX6_conditionByBook 65 = .ok (.goto (-62), 3) := by decide +kernel
theorem dX6_conditionByBook_68 : decode cX6_conditionByBook 68 = .ok (.iconst 0, 1) := by decide +kernel
theorem dX6_conditionByBook_69 : decode cX6_conditionByBook 69 = .ok (.ireturn, 1) := by decide +kernel
theorem dX6_drawByCounts_0 : decode cX6_drawByCounts 0 = .ok (.iconst 1, 1) := by decide +kernel
theorem dX6_drawByCounts_1 : decode cX6_drawByCounts 1 = .ok (.istore_n 3, 1) := by decide +kernel
theorem dX6_drawByCounts_2 : decode cX6_drawByCounts 2 = .ok (.iconst 0, 1) := by decide +kernel
theorem dX6_drawByCounts_3 : decode cX6_drawByCounts 3 = .ok (.istore 4, 2) := by decide +kernel
theorem dX6_drawByCounts_5 : decode cX6_drawByCounts 5 = .ok (.iload 4, 2) := by decide +kernel
theorem dX6_drawByCounts_7 : decode cX6_drawByCounts 7 = .ok (.getstatic 153, 3) := by decide +kernel
theorem dX6_drawByCounts_10 : decode cX6_drawByCounts 10 = .ok (.arraylength, 1) := by decide +kernel
theorem dX6_drawByCounts_11 : decode cX6_drawByCounts 11 = .ok (.iconst 3, 1) := by decide +kernel
theorem dX6_drawByCounts_12 : decode cX6_drawByCounts 12 = .ok (.idiv, 1) := by decide +kernel
theorem dX6_drawByCounts_13 : decode cX6_drawByCounts 13 = .ok (.if_icmp .ge 98, 3) := by decide +kernel
theorem dX6_drawByCounts_16 : decode cX6_drawByCounts 16 = .ok (.aload_n 0, 1) := by decide +kernel
theorem dX6_drawByCounts_17 : decode cX6_drawByCounts 17 = .ok (.getfield 12, 3) := by decide +kernel
theorem dX6_drawByCounts_20 : decode cX6_drawByCounts 20 = .ok (.iload 4, 2) := by decide +kernel
theorem dX6_drawByCounts_22 : decode cX6_drawByCounts 22 = .ok (.aload_n 2, 1) := by decide +kernel
theorem dX6_drawByCounts_23 : decode cX6_drawByCounts 23 = .ok (.invokevirtual 114, 3) := by decide +kernel
theorem dX6_drawByCounts_26 : decode cX6_drawByCounts 26 = .ok (.invokevirtual 117, 3) := by decide +kernel
theorem dX6_drawByCounts_29 : decode cX6_drawByCounts 29 = .ok (.ifCond .eq 76, 3) := by decide +kernel
theorem dX6_drawByCounts_32 : decode cX6_drawByCounts 32 = .ok (.iconst 0, 1) := by decide +kernel
theorem dX6_drawByCounts_33 : decode cX6_drawByCounts 33 = .ok (.istore 5, 2) := by decide +kernel
theorem dX6_drawByCounts_35 : decode cX6_drawByCounts 35 = .ok (.iload 5, 2) := by decide +kernel
theorem dX6_drawByCounts_37 : decode cX6_drawByCounts 37 = .ok (.aload_n 0, 1) := by decide +kernel
theorem dX6_drawByCounts_38 : decode cX6_drawByCounts 38 = .ok (.getfield 12, 3) := by decide +kernel
theorem dX6_drawByCounts_41 : decode cX6_drawByCounts 41 = .ok (.invokevirtual 121, 3) := by decide +kernel
theorem dX6_drawByCounts_44 : decode cX6_drawByCounts 44 = .ok (.if_icmp .ge 16, 3) := by decide +kernel
theorem dX6_drawByCounts_47 : decode cX6_drawByCounts 47 = .ok (.aload_n 0, 1) := by decide +kernel
theorem dX6_drawByCounts_48 : decode cX6_drawByCounts 48 = .ok (.aload_n 2, 1) := by decide +kernel
theorem dX6_drawByCounts_49 : decode cX6_drawByCounts 49 = .ok (.iload 5, 2) := by decide +kernel
theorem dX6_drawByCounts_51 : decode cX6_drawByCounts 51 = .ok (.invokevirtual 156, 3) := by decide +kernel
theorem dX6_drawByCounts_54 : decode cX6_drawByCounts 54 = .ok (.iinc 5 1, 3) := by decide +kernel
theorem dX6_drawByCounts_57 : decode cX6_drawByCounts 57 = .ok (.goto (-22), 3) := by decide +kernel
theorem dX6_drawByCounts_60 : decode cX6_drawByCounts 60 = .ok (.aload_n 0, 1) := by decide +kernel
theorem dX6_drawByCounts_61 : decode cX6_drawByCounts 61 = .ok (.getfield 12, 3) := by decide +kernel
theorem dX6_drawByCounts_64 : decode cX6_drawByCounts 64 = .ok (.aload_n 0, 1) := by decide +kernel
theorem dX6_drawByCounts_65 : decode cX6_drawByCounts 65 = .ok (.aload_n 0, 1) := by decide +kernel
theorem dX6_drawByCounts_66 : decode cX6_drawByCounts 66 = .ok (.getfield 12, 3) := by decide +kernel
theorem dX6_drawByCounts_69 : decode cX6_drawByCounts 69 = .ok (.aload_n 2, 1) := by decide +kernel
theorem dX6_drawByCounts_70 : decode cX6_drawByCounts 70 = .ok (.invokevirtual 130, 3) := by decide +kernel
theorem dX6_drawByCounts_73 : decode cX6_drawByCounts 73 = .ok (.invokevirtual 134, 3) := by decide +kernel
theorem dX6_drawByCounts_76 : decode cX6_drawByCounts 76 = .ok (.iload_n 3, 1) := by decide +kernel
theorem dX6_drawByCounts_77 : decode cX6_drawByCounts 77 = .ok (.ifCond .ne 18, 3) := by decide +kernel
theorem dX6_drawByCounts_80 : decode cX6_drawByCounts 80 = .ok (.aload_n 0, 1) := by decide +kernel
theorem dX6_drawByCounts_81 : decode cX6_drawByCounts 81 = .ok (.getfield 12, 3) := by decide +kernel
theorem dX6_drawByCounts_84 : decode cX6_drawByCounts 84 = .ok (.invokevirtual 160, 3) := by decide +kernel
theorem dX6_drawByCounts_87 : decode cX6_drawByCounts 87 = .ok (.aload_n 1, 1) := by decide +kernel
theorem dX6_drawByCounts_88 : decode cX6_drawByCounts 88 = .ok (.invokevirtual 160, 3) := by decide +kernel
theorem dX6_drawByCounts_91 : decode cX6_drawByCounts 91 = .ok (.lcmp, 1) := by decide +kernel
theorem dX6_drawByCounts_92 : decode cX6_drawByCounts 92 = .ok (.ifCond .ge 13, 3) := by decide +kernel
theorem dX6_drawByCounts_95 : decode cX6_drawByCounts 95 = .ok (.aload_n 1, 1) := by decide +kernel
theorem dX6_drawByCounts_96 : decode cX6_drawByCounts 96 = .ok (.aload_n 0, 1) := by decide +kernel
theorem dX6_drawByCounts_97 : decode cX6_drawByCounts 97 = .ok (.getfield 12, 3) := by decide +kernel
theorem dX6_drawByCounts_100 : decode cX6_drawByCounts 100 = .ok (.invokevirtual 164, 3) := by decide +kernel
theorem dX6_drawByCounts_103 : decode cX6_drawByCounts 103 = .ok (.iconst 0, 1) := by decide +kernel
theorem dX6_drawByCounts_104 : decode cX6_drawByCounts 104 = .ok (.istore_n 3, 1) := by decide +kernel
theorem dX6_drawByCounts_105 : decode cX6_drawByCounts 105 = .ok (.iinc 4 1, 3) := by decide +kernel
theorem dX6_drawByCounts_108 : decode cX6_drawByCounts 108 = .ok (.goto (-103), 3) := by decide +kernel
theorem dX6_drawByCounts_111 : decode cX6_drawByCounts 111 = .ok (.return_, 1) := by decide +kernel
theorem dX6_takeCheapestWay_0 : decode cX6_takeCheapestWay 0 = .ok (.aload_n 0, 1) := by decide +kernel
theorem dX6_takeCheapestWay_1 : decode cX6_takeCheapestWay 1 = .ok (.aload_n 0, 1) := by decide +kernel
theorem dX6_takeCheapestWay_2 : decode cX6_takeCheapestWay 2 = .ok (.getfield 12, 3) := by decide +kernel
theorem dX6_takeCheapestWay_5 : decode cX6_takeCheapestWay 5 = .ok (.aload_n 1, 1) := by decide +kernel
theorem dX6_takeCheapestWay_6 : decode cX6_takeCheapestWay 6 = .ok (.iload_n 2, 1) := by decide +kernel
theorem dX6_takeCheapestWay_7 : decode cX6_takeCheapestWay 7 = .ok (.invokevirtual 168, 3) := by decide +kernel
theorem dX6_takeCheapestWay_10 : decode cX6_takeCheapestWay 10 = .ok (.istore_n 3, 1) := by decide +kernel
theorem dX6_takeCheapestWay_11 : decode cX6_takeCheapestWay 11 = .ok (.iconst 0, 1) := by decide +kernel
theorem dX6_takeCheapestWay_12 : decode cX6_takeCheapestWay 12 = .ok (.istore 4, 2) := by decide +kernel
theorem dX6_takeCheapestWay_14 : decode cX6_takeCheapestWay 14 = .ok (.iload 4, 2) := by decide +kernel
theorem dX6_takeCheapestWay_16 : decode cX6_takeCheapestWay 16 = .ok (.iconst 4, 1) := by decide +kernel
theorem dX6_takeCheapestWay_17 : decode cX6_takeCheapestWay 17 = .ok (.if_icmp .ge 62, 3) := by decide +kernel
theorem dX6_takeCheapestWay_20 : decode cX6_takeCheapestWay 20 = .ok (.aload_n 0, 1) := by decide +kernel
theorem dX6_takeCheapestWay_21 : decode cX6_takeCheapestWay 21 = .ok (.aload_n 0, 1) := by decide +kernel
theorem dX6_takeCheapestWay_22 : decode cX6_takeCheapestWay 22 = .ok (.getfield 12, 3) := by decide +kernel
theorem dX6_takeCheapestWay_25 : decode cX6_takeCheapestWay 25 = .ok (.aload_n 1, 1) := by decide +kernel
theorem dX6_takeCheapestWay_26 : decode cX6_takeCheapestWay 26 = .ok (.iload_n 2, 1) := by decide +kernel
theorem dX6_takeCheapestWay_27 : decode cX6_takeCheapestWay 27 = .ok (.iload 4, 2) := by decide +kernel
theorem dX6_takeCheapestWay_29 : decode cX6_takeCheapestWay 29 = .ok (.invokevirtual 146, 3) := by decide +kernel
theorem dX6_takeCheapestWay_32 : decode cX6_takeCheapestWay 32 = .ok (.istore 5, 2) := by decide +kernel
theorem dX6_takeCheapestWay_34 : decode cX6_takeCheapestWay 34 = .ok (.iload 5, 2) := by decide +kernel
theorem dX6_takeCheapestWay_36 : decode cX6_takeCheapestWay 36 = .ok (.iconst (-1), 1) := by decide +kernel
theorem dX6_takeCheapestWay_37 : decode cX6_takeCheapestWay 37 = .ok (.if_icmp .eq 36, 3) := by decide +kernel
theorem dX6_takeCheapestWay_40 : decode cX6_takeCheapestWay 40 = .ok (.aload_n 0, 1) := by decide +kernel
theorem dX6_takeCheapestWay_41 : decode cX6_takeCheapestWay 41 = .ok (.getfield 22, 3) := by decide +kernel
theorem dX6_takeCheapestWay_44 : decode cX6_takeCheapestWay 44 = .ok (.iload 4, 2) := by decide +kernel
theorem dX6_takeCheapestWay_46 : decode cX6_takeCheapestWay 46 = .ok (.iaload, 1) := by decide +kernel
theorem dX6_takeCheapestWay_47 : decode cX6_takeCheapestWay 47 = .ok (.iload_n 3, 1) := by decide +kernel
theorem dX6_takeCheapestWay_48 : decode cX6_takeCheapestWay 48 = .ok (.if_icmp .ge 25, 3) := by decide +kernel
theorem dX6_takeCheapestWay_51 : decode cX6_takeCheapestWay 51 = .ok (.aload_n 0, 1) := by decide +kernel
theorem dX6_takeCheapestWay_52 : decode cX6_takeCheapestWay 52 = .ok (.getfield 22, 3) := by decide +kernel
theorem dX6_takeCheapestWay_55 : decode cX6_takeCheapestWay 55 = .ok (.iload 4, 2) := by decide +kernel
theorem dX6_takeCheapestWay_57 : decode cX6_takeCheapestWay 57 = .ok (.iaload, 1) := by decide +kernel
theorem dX6_takeCheapestWay_58 : decode cX6_takeCheapestWay 58 = .ok (.istore_n 3, 1) := by decide +kernel
theorem dX6_takeCheapestWay_59 : decode cX6_takeCheapestWay 59 = .ok (.aload_n 0, 1) := by decide +kernel
theorem dX6_takeCheapestWay_60 : decode cX6_takeCheapestWay 60 = .ok (.getfield 12, 3) := by decide +kernel
theorem dX6_takeCheapestWay_63 : decode cX6_takeCheapestWay 63 = .ok (.iload_n 2, 1) := by decide +kernel
theorem dX6_takeCheapestWay_64 : decode cX6_takeCheapestWay 64 = .ok (.bipush 99, 2) := by decide +kernel
theorem dX6_takeCheapestWay_66 : decode cX6_takeCheapestWay 66 = .ok (.iload 4, 2) := by decide +kernel
theorem dX6_takeCheapestWay_68 : decode cX6_takeCheapestWay 68 = .ok (.iload 5, 2) := by decide +kernel
theorem dX6_takeCheapestWay_70 : decode cX6_takeCheapestWay 70 = .ok (.invokevirtual 142, 3) := by decide +kernel
theorem dX6_takeCheapestWay_73 : decode cX6_takeCheapestWay 73 = .ok (.iinc 4 1, 3) := by decide +kernel
theorem dX6_takeCheapestWay_76 : decode cX6_takeCheapestWay 76 = .ok (.goto (-62), 3) := by decide +kernel
theorem dX6_takeCheapestWay_79 : decode cX6_takeCheapestWay 79 = .ok (.iconst 0, 1) := by decide +kernel
theorem dX6_takeCheapestWay_80 : decode cX6_takeCheapestWay 80 = .ok (.istore 4, 2) := by decide +kernel
theorem dX6_takeCheapestWay_82 : decode cX6_takeCheapestWay 82 = .ok (.iload 4, 2) := by decide +kernel
theorem dX6_takeCheapestWay_84 : decode cX6_takeCheapestWay 84 = .ok (.iconst 3, 1) := by decide +kernel
theorem dX6_takeCheapestWay_85 : decode cX6_takeCheapestWay 85 = .ok (.if_icmp .ge 68, 3) := by decide +kernel
theorem dX6_takeCheapestWay_88 : decode cX6_takeCheapestWay 88 = .ok (.aload_n 0, 1) := by decide +kernel
theorem dX6_takeCheapestWay_89 : decode cX6_takeCheapestWay 89 = .ok (.aload_n 0, 1) := by decide +kernel
theorem dX6_takeCheapestWay_90 : decode cX6_takeCheapestWay 90 = .ok (.getfield 12, 3) := by decide +kernel
theorem dX6_takeCheapestWay_93 : decode cX6_takeCheapestWay 93 = .ok (.aload_n 1, 1) := by decide +kernel
theorem dX6_takeCheapestWay_94 : decode cX6_takeCheapestWay 94 = .ok (.iload_n 2, 1) := by decide +kernel
theorem dX6_takeCheapestWay_95 : decode cX6_takeCheapestWay 95 = .ok (.iload 4, 2) := by decide +kernel
theorem dX6_takeCheapestWay_97 : decode cX6_takeCheapestWay 97 = .ok (.invokevirtual 138, 3) := by decide +kernel
theorem dX6_takeCheapestWay_100 : decode cX6_takeCheapestWay 100 = .ok (.istore 5, 2) := by decide +kernel
theorem dX6_takeCheapestWay_102 : decode cX6_takeCheapestWay 102 = .ok (.aload_n 0, 1) := by decide +kernel
theorem dX6_takeCheapestWay_103 : decode cX6_takeCheapestWay 103 = .ok (.iload 4, 2) := by decide +kernel
theorem dX6_takeCheapestWay_105 : decode cX6_takeCheapestWay 105 = .ok (.aload_n 0, 1) := by decide +kernel
theorem dX6_takeCheapestWay_106 : decode cX6_takeCheapestWay 106 = .ok (.getfield 12, 3) := by decide +kernel
theorem dX6_takeCheapestWay_109 : decode cX6_takeCheapestWay 109 = .ok (.iload_n 2, 1) := by decide +kernel
theorem dX6_takeCheapestWay_110 : decode cX6_takeCheapestWay 110 = .ok (.invokevirtual 172, 3) := by decide +kernel
theorem dX6_takeCheapestWay_113 : decode cX6_takeCheapestWay 113 = .ok (.invokevirtual 175, 3) := by decide +kernel
theorem dX6_takeCheapestWay_116 : decode cX6_takeCheapestWay 116 = .ok (.istore 6, 2) := by decide +kernel
theorem dX6_takeCheapestWay_118 : decode cX6_takeCheapestWay 118 = .ok (.iload 5, 2) := by decide +kernel
theorem dX6_takeCheapestWay_120 : decode cX6_takeCheapestWay 120 = .ok (.iconst (-1), 1) := by decide +kernel
theorem dX6_takeCheapestWay_121 : decode cX6_takeCheapestWay 121 = .ok (.if_icmp .eq 26, 3) := by decide +kernel
theorem dX6_takeCheapestWay_124 : decode cX6_takeCheapestWay 124 = .ok (.iload 6, 2) := by decide +kernel
theorem dX6_takeCheapestWay_126 : decode cX6_takeCheapestWay 126 = .ok (.iload_n 3, 1) := by decide +kernel
theorem dX6_takeCheapestWay_127 : decode cX6_takeCheapestWay 127 = .ok (.if_icmp .ge 20, 3) := by decide +kernel
theorem dX6_takeCheapestWay_130 : decode cX6_takeCheapestWay 130 = .ok (.iload 6, 2) := by decide +kernel
theorem dX6_takeCheapestWay_132 : decode cX6_takeCheapestWay 132 = .ok (.istore_n 3, 1) := by decide +kernel
theorem dX6_takeCheapestWay_133 : decode cX6_takeCheapestWay 133 = .ok (.aload_n 0, 1) := by decide +kernel
theorem dX6_takeCheapestWay_134 : decode cX6_takeCheapestWay 134 = .ok (.getfield 12, 3) := by decide +kernel
theorem dX6_takeCheapestWay_137 : decode cX6_takeCheapestWay 137 = .ok (.iload_n 2, 1) := by decide +kernel
theorem dX6_takeCheapestWay_138 : decode cX6_takeCheapestWay 138 = .ok (.bipush 106, 2) := by decide +kernel
theorem dX6_takeCheapestWay_140 : decode cX6_takeCheapestWay 140 = .ok (.iload 4, 2) := by decide +kernel
theorem dX6_takeCheapestWay_142 : decode cX6_takeCheapestWay 142 = .ok (.iload 5, 2) := by decide +kernel
theorem dX6_takeCheapestWay_144 : decode cX6_takeCheapestWay 144 = .ok (.invokevirtual 142, 3) := by decide +kernel
theorem dX6_takeCheapestWay_147 : decode cX6_takeCheapestWay 147 = .ok (.iinc 4 1, 3) := by decide +kernel
theorem dX6_takeCheapestWay_150 : decode cX6_takeCheapestWay 150 = .ok (.goto (-68), 3) := by decide +kernel
theorem dX6_takeCheapestWay_153 : decode cX6_takeCheapestWay 153 = .ok (.return_, 1) := by decide +kernel
theorem dX6_indexOfCondition_0 : decode cX6_indexOfCondition 0 = .ok (.aload_n 2, 1) := by decide +kernel
theorem dX6_indexOfCondition_1 : decode cX6_indexOfCondition 1 = .ok (.iload 4, 2) := by decide +kernel
theorem dX6_indexOfCondition_3 : decode cX6_indexOfCondition 3 = .ok (.invokevirtual 51, 3) := by decide +kernel
theorem dX6_indexOfCondition_6 : decode cX6_indexOfCondition 6 = .ok (.astore 5, 2) := by decide +kernel
theorem dX6_indexOfCondition_8 : decode cX6_indexOfCondition 8 = .ok (.aload 5, 2) := by decide +kernel
theorem dX6_indexOfCondition_10 : decode cX6_indexOfCondition 10 = .ok (.ifnull 20, 3) := by decide +kernel
theorem dX6_indexOfCondition_13 : decode cX6_indexOfCondition 13 = .ok (.aload 5, 2) := by decide +kernel
theorem dX6_indexOfCondition_15 : decode cX6_indexOfCondition 15 = .ok (.invokevirtual 57, 3) := by decide +kernel
theorem dX6_indexOfCondition_18 : decode cX6_indexOfCondition 18 = .ok (.aload_n 1, 1) := by decide +kernel
theorem dX6_indexOfCondition_19 : decode cX6_indexOfCondition 19 = .ok (.iload_n 3, 1) := by decide +kernel
theorem dX6_indexOfCondition_20 : decode cX6_indexOfCondition 20 = .ok (.invokevirtual 172, 3) := by decide +kernel
theorem dX6_indexOfCondition_23 : decode cX6_indexOfCondition 23 = .ok (.if_icmp .ne 7, 3) := by decide +kernel
theorem dX6_indexOfCondition_26 : decode cX6_indexOfCondition 26 = .ok (.iconst 1, 1) := by decide +kernel
theorem dX6_indexOfCondition_27 : decode cX6_indexOfCondition 27 = .ok (.goto 4, 3) := by decide +kernel
theorem dX6_indexOfCondition_30 : decode cX6_indexOfCondition 30 = .ok (.iconst 0, 1) := by decide +kernel
theorem dX6_indexOfCondition_31 : decode cX6_indexOfCondition 31 = .ok (.istore 6, 2) := by decide +kernel
theorem dX6_indexOfCondition_33 : decode cX6_indexOfCondition 33 = .ok (.iload 6, 2) := by decide +kernel
theorem dX6_indexOfCondition_35 : decode cX6_indexOfCondition 35 = .ok (.ifCond .eq 28, 3) := by decide +kernel
theorem dX6_indexOfCondition_38 : decode cX6_indexOfCondition 38 = .ok (.iload 4, 2) := by decide +kernel
theorem dX6_indexOfCondition_40 : decode cX6_indexOfCondition 40 = .ok (.ifCond .lt 23, 3) := by decide +kernel
theorem dX6_indexOfCondition_43 : decode cX6_indexOfCondition 43 = .ok (.iload 4, 2) := by decide +kernel
theorem dX6_indexOfCondition_45 : decode cX6_indexOfCondition 45 = .ok (.aload_n 0, 1) := by decide +kernel
theorem dX6_indexOfCondition_46 : decode cX6_indexOfCondition 46 = .ok (.getfield 25, 3) := by decide +kernel
theorem dX6_indexOfCondition_49 : decode cX6_indexOfCondition 49 = .ok (.arraylength, 1) := by decide +kernel
theorem dX6_indexOfCondition_50 : decode cX6_indexOfCondition 50 = .ok (.if_icmp .ge 13, 3) := by decide +kernel
theorem dX6_indexOfCondition_53 : decode cX6_indexOfCondition 53 = .ok (.aload_n 0, 1) := by decide +kernel
theorem dX6_indexOfCondition_54 : decode cX6_indexOfCondition 54 = .ok (.getfield 25, 3) := by decide +kernel
theorem dX6_indexOfCondition_57 : decode cX6_indexOfCondition 57 = .ok (.iload 4, 2) := by decide +kernel
theorem dX6_indexOfCondition_59 : decode cX6_indexOfCondition 59 = .ok (.iaload, 1) := by decide +kernel
theorem dX6_indexOfCondition_60 : decode cX6_indexOfCondition 60 = .ok (.goto 4, 3) := by decide +kernel
theorem dX6_indexOfCondition_63 : decode cX6_indexOfCondition 63 = .ok (.iconst (-1), 1) := by decide +kernel
theorem dX6_indexOfCondition_64 : decode cX6_indexOfCondition 64 = .ok (.ireturn, 1) := by decide +kernel
theorem dX6_indexOfJoin_0 : decode cX6_indexOfJoin 0 = .ok (.aload_n 2, 1) := by decide +kernel
theorem dX6_indexOfJoin_1 : decode cX6_indexOfJoin 1 = .ok (.iload 4, 2) := by decide +kernel
theorem dX6_indexOfJoin_3 : decode cX6_indexOfJoin 3 = .ok (.invokevirtual 85, 3) := by decide +kernel
theorem dX6_indexOfJoin_6 : decode cX6_indexOfJoin 6 = .ok (.astore 5, 2) := by decide +kernel
theorem dX6_indexOfJoin_8 : decode cX6_indexOfJoin 8 = .ok (.aload_n 1, 1) := by decide +kernel
theorem dX6_indexOfJoin_9 : decode cX6_indexOfJoin 9 = .ok (.iload_n 3, 1) := by decide +kernel
theorem dX6_indexOfJoin_10 : decode cX6_indexOfJoin 10 = .ok (.invokevirtual 172, 3) := by decide +kernel
theorem dX6_indexOfJoin_13 : decode cX6_indexOfJoin 13 = .ok (.istore 6, 2) := by decide +kernel
theorem dX6_indexOfJoin_15 : decode cX6_indexOfJoin 15 = .ok (.aload 5, 2) := by decide +kernel
theorem dX6_indexOfJoin_17 : decode cX6_indexOfJoin 17 = .ok (.ifnull 22, 3) := by decide +kernel
theorem dX6_indexOfJoin_20 : decode cX6_indexOfJoin 20 = .ok (.aload_n 1, 1) := by decide +kernel
theorem dX6_indexOfJoin_21 : decode cX6_indexOfJoin 21 = .ok (.aload 5, 2) := by decide +kernel
theorem dX6_indexOfJoin_23 : decode cX6_indexOfJoin 23 = .ok (.iload 6, 2) := by decide +kernel
theorem dX6_indexOfJoin_25 : decode cX6_indexOfJoin 25 = .ok (.invokevirtual 89, 3) := by decide +kernel
theorem dX6_indexOfJoin_28 : decode cX6_indexOfJoin 28 = .ok (.iload_n 3, 1) := by decide +kernel
theorem dX6_indexOfJoin_29 : decode cX6_indexOfJoin 29 = .ok (.invokevirtual 178, 3) := by decide +kernel
theorem dX6_indexOfJoin_32 : decode cX6_indexOfJoin 32 = .ok (.ifCond .eq 7, 3) := by decide +kernel
theorem dX6_indexOfJoin_35 : decode cX6_indexOfJoin 35 = .ok (.iconst 1, 1) := by decide +kernel
theorem dX6_indexOfJoin_36 : decode cX6_indexOfJoin 36 = .ok (.goto 4, 3) := by decide +kernel
theorem dX6_indexOfJoin_39 : decode cX6_indexOfJoin 39 = .ok (.iconst 0, 1) := by decide +kernel
theorem dX6_indexOfJoin_40 : decode cX6_indexOfJoin 40 = .ok (.istore 7, 2) := by decide +kernel
theorem dX6_indexOfJoin_42 : decode cX6_indexOfJoin 42 = .ok (.iload 4, 2) := by decide +kernel
theorem dX6_indexOfJoin_44 : decode cX6_indexOfJoin 44 = .ok (.iconst 3, 1) := by decide +kernel
theorem dX6_indexOfJoin_45 : decode cX6_indexOfJoin 45 = .ok (.imul, 1) := by decide +kernel
theorem dX6_indexOfJoin_46 : decode cX6_indexOfJoin 46 = .ok (.iload 6, 2) := by decide +kernel
theorem dX6_indexOfJoin_48 : decode cX6_indexOfJoin 48 = .ok (.iadd, 1) := by decide +kernel
theorem dX6_indexOfJoin_49 : decode cX6_indexOfJoin 49 = .ok (.istore 8, 2) := by decide +kernel
theorem dX6_indexOfJoin_51 : decode cX6_indexOfJoin 51 = .ok (.iload 7, 2) := by decide +kernel
theorem dX6_indexOfJoin_53 : decode cX6_indexOfJoin 53 = .ok (.ifCond .eq 28, 3) := by decide +kernel
theorem dX6_indexOfJoin_56 : decode cX6_indexOfJoin 56 = .ok (.iload 8, 2) := by decide +kernel
theorem dX6_indexOfJoin_58 : decode cX6_indexOfJoin 58 = .ok (.ifCond .lt 23, 3) := by decide +kernel
theorem dX6_indexOfJoin_61 : decode cX6_indexOfJoin 61 = .ok (.iload 8, 2) := by decide +kernel
theorem dX6_indexOfJoin_63 : decode cX6_indexOfJoin 63 = .ok (.aload_n 0, 1) := by decide +kernel
theorem dX6_indexOfJoin_64 : decode cX6_indexOfJoin 64 = .ok (.getfield 34, 3) := by decide +kernel
theorem dX6_indexOfJoin_67 : decode cX6_indexOfJoin 67 = .ok (.arraylength, 1) := by decide +kernel
theorem dX6_indexOfJoin_68 : decode cX6_indexOfJoin 68 = .ok (.if_icmp .ge 13, 3) := by decide +kernel
theorem dX6_indexOfJoin_71 : decode cX6_indexOfJoin 71 = .ok (.aload_n 0, 1) := by decide +kernel
theorem dX6_indexOfJoin_72 : decode cX6_indexOfJoin 72 = .ok (.getfield 34, 3) := by decide +kernel
theorem dX6_indexOfJoin_75 : decode cX6_indexOfJoin 75 = .ok (.iload 8, 2) := by decide +kernel
theorem dX6_indexOfJoin_77 : decode cX6_indexOfJoin 77 = .ok (.iaload, 1) := by decide +kernel
theorem dX6_indexOfJoin_78 : decode cX6_indexOfJoin 78 = .ok (.goto 4, 3) := by decide +kernel
theorem dX6_indexOfJoin_81 : decode cX6_indexOfJoin 81 = .ok (.iconst (-1), 1) := by decide +kernel
theorem dX6_indexOfJoin_82 : decode cX6_indexOfJoin 82 = .ok (.ireturn, 1) := by decide +kernel
theorem dX6_joinCost_0 : decode cX6_joinCost 0 = .ok (.iload_n 1, 1) := by decide +kernel
theorem dX6_joinCost_1 : decode cX6_joinCost 1 = .ok (.iconst 3, 1) := by decide +kernel
theorem dX6_joinCost_2 : decode cX6_joinCost 2 = .ok (.imul, 1) := by decide +kernel
theorem dX6_joinCost_3 : decode cX6_joinCost 3 = .ok (.iload_n 2, 1) := by decide +kernel
theorem dX6_joinCost_4 : decode cX6_joinCost 4 = .ok (.iadd, 1) := by decide +kernel
theorem dX6_joinCost_5 : decode cX6_joinCost 5 = .ok (.istore_n 3, 1) := by decide +kernel
theorem dX6_joinCost_6 : decode cX6_joinCost 6 = .ok (.iload_n 3, 1) := by decide +kernel
theorem dX6_joinCost_7 : decode cX6_joinCost 7 = .ok (.ifCond .lt 21, 3) := by decide +kernel
theorem dX6_joinCost_10 : decode cX6_joinCost 10 = .ok (.iload_n 3, 1) := by decide +kernel
theorem dX6_joinCost_11 : decode cX6_joinCost 11 = .ok (.aload_n 0, 1) := by decide +kernel
theorem dX6_joinCost_12 : decode cX6_joinCost 12 = .ok (.getfield 31, 3) := by decide +kernel
theorem dX6_joinCost_15 : decode cX6_joinCost 15 = .ok (.arraylength, 1) := by decide +kernel
theorem dX6_joinCost_16 : decode cX6_joinCost 16 = .ok (.if_icmp .ge 12, 3) := by decide +kernel
theorem dX6_joinCost_19 : decode cX6_joinCost 19 = .ok (.aload_n 0, 1) := by decide +kernel
theorem dX6_joinCost_20 : decode cX6_joinCost 20 = .ok (.getfield 31, 3) := by decide +kernel
theorem dX6_joinCost_23 : decode cX6_joinCost 23 = .ok (.iload_n 3, 1) := by decide +kernel
theorem dX6_joinCost_24 : decode cX6_joinCost 24 = .ok (.iaload, 1) := by decide +kernel
theorem dX6_joinCost_25 : decode cX6_joinCost 25 = .ok (.goto 4, 3) := by decide +kernel
theorem dX6_joinCost_28 : decode cX6_joinCost 28 = .ok (.iconst 0, 1) := by decide +kernel
theorem dX6_joinCost_29 : decode cX6_joinCost 29 = .ok (.ireturn, 1) := by decide +kernel
theorem dX6_costOf_0 : decode cX6_costOf 0 = .ok (.aload_n 1, 1) := by decide +kernel
theorem dX6_costOf_1 : decode cX6_costOf 1 = .ok (.iload_n 3, 1) := by decide +kernel
theorem dX6_costOf_2 : decode cX6_costOf 2 = .ok (.invokevirtual 181, 3) := by decide +kernel
theorem dX6_costOf_5 : decode cX6_costOf 5 = .ok (.istore 4, 2) := by decide +kernel
theorem dX6_costOf_7 : decode cX6_costOf 7 = .ok (.aload_n 1, 1) := by decide +kernel
theorem dX6_costOf_8 : decode cX6_costOf 8 = .ok (.iload_n 3, 1) := by decide +kernel
theorem dX6_costOf_9 : decode cX6_costOf 9 = .ok (.invokevirtual 184, 3) := by decide +kernel
theorem dX6_costOf_12 : decode cX6_costOf 12 = .ok (.bipush 106, 2) := by decide +kernel
theorem dX6_costOf_14 : decode cX6_costOf 14 = .ok (.if_icmp .ne 15, 3) := by decide +kernel
theorem dX6_costOf_17 : decode cX6_costOf 17 = .ok (.aload_n 0, 1) := by decide +kernel
theorem dX6_costOf_18 : decode cX6_costOf 18 = .ok (.iload 4, 2) := by decide +kernel
theorem dX6_costOf_20 : decode cX6_costOf 20 = .ok (.aload_n 1, 1) := by decide +kernel
theorem dX6_costOf_21 : decode cX6_costOf 21 = .ok (.iload_n 3, 1) := by decide +kernel
theorem dX6_costOf_22 : decode cX6_costOf 22 = .ok (.invokevirtual 172, 3) := by decide +kernel
theorem dX6_costOf_25 : decode cX6_costOf 25 = .ok (.invokevirtual 175, 3) := by decide +kernel
theorem dX6_costOf_28 : decode cX6_costOf 28 = .ok (.ireturn, 1) := by decide +kernel
theorem dX6_costOf_29 : decode cX6_costOf 29 = .ok (.aload_n 1, 1) := by decide +kernel
theorem dX6_costOf_30 : decode cX6_costOf 30 = .ok (.iload_n 3, 1) := by decide +kernel
theorem dX6_costOf_31 : decode cX6_costOf 31 = .ok (.invokevirtual 184, 3) := by decide +kernel
theorem dX6_costOf_34 : decode cX6_costOf 34 = .ok (.bipush 99, 2) := by decide +kernel
theorem dX6_costOf_36 : decode cX6_costOf 36 = .ok (.if_icmp .ne 30, 3) := by decide +kernel
theorem dX6_costOf_39 : decode cX6_costOf 39 = .ok (.iload 4, 2) := by decide +kernel
theorem dX6_costOf_41 : decode cX6_costOf 41 = .ok (.ifCond .lt 23, 3) := by decide +kernel
theorem dX6_costOf_44 : decode cX6_costOf 44 = .ok (.iload 4, 2) := by decide +kernel
theorem dX6_costOf_46 : decode cX6_costOf 46 = .ok (.aload_n 0, 1) := by decide +kernel
theorem dX6_costOf_47 : decode cX6_costOf 47 = .ok (.getfield 22, 3) := by decide +kernel
theorem dX6_costOf_50 : decode cX6_costOf 50 = .ok (.arraylength, 1) := by decide +kernel
theorem dX6_costOf_51 : decode cX6_costOf 51 = .ok (.if_icmp .ge 13, 3) := by decide +kernel
theorem dX6_costOf_54 : decode cX6_costOf 54 = .ok (.aload_n 0, 1) := by decide +kernel
theorem dX6_costOf_55 : decode cX6_costOf 55 = .ok (.getfield 22, 3) := by decide +kernel
theorem dX6_costOf_58 : decode cX6_costOf 58 = .ok (.iload 4, 2) := by decide +kernel
theorem dX6_costOf_60 : decode cX6_costOf 60 = .ok (.iaload, 1) := by decide +kernel
theorem dX6_costOf_61 : decode cX6_costOf 61 = .ok (.goto 4, 3) := by decide +kernel
theorem dX6_costOf_64 : decode cX6_costOf 64 = .ok (.iconst 0, 1) := by decide +kernel
theorem dX6_costOf_65 : decode cX6_costOf 65 = .ok (.ireturn, 1) := by decide +kernel
theorem dX6_costOf_66 : decode cX6_costOf 66 = .ok (.aload_n 2, 1) := by decide +kernel
theorem dX6_costOf_67 : decode cX6_costOf 67 = .ok (.aload_n 1, 1) := by decide +kernel
theorem dX6_costOf_68 : decode cX6_costOf 68 = .ok (.iload_n 3, 1) := by decide +kernel
theorem dX6_costOf_69 : decode cX6_costOf 69 = .ok (.invokevirtual 172, 3) := by decide +kernel
theorem dX6_costOf_72 : decode cX6_costOf 72 = .ok (.invokevirtual 63, 3) := by decide +kernel
theorem dX6_costOf_75 : decode cX6_costOf 75 = .ok (.astore 5, 2) := by decide +kernel
theorem dX6_costOf_77 : decode cX6_costOf 77 = .ok (.aload 5, 2) := by decide +kernel
theorem dX6_costOf_79 : decode cX6_costOf 79 = .ok (.ifnonnull 7, 3) := by decide +kernel
theorem dX6_costOf_82 : decode cX6_costOf 82 = .ok (.iconst 0, 1) := by decide +kernel
theorem dX6_costOf_83 : decode cX6_costOf 83 = .ok (.goto 8, 3) := by decide +kernel
theorem dX6_costOf_86 : decode cX6_costOf 86 = .ok (.aload 5, 2) := by decide +kernel
theorem dX6_costOf_88 : decode cX6_costOf 88 = .ok (.invokevirtual 188, 3) := by decide +kernel
theorem dX6_costOf_91 : decode cX6_costOf 91 = .ok (.ireturn, 1) := by decide +kernel
theorem dX6_guessOf_0 : decode cX6_guessOf 0 = .ok (.lconst 0, 1) := by decide +kernel
theorem dX6_guessOf_1 : decode cX6_guessOf 1 = .ok (.lstore_n 3, 1) := by decide +kernel
theorem dX6_guessOf_2 : decode cX6_guessOf 2 = .ok (.lconst 1, 1) := by decide +kernel
theorem dX6_guessOf_3 : decode cX6_guessOf 3 = .ok (.lstore 5, 2) := by decide +kernel
theorem dX6_guessOf_5 : decode cX6_guessOf 5 = .ok (.iconst 0, 1) := by decide +kernel
theorem dX6_guessOf_6 : decode cX6_guessOf 6 = .ok (.istore 7, 2) := by decide +kernel
theorem dX6_guessOf_8 : decode cX6_guessOf 8 = .ok (.iload 7, 2) := by decide +kernel
theorem dX6_guessOf_10 : decode cX6_guessOf 10 = .ok (.aload_n 1, 1) := by decide +kernel
theorem dX6_guessOf_11 : decode cX6_guessOf 11 = .ok (.invokevirtual 121, 3) := by decide +kernel
theorem dX6_guessOf_14 : decode cX6_guessOf 14 = .ok (.if_icmp .ge 36, 3) := by decide +kernel
theorem dX6_guessOf_17 : decode cX6_guessOf 17 = .ok (.lload_n 3, 1) := by decide +kernel
theorem dX6_guessOf_18 : decode cX6_guessOf 18 = .ok (.lload 5, 2) := by decide +kernel
theorem dX6_guessOf_20 : decode cX6_guessOf 20 = .ok (.aload_n 0, 1) := by decide +kernel
theorem dX6_guessOf_21 : decode cX6_guessOf 21 = .ok (.aload_n 1, 1) := by decide +kernel
theorem dX6_guessOf_22 : decode cX6_guessOf 22 = .ok (.aload_n 2, 1) := by decide +kernel
theorem dX6_guessOf_23 : decode cX6_guessOf 23 = .ok (.iload 7, 2) := by decide +kernel
theorem dX6_guessOf_25 : decode cX6_guessOf 25 = .ok (.invokevirtual 168, 3) := by decide +kernel
theorem dX6_guessOf_28 : decode cX6_guessOf 28 = .ok (.i2l, 1) := by decide +kernel
theorem dX6_guessOf_29 : decode cX6_guessOf 29 = .ok (.lmul, 1) := by decide +kernel
theorem dX6_guessOf_30 : decode cX6_guessOf 30 = .ok (.ladd, 1) := by decide +kernel
theorem dX6_guessOf_31 : decode cX6_guessOf 31 = .ok (.lstore_n 3, 1) := by decide +kernel
theorem dX6_guessOf_32 : decode cX6_guessOf 32 = .ok (.aload_n 0, 1) := by decide +kernel
theorem dX6_guessOf_33 : decode cX6_guessOf 33 = .ok (.aload_n 1, 1) := by decide +kernel
theorem dX6_guessOf_34 : decode cX6_guessOf 34 = .ok (.aload_n 2, 1) := by decide +kernel
theorem dX6_guessOf_35 : decode cX6_guessOf 35 = .ok (.iload 7, 2) := by decide +kernel
theorem dX6_guessOf_37 : decode cX6_guessOf 37 = .ok (.lload 5, 2) := by decide +kernel
theorem dX6_guessOf_39 : decode cX6_guessOf 39 = .ok (.invokevirtual 191, 3) := by decide +kernel
theorem dX6_guessOf_42 : decode cX6_guessOf 42 = .ok (.lstore 5, 2) := by decide +kernel
theorem dX6_guessOf_44 : decode cX6_guessOf 44 = .ok (.iinc 7 1, 3) := by decide +kernel
theorem dX6_guessOf_47 : decode cX6_guessOf 47 = .ok (.goto (-39), 3) := by decide +kernel
theorem dX6_guessOf_50 : decode cX6_guessOf 50 = .ok (.lload_n 3, 1) := by decide +kernel
theorem dX6_guessOf_51 : decode cX6_guessOf 51 = .ok (.lreturn, 1) := by decide +kernel
theorem dX6_choicesBehind_0 : decode cX6_choicesBehind 0 = .ok (.aload_n 1, 1) := by decide +kernel
theorem dX6_choicesBehind_1 : decode cX6_choicesBehind 1 = .ok (.iload_n 3, 1) := by decide +kernel
theorem dX6_choicesBehind_2 : decode cX6_choicesBehind 2 = .ok (.invokevirtual 172, 3) := by decide +kernel
theorem dX6_choicesBehind_5 : decode cX6_choicesBehind 5 = .ok (.istore 6, 2) := by decide +kernel
theorem dX6_choicesBehind_7 : decode cX6_choicesBehind 7 = .ok (.aload_n 2, 1) := by decide +kernel
theorem dX6_choicesBehind_8 : decode cX6_choicesBehind 8 = .ok (.iload 6, 2) := by decide +kernel
theorem dX6_choicesBehind_10 : decode cX6_choicesBehind 10 = .ok (.invokevirtual 63, 3) := by decide +kernel
theorem dX6_choicesBehind_13 : decode cX6_choicesBehind 13 = .ok (.astore 7, 2) := by decide +kernel
theorem dX6_choicesBehind_15 : decode cX6_choicesBehind 15 = .ok (.aload 7, 2) := by decide +kernel
theorem dX6_choicesBehind_17 : decode cX6_choicesBehind 17 = .ok (.ifnonnull 7, 3) := by decide +kernel
theorem dX6_choicesBehind_20 : decode cX6_choicesBehind 20 = .ok (.lconst 0, 1) := by decide +kernel
theorem dX6_choicesBehind_21 : decode cX6_choicesBehind 21 = .ok (.goto 12, 3) := by decide +kernel
theorem dX6_choicesBehind_24 : decode cX6_choicesBehind 24 = .ok (.lload 4, 2) := by decide +kernel
theorem dX6_choicesBehind_26 : decode cX6_choicesBehind 26 = .ok (.aload 7, 2) := by decide +kernel
theorem dX6_choicesBehind_28 : decode cX6_choicesBehind 28 = .ok (.invokevirtual 73, 3) := by decide +kernel
theorem dX6_choicesBehind_31 : decode cX6_choicesBehind 31 = .ok (.i2l, 1) := by decide +kernel
theorem dX6_choicesBehind_32 : decode cX6_choicesBehind 32 = .ok (.lmul, 1) := by decide +kernel
theorem dX6_choicesBehind_33 : decode cX6_choicesBehind 33 = .ok (.lstore 8, 2) := by decide +kernel
theorem dX6_choicesBehind_35 : decode cX6_choicesBehind 35 = .ok (.iconst 0, 1) := by decide +kernel
theorem dX6_choicesBehind_36 : decode cX6_choicesBehind 36 = .ok (.istore 10, 2) := by decide +kernel
theorem dX6_choicesBehind_38 : decode cX6_choicesBehind 38 = .ok (.iload 10, 2) := by decide +kernel
theorem dX6_choicesBehind_40 : decode cX6_choicesBehind 40 = .ok (.iconst 4, 1) := by decide +kernel
theorem dX6_choicesBehind_41 : decode cX6_choicesBehind 41 = .ok (.if_icmp .ge 49, 3) := by decide +kernel
theorem dX6_choicesBehind_44 : decode cX6_choicesBehind 44 = .ok (.aload_n 2, 1) := by decide +kernel
theorem dX6_choicesBehind_45 : decode cX6_choicesBehind 45 = .ok (.iload 10, 2) := by decide +kernel
theorem dX6_choicesBehind_47 : decode cX6_choicesBehind 47 = .ok (.invokevirtual 51, 3) := by decide +kernel
theorem dX6_choicesBehind_50 : decode cX6_choicesBehind 50 = .ok (.astore 11, 2) := by decide +kernel
theorem dX6_choicesBehind_52 : decode cX6_choicesBehind 52 = .ok (.aload 11, 2) := by decide +kernel
theorem dX6_choicesBehind_54 : decode cX6_choicesBehind 54 = .ok (.ifnull 30, 3) := by decide +kernel
theorem dX6_choicesBehind_57 : decode cX6_choicesBehind 57 = .ok (.aload 11, 2) := by decide +kernel
theorem dX6_choicesBehind_59 : decode cX6_choicesBehind 59 = .ok (.invokevirtual 57, 3) := by decide +kernel
theorem dX6_choicesBehind_62 : decode cX6_choicesBehind 62 = .ok (.iload 6, 2) := by decide +kernel
theorem dX6_choicesBehind_64 : decode cX6_choicesBehind 64 = .ok (.if_icmp .ne 20, 3) := by decide +kernel
theorem dX6_choicesBehind_67 : decode cX6_choicesBehind 67 = .ok (.lload 8, 2) := by decide +kernel
theorem dX6_choicesBehind_69 : decode cX6_choicesBehind 69 = .ok (.aload_n 0, 1) := by decide +kernel
theorem dX6_choicesBehind_70 : decode cX6_choicesBehind 70 = .ok (.getfield 18, 3) := by decide +kernel
theorem dX6_choicesBehind_73 : decode cX6_choicesBehind 73 = .ok (.iload 10, 2) := by decide +kernel
theorem dX6_choicesBehind_75 : decode cX6_choicesBehind 75 = .ok (.iaload, 1) := by decide +kernel
theorem dX6_choicesBehind_76 : decode cX6_choicesBehind 76 = .ok (.i2l, 1) := by decide +kernel
theorem dX6_choicesBehind_77 : decode cX6_choicesBehind 77 = .ok (.lmul, 1) := by decide +kernel
theorem dX6_choicesBehind_78 : decode cX6_choicesBehind 78 = .ok (.ldc2_w 195, 3) := by decide +kernel
theorem dX6_choicesBehind_81 : decode cX6_choicesBehind 81 = .ok (.ldiv, 1) := by decide +kernel
theorem dX6_choicesBehind_82 : decode cX6_choicesBehind 82 = .ok (.lstore 8, 2) := by decide +kernel
theorem dX6_choicesBehind_84 : decode cX6_choicesBehind 84 = .ok (.iinc 10 1, 3) := by decide +kernel
theorem dX6_choicesBehind_87 : decode cX6_choicesBehind 87 = .ok (.goto (-49), 3) := by decide +kernel
theorem dX6_choicesBehind_90 : decode cX6_choicesBehind 90 = .ok (.iconst 0, 1) := by decide +kernel
theorem dX6_choicesBehind_91 : decode cX6_choicesBehind 91 = .ok (.istore 10, 2) := by decide +kernel
theorem dX6_choicesBehind_93 : decode cX6_choicesBehind 93 = .ok (.iload 10, 2) := by decide +kernel
theorem dX6_choicesBehind_95 : decode cX6_choicesBehind 95 = .ok (.iconst 3, 1) := by decide +kernel
theorem dX6_choicesBehind_96 : decode cX6_choicesBehind 96 = .ok (.if_icmp .ge 54, 3) := by decide +kernel
theorem dX6_choicesBehind_99 : decode cX6_choicesBehind 99 = .ok (.aload_n 2, 1) := by decide +kernel
theorem dX6_choicesBehind_100 : decode cX6_choicesBehind 100 = .ok (.iload 10, 2) := by decide +kernel
theorem dX6_choicesBehind_102 : decode cX6_choicesBehind 102 = .ok (.invokevirtual 85, 3) := by decide +kernel
theorem dX6_choicesBehind_105 : decode cX6_choicesBehind 105 = .ok (.astore 11, 2) := by decide +kernel
theorem dX6_choicesBehind_107 : decode cX6_choicesBehind 107 = .ok (.aload 11, 2) := by decide +kernel
theorem dX6_choicesBehind_109 : decode cX6_choicesBehind 109 = .ok (.ifnull 35, 3) := by decide +kernel
theorem dX6_choicesBehind_112 : decode cX6_choicesBehind 112 = .ok (.aload_n 1, 1) := by decide +kernel
theorem dX6_choicesBehind_113 : decode cX6_choicesBehind 113 = .ok (.aload 11, 2) := by decide +kernel
theorem dX6_choicesBehind_115 : decode cX6_choicesBehind 115 = .ok (.iload 6, 2) := by decide +kernel
theorem dX6_choicesBehind_117 : decode cX6_choicesBehind 117 = .ok (.invokevirtual 89, 3) := by decide +kernel
theorem dX6_choicesBehind_120 : decode cX6_choicesBehind 120 = .ok (.iload_n 3, 1) := by decide +kernel
theorem dX6_choicesBehind_121 : decode cX6_choicesBehind 121 = .ok (.invokevirtual 178, 3) := by decide +kernel
theorem dX6_choicesBehind_124 : decode cX6_choicesBehind 124 = .ok (.ifCond .eq 20, 3) := by decide +kernel
theorem dX6_choicesBehind_127 : decode cX6_choicesBehind 127 = .ok (.lload 8, 2) := by decide +kernel
theorem dX6_choicesBehind_129 : decode cX6_choicesBehind 129 = .ok (.aload_n 0, 1) := by decide +kernel
theorem dX6_choicesBehind_130 : decode cX6_choicesBehind 130 = .ok (.getfield 28, 3) := by decide +kernel
theorem dX6_choicesBehind_133 : decode cX6_choicesBehind 133 = .ok (.iload 10, 2) := by decide +kernel
theorem dX6_choicesBehind_135 : decode cX6_choicesBehind 135 = .ok (.iaload, 1) := by decide +kernel
theorem dX6_choicesBehind_136 : decode cX6_choicesBehind 136 = .ok (.i2l, 1) := by decide +kernel
theorem dX6_choicesBehind_137 : decode cX6_choicesBehind 137 = .ok (.lmul, 1) := by decide +kernel
theorem dX6_choicesBehind_138 : decode cX6_choicesBehind 138 = .ok (.ldc2_w 195, 3) := by decide +kernel
theorem dX6_choicesBehind_141 : decode cX6_choicesBehind 141 = .ok (.ldiv, 1) := by decide +kernel
theorem dX6_choicesBehind_142 : decode cX6_choicesBehind 142 = .ok (.lstore 8, 2) := by decide +kernel
theorem dX6_choicesBehind_144 : decode cX6_choicesBehind 144 = .ok (.iinc 10 1, 3) := by decide +kernel
theorem dX6_choicesBehind_147 : decode cX6_choicesBehind 147 = .ok (.goto (-54), 3) := by decide +kernel
theorem dX6_choicesBehind_150 : decode cX6_choicesBehind 150 = .ok (.lconst 1, 1) := by decide +kernel
theorem dX6_choicesBehind_151 : decode cX6_choicesBehind 151 = .ok (.lload 8, 2) := by decide +kernel
theorem dX6_choicesBehind_153 : decode cX6_choicesBehind 153 = .ok (.invokestatic 197, 3) := by decide +kernel
theorem dX6_choicesBehind_156 : decode cX6_choicesBehind 156 = .ok (.lreturn, 1) := by decide +kernel
theorem dX7_init_0 : decode cX7_init 0 = .ok (.aload_n 0, 1) := by decide +kernel
theorem dX7_init_1 : decode cX7_init 1 = .ok (.invokespecial 3, 3) := by decide +kernel
theorem dX7_init_4 : decode cX7_init 4 = .ok (.aload_n 0, 1) := by decide +kernel
theorem dX7_init_5 : decode cX7_init 5 = .ok (.iconst 3, 1) := by decide +kernel
theorem dX7_init_6 : decode cX7_init 6 = .ok (.anewarray 9, 3) := by decide +kernel
theorem dX7_init_9 : decode cX7_init 9 = .ok (.putfield 11, 3) := by decide +kernel
theorem dX7_init_12 : decode cX7_init 12 = .ok (.aload_n 0, 1) := by decide +kernel
theorem dX7_init_13 : decode cX7_init 13 = .ok (.iconst 0, 1) := by decide +kernel
theorem dX7_init_14 : decode cX7_init 14 = .ok (.putfield 17, 3) := by decide +kernel
theorem dX7_init_17 : decode cX7_init 17 = .ok (.aload_n 0, 1) := by decide +kernel
theorem dX7_init_18 : decode cX7_init 18 = .ok (.iconst 4, 1) := by decide +kernel
theorem dX7_init_19 : decode cX7_init 19 = .ok (.anewarray 21, 3) := by decide +kernel
theorem dX7_init_22 : decode cX7_init 22 = .ok (.putfield 23, 3) := by decide +kernel
theorem dX7_init_25 : decode cX7_init 25 = .ok (.aload_n 0, 1) := by decide +kernel
theorem dX7_init_26 : decode cX7_init 26 = .ok (.iconst 0, 1) := by decide +kernel
theorem dX7_init_27 : decode cX7_init 27 = .ok (.putfield 27, 3) := by decide +kernel
theorem dX7_init_30 : decode cX7_init 30 = .ok (.aload_n 0, 1) := by decide +kernel
theorem dX7_init_31 : decode cX7_init 31 = .ok (.iconst 3, 1) := by decide +kernel
theorem dX7_init_32 : decode cX7_init 32 = .ok (.anewarray 30, 3) := by decide +kernel
theorem dX7_init_35 : decode cX7_init 35 = .ok (.putfield 32, 3) := by decide +kernel
theorem dX7_init_38 : decode cX7_init 38 = .ok (.aload_n 0, 1) := by decide +kernel
theorem dX7_init_39 : decode cX7_init 39 = .ok (.iconst 0, 1) := by decide +kernel
theorem dX7_init_40 : decode cX7_init 40 = .ok (.putfield 36, 3) := by decide +kernel
theorem dX7_init_43 : decode cX7_init 43 = .ok (.return_, 1) := by decide +kernel
theorem dX7_size_0 : decode cX7_size 0 = .ok (.aload_n 0, 1) := by decide +kernel
theorem dX7_size_1 : decode cX7_size 1 = .ok (.getfield 17, 3) := by decide +kernel
theorem dX7_size_4 : decode cX7_size 4 = .ok (.ireturn, 1) := by decide +kernel
theorem dX7_conditionCount_0 : decode cX7_conditionCount 0 = .ok (.aload_n 0, 1) := by decide +kernel
theorem dX7_conditionCount_1 : decode cX7_conditionCount 1 = .ok (.getfield 27, 3) := by decide +kernel
theorem dX7_conditionCount_4 : decode cX7_conditionCount 4 = .ok (.ireturn, 1) := by decide +kernel
theorem dX7_joinCount_0 : decode cX7_joinCount 0 = .ok (.aload_n 0, 1) := by decide +kernel
theorem dX7_joinCount_1 : decode cX7_joinCount 1 = .ok (.getfield 36, 3) := by decide +kernel
theorem dX7_joinCount_4 : decode cX7_joinCount 4 = .ok (.ireturn, 1) := by decide +kernel
theorem dX7_hasPosition_0 : decode cX7_hasPosition 0 = .ok (.iload_n 1, 1) := by decide +kernel
theorem dX7_hasPosition_1 : decode cX7_hasPosition 1 = .ok (.ifCond .lt 15, 3) := by decide +kernel
theorem dX7_hasPosition_4 : decode cX7_hasPosition 4 = .ok (.iload_n 1, 1) := by decide +kernel
theorem dX7_hasPosition_5 : decode cX7_hasPosition 5 = .ok (.aload_n 0, 1) := by decide +kernel
theorem dX7_hasPosition_6 : decode cX7_hasPosition 6 = .ok (.getfield 17, 3) := by decide +kernel
theorem dX7_hasPosition_9 : decode cX7_hasPosition 9 = .ok (.if_icmp .ge 7, 3) := by decide +kernel
theorem dX7_hasPosition_12 : decode cX7_hasPosition 12 = .ok (.iconst 1, 1) := by decide +kernel
theorem dX7_hasPosition_13 : decode cX7_hasPosition 13 = .ok (.goto 4, 3) := by decide +kernel
theorem dX7_hasPosition_16 : decode cX7_hasPosition 16 = .ok (.iconst 0, 1) := by decide +kernel
theorem dX7_hasPosition_17 : decode cX7_hasPosition 17 = .ok (.ireturn, 1) := by decide +kernel
theorem dX7_tableOf_0 : decode cX7_tableOf 0 = .ok (.iload_n 1, 1) := by decide +kernel
theorem dX7_tableOf_1 : decode cX7_tableOf 1 = .ok (.ifCond .lt 21, 3) := by decide +kernel
theorem dX7_tableOf_4 : decode cX7_tableOf 4 = .ok (.iload_n 1, 1) := by decide +kernel
theorem dX7_tableOf_5 : decode cX7_tableOf 5 = .ok (.aload_n 0, 1) := by decide +kernel
theorem dX7_tableOf_6 : decode cX7_tableOf 6 = .ok (.getfield 11, 3) := by decide +kernel
theorem dX7_tableOf_9 : decode cX7_tableOf 9 = .ok (.arraylength, 1) := by decide +kernel
theorem dX7_tableOf_10 : decode cX7_tableOf 10 = .ok (.if_icmp .ge 12, 3) := by decide +kernel
theorem dX7_tableOf_13 : decode cX7_tableOf 13 = .ok (.aload_n 0, 1) := by decide +kernel
theorem dX7_tableOf_14 : decode cX7_tableOf 14 = .ok (.getfield 11, 3) := by decide +kernel
theorem dX7_tableOf_17 : decode cX7_tableOf 17 = .ok (.iload_n 1, 1) := by decide +kernel
theorem dX7_tableOf_18 : decode cX7_tableOf 18 = .ok (.aaload, 1) := by decide +kernel
theorem dX7_tableOf_19 : decode cX7_tableOf 19 = .ok (.goto 4, 3) := by decide +kernel
theorem dX7_tableOf_22 : decode cX7_tableOf 22 = .ok (.aconst_null, 1) := by decide +kernel
theorem dX7_tableOf_23 : decode cX7_tableOf 23 = .ok (.areturn, 1) := by decide +kernel
theorem dX7_hasColumn_0 : decode cX7_hasColumn 0 = .ok (.aload_n 0, 1) := by decide +kernel
theorem dX7_hasColumn_1 : decode cX7_hasColumn 1 = .ok (.iload_n 1, 1) := by decide +kernel
theorem dX7_hasColumn_2 : decode cX7_hasColumn 2 = .ok (.invokevirtual 39, 3) := by decide +kernel
theorem dX7_hasColumn_5 : decode cX7_hasColumn 5 = .ok (.astore_n 3, 1) := by decide +kernel
theorem dX7_hasColumn_6 : decode cX7_hasColumn 6 = .ok (.aload_n 3, 1) := by decide +kernel
theorem dX7_hasColumn_7 : decode cX7_hasColumn 7 = .ok (.ifnull 15, 3) := by decide +kernel
theorem dX7_hasColumn_10 : decode cX7_hasColumn 10 = .ok (.aload_n 3, 1) := by decide +kernel
theorem dX7_hasColumn_11 : decode cX7_hasColumn 11 = .ok (.iload_n 2, 1) := by decide +kernel
theorem dX7_hasColumn_12 : decode cX7_hasColumn 12 = .ok (.invokevirtual 43, 3) := by decide +kernel
theorem dX7_hasColumn_15 : decode cX7_hasColumn 15 = .ok (.ifCond .eq 7, 3) := by decide +kernel
theorem dX7_hasColumn_18 : decode cX7_hasColumn 18 = .ok (.iconst 1, 1) := by decide +kernel
theorem dX7_hasColumn_19 : decode cX7_hasColumn 19 = .ok (.goto 4, 3) := by decide +kernel
theorem dX7_hasColumn_22 : decode cX7_hasColumn 22 = .ok (.iconst 0, 1) := by decide +kernel
theorem dX7_hasColumn_23 : decode cX7_hasColumn 23 = .ok (.ireturn, 1) := by decide +kernel
theorem dX7_conditionAt_0 : decode cX7_conditionAt 0 = .ok (.iload_n 1, 1) := by decide +kernel
theorem dX7_conditionAt_1 : decode cX7_conditionAt 1 = .ok (.ifCond .lt 21, 3) := by decide +kernel
theorem dX7_conditionAt_4 : decode cX7_conditionAt 4 = .ok (.iload_n 1, 1) := by decide +kernel
theorem dX7_conditionAt_5 : decode cX7_conditionAt 5 = .ok (.aload_n 0, 1) := by decide +kernel
theorem dX7_conditionAt_6 : decode cX7_conditionAt 6 = .ok (.getfield 23, 3) := by decide +kernel
theorem dX7_conditionAt_9 : decode cX7_conditionAt 9 = .ok (.arraylength, 1) := by decide +kernel
theorem dX7_conditionAt_10 : decode cX7_conditionAt 10 = .ok (.if_icmp .ge 12, 3) := by decide +kernel
theorem dX7_conditionAt_13 : decode cX7_conditionAt 13 = .ok (.aload_n 0, 1) := by decide +kernel
theorem dX7_conditionAt_14 : decode cX7_conditionAt 14 = .ok (.getfield 23, 3) := by decide +kernel
theorem dX7_conditionAt_17 : decode cX7_conditionAt 17 = .ok (.iload_n 1, 1) := by decide +kernel
theorem dX7_conditionAt_18 : decode cX7_conditionAt 18 = .ok (.aaload, 1) := by decide +kernel
theorem dX7_conditionAt_19 : decode cX7_conditionAt 19 = .ok (.goto 4, 3) := by decide +kernel
theorem dX7_conditionAt_22 : decode cX7_conditionAt 22 = .ok (.aconst_null, 1) := by decide +kernel
theorem dX7_conditionAt_23 : decode cX7_conditionAt 23 = .ok (.areturn, 1) := by decide +kernel
theorem dX7_joinAt_0 : decode cX7_joinAt 0 = .ok (.iload_n 1, 1) := by decide +kernel
theorem dX7_joinAt_1 : decode cX7_joinAt 1 = .ok (.ifCond .lt 21, 3) := by decide +kernel
theorem dX7_joinAt_4 : decode cX7_joinAt 4 = .ok (.iload_n 1, 1) := by decide +kernel
theorem dX7_joinAt_5 : decode cX7_joinAt 5 = .ok (.aload_n 0, 1) := by decide +kernel
theorem dX7_joinAt_6 : decode cX7_joinAt 6 = .ok (.getfield 32, 3) := by decide +kernel
theorem dX7_joinAt_9 : decode cX7_joinAt 9 = .ok (.arraylength, 1) := by decide +kernel
theorem dX7_joinAt_10 : decode cX7_joinAt 10 = .ok (.if_icmp .ge 12, 3) := by decide +kernel
theorem dX7_joinAt_13 : decode cX7_joinAt 13 = .ok (.aload_n 0, 1) := by decide +kernel
theorem dX7_joinAt_14 : decode cX7_joinAt 14 = .ok (.getfield 32, 3) := by decide +kernel
theorem dX7_joinAt_17 : decode cX7_joinAt 17 = .ok (.iload_n 1, 1) := by decide +kernel
theorem dX7_joinAt_18 : decode cX7_joinAt 18 = .ok (.aaload, 1) := by decide +kernel
theorem dX7_joinAt_19 : decode cX7_joinAt 19 = .ok (.goto 4, 3) := by decide +kernel
theorem dX7_joinAt_22 : decode cX7_joinAt 22 = .ok (.aconst_null, 1) := by decide +kernel
theorem dX7_joinAt_23 : decode cX7_joinAt 23 = .ok (.areturn, 1) := by decide +kernel
theorem dX7_addPosition_0 : decode cX7_addPosition 0 = .ok (.aload_n 0, 1) := by decide +kernel
theorem dX7_addPosition_1 : decode cX7_addPosition 1 = .ok (.getfield 17, 3) := by decide +kernel
theorem dX7_addPosition_4 : decode cX7_addPosition 4 = .ok (.ifCond .lt 15, 3) := by decide +kernel
theorem dX7_addPosition_7 : decode cX7_addPosition 7 = .ok (.aload_n 0, 1) := by decide +kernel
theorem dX7_addPosition_8 : decode cX7_addPosition 8 = .ok (.getfield 17, 3) := by decide +kernel
theorem dX7_addPosition_11 : decode cX7_addPosition 11 = .ok (.aload_n 0, 1) := by decide +kernel
theorem dX7_addPosition_12 : decode cX7_addPosition 12 = .ok (.getfield 11, 3) := by decide +kernel
theorem dX7_addPosition_15 : decode cX7_addPosition 15 = .ok (.arraylength, 1) := by decide +kernel
theorem dX7_addPosition_16 : decode cX7_addPosition 16 = .ok (.if_icmp .lt 5, 3) := by decide +kernel
theorem dX7_addPosition_19 : decode cX7_addPosition 19 = .ok (.iconst 0, 1) := by decide +kernel
theorem dX7_addPosition_20 : decode cX7_addPosition 20 = .ok (.ireturn, 1) := by decide +kernel
theorem dX7_addPosition_21 : decode cX7_addPosition 21 = .ok (.aload_n 0, 1) := by decide +kernel
theorem dX7_addPosition_22 : decode cX7_addPosition 22 = .ok (.getfield 11, 3) := by decide +kernel
theorem dX7_addPosition_25 : decode cX7_addPosition 25 = .ok (.aload_n 0, 1) := by decide +kernel
theorem dX7_addPosition_26 : decode cX7_addPosition 26 = .ok (.getfield 17, 3) := by decide +kernel
theorem dX7_addPosition_29 : decode cX7_addPosition 29 = .ok (.aload_n 1, 1) := by decide +kernel
theorem dX7_addPosition_30 : decode cX7_addPosition 30 = .ok (.aastore, 1) := by decide +kernel
theorem dX7_addPosition_31 : decode cX7_addPosition 31 = .ok (.aload_n 0, 1) := by decide +kernel
theorem dX7_addPosition_32 : decode cX7_addPosition 32 = .ok (.dup, 1) := by decide +kernel
theorem dX7_addPosition_33 : decode cX7_addPosition 33 = .ok (.getfield 17, 3) := by decide +kernel
theorem dX7_addPosition_36 : decode cX7_addPosition 36 = .ok (.iconst 1, 1) := by decide +kernel
theorem dX7_addPosition_37 : decode cX7_addPosition 37 = .ok (.iadd, 1) := by decide +kernel
theorem dX7_addPosition_38 : decode cX7_addPosition 38 = .ok (.putfield 17, 3) := by decide +kernel
theorem dX7_addPosition_41 : decode cX7_addPosition 41 = .ok (.iconst 1, 1) := by decide +kernel
theorem dX7_addPosition_42 : decode cX7_addPosition 42 = .ok (.ireturn, 1) := by decide +kernel
theorem dX7_addCondition_0 : decode cX7_addCondition 0 = .ok (.aload_n 0, 1) := by decide +kernel
theorem dX7_addCondition_1 : decode cX7_addCondition 1 = .ok (.getfield 27, 3) := by decide +kernel
theorem dX7_addCondition_4 : decode cX7_addCondition 4 = .ok (.ifCond .lt 35, 3) := by decide +kernel
theorem dX7_addCondition_7 : decode cX7_addCondition 7 = .ok (.aload_n 0, 1) := by decide +kernel
theorem dX7_addCondition_8 : decode cX7_addCondition 8 = .ok (.getfield 27, 3) := by decide +kernel
theorem dX7_addCondition_11 : decode cX7_addCondition 11 = .ok (.aload_n 0, 1) := by decide +kernel
theorem dX7_addCondition_12 : decode cX7_addCondition 12 = .ok (.getfield 23, 3) := by decide +kernel
theorem dX7_addCondition_15 : decode cX7_addCondition 15 = .ok (.arraylength, 1) := by decide +kernel
theorem dX7_addCondition_16 : decode cX7_addCondition 16 = .ok (.if_icmp .ge 23, 3) := by decide +kernel
theorem dX7_addCondition_19 : decode cX7_addCondition 19 = .ok (.aload_n 0, 1) := by decide +kernel
theorem dX7_addCondition_20 : decode cX7_addCondition 20 = .ok (.getfield 23, 3) := by decide +kernel
theorem dX7_addCondition_23 : decode cX7_addCondition 23 = .ok (.aload_n 0, 1) := by decide +kernel
theorem dX7_addCondition_24 : decode cX7_addCondition 24 = .ok (.getfield 27, 3) := by decide +kernel
theorem dX7_addCondition_27 : decode cX7_addCondition 27 = .ok (.aload_n 1, 1) := by decide +kernel
theorem dX7_addCondition_28 : decode cX7_addCondition 28 = .ok (.aastore, 1) := by decide +kernel
theorem dX7_addCondition_29 : decode cX7_addCondition 29 = .ok (.aload_n 0, 1) := by decide +kernel
theorem dX7_addCondition_30 : decode cX7_addCondition 30 = .ok (.dup, 1) := by decide +kernel
theorem dX7_addCondition_31 : decode cX7_addCondition 31 = .ok (.getfield 27, 3) := by decide +kernel
theorem dX7_addCondition_34 : decode cX7_addCondition 34 = .ok (.iconst 1, 1) := by decide +kernel
theorem dX7_addCondition_35 : decode cX7_addCondition 35 = .ok (.iadd, 1) := by decide +kernel
theorem dX7_addCondition_36 : decode cX7_addCondition 36 = .ok (.putfield 27, 3) := by decide +kernel
theorem dX7_addCondition_39 : decode cX7_addCondition 39 = .ok (.return_, 1) := by decide +kernel
theorem dX7_addJoin_0 : decode cX7_addJoin 0 = .ok (.aload_n 0, 1) := by decide +kernel
theorem dX7_addJoin_1 : decode cX7_addJoin 1 = .ok (.getfield 36, 3) := by decide +kernel
theorem dX7_addJoin_4 : decode cX7_addJoin 4 = .ok (.ifCond .lt 35, 3) := by decide +kernel
theorem dX7_addJoin_7 : decode cX7_addJoin 7 = .ok (.aload_n 0, 1) := by decide +kernel
theorem dX7_addJoin_8 : decode cX7_addJoin 8 = .ok (.getfield 36, 3) := by decide +kernel
theorem dX7_addJoin_11 : decode cX7_addJoin 11 = .ok (.aload_n 0, 1) := by decide +kernel
theorem dX7_addJoin_12 : decode cX7_addJoin 12 = .ok (.getfield 32, 3) := by decide +kernel
theorem dX7_addJoin_15 : decode cX7_addJoin 15 = .ok (.arraylength, 1) := by decide +kernel
theorem dX7_addJoin_16 : decode cX7_addJoin 16 = .ok (.if_icmp .ge 23, 3) := by decide +kernel
theorem dX7_addJoin_19 : decode cX7_addJoin 19 = .ok (.aload_n 0, 1) := by decide +kernel
theorem dX7_addJoin_20 : decode cX7_addJoin 20 = .ok (.getfield 32, 3) := by decide +kernel
theorem dX7_addJoin_23 : decode cX7_addJoin 23 = .ok (.aload_n 0, 1) := by decide +kernel
theorem dX7_addJoin_24 : decode cX7_addJoin 24 = .ok (.getfield 36, 3) := by decide +kernel
theorem dX7_addJoin_27 : decode cX7_addJoin 27 = .ok (.aload_n 1, 1) := by decide +kernel
theorem dX7_addJoin_28 : decode cX7_addJoin 28 = .ok (.aastore, 1) := by decide +kernel
theorem dX7_addJoin_29 : decode cX7_addJoin 29 = .ok (.aload_n 0, 1) := by decide +kernel
theorem dX7_addJoin_30 : decode cX7_addJoin 30 = .ok (.dup, 1) := by decide +kernel
theorem dX7_addJoin_31 : decode cX7_addJoin 31 = .ok (.getfield 36, 3) := by decide +kernel
theorem dX7_addJoin_34 : decode cX7_addJoin 34 = .ok (.iconst 1, 1) := by decide +kernel
theorem dX7_addJoin_35 : decode cX7_addJoin 35 = .ok (.iadd, 1) := by decide +kernel
theorem dX7_addJoin_36 : decode cX7_addJoin 36 = .ok (.putfield 36, 3) := by decide +kernel
theorem dX7_addJoin_39 : decode cX7_addJoin 39 = .ok (.return_, 1) := by decide +kernel
theorem dX8_init_0 : decode cX8_init 0 = .ok (.aload_n 0, 1) := by decide +kernel
theorem dX8_init_1 : decode cX8_init 1 = .ok (.invokespecial 3, 3) := by decide +kernel
theorem dX8_init_4 : decode cX8_init 4 = .ok (.aload_n 0, 1) := by decide +kernel
theorem dX8_init_5 : decode cX8_init 5 = .ok (.new 9, 3) := by decide +kernel
theorem dX8_init_8 : decode cX8_init 8 = .ok (.dup, 1) := by decide +kernel
theorem dX8_init_9 : decode cX8_init 9 = .ok (.invokespecial 11, 3) := by decide +kernel
theorem dX8_init_12 : decode cX8_init 12 = .ok (.putfield 12, 3) := by decide +kernel
theorem dX8_init_15 : decode cX8_init 15 = .ok (.aload_n 0, 1) := by decide +kernel
theorem dX8_init_16 : decode cX8_init 16 = .ok (.aconst_null, 1) := by decide +kernel
theorem dX8_init_17 : decode cX8_init 17 = .ok (.putfield 18, 3) := by decide +kernel
theorem dX8_init_20 : decode cX8_init 20 = .ok (.aload_n 0, 1) := by decide +kernel
theorem dX8_init_21 : decode cX8_init 21 = .ok (.aconst_null, 1) := by decide +kernel
theorem dX8_init_22 : decode cX8_init 22 = .ok (.putfield 22, 3) := by decide +kernel
theorem dX8_init_25 : decode cX8_init 25 = .ok (.aload_n 0, 1) := by decide +kernel
theorem dX8_init_26 : decode cX8_init 26 = .ok (.aconst_null, 1) := by decide +kernel
theorem dX8_init_27 : decode cX8_init 27 = .ok (.putfield 26, 3) := by decide +kernel
theorem dX8_init_30 : decode cX8_init 30 = .ok (.aload_n 0, 1) := by decide +kernel
theorem dX8_init_31 : decode cX8_init 31 = .ok (.aconst_null, 1) := by decide +kernel
theorem dX8_init_32 : decode cX8_init 32 = .ok (.putfield 29, 3) := by decide +kernel
theorem dX8_init_35 : decode cX8_init 35 = .ok (.aload_n 0, 1) := by decide +kernel
theorem dX8_init_36 : decode cX8_init 36 = .ok (.iconst 3, 1) := by decide +kernel
theorem dX8_init_37 : decode cX8_init 37 = .ok (.newarray .int, 2) := by decide +kernel
theorem dX8_init_39 : decode cX8_init 39 = .ok (.putfield 33, 3) := by decide +kernel
theorem dX8_init_42 : decode cX8_init 42 = .ok (.aload_n 0, 1) := by decide +kernel
theorem dX8_init_43 : decode cX8_init 43 = .ok (.bipush 9, 2) := by decide +kernel
theorem dX8_init_45 : decode cX8_init 45 = .ok (.newarray .int, 2) := by decide +kernel
theorem dX8_init_47 : decode cX8_init 47 = .ok (.putfield 37, 3) := by decide +kernel
theorem dX8_init_50 : decode cX8_init 50 = .ok (.aload_n 0, 1) := by decide +kernel
theorem dX8_init_51 : decode cX8_init 51 = .ok (.iconst 0, 1) := by decide +kernel
theorem dX8_init_52 : decode cX8_init 52 = .ok (.putfield 40, 3) := by decide +kernel
theorem dX8_init_55 : decode cX8_init 55 = .ok (.aload_n 0, 1) := by decide +kernel
theorem dX8_init_56 : decode cX8_init 56 = .ok (.iconst 0, 1) := by decide +kernel
theorem dX8_init_57 : decode cX8_init 57 = .ok (.putfield 44, 3) := by decide +kernel
theorem dX8_init_60 : decode cX8_init 60 = .ok (.aload_n 0, 1) := by decide +kernel
theorem dX8_init_61 : decode cX8_init 61 = .ok (.iconst 0, 1) := by decide +kernel
theorem dX8_init_62 : decode cX8_init 62 = .ok (.putfield 47, 3) := by decide +kernel
theorem dX8_init_65 : decode cX8_init 65 = .ok (.aload_n 0, 1) := by decide +kernel
theorem dX8_init_66 : decode cX8_init 66 = .ok (.lconst 0, 1) := by decide +kernel
theorem dX8_init_67 : decode cX8_init 67 = .ok (.putfield 50, 3) := by decide +kernel
theorem dX8_init_70 : decode cX8_init 70 = .ok (.aload_n 0, 1) := by decide +kernel
theorem dX8_init_71 : decode cX8_init 71 = .ok (.iconst (-1), 1) := by decide +kernel
theorem dX8_init_72 : decode cX8_init 72 = .ok (.putfield 54, 3) := by decide +kernel
theorem dX8_init_75 : decode cX8_init 75 = .ok (.aload_n 0, 1) := by decide +kernel
theorem dX8_init_76 : decode cX8_init 76 = .ok (.iconst 0, 1) := by decide +kernel
theorem dX8_init_77 : decode cX8_init 77 = .ok (.putfield 57, 3) := by decide +kernel
theorem dX8_init_80 : decode cX8_init 80 = .ok (.aload_n 0, 1) := by decide +kernel
theorem dX8_init_81 : decode cX8_init 81 = .ok (.iconst 0, 1) := by decide +kernel
theorem dX8_init_82 : decode cX8_init 82 = .ok (.putfield 60, 3) := by decide +kernel
theorem dX8_init_85 : decode cX8_init 85 = .ok (.aload_n 0, 1) := by decide +kernel
theorem dX8_init_86 : decode cX8_init 86 = .ok (.iconst (-1), 1) := by decide +kernel
theorem dX8_init_87 : decode cX8_init 87 = .ok (.putfield 63, 3) := by decide +kernel
theorem dX8_init_90 : decode cX8_init 90 = .ok (.aload_n 0, 1) := by decide +kernel
theorem dX8_init_91 : decode cX8_init 91 = .ok (.lconst 0, 1) := by decide +kernel
theorem dX8_init_92 : decode cX8_init 92 = .ok (.putfield 66, 3) := by decide +kernel
theorem dX8_init_95 : decode cX8_init 95 = .ok (.return_, 1) := by decide +kernel
theorem dX8_readCount_0 : decode cX8_readCount 0 = .ok (.aload_n 0, 1) := by decide +kernel
theorem dX8_readCount_1 : decode cX8_readCount 1 = .ok (.getfield 40, 3) := by decide +kernel
theorem dX8_readCount_4 : decode cX8_readCount 4 = .ok (.ireturn, 1) := by decide +kernel
theorem dX8_missCount_0 : decode cX8_missCount 0 = .ok (.aload_n 0, 1) := by decide +kernel
theorem dX8_missCount_1 : decode cX8_missCount 1 = .ok (.getfield 44, 3) := by decide +kernel
theorem dX8_missCount_4 : decode cX8_missCount 4 = .ok (.ireturn, 1) := by decide +kernel
theorem dX8_foundCount_0 : decode cX8_foundCount 0 = .ok (.aload_n 0, 1) := by decide +kernel
theorem dX8_foundCount_1 : decode cX8_foundCount 1 = .ok (.getfield 47, 3) := by decide +kernel
theorem dX8_foundCount_4 : decode cX8_foundCount 4 = .ok (.ireturn, 1) := by decide +kernel
theorem dX8_foundMark_0 : decode cX8_foundMark 0 = .ok (.aload_n 0, 1) := by decide +kernel
theorem dX8_foundMark_1 : decode cX8_foundMark 1 = .ok (.getfield 50, 3) := by decide +kernel
theorem dX8_foundMark_4 : decode cX8_foundMark 4 = .ok (.lreturn, 1) := by decide +kernel
theorem dX8_wantedRow_0 : decode cX8_wantedRow 0 = .ok (.aload_n 0, 1) := by decide +kernel
theorem dX8_wantedRow_1 : decode cX8_wantedRow 1 = .ok (.getfield 63, 3) := by decide +kernel
theorem dX8_wantedRow_4 : decode cX8_wantedRow 4 = .ok (.ireturn, 1) := by decide +kernel
theorem dX8_columnSum_0 : decode cX8_columnSum 0 = .ok (.aload_n 0, 1) := by decide +kernel
theorem dX8_columnSum_1 : decode cX8_columnSum 1 = .ok (.getfield 66, 3) := by decide +kernel
theorem dX8_columnSum_4 : decode cX8_columnSum 4 = .ok (.lreturn, 1) := by decide +kernel
theorem dX8_follow_0 : decode cX8_follow 0 = .ok (.aload_n 0, 1) := by decide +kernel
theorem dX8_follow_1 : decode cX8_follow 1 = .ok (.aload_n 2, 1) := by decide +kernel
theorem dX8_follow_2 : decode cX8_follow 2 = .ok (.aload_n 3, 1) := by decide +kernel
theorem dX8_follow_3 : decode cX8_follow 3 = .ok (.invokevirtual 69, 3) := by decide +kernel
theorem dX8_follow_6 : decode cX8_follow 6 = .ok (.aload_n 0, 1) := by decide +kernel
theorem dX8_follow_7 : decode cX8_follow 7 = .ok (.aload_n 1, 1) := by decide +kernel
theorem dX8_follow_8 : decode cX8_follow 8 = .ok (.putfield 18, 3) := by decide +kernel
theorem dX8_follow_11 : decode cX8_follow 11 = .ok (.aload_n 0, 1) := by decide +kernel
theorem dX8_follow_12 : decode cX8_follow 12 = .ok (.aload 4, 2) := by decide +kernel
theorem dX8_follow_14 : decode cX8_follow 14 = .ok (.putfield 29, 3) := by decide +kernel
theorem dX8_follow_17 : decode cX8_follow 17 = .ok (.aload_n 0, 1) := by decide +kernel
theorem dX8_follow_18 : decode cX8_follow 18 = .ok (.iconst 0, 1) := by decide +kernel
theorem dX8_follow_19 : decode cX8_follow 19 = .ok (.invokevirtual 73, 3) := by decide +kernel
theorem dX8_follow_22 : decode cX8_follow 22 = .ok (.aload_n 0, 1) := by decide +kernel
theorem dX8_follow_23 : decode cX8_follow 23 = .ok (.getfield 44, 3) := by decide +kernel
theorem dX8_follow_26 : decode cX8_follow 26 = .ok (.ireturn, 1) := by decide +kernel
theorem dX8_tryAllRows_0 : decode cX8_tryAllRows 0 = .ok (.aload_n 0, 1) := by decide +kernel
theorem dX8_tryAllRows_1 : decode cX8_tryAllRows 1 = .ok (.getfield 12, 3) := by decide +kernel
theorem dX8_tryAllRows_4 : decode cX8_tryAllRows 4 = .ok (.iconst 0, 1) := by decide +kernel
theorem dX8_tryAllRows_5 : decode cX8_tryAllRows 5 = .ok (.aload_n 1, 1) := by decide +kernel
theorem dX8_tryAllRows_6 : decode cX8_tryAllRows 6 = .ok (.invokevirtual 77, 3) := by decide +kernel
theorem dX8_tryAllRows_9 : decode cX8_tryAllRows 9 = .ok (.invokevirtual 83, 3) := by decide +kernel
theorem dX8_tryAllRows_12 : decode cX8_tryAllRows 12 = .ok (.pop, 1) := by decide +kernel
theorem dX8_tryAllRows_13 : decode cX8_tryAllRows 13 = .ok (.aload_n 0, 1) := by decide +kernel
theorem dX8_tryAllRows_14 : decode cX8_tryAllRows 14 = .ok (.aload_n 1, 1) := by decide +kernel
theorem dX8_tryAllRows_15 : decode cX8_tryAllRows 15 = .ok (.aload_n 0, 1) := by decide +kernel
theorem dX8_tryAllRows_16 : decode cX8_tryAllRows 16 = .ok (.getfield 12, 3) := by decide +kernel
theorem dX8_tryAllRows_19 : decode cX8_tryAllRows 19 = .ok (.invokevirtual 69, 3) := by decide +kernel
theorem dX8_tryAllRows_22 : decode cX8_tryAllRows 22 = .ok (.aload_n 0, 1) := by decide +kernel
theorem dX8_tryAllRows_23 : decode cX8_tryAllRows 23 = .ok (.iload_n 2, 1) := by decide +kernel
theorem dX8_tryAllRows_24 : decode cX8_tryAllRows 24 = .ok (.putfield 54, 3) := by decide +kernel
theorem dX8_tryAllRows_27 : decode cX8_tryAllRows 27 = .ok (.aload_n 0, 1) := by decide +kernel
theorem dX8_tryAllRows_28 : decode cX8_tryAllRows 28 = .ok (.iload_n 3, 1) := by decide +kernel
theorem dX8_tryAllRows_29 : decode cX8_tryAllRows 29 = .ok (.putfield 57, 3) := by decide +kernel
theorem dX8_tryAllRows_32 : decode cX8_tryAllRows 32 = .ok (.aload_n 0, 1) := by decide +kernel
theorem dX8_tryAllRows_33 : decode cX8_tryAllRows 33 = .ok (.iload 4, 2) := by decide +kernel
theorem dX8_tryAllRows_35 : decode cX8_tryAllRows 35 = .ok (.putfield 60, 3) := by decide +kernel
theorem dX8_tryAllRows_38 : decode cX8_tryAllRows 38 = .ok (.aload_n 0, 1) := by decide +kernel
theorem dX8_tryAllRows_39 : decode cX8_tryAllRows 39 = .ok (.iconst 0, 1) := by decide +kernel
theorem dX8_tryAllRows_40 : decode cX8_tryAllRows 40 = .ok (.invokevirtual 73, 3) := by decide +kernel
theorem dX8_tryAllRows_43 : decode cX8_tryAllRows 43 = .ok (.return_, 1) := by decide +kernel
theorem dX8_begin_0 : decode cX8_begin 0 = .ok (.aload_n 0, 1) := by decide +kernel
theorem dX8_begin_1 : decode cX8_begin 1 = .ok (.aconst_null, 1) := by decide +kernel
theorem dX8_begin_2 : decode cX8_begin 2 = .ok (.putfield 18, 3) := by decide +kernel
theorem dX8_begin_5 : decode cX8_begin 5 = .ok (.aload_n 0, 1) := by decide +kernel
theorem dX8_begin_6 : decode cX8_begin 6 = .ok (.aload_n 1, 1) := by decide +kernel
theorem dX8_begin_7 : decode cX8_begin 7 = .ok (.putfield 22, 3) := by decide +kernel
theorem dX8_begin_10 : decode cX8_begin 10 = .ok (.aload_n 0, 1) := by decide +kernel
theorem dX8_begin_11 : decode cX8_begin 11 = .ok (.aload_n 2, 1) := by decide +kernel
theorem dX8_begin_12 : decode cX8_begin 12 = .ok (.putfield 26, 3) := by decide +kernel
theorem dX8_begin_15 : decode cX8_begin 15 = .ok (.aload_n 0, 1) := by decide +kernel
theorem dX8_begin_16 : decode cX8_begin 16 = .ok (.aconst_null, 1) := by decide +kernel
theorem dX8_begin_17 : decode cX8_begin 17 = .ok (.putfield 29, 3) := by decide +kernel
theorem dX8_begin_20 : decode cX8_begin 20 = .ok (.aload_n 0, 1) := by decide +kernel
theorem dX8_begin_21 : decode cX8_begin 21 = .ok (.iconst 0, 1) := by decide +kernel
theorem dX8_begin_22 : decode cX8_begin 22 = .ok (.putfield 40, 3) := by decide +kernel
theorem dX8_begin_25 : decode cX8_begin 25 = .ok (.aload_n 0, 1) := by decide +kernel
theorem dX8_begin_26 : decode cX8_begin 26 = .ok (.iconst 0, 1) := by decide +kernel
theorem dX8_begin_27 : decode cX8_begin 27 = .ok (.putfield 44, 3) := by decide +kernel
theorem dX8_begin_30 : decode cX8_begin 30 = .ok (.aload_n 0, 1) := by decide +kernel
theorem dX8_begin_31 : decode cX8_begin 31 = .ok (.iconst 0, 1) := by decide +kernel
theorem dX8_begin_32 : decode cX8_begin 32 = .ok (.putfield 47, 3) := by decide +kernel
theorem dX8_begin_35 : decode cX8_begin 35 = .ok (.aload_n 0, 1) := by decide +kernel
theorem dX8_begin_36 : decode cX8_begin 36 = .ok (.lconst 0, 1) := by decide +kernel
theorem dX8_begin_37 : decode cX8_begin 37 = .ok (.putfield 50, 3) := by decide +kernel
theorem dX8_begin_40 : decode cX8_begin 40 = .ok (.aload_n 0, 1) := by decide +kernel
theorem dX8_begin_41 : decode cX8_begin 41 = .ok (.iconst (-1), 1) := by decide +kernel
theorem dX8_begin_42 : decode cX8_begin 42 = .ok (.putfield 54, 3) := by decide +kernel
theorem dX8_begin_45 : decode cX8_begin 45 = .ok (.aload_n 0, 1) := by decide +kernel
theorem dX8_begin_46 : decode cX8_begin 46 = .ok (.iconst 0, 1) := by decide +kernel
theorem dX8_begin_47 : decode cX8_begin 47 = .ok (.putfield 57, 3) := by decide +kernel
theorem dX8_begin_50 : decode cX8_begin 50 = .ok (.aload_n 0, 1) := by decide +kernel
theorem dX8_begin_51 : decode cX8_begin 51 = .ok (.iconst 0, 1) := by decide +kernel
theorem dX8_begin_52 : decode cX8_begin 52 = .ok (.putfield 60, 3) := by decide +kernel
theorem dX8_begin_55 : decode cX8_begin 55 = .ok (.aload_n 0, 1) := by decide +kernel
theorem dX8_begin_56 : decode cX8_begin 56 = .ok (.iconst (-1), 1) := by decide +kernel
theorem dX8_begin_57 : decode cX8_begin 57 = .ok (.putfield 63, 3) := by decide +kernel
theorem dX8_begin_60 : decode cX8_begin 60 = .ok (.aload_n 0, 1) := by decide +kernel
theorem dX8_begin_61 : decode cX8_begin 61 = .ok (.lconst 0, 1) := by decide +kernel
theorem dX8_begin_62 : decode cX8_begin 62 = .ok (.putfield 66, 3) := by decide +kernel
theorem dX8_begin_65 : decode cX8_begin 65 = .ok (.iconst 0, 1) := by decide +kernel
theorem dX8_begin_66 : decode cX8_begin 66 = .ok (.istore_n 3, 1) := by decide +kernel
theorem dX8_begin_67 : decode cX8_begin 67 = .ok (.iload_n 3, 1) := by decide +kernel
theorem dX8_begin_68 : decode cX8_begin 68 = .ok (.aload_n 0, 1) := by decide +kernel
theorem dX8_begin_69 : decode cX8_begin 69 = .ok (.getfield 33, 3) := by decide +kernel
theorem dX8_begin_72 : decode cX8_begin 72 = .ok (.arraylength, 1) := by decide +kernel
theorem dX8_begin_73 : decode cX8_begin 73 = .ok (.if_icmp .ge 16, 3) := by decide +kernel
theorem dX8_begin_76 : decode cX8_begin 76 = .ok (.aload_n 0, 1) := by decide +kernel
theorem dX8_begin_77 : decode cX8_begin 77 = .ok (.getfield 33, 3) := by decide +kernel
theorem dX8_begin_80 : decode cX8_begin 80 = .ok (.iload_n 3, 1) := by decide +kernel
theorem dX8_begin_81 : decode cX8_begin 81 = .ok (.iconst 0, 1) := by decide +kernel
theorem dX8_begin_82 : decode cX8_begin 82 = .ok (.iastore, 1) := by decide +kernel
theorem dX8_begin_83 : decode cX8_begin 83 = .ok (.iinc 3 1, 3) := by decide +kernel
theorem dX8_begin_86 : decode cX8_begin 86 = .ok (.goto (-19), 3) := by decide +kernel
theorem dX8_begin_89 : decode cX8_begin 89 = .ok (.return_, 1) := by decide +kernel
theorem dX8_visit_0 : decode cX8_visit 0 = .ok (.aload_n 0, 1) := by decide +kernel
theorem dX8_visit_1 : decode cX8_visit 1 = .ok (.getfield 26, 3) := by decide +kernel
theorem dX8_visit_4 : decode cX8_visit 4 = .ok (.ifnull 25, 3) := by decide +kernel
theorem dX8_visit_7 : decode cX8_visit 7 = .ok (.aload_n 0, 1) := by decide +kernel
theorem dX8_visit_8 : decode cX8_visit 8 = .ok (.getfield 22, 3) := by decide +kernel
theorem dX8_visit_11 : decode cX8_visit 11 = .ok (.ifnull 18, 3) := by decide +kernel
theorem dX8_visit_14 : decode cX8_visit 14 = .ok (.iload_n 1, 1) := by decide +kernel
theorem dX8_visit_15 : decode cX8_visit 15 = .ok (.ifCond .lt 14, 3) := by decide +kernel
theorem dX8_visit_18 : decode cX8_visit 18 = .ok (.iload_n 1, 1) := by decide +kernel
theorem dX8_visit_19 : decode cX8_visit 19 = .ok (.aload_n 0, 1) := by decide +kernel
theorem dX8_visit_20 : decode cX8_visit 20 = .ok (.getfield 26, 3) := by decide +kernel
theorem dX8_visit_23 : decode cX8_visit 23 = .ok (.invokevirtual 87, 3) := by decide +kernel
theorem dX8_visit_26 : decode cX8_visit 26 = .ok (.if_icmp .lt 4, 3) := by decide +kernel
theorem dX8_visit_29 : decode cX8_visit 29 = .ok (.return_, 1) := by decide +kernel
theorem dX8_visit_30 : decode cX8_visit 30 = .ok (.aload_n 0, 1) := by decide +kernel
theorem dX8_visit_31 : decode cX8_visit 31 = .ok (.getfield 22, 3) := by decide +kernel
theorem dX8_visit_34 : decode cX8_visit 34 = .ok (.aload_n 0, 1) := by decide +kernel
theorem dX8_visit_35 : decode cX8_visit 35 = .ok (.getfield 26, 3) := by decide +kernel
theorem dX8_visit_38 : decode cX8_visit 38 = .ok (.iload_n 1, 1) := by decide +kernel
theorem dX8_visit_39 : decode cX8_visit 39 = .ok (.invokevirtual 88, 3) := by decide +kernel
theorem dX8_visit_42 : decode cX8_visit 42 = .ok (.invokevirtual 92, 3) := by decide +kernel
theorem dX8_visit_45 : decode cX8_visit 45 = .ok (.astore_n 2, 1) := by decide +kernel
theorem dX8_visit_46 : decode cX8_visit 46 = .ok (.aload_n 0, 1) := by decide +kernel
theorem dX8_visit_47 : decode cX8_visit 47 = .ok (.getfield 18, 3) := by decide +kernel
theorem dX8_visit_50 : decode cX8_visit 50 = .ok (.ifnonnull 7, 3) := by decide +kernel
theorem dX8_visit_53 : decode cX8_visit 53 = .ok (.aconst_null, 1) := by decide +kernel
theorem dX8_visit_54 : decode cX8_visit 54 = .ok (.goto 18, 3) := by decide +kernel
theorem dX8_visit_57 : decode cX8_visit 57 = .ok (.aload_n 0, 1) := by decide +kernel
theorem dX8_visit_58 : decode cX8_visit 58 = .ok (.getfield 18, 3) := by decide +kernel
theorem dX8_visit_61 : decode cX8_visit 61 = .ok (.aload_n 0, 1) := by decide +kernel
theorem dX8_visit_62 : decode cX8_visit 62 = .ok (.getfield 26, 3) := by decide +kernel
theorem dX8_visit_65 : decode cX8_visit 65 = .ok (.iload_n 1, 1) := by decide +kernel
theorem dX8_visit_66 : decode cX8_visit 66 = .ok (.invokevirtual 96, 3) := by decide +kernel
theorem dX8_visit_69 : decode cX8_visit 69 = .ok (.invokevirtual 99, 3) := by decide +kernel
theorem dX8_visit_72 : decode cX8_visit 72 = .ok (.astore_n 3, 1) := by decide +kernel
theorem dX8_visit_73 : decode cX8_visit 73 = .ok (.aload_n 2, 1) := by decide +kernel
theorem dX8_visit_74 : decode cX8_visit 74 = .ok (.ifnull 25, 3) := by decide +kernel
theorem dX8_visit_77 : decode cX8_visit 77 = .ok (.aload_n 0, 1) := by decide +kernel
theorem dX8_visit_78 : decode cX8_visit 78 = .ok (.getfield 26, 3) := by decide +kernel
theorem dX8_visit_81 : decode cX8_visit 81 = .ok (.iload_n 1, 1) := by decide +kernel
theorem dX8_visit_82 : decode cX8_visit 82 = .ok (.invokevirtual 104, 3) := by decide +kernel
theorem dX8_visit_85 : decode cX8_visit 85 = .ok (.bipush 102, 2) := by decide +kernel
theorem dX8_visit_87 : decode cX8_visit 87 = .ok (.if_icmp .ne 12, 3) := by decide +kernel
theorem dX8_visit_90 : decode cX8_visit 90 = .ok (.aload_n 0, 1) := by decide +kernel
theorem dX8_visit_91 : decode cX8_visit 91 = .ok (.iload_n 1, 1) := by decide +kernel
theorem dX8_visit_92 : decode cX8_visit 92 = .ok (.aload_n 2, 1) := by decide +kernel
theorem dX8_visit_93 : decode cX8_visit 93 = .ok (.invokevirtual 108, 3) := by decide +kernel
theorem dX8_visit_96 : decode cX8_visit 96 = .ok (.goto 25, 3) := by decide +kernel
theorem dX8_visit_99 : decode cX8_visit 99 = .ok (.aload_n 2, 1) := by decide +kernel
theorem dX8_visit_100 : decode cX8_visit 100 = .ok (.ifnull 21, 3) := by decide +kernel
theorem dX8_visit_103 : decode cX8_visit 103 = .ok (.aload_n 3, 1) := by decide +kernel
theorem dX8_visit_104 : decode cX8_visit 104 = .ok (.ifnull 17, 3) := by decide +kernel
theorem dX8_visit_107 : decode cX8_visit 107 = .ok (.aload_n 3, 1) := by decide +kernel
theorem dX8_visit_108 : decode cX8_visit 108 = .ok (.invokevirtual 112, 3) := by decide +kernel
theorem dX8_visit_111 : decode cX8_visit 111 = .ok (.ifCond .le 10, 3) := by decide +kernel
theorem dX8_visit_114 : decode cX8_visit 114 = .ok (.aload_n 0, 1) := by decide +kernel
theorem dX8_visit_115 : decode cX8_visit 115 = .ok (.iload_n 1, 1) := by decide +kernel
theorem dX8_visit_116 : decode cX8_visit 116 = .ok (.aload_n 2, 1) := by decide +kernel
theorem dX8_visit_117 : decode cX8_visit 117 = .ok (.aload_n 3, 1) := by decide +kernel
theorem dX8_visit_118 : decode cX8_visit 118 = .ok (.invokevirtual 115, 3) := by decide +kernel
theorem dX8_visit_121 : decode cX8_visit 121 = .ok (.return_, 1) := by decide +kernel
theorem dX8_visitPages_0 : decode cX8_visitPages 0 = .ok (.aload_n 2, 1) := by decide +kernel
theorem dX8_visitPages_1 : decode cX8_visitPages 1 = .ok (.invokevirtual 119, 3) := by decide +kernel
theorem dX8_visitPages_4 : decode cX8_visitPages 4 = .ok (.bipush 40, 2) := by decide +kernel
theorem dX8_visitPages_6 : decode cX8_visitPages 6 = .ok (.invokestatic 124, 3) := by decide +kernel
theorem dX8_visitPages_9 : decode cX8_visitPages 9 = .ok (.istore_n 3, 1) := by decide +kernel
theorem dX8_visitPages_10 : decode cX8_visitPages 10 = .ok (.iconst 0, 1) := by decide +kernel
theorem dX8_visitPages_11 : decode cX8_visitPages 11 = .ok (.istore 4, 2) := by decide +kernel
theorem dX8_visitPages_13 : decode cX8_visitPages 13 = .ok (.iload 4, 2) := by decide +kernel
theorem dX8_visitPages_15 : decode cX8_visitPages 15 = .ok (.iload_n 3, 1) := by decide +kernel
theorem dX8_visitPages_16 : decode cX8_visitPages 16 = .ok (.if_icmp .ge 34, 3) := by decide +kernel
theorem dX8_visitPages_19 : decode cX8_visitPages 19 = .ok (.iload 4, 2) := by decide +kernel
theorem dX8_visitPages_21 : decode cX8_visitPages 21 = .ok (.iconst 4, 1) := by decide +kernel
theorem dX8_visitPages_22 : decode cX8_visitPages 22 = .ok (.irem, 1) := by decide +kernel
theorem dX8_visitPages_23 : decode cX8_visitPages 23 = .ok (.ifCond .ne 13, 3) := by decide +kernel
theorem dX8_visitPages_26 : decode cX8_visitPages 26 = .ok (.aload_n 0, 1) := by decide +kernel
theorem dX8_visitPages_27 : decode cX8_visitPages 27 = .ok (.aload_n 2, 1) := by decide +kernel
theorem dX8_visitPages_28 : decode cX8_visitPages 28 = .ok (.iload 4, 2) := by decide +kernel
theorem dX8_visitPages_30 : decode cX8_visitPages 30 = .ok (.invokestatic 130, 3) := by decide +kernel
theorem dX8_visitPages_33 : decode cX8_visitPages 33 = .ok (.invokevirtual 134, 3) := by decide +kernel
theorem dX8_visitPages_36 : decode cX8_visitPages 36 = .ok (.aload_n 0, 1) := by decide +kernel
theorem dX8_visitPages_37 : decode cX8_visitPages 37 = .ok (.iload_n 1, 1) := by decide +kernel
theorem dX8_visitPages_38 : decode cX8_visitPages 38 = .ok (.aload_n 2, 1) := by decide +kernel
theorem dX8_visitPages_39 : decode cX8_visitPages 39 = .ok (.iload 4, 2) := by decide +kernel
theorem dX8_visitPages_41 : decode cX8_visitPages 41 = .ok (.invokevirtual 137, 3) := by decide +kernel
theorem dX8_visitPages_44 : decode cX8_visitPages 44 = .ok (.iinc 4 1, 3) := by decide +kernel
theorem dX8_visitPages_47 : decode cX8_visitPages 47 = .ok (.goto (-34), 3) := by decide +kernel
theorem dX8_visitPages_50 : decode cX8_visitPages 50 = .ok (.return_, 1) := by decide +kernel
theorem dX8_visitEntries_0 : decode cX8_visitEntries 0 = .ok (.aload_n 0, 1) := by decide +kernel
theorem dX8_visitEntries_1 : decode cX8_visitEntries 1 = .ok (.iload_n 1, 1) := by decide +kernel
theorem dX8_visitEntries_2 : decode cX8_visitEntries 2 = .ok (.invokevirtual 141, 3) := by decide +kernel
theorem dX8_visitEntries_5 : decode cX8_visitEntries 5 = .ok (.istore 4, 2) := by decide +kernel
theorem dX8_visitEntries_7 : decode cX8_visitEntries 7 = .ok (.aload_n 3, 1) := by decide +kernel
theorem dX8_visitEntries_8 : decode cX8_visitEntries 8 = .ok (.aload_n 0, 1) := by decide +kernel
theorem dX8_visitEntries_9 : decode cX8_visitEntries 9 = .ok (.iload_n 1, 1) := by decide +kernel
theorem dX8_visitEntries_10 : decode cX8_visitEntries 10 = .ok (.invokevirtual 144, 3) := by decide +kernel
theorem dX8_visitEntries_13 : decode cX8_visitEntries 13 = .ok (.invokevirtual 147, 3) := by decide +kernel
theorem dX8_visitEntries_16 : decode cX8_visitEntries 16 = .ok (.istore 5, 2) := by decide +kernel
theorem dX8_visitEntries_18 : decode cX8_visitEntries 18 = .ok (.iconst (-1), 1) := by decide +kernel
theorem dX8_visitEntries_19 : decode cX8_visitEntries 19 = .ok (.istore 6, 2) := by decide +kernel
theorem dX8_visitEntries_21 : decode cX8_visitEntries 21 = .ok (.iload 5, 2) := by decide +kernel
theorem dX8_visitEntries_23 : decode cX8_visitEntries 23 = .ok (.istore 7, 2) := by decide +kernel
theorem dX8_visitEntries_25 : decode cX8_visitEntries 25 = .ok (.iload 7, 2) := by decide +kernel
theorem dX8_visitEntries_27 : decode cX8_visitEntries 27 = .ok (.aload_n 3, 1) := by decide +kernel
theorem dX8_visitEntries_28 : decode cX8_visitEntries 28 = .ok (.invokevirtual 112, 3) := by decide +kernel
theorem dX8_visitEntries_31 : decode cX8_visitEntries 31 = .ok (.if_icmp .ge 71, 3) := by decide +kernel
theorem dX8_visitEntries_34 : decode cX8_visitEntries 34 = .ok (.aload_n 3, 1) := by decide +kernel
theorem dX8_visitEntries_35 : decode cX8_visitEntries 35 = .ok (.iload 7, 2) := by decide +kernel
theorem dX8_visitEntries_37 : decode cX8_visitEntries 37 = .ok (.invokevirtual 150, 3) := by decide +kernel
theorem dX8_visitEntries_40 : decode cX8_visitEntries 40 = .ok (.iload 4, 2) := by decide +kernel
theorem dX8_visitEntries_42 : decode cX8_visitEntries 42 = .ok (.if_icmp .gt 60, 3) := by decide +kernel
theorem dX8_visitEntries_45 : decode cX8_visitEntries 45 = .ok (.aload_n 3, 1) := by decide +kernel
theorem dX8_visitEntries_46 : decode cX8_visitEntries 46 = .ok (.iload 7, 2) := by decide +kernel
theorem dX8_visitEntries_48 : decode cX8_visitEntries 48 = .ok (.invokestatic 153, 3) := by decide +kernel
theorem dX8_visitEntries_51 : decode cX8_visitEntries 51 = .ok (.istore 8, 2) := by decide +kernel
theorem dX8_visitEntries_53 : decode cX8_visitEntries 53 = .ok (.iload 8, 2) := by decide +kernel
theorem dX8_visitEntries_55 : decode cX8_visitEntries 55 = .ok (.iload 6, 2) := by decide +kernel
theorem dX8_visitEntries_57 : decode cX8_visitEntries 57 = .ok (.if_icmp .eq 13, 3) := by decide +kernel
theorem dX8_visitEntries_60 : decode cX8_visitEntries 60 = .ok (.aload_n 0, 1) := by decide +kernel
theorem dX8_visitEntries_61 : decode cX8_visitEntries 61 = .ok (.iload 8, 2) := by decide +kernel
theorem dX8_visitEntries_63 : decode cX8_visitEntries 63 = .ok (.invokevirtual 134, 3) := by decide +kernel
theorem dX8_visitEntries_66 : decode cX8_visitEntries 66 = .ok (.iload 8, 2) := by decide +kernel
theorem dX8_visitEntries_68 : decode cX8_visitEntries 68 = .ok (.istore 6, 2) := by decide +kernel
theorem dX8_visitEntries_70 : decode cX8_visitEntries 70 = .ok (.aload_n 3, 1) := by decide +kernel
theorem dX8_visitEntries_71 : decode cX8_visitEntries 71 = .ok (.iload 7, 2) := by decide +kernel
theorem dX8_visitEntries_73 : decode cX8_visitEntries 73 = .ok (.invokevirtual 157, 3) := by decide +kernel
theorem dX8_visitEntries_76 : decode cX8_visitEntries 76 = .ok (.istore 9, 2) := by decide +kernel
theorem dX8_visitEntries_78 : decode cX8_visitEntries 78 = .ok (.aload_n 0, 1) := by decide +kernel
theorem dX8_visitEntries_79 : decode cX8_visitEntries 79 = .ok (.aload_n 2, 1) := by decide +kernel
theorem dX8_visitEntries_80 : decode cX8_visitEntries 80 = .ok (.iload 9, 2) := by decide +kernel
theorem dX8_visitEntries_82 : decode cX8_visitEntries 82 = .ok (.invokestatic 130, 3) := by decide +kernel
theorem dX8_visitEntries_85 : decode cX8_visitEntries 85 = .ok (.invokevirtual 134, 3) := by decide +kernel
theorem dX8_visitEntries_88 : decode cX8_visitEntries 88 = .ok (.aload_n 0, 1) := by decide +kernel
theorem dX8_visitEntries_89 : decode cX8_visitEntries 89 = .ok (.iload_n 1, 1) := by decide +kernel
theorem dX8_visitEntries_90 : decode cX8_visitEntries 90 = .ok (.aload_n 2, 1) := by decide +kernel
theorem dX8_visitEntries_91 : decode cX8_visitEntries 91 = .ok (.iload 9, 2) := by decide +kernel
theorem dX8_visitEntries_93 : decode cX8_visitEntries 93 = .ok (.invokevirtual 137, 3) := by decide +kernel
theorem dX8_visitEntries_96 : decode cX8_visitEntries 96 = .ok (.iinc 7 1, 3) := by decide +kernel
theorem dX8_visitEntries_99 : decode cX8_visitEntries 99 = .ok (.goto (-74), 3) := by decide +kernel
theorem dX8_visitEntries_102 : decode cX8_visitEntries 102 = .ok (.iload 6, 2) := by decide +kernel
theorem dX8_visitEntries_104 : decode cX8_visitEntries 104 = .ok (.iconst (-1), 1) := by decide +kernel
theorem dX8_visitEntries_105 : decode cX8_visitEntries 105 = .ok (.if_icmp .ne 22, 3) := by decide +kernel
theorem dX8_visitEntries_108 : decode cX8_visitEntries 108 = .ok (.aload_n 0, 1) := by decide +kernel
theorem dX8_visitEntries_109 : decode cX8_visitEntries 109 = .ok (.aload_n 3, 1) := by decide +kernel
theorem dX8_visitEntries_110 : decode cX8_visitEntries 110 = .ok (.iload 5, 2) := by decide +kernel
theorem dX8_visitEntries_112 : decode cX8_visitEntries 112 = .ok (.aload_n 3, 1) := by decide +kernel
theorem dX8_visitEntries_113 : decode cX8_visitEntries 113 = .ok (.invokevirtual 112, 3) := by decide +kernel
theorem dX8_visitEntries_116 : decode cX8_visitEntries 116 = .ok (.iconst 1, 1) := by decide +kernel
theorem dX8_visitEntries_117 : decode cX8_visitEntries 117 = .ok (.isub, 1) := by decide +kernel
theorem dX8_visitEntries_118 : decode cX8_visitEntries 118 = .ok (.invokestatic 124, 3) := by decide +kernel
theorem dX8_visitEntries_121 : decode cX8_visitEntries 121 = .ok (.invokestatic 153, 3) := by decide +kernel
theorem dX8_visitEntries_124 : decode cX8_visitEntries 124 = .ok (.invokevirtual 134, 3) := by decide +kernel
theorem dX8_visitEntries_127 : decode cX8_visitEntries 127 = .ok (.return_, 1) := by decide +kernel
theorem dX8_leastWanted_0 : decode cX8_leastWanted 0 = .ok (.aload_n 0, 1) := by decide +kernel
theorem dX8_leastWanted_1 : decode cX8_leastWanted 1 = .ok (.iload_n 1, 1) := by decide +kernel
theorem dX8_leastWanted_2 : decode cX8_leastWanted 2 = .ok (.invokevirtual 160, 3) := by decide +kernel
theorem dX8_leastWanted_5 : decode cX8_leastWanted 5 = .ok (.astore_n 2, 1) := by decide +kernel
theorem dX8_leastWanted_6 : decode cX8_leastWanted 6 = .ok (.aload_n 2, 1) := by decide +kernel
theorem dX8_leastWanted_7 : decode cX8_leastWanted 7 = .ok (.ifnonnull 11, 3) := by decide +kernel
theorem dX8_leastWanted_10 : decode cX8_leastWanted 10 = .ok (.aload_n 0, 1) := by decide +kernel
theorem dX8_leastWanted_11 : decode cX8_leastWanted 11 = .ok (.iload_n 1, 1) := by decide +kernel
theorem dX8_leastWanted_12 : decode cX8_leastWanted 12 = .ok (.invokevirtual 164, 3) := by decide +kernel
theorem dX8_leastWanted_15 : decode cX8_leastWanted 15 = .ok (.goto 7, 3) := by decide +kernel
theorem dX8_leastWanted_18 : decode cX8_leastWanted 18 = .ok (.aload_n 2, 1) := by decide +kernel
theorem dX8_leastWanted_19 : decode cX8_leastWanted 19 = .ok (.invokevirtual 167, 3) := by decide +kernel
theorem dX8_leastWanted_22 : decode cX8_leastWanted 22 = .ok (.ireturn, 1) := by decide +kernel
theorem dX8_greatestWanted_0 : decode cX8_greatestWanted 0 = .ok (.aload_n 0, 1) := by decide +kernel
theorem dX8_greatestWanted_1 : decode cX8_greatestWanted 1 = .ok (.iload_n 1, 1) := by decide +kernel
theorem dX8_greatestWanted_2 : decode cX8_greatestWanted 2 = .ok (.invokevirtual 160, 3) := by decide +kernel
theorem dX8_greatestWanted_5 : decode cX8_greatestWanted 5 = .ok (.astore_n 2, 1) := by decide +kernel
theorem dX8_greatestWanted_6 : decode cX8_greatestWanted 6 = .ok (.aload_n 2, 1) := by decide +kernel
theorem dX8_greatestWanted_7 : decode cX8_greatestWanted 7 = .ok (.ifnonnull 11, 3) := by decide +kernel
theorem dX8_greatestWanted_10 : decode cX8_greatestWanted 10 = .ok (.aload_n 0, 1) := by decide +kernel
theorem dX8_greatestWanted_11 : decode cX8_greatestWanted 11 = .ok (.iload_n 1, 1) := by decide +kernel
theorem dX8_greatestWanted_12 : decode cX8_greatestWanted 12 = .ok (.invokevirtual 164, 3) := by decide +kernel
theorem dX8_greatestWanted_15 : decode cX8_greatestWanted 15 = .ok (.goto 7, 3) := by decide +kernel
theorem dX8_greatestWanted_18 : decode cX8_greatestWanted 18 = .ok (.aload_n 2, 1) := by decide +kernel
theorem dX8_greatestWanted_19 : decode cX8_greatestWanted 19 = .ok (.invokevirtual 172, 3) := by decide +kernel
theorem dX8_greatestWanted_22 : decode cX8_greatestWanted 22 = .ok (.ireturn, 1) := by decide +kernel
theorem dX8_conditionOf_0 : decode cX8_conditionOf 0 = .ok (.aload_n 0, 1) := by decide +kernel
theorem dX8_conditionOf_1 : decode cX8_conditionOf 1 = .ok (.getfield 26, 3) := by decide +kernel
theorem dX8_conditionOf_4 : decode cX8_conditionOf 4 = .ok (.ifnull 27, 3) := by decide +kernel
theorem dX8_conditionOf_7 : decode cX8_conditionOf 7 = .ok (.aload_n 0, 1) := by decide +kernel
theorem dX8_conditionOf_8 : decode cX8_conditionOf 8 = .ok (.getfield 22, 3) := by decide +kernel
theorem dX8_conditionOf_11 : decode cX8_conditionOf 11 = .ok (.ifnull 20, 3) := by decide +kernel
theorem dX8_conditionOf_14 : decode cX8_conditionOf 14 = .ok (.aload_n 0, 1) := by decide +kernel
theorem dX8_conditionOf_15 : decode cX8_conditionOf 15 = .ok (.getfield 26, 3) := by decide +kernel
theorem dX8_conditionOf_18 : decode cX8_conditionOf 18 = .ok (.iload_n 1, 1) := by decide +kernel
theorem dX8_conditionOf_19 : decode cX8_conditionOf 19 = .ok (.invokevirtual 104, 3) := by decide +kernel
theorem dX8_conditionOf_22 : decode cX8_conditionOf 22 = .ok (.bipush 99, 2) := by decide +kernel
theorem dX8_conditionOf_24 : decode cX8_conditionOf 24 = .ok (.if_icmp .ne 7, 3) := by decide +kernel
theorem dX8_conditionOf_27 : decode cX8_conditionOf 27 = .ok (.iconst 1, 1) := by decide +kernel
theorem dX8_conditionOf_28 : decode cX8_conditionOf 28 = .ok (.goto 4, 3) := by decide +kernel
theorem dX8_conditionOf_31 : decode cX8_conditionOf 31 = .ok (.iconst 0, 1) := by decide +kernel
theorem dX8_conditionOf_32 : decode cX8_conditionOf 32 = .ok (.istore_n 2, 1) := by decide +kernel
theorem dX8_conditionOf_33 : decode cX8_conditionOf 33 = .ok (.iload_n 2, 1) := by decide +kernel
theorem dX8_conditionOf_34 : decode cX8_conditionOf 34 = .ok (.ifCond .eq 21, 3) := by decide +kernel
theorem dX8_conditionOf_37 : decode cX8_conditionOf 37 = .ok (.aload_n 0, 1) := by decide +kernel
theorem dX8_conditionOf_38 : decode cX8_conditionOf 38 = .ok (.getfield 22, 3) := by decide +kernel
theorem dX8_conditionOf_41 : decode cX8_conditionOf 41 = .ok (.aload_n 0, 1) := by decide +kernel
theorem dX8_conditionOf_42 : decode cX8_conditionOf 42 = .ok (.getfield 26, 3) := by decide +kernel
theorem dX8_conditionOf_45 : decode cX8_conditionOf 45 = .ok (.iload_n 1, 1) := by decide +kernel
theorem dX8_conditionOf_46 : decode cX8_conditionOf 46 = .ok (.invokevirtual 175, 3) := by decide +kernel
theorem dX8_conditionOf_49 : decode cX8_conditionOf 49 = .ok (.invokevirtual 178, 3) := by decide +kernel
theorem dX8_conditionOf_52 : decode cX8_conditionOf 52 = .ok (.goto 4, 3) := by decide +kernel
theorem dX8_conditionOf_55 : decode cX8_conditionOf 55 = .ok (.aconst_null, 1) := by decide +kernel
theorem dX8_conditionOf_56 : decode cX8_conditionOf 56 = .ok (.areturn, 1) := by decide +kernel
theorem dX8_joinedValue_0 : decode cX8_joinedValue 0 = .ok (.aload_n 0, 1) := by decide +kernel
theorem dX8_joinedValue_1 : decode cX8_joinedValue 1 = .ok (.getfield 26, 3) := by decide +kernel
theorem dX8_joinedValue_4 : decode cX8_joinedValue 4 = .ok (.ifnull 10, 3) := by decide +kernel
theorem dX8_joinedValue_7 : decode cX8_joinedValue 7 = .ok (.aload_n 0, 1) := by decide +kernel
theorem dX8_joinedValue_8 : decode cX8_joinedValue 8 = .ok (.getfield 22, 3) := by decide +kernel
theorem dX8_joinedValue_11 : decode cX8_joinedValue 11 = .ok (.ifnonnull 7, 3) := by decide +kernel
theorem dX8_joinedValue_14 : decode cX8_joinedValue 14 = .ok (.aconst_null, 1) := by decide +kernel
theorem dX8_joinedValue_15 : decode cX8_joinedValue 15 = .ok (.goto 18, 3) := by decide +kernel
theorem dX8_joinedValue_18 : decode cX8_joinedValue 18 = .ok (.aload_n 0, 1) := by decide +kernel
theorem dX8_joinedValue_19 : decode cX8_joinedValue 19 = .ok (.getfield 22, 3) := by decide +kernel
theorem dX8_joinedValue_22 : decode cX8_joinedValue 22 = .ok (.aload_n 0, 1) := by decide +kernel
theorem dX8_joinedValue_23 : decode cX8_joinedValue 23 = .ok (.getfield 26, 3) := by decide +kernel
theorem dX8_joinedValue_26 : decode cX8_joinedValue 26 = .ok (.iload_n 1, 1) := by decide +kernel
theorem dX8_joinedValue_27 : decode cX8_joinedValue 27 = .ok (.invokevirtual 175, 3) := by decide +kernel
theorem dX8_joinedValue_30 : decode cX8_joinedValue 30 = .ok (.invokevirtual 181, 3) := by decide +kernel
theorem dX8_joinedValue_33 : decode cX8_joinedValue 33 = .ok (.astore_n 2, 1) := by decide +kernel
theorem dX8_joinedValue_34 : decode cX8_joinedValue 34 = .ok (.aload_n 2, 1) := by decide +kernel
theorem dX8_joinedValue_35 : decode cX8_joinedValue 35 = .ok (.ifnonnull 7, 3) := by decide +kernel
theorem dX8_joinedValue_38 : decode cX8_joinedValue 38 = .ok (.iconst (-1), 1) := by decide +kernel
theorem dX8_joinedValue_39 : decode cX8_joinedValue 39 = .ok (.goto 15, 3) := by decide +kernel
theorem dX8_joinedValue_42 : decode cX8_joinedValue 42 = .ok (.aload_n 2, 1) := by decide +kernel
theorem dX8_joinedValue_43 : decode cX8_joinedValue 43 = .ok (.aload_n 0, 1) := by decide +kernel
theorem dX8_joinedValue_44 : decode cX8_joinedValue 44 = .ok (.getfield 26, 3) := by decide +kernel
theorem dX8_joinedValue_47 : decode cX8_joinedValue 47 = .ok (.iload_n 1, 1) := by decide +kernel
theorem dX8_joinedValue_48 : decode cX8_joinedValue 48 = .ok (.invokevirtual 88, 3) := by decide +kernel
theorem dX8_joinedValue_51 : decode cX8_joinedValue 51 = .ok (.invokevirtual 185, 3) := by decide +kernel
theorem dX8_joinedValue_54 : decode cX8_joinedValue 54 = .ok (.istore_n 3, 1) := by decide +kernel
theorem dX8_joinedValue_55 : decode cX8_joinedValue 55 = .ok (.aload_n 2, 1) := by decide +kernel
theorem dX8_joinedValue_56 : decode cX8_joinedValue 56 = .ok (.ifnonnull 7, 3) := by decide +kernel
theorem dX8_joinedValue_59 : decode cX8_joinedValue 59 = .ok (.iconst (-1), 1) := by decide +kernel
theorem dX8_joinedValue_60 : decode cX8_joinedValue 60 = .ok (.goto 13, 3) := by decide +kernel
theorem dX8_joinedValue_63 : decode cX8_joinedValue 63 = .ok (.aload_n 0, 1) := by decide +kernel
theorem dX8_joinedValue_64 : decode cX8_joinedValue 64 = .ok (.iload_n 3, 1) := by decide +kernel
theorem dX8_joinedValue_65 : decode cX8_joinedValue 65 = .ok (.aload_n 2, 1) := by decide +kernel
theorem dX8_joinedValue_66 : decode cX8_joinedValue 66 = .ok (.iload_n 3, 1) := by decide +kernel
theorem dX8_joinedValue_67 : decode cX8_joinedValue 67 = .ok (.invokevirtual 190, 3) := by decide +kernel
theorem dX8_joinedValue_70 : decode cX8_joinedValue 70 = .ok (.invokevirtual 193, 3) := by decide +kernel
theorem dX8_joinedValue_73 : decode cX8_joinedValue 73 = .ok (.ireturn, 1) := by decide +kernel
theorem dX8_heldAt_0 : decode cX8_heldAt 0 = .ok (.iload_n 1, 1) := by decide +kernel
theorem dX8_heldAt_1 : decode cX8_heldAt 1 = .ok (.iconst 3, 1) := by decide +kernel
theorem dX8_heldAt_2 : decode cX8_heldAt 2 = .ok (.imul, 1) := by decide +kernel
theorem dX8_heldAt_3 : decode cX8_heldAt 3 = .ok (.iload_n 2, 1) := by decide +kernel
theorem dX8_heldAt_4 : decode cX8_heldAt 4 = .ok (.iadd, 1) := by decide +kernel
theorem dX8_heldAt_5 : decode cX8_heldAt 5 = .ok (.istore_n 3, 1) := by decide +kernel
theorem dX8_heldAt_6 : decode cX8_heldAt 6 = .ok (.iload_n 3, 1) := by decide +kernel
theorem dX8_heldAt_7 : decode cX8_heldAt 7 = .ok (.ifCond .lt 21, 3) := by decide +kernel
theorem dX8_heldAt_10 : decode cX8_heldAt 10 = .ok (.iload_n 3, 1) := by decide +kernel
theorem dX8_heldAt_11 : decode cX8_heldAt 11 = .ok (.aload_n 0, 1) := by decide +kernel
theorem dX8_heldAt_12 : decode cX8_heldAt 12 = .ok (.getfield 37, 3) := by decide +kernel
theorem dX8_heldAt_15 : decode cX8_heldAt 15 = .ok (.arraylength, 1) := by decide +kernel
theorem dX8_heldAt_16 : decode cX8_heldAt 16 = .ok (.if_icmp .ge 12, 3) := by decide +kernel
theorem dX8_heldAt_19 : decode cX8_heldAt 19 = .ok (.aload_n 0, 1) := by decide +kernel
theorem dX8_heldAt_20 : decode cX8_heldAt 20 = .ok (.getfield 37, 3) := by decide +kernel
theorem dX8_heldAt_23 : decode cX8_heldAt 23 = .ok (.iload_n 3, 1) := by decide +kernel
theorem dX8_heldAt_24 : decode cX8_heldAt 24 = .ok (.iaload, 1) := by decide +kernel
theorem dX8_heldAt_25 : decode cX8_heldAt 25 = .ok (.goto 4, 3) := by decide +kernel
theorem dX8_heldAt_28 : decode cX8_heldAt 28 = .ok (.iconst (-1), 1) := by decide +kernel
theorem dX8_heldAt_29 : decode cX8_heldAt 29 = .ok (.ireturn, 1) := by decide +kernel
theorem dX8_readOne_0 : decode cX8_readOne 0 = .ok (.aload_n 0, 1) := by decide +kernel
theorem dX8_readOne_1 : decode cX8_readOne 1 = .ok (.dup, 1) := by decide +kernel
theorem dX8_readOne_2 : decode cX8_readOne 2 = .ok (.getfield 40, 3) := by decide +kernel
theorem dX8_readOne_5 : decode cX8_readOne 5 = .ok (.iconst 1, 1) := by decide +kernel
theorem dX8_readOne_6 : decode cX8_readOne 6 = .ok (.iadd, 1) := by decide +kernel
theorem dX8_readOne_7 : decode cX8_readOne 7 = .ok (.putfield 40, 3) := by decide +kernel
theorem dX8_readOne_10 : decode cX8_readOne 10 = .ok (.aload_n 0, 1) := by decide +kernel
theorem dX8_readOne_11 : decode cX8_readOne 11 = .ok (.getfield 29, 3) := by decide +kernel
theorem dX8_readOne_14 : decode cX8_readOne 14 = .ok (.ifnull 24, 3) := by decide +kernel
theorem dX8_readOne_17 : decode cX8_readOne 17 = .ok (.aload_n 0, 1) := by decide +kernel
theorem dX8_readOne_18 : decode cX8_readOne 18 = .ok (.getfield 29, 3) := by decide +kernel
theorem dX8_readOne_21 : decode cX8_readOne 21 = .ok (.iload_n 1, 1) := by decide +kernel
theorem dX8_readOne_22 : decode cX8_readOne 22 = .ok (.invokevirtual 196, 3) := by decide +kernel
theorem dX8_readOne_25 : decode cX8_readOne 25 = .ok (.ifCond .eq 13, 3) := by decide +kernel
theorem dX8_readOne_28 : decode cX8_readOne 28 = .ok (.aload_n 0, 1) := by decide +kernel
theorem dX8_readOne_29 : decode cX8_readOne 29 = .ok (.dup, 1) := by decide +kernel
theorem dX8_readOne_30 : decode cX8_readOne 30 = .ok (.getfield 44, 3) := by decide +kernel
theorem dX8_readOne_33 : decode cX8_readOne 33 = .ok (.iconst 1, 1) := by decide +kernel
theorem dX8_readOne_34 : decode cX8_readOne 34 = .ok (.iadd, 1) := by decide +kernel
theorem dX8_readOne_35 : decode cX8_readOne 35 = .ok (.putfield 44, 3) := by decide +kernel
theorem dX8_readOne_38 : decode cX8_readOne 38 = .ok (.return_, 1) := by decide +kernel
theorem dX8_visitRow_0 : decode cX8_visitRow 0 = .ok (.aload_n 0, 1) := by decide +kernel
theorem dX8_visitRow_1 : decode cX8_visitRow 1 = .ok (.getfield 26, 3) := by decide +kernel
theorem dX8_visitRow_4 : decode cX8_visitRow 4 = .ok (.ifnonnull 7, 3) := by decide +kernel
theorem dX8_visitRow_7 : decode cX8_visitRow 7 = .ok (.iconst (-1), 1) := by decide +kernel
theorem dX8_visitRow_8 : decode cX8_visitRow 8 = .ok (.goto 11, 3) := by decide +kernel
theorem dX8_visitRow_11 : decode cX8_visitRow 11 = .ok (.aload_n 0, 1) := by decide +kernel
theorem dX8_visitRow_12 : decode cX8_visitRow 12 = .ok (.getfield 26, 3) := by decide +kernel
theorem dX8_visitRow_15 : decode cX8_visitRow 15 = .ok (.iload_n 1, 1) := by decide +kernel
theorem dX8_visitRow_16 : decode cX8_visitRow 16 = .ok (.invokevirtual 88, 3) := by decide +kernel
theorem dX8_visitRow_19 : decode cX8_visitRow 19 = .ok (.istore 4, 2) := by decide +kernel
theorem dX8_visitRow_21 : decode cX8_visitRow 21 = .ok (.iload 4, 2) := by decide +kernel
theorem dX8_visitRow_23 : decode cX8_visitRow 23 = .ok (.ifCond .lt 23, 3) := by decide +kernel
theorem dX8_visitRow_26 : decode cX8_visitRow 26 = .ok (.iload 4, 2) := by decide +kernel
theorem dX8_visitRow_28 : decode cX8_visitRow 28 = .ok (.aload_n 0, 1) := by decide +kernel
theorem dX8_visitRow_29 : decode cX8_visitRow 29 = .ok (.getfield 33, 3) := by decide +kernel
theorem dX8_visitRow_32 : decode cX8_visitRow 32 = .ok (.arraylength, 1) := by decide +kernel
theorem dX8_visitRow_33 : decode cX8_visitRow 33 = .ok (.if_icmp .ge 13, 3) := by decide +kernel
theorem dX8_visitRow_36 : decode cX8_visitRow 36 = .ok (.aload_n 0, 1) := by decide +kernel
theorem dX8_visitRow_37 : decode cX8_visitRow 37 = .ok (.iload_n 1, 1) := by decide +kernel
theorem dX8_visitRow_38 : decode cX8_visitRow 38 = .ok (.aload_n 2, 1) := by decide +kernel
theorem dX8_visitRow_39 : decode cX8_visitRow 39 = .ok (.iload_n 3, 1) := by decide +kernel
theorem dX8_visitRow_40 : decode cX8_visitRow 40 = .ok (.invokevirtual 202, 3) := by decide +kernel
theorem dX8_visitRow_43 : decode cX8_visitRow 43 = .ok (.ifCond .ne 4, 3) := by decide +kernel
theorem dX8_visitRow_46 : decode cX8_visitRow 46 = .ok (.return_, 1) := by decide +kernel
theorem dX8_visitRow_47 : decode cX8_visitRow 47 = .ok (.aload_n 0, 1) := by decide +kernel
theorem dX8_visitRow_48 : decode cX8_visitRow 48 = .ok (.getfield 33, 3) := by decide +kernel
theorem dX8_visitRow_51 : decode cX8_visitRow 51 = .ok (.iload 4, 2) := by decide +kernel
theorem dX8_visitRow_53 : decode cX8_visitRow 53 = .ok (.iload_n 3, 1) := by decide +kernel
theorem dX8_visitRow_54 : decode cX8_visitRow 54 = .ok (.iastore, 1) := by decide +kernel
theorem dX8_visitRow_55 : decode cX8_visitRow 55 = .ok (.iconst 0, 1) := by decide +kernel
theorem dX8_visitRow_56 : decode cX8_visitRow 56 = .ok (.istore 5, 2) := by decide +kernel
theorem dX8_visitRow_58 : decode cX8_visitRow 58 = .ok (.iload 5, 2) := by decide +kernel
theorem dX8_visitRow_60 : decode cX8_visitRow 60 = .ok (.iconst 3, 1) := by decide +kernel
theorem dX8_visitRow_61 : decode cX8_visitRow 61 = .ok (.if_icmp .ge 42, 3) := by decide +kernel
theorem dX8_visitRow_64 : decode cX8_visitRow 64 = .ok (.iload 4, 2) := by decide +kernel
theorem dX8_visitRow_66 : decode cX8_visitRow 66 = .ok (.iconst 3, 1) := by decide +kernel
theorem dX8_visitRow_67 : decode cX8_visitRow 67 = .ok (.imul, 1) := by decide +kernel
theorem dX8_visitRow_68 : decode cX8_visitRow 68 = .ok (.iload 5, 2) := by decide +kernel
theorem dX8_visitRow_70 : decode cX8_visitRow 70 = .ok (.iadd, 1) := by decide +kernel
theorem dX8_visitRow_71 : decode cX8_visitRow 71 = .ok (.istore 6, 2) := by decide +kernel
theorem dX8_visitRow_73 : decode cX8_visitRow 73 = .ok (.iload 6, 2) := by decide +kernel
theorem dX8_visitRow_75 : decode cX8_visitRow 75 = .ok (.aload_n 0, 1) := by decide +kernel
theorem dX8_visitRow_76 : decode cX8_visitRow 76 = .ok (.getfield 37, 3) := by decide +kernel
theorem dX8_visitRow_79 : decode cX8_visitRow 79 = .ok (.arraylength, 1) := by decide +kernel
theorem dX8_visitRow_80 : decode cX8_visitRow 80 = .ok (.if_icmp .ge 17, 3) := by decide +kernel
theorem dX8_visitRow_83 : decode cX8_visitRow 83 = .ok (.aload_n 0, 1) := by decide +kernel
theorem dX8_visitRow_84 : decode cX8_visitRow 84 = .ok (.getfield 37, 3) := by decide +kernel
theorem dX8_visitRow_87 : decode cX8_visitRow 87 = .ok (.iload 6, 2) := by decide +kernel
theorem dX8_visitRow_89 : decode cX8_visitRow 89 = .ok (.aload_n 2, 1) := by decide +kernel
theorem dX8_visitRow_90 : decode cX8_visitRow 90 = .ok (.iload_n 3, 1) := by decide +kernel
theorem dX8_visitRow_91 : decode cX8_visitRow 91 = .ok (.iload 5, 2) := by decide +kernel
theorem dX8_visitRow_93 : decode cX8_visitRow 93 = .ok (.invokevirtual 206, 3) := by decide +kernel
theorem dX8_visitRow_96 : decode cX8_visitRow 96 = .ok (.iastore, 1) := by decide +kernel
theorem dX8_visitRow_97 : decode cX8_visitRow 97 = .ok (.iinc 5 1, 3) := by decide +kernel
theorem dX8_visitRow_100 : decode cX8_visitRow 100 = .ok (.goto (-42), 3) := by decide +kernel
theorem dX8_visitRow_103 : decode cX8_visitRow 103 = .ok (.iload_n 1, 1) := by decide +kernel
theorem dX8_visitRow_104 : decode cX8_visitRow 104 = .ok (.iconst 1, 1) := by decide +kernel
theorem dX8_visitRow_105 : decode cX8_visitRow 105 = .ok (.iadd, 1) := by decide +kernel
theorem dX8_visitRow_106 : decode cX8_visitRow 106 = .ok (.aload_n 0, 1) := by decide +kernel
theorem dX8_visitRow_107 : decode cX8_visitRow 107 = .ok (.getfield 26, 3) := by decide +kernel
theorem dX8_visitRow_110 : decode cX8_visitRow 110 = .ok (.invokevirtual 87, 3) := by decide +kernel
theorem dX8_visitRow_113 : decode cX8_visitRow 113 = .ok (.if_icmp .ne 10, 3) := by decide +kernel
theorem dX8_visitRow_116 : decode cX8_visitRow 116 = .ok (.aload_n 0, 1) := by decide +kernel
theorem dX8_visitRow_117 : decode cX8_visitRow 117 = .ok (.invokevirtual 209, 3) := by decide +kernel
theorem dX8_visitRow_120 : decode cX8_visitRow 120 = .ok (.goto 10, 3) := by decide +kernel
theorem dX8_visitRow_123 : decode cX8_visitRow 123 = .ok (.aload_n 0, 1) := by decide +kernel
theorem dX8_visitRow_124 : decode cX8_visitRow 124 = .ok (.iload_n 1, 1) := by decide +kernel
theorem dX8_visitRow_125 : decode cX8_visitRow 125 = .ok (.iconst 1, 1) := by decide +kernel
theorem dX8_visitRow_126 : decode cX8_visitRow 126 = .ok (.iadd, 1) := by decide +kernel
theorem dX8_visitRow_127 : decode cX8_visitRow 127 = .ok (.invokevirtual 73, 3) := by decide +kernel
theorem dX8_visitRow_130 : decode cX8_visitRow 130 = .ok (.return_, 1) := by decide +kernel
theorem dX8_fits_0 : decode cX8_fits 0 = .ok (.aload_n 2, 1) := by decide +kernel
theorem dX8_fits_1 : decode cX8_fits 1 = .ok (.iload_n 3, 1) := by decide +kernel
theorem dX8_fits_2 : decode cX8_fits 2 = .ok (.invokevirtual 212, 3) := by decide +kernel
theorem dX8_fits_5 : decode cX8_fits 5 = .ok (.ifCond .eq 17, 3) := by decide +kernel
theorem dX8_fits_8 : decode cX8_fits 8 = .ok (.aload_n 0, 1) := by decide +kernel
theorem dX8_fits_9 : decode cX8_fits 9 = .ok (.getfield 26, 3) := by decide +kernel
theorem dX8_fits_12 : decode cX8_fits 12 = .ok (.ifnull 10, 3) := by decide +kernel
theorem dX8_fits_15 : decode cX8_fits 15 = .ok (.aload_n 0, 1) := by decide +kernel
theorem dX8_fits_16 : decode cX8_fits 16 = .ok (.getfield 22, 3) := by decide +kernel
theorem dX8_fits_19 : decode cX8_fits 19 = .ok (.ifnonnull 5, 3) := by decide +kernel
theorem dX8_fits_22 : decode cX8_fits 22 = .ok (.iconst 0, 1) := by decide +kernel
theorem dX8_fits_23 : decode cX8_fits 23 = .ok (.ireturn, 1) := by decide +kernel
theorem dX8_fits_24 : decode cX8_fits 24 = .ok (.aload_n 0, 1) := by decide +kernel
theorem dX8_fits_25 : decode cX8_fits 25 = .ok (.getfield 26, 3) := by decide +kernel
theorem dX8_fits_28 : decode cX8_fits 28 = .ok (.iload_n 1, 1) := by decide +kernel
theorem dX8_fits_29 : decode cX8_fits 29 = .ok (.invokevirtual 88, 3) := by decide +kernel
theorem dX8_fits_32 : decode cX8_fits 32 = .ok (.istore 4, 2) := by decide +kernel
theorem dX8_fits_34 : decode cX8_fits 34 = .ok (.iconst 0, 1) := by decide +kernel
theorem dX8_fits_35 : decode cX8_fits 35 = .ok (.istore 5, 2) := by decide +kernel
theorem dX8_fits_37 : decode cX8_fits 37 = .ok (.iload 5, 2) := by decide +kernel
theorem dX8_fits_39 : decode cX8_fits 39 = .ok (.aload_n 0, 1) := by decide +kernel
theorem dX8_fits_40 : decode cX8_fits 40 = .ok (.getfield 22, 3) := by decide +kernel
theorem dX8_fits_43 : decode cX8_fits 43 = .ok (.invokevirtual 215, 3) := by decide +kernel
theorem dX8_fits_46 : decode cX8_fits 46 = .ok (.if_icmp .ge 55, 3) := by decide +kernel
theorem dX8_fits_49 : decode cX8_fits 49 = .ok (.aload_n 0, 1) := by decide +kernel
theorem dX8_fits_50 : decode cX8_fits 50 = .ok (.getfield 22, 3) := by decide +kernel
theorem dX8_fits_53 : decode cX8_fits 53 = .ok (.iload 5, 2) := by decide +kernel
theorem dX8_fits_55 : decode cX8_fits 55 = .ok (.invokevirtual 178, 3) := by decide +kernel
theorem dX8_fits_58 : decode cX8_fits 58 = .ok (.astore 6, 2) := by decide +kernel
theorem dX8_fits_60 : decode cX8_fits 60 = .ok (.aload 6, 2) := by decide +kernel
theorem dX8_fits_62 : decode cX8_fits 62 = .ok (.ifnull 33, 3) := by decide +kernel
theorem dX8_fits_65 : decode cX8_fits 65 = .ok (.aload 6, 2) := by decide +kernel
theorem dX8_fits_67 : decode cX8_fits 67 = .ok (.invokevirtual 218, 3) := by decide +kernel
theorem dX8_fits_70 : decode cX8_fits 70 = .ok (.iload 4, 2) := by decide +kernel
theorem dX8_fits_72 : decode cX8_fits 72 = .ok (.if_icmp .ne 23, 3) := by decide +kernel
theorem dX8_fits_75 : decode cX8_fits 75 = .ok (.aload 6, 2) := by decide +kernel
theorem dX8_fits_77 : decode cX8_fits 77 = .ok (.aload_n 2, 1) := by decide +kernel
theorem dX8_fits_78 : decode cX8_fits 78 = .ok (.iload_n 3, 1) := by decide +kernel
theorem dX8_fits_79 : decode cX8_fits 79 = .ok (.aload 6, 2) := by decide +kernel
theorem dX8_fits_81 : decode cX8_fits 81 = .ok (.invokevirtual 221, 3) := by decide +kernel
theorem dX8_fits_84 : decode cX8_fits 84 = .ok (.invokevirtual 206, 3) := by decide +kernel
theorem dX8_fits_87 : decode cX8_fits 87 = .ok (.invokevirtual 224, 3) := by decide +kernel
theorem dX8_fits_90 : decode cX8_fits 90 = .ok (.ifCond .ne 5, 3) := by decide +kernel
theorem dX8_fits_93 : decode cX8_fits 93 = .ok (.iconst 0, 1) := by decide +kernel
theorem dX8_fits_94 : decode cX8_fits 94 = .ok (.ireturn, 1) := by decide +kernel
theorem dX8_fits_95 : decode cX8_fits 95 = .ok (.iinc 5 1, 3) := by decide +kernel
theorem dX8_fits_98 : decode cX8_fits 98 = .ok (.goto (-61), 3) := by decide +kernel
theorem dX8_fits_101 : decode cX8_fits 101 = .ok (.iconst 0, 1) := by decide +kernel
theorem dX8_fits_102 : decode cX8_fits 102 = .ok (.istore 5, 2) := by decide +kernel
theorem dX8_fits_104 : decode cX8_fits 104 = .ok (.iload 5, 2) := by decide +kernel
theorem dX8_fits_106 : decode cX8_fits 106 = .ok (.aload_n 0, 1) := by decide +kernel
theorem dX8_fits_107 : decode cX8_fits 107 = .ok (.getfield 22, 3) := by decide +kernel
theorem dX8_fits_110 : decode cX8_fits 110 = .ok (.invokevirtual 227, 3) := by decide +kernel
theorem dX8_fits_113 : decode cX8_fits 113 = .ok (.if_icmp .ge 86, 3) := by decide +kernel
theorem dX8_fits_116 : decode cX8_fits 116 = .ok (.aload_n 0, 1) := by decide +kernel
theorem dX8_fits_117 : decode cX8_fits 117 = .ok (.getfield 22, 3) := by decide +kernel
theorem dX8_fits_120 : decode cX8_fits 120 = .ok (.iload 5, 2) := by decide +kernel
theorem dX8_fits_122 : decode cX8_fits 122 = .ok (.invokevirtual 181, 3) := by decide +kernel
theorem dX8_fits_125 : decode cX8_fits 125 = .ok (.astore 6, 2) := by decide +kernel
theorem dX8_fits_127 : decode cX8_fits 127 = .ok (.aload 6, 2) := by decide +kernel
theorem dX8_fits_129 : decode cX8_fits 129 = .ok (.ifnonnull 7, 3) := by decide +kernel
theorem dX8_fits_132 : decode cX8_fits 132 = .ok (.iconst (-1), 1) := by decide +kernel
theorem dX8_fits_133 : decode cX8_fits 133 = .ok (.goto 10, 3) := by decide +kernel
theorem dX8_fits_136 : decode cX8_fits 136 = .ok (.aload 6, 2) := by decide +kernel
theorem dX8_fits_138 : decode cX8_fits 138 = .ok (.iload 4, 2) := by decide +kernel
theorem dX8_fits_140 : decode cX8_fits 140 = .ok (.invokevirtual 185, 3) := by decide +kernel
theorem dX8_fits_143 : decode cX8_fits 143 = .ok (.istore 7, 2) := by decide +kernel
theorem dX8_fits_145 : decode cX8_fits 145 = .ok (.aload 6, 2) := by decide +kernel
theorem dX8_fits_147 : decode cX8_fits 147 = .ok (.ifnull 46, 3) := by decide +kernel
theorem dX8_fits_150 : decode cX8_fits 150 = .ok (.aload_n 0, 1) := by decide +kernel
theorem dX8_fits_151 : decode cX8_fits 151 = .ok (.getfield 26, 3) := by decide +kernel
theorem dX8_fits_154 : decode cX8_fits 154 = .ok (.iload 7, 2) := by decide +kernel
theorem dX8_fits_156 : decode cX8_fits 156 = .ok (.iload_n 1, 1) := by decide +kernel
theorem dX8_fits_157 : decode cX8_fits 157 = .ok (.invokevirtual 230, 3) := by decide +kernel
theorem dX8_fits_160 : decode cX8_fits 160 = .ok (.ifCond .eq 33, 3) := by decide +kernel
theorem dX8_fits_163 : decode cX8_fits 163 = .ok (.aload_n 0, 1) := by decide +kernel
theorem dX8_fits_164 : decode cX8_fits 164 = .ok (.iload 7, 2) := by decide +kernel
theorem dX8_fits_166 : decode cX8_fits 166 = .ok (.aload 6, 2) := by decide +kernel
theorem dX8_fits_168 : decode cX8_fits 168 = .ok (.iload 7, 2) := by decide +kernel
theorem dX8_fits_170 : decode cX8_fits 170 = .ok (.invokevirtual 190, 3) := by decide +kernel
theorem dX8_fits_173 : decode cX8_fits 173 = .ok (.invokevirtual 193, 3) := by decide +kernel
theorem dX8_fits_176 : decode cX8_fits 176 = .ok (.aload_n 2, 1) := by decide +kernel
theorem dX8_fits_177 : decode cX8_fits 177 = .ok (.iload_n 3, 1) := by decide +kernel
theorem dX8_fits_178 : decode cX8_fits 178 = .ok (.aload 6, 2) := by decide +kernel
theorem dX8_fits_180 : decode cX8_fits 180 = .ok (.iload 4, 2) := by decide +kernel
theorem dX8_fits_182 : decode cX8_fits 182 = .ok (.invokevirtual 190, 3) := by decide +kernel
theorem dX8_fits_185 : decode cX8_fits 185 = .ok (.invokevirtual 206, 3) := by decide +kernel
theorem dX8_fits_188 : decode cX8_fits 188 = .ok (.if_icmp .eq 5, 3) := by decide +kernel
theorem dX8_fits_191 : decode cX8_fits 191 = .ok (.iconst 0, 1) := by decide +kernel
theorem dX8_fits_192 : decode cX8_fits 192 = .ok (.ireturn, 1) := by decide +kernel
theorem dX8_fits_193 : decode cX8_fits 193 = .ok (.iinc 5 1, 3) := by decide +kernel
theorem dX8_fits_196 : decode cX8_fits 196 = .ok (.goto (-92), 3) := by decide +kernel
theorem dX8_fits_199 : decode cX8_fits 199 = .ok (.iconst 1, 1) := by decide +kernel
theorem dX8_fits_200 : decode cX8_fits 200 = .ok (.ireturn, 1) := by decide +kernel
theorem dX8_noteAnswer_0 : decode cX8_noteAnswer 0 = .ok (.lconst 0, 1) := by decide +kernel
theorem dX8_noteAnswer_1 : decode cX8_noteAnswer 1 = .ok (.lstore_n 1, 1) := by decide +kernel
theorem dX8_noteAnswer_2 : decode cX8_noteAnswer 2 = .ok (.iconst 0, 1) := by decide +kernel
theorem dX8_noteAnswer_3 : decode cX8_noteAnswer 3 = .ok (.istore_n 3, 1) := by decide +kernel
theorem dX8_noteAnswer_4 : decode cX8_noteAnswer 4 = .ok (.iload_n 3, 1) := by decide +kernel
theorem dX8_noteAnswer_5 : decode cX8_noteAnswer 5 = .ok (.aload_n 0, 1) := by decide +kernel
theorem dX8_noteAnswer_6 : decode cX8_noteAnswer 6 = .ok (.getfield 33, 3) := by decide +kernel
theorem dX8_noteAnswer_9 : decode cX8_noteAnswer 9 = .ok (.arraylength, 1) := by decide +kernel
theorem dX8_noteAnswer_10 : decode cX8_noteAnswer 10 = .ok (.if_icmp .ge 23, 3) := by decide +kernel
theorem dX8_noteAnswer_13 : decode cX8_noteAnswer 13 = .ok (.lload_n 1, 1) := by decide +kernel
theorem dX8_noteAnswer_14 : decode cX8_noteAnswer 14 = .ok (.ldc2_w 233, 3) := by decide +kernel
theorem dX8_noteAnswer_17 : decode cX8_noteAnswer 17 = .ok (.lmul, 1) := by decide +kernel
theorem dX8_noteAnswer_18 : decode cX8_noteAnswer 18 = .ok (.aload_n 0, 1) := by decide +kernel
theorem dX8_noteAnswer_19 : decode cX8_noteAnswer 19 = .ok (.getfield 33, 3) := by decide +kernel
theorem dX8_noteAnswer_22 : decode cX8_noteAnswer 22 = .ok (.iload_n 3, 1) := by decide +kernel
theorem dX8_noteAnswer_23 : decode cX8_noteAnswer 23 = .ok (.iaload, 1) := by decide +kernel
theorem dX8_noteAnswer_24 : decode cX8_noteAnswer 24 = .ok (.i2l, 1) := by decide +kernel
theorem dX8_noteAnswer_25 : decode cX8_noteAnswer 25 = .ok (.ladd, 1) := by decide +kernel
theorem dX8_noteAnswer_26 : decode cX8_noteAnswer 26 = .ok (.lstore_n 1, 1) := by decide +kernel
theorem dX8_noteAnswer_27 : decode cX8_noteAnswer 27 = .ok (.iinc 3 1, 3) := by decide +kernel
theorem dX8_noteAnswer_30 : decode cX8_noteAnswer 30 = .ok (.goto (-26), 3) := by decide +kernel
theorem dX8_noteAnswer_33 : decode cX8_noteAnswer 33 = .ok (.aload_n 0, 1) := by decide +kernel
theorem dX8_noteAnswer_34 : decode cX8_noteAnswer 34 = .ok (.dup, 1) := by decide +kernel
theorem dX8_noteAnswer_35 : decode cX8_noteAnswer 35 = .ok (.getfield 50, 3) := by decide +kernel
theorem dX8_noteAnswer_38 : decode cX8_noteAnswer 38 = .ok (.lload_n 1, 1) := by decide +kernel
theorem dX8_noteAnswer_39 : decode cX8_noteAnswer 39 = .ok (.lconst 1, 1) := by decide +kernel
theorem dX8_noteAnswer_40 : decode cX8_noteAnswer 40 = .ok (.ladd, 1) := by decide +kernel
theorem dX8_noteAnswer_41 : decode cX8_noteAnswer 41 = .ok (.lload_n 1, 1) := by decide +kernel
theorem dX8_noteAnswer_42 : decode cX8_noteAnswer 42 = .ok (.ldc2_w 235, 3) := by decide +kernel
theorem dX8_noteAnswer_45 : decode cX8_noteAnswer 45 = .ok (.ladd, 1) := by decide +kernel
theorem dX8_noteAnswer_46 : decode cX8_noteAnswer 46 = .ok (.lmul, 1) := by decide +kernel
theorem dX8_noteAnswer_47 : decode cX8_noteAnswer 47 = .ok (.ladd, 1) := by decide +kernel
theorem dX8_noteAnswer_48 : decode cX8_noteAnswer 48 = .ok (.putfield 50, 3) := by decide +kernel
theorem dX8_noteAnswer_51 : decode cX8_noteAnswer 51 = .ok (.aload_n 0, 1) := by decide +kernel
theorem dX8_noteAnswer_52 : decode cX8_noteAnswer 52 = .ok (.getfield 47, 3) := by decide +kernel
theorem dX8_noteAnswer_55 : decode cX8_noteAnswer 55 = .ok (.aload_n 0, 1) := by decide +kernel
theorem dX8_noteAnswer_56 : decode cX8_noteAnswer 56 = .ok (.getfield 54, 3) := by decide +kernel
theorem dX8_noteAnswer_59 : decode cX8_noteAnswer 59 = .ok (.if_icmp .ne 35, 3) := by decide +kernel
theorem dX8_noteAnswer_62 : decode cX8_noteAnswer 62 = .ok (.aload_n 0, 1) := by decide +kernel
theorem dX8_noteAnswer_63 : decode cX8_noteAnswer 63 = .ok (.getfield 57, 3) := by decide +kernel
theorem dX8_noteAnswer_66 : decode cX8_noteAnswer 66 = .ok (.ifCond .lt 28, 3) := by decide +kernel
theorem dX8_noteAnswer_69 : decode cX8_noteAnswer 69 = .ok (.aload_n 0, 1) := by decide +kernel
theorem dX8_noteAnswer_70 : decode cX8_noteAnswer 70 = .ok (.getfield 57, 3) := by decide +kernel
theorem dX8_noteAnswer_73 : decode cX8_noteAnswer 73 = .ok (.aload_n 0, 1) := by decide +kernel
theorem dX8_noteAnswer_74 : decode cX8_noteAnswer 74 = .ok (.getfield 33, 3) := by decide +kernel
theorem dX8_noteAnswer_77 : decode cX8_noteAnswer 77 = .ok (.arraylength, 1) := by decide +kernel
theorem dX8_noteAnswer_78 : decode cX8_noteAnswer 78 = .ok (.if_icmp .ge 16, 3) := by decide +kernel
theorem dX8_noteAnswer_81 : decode cX8_noteAnswer 81 = .ok (.aload_n 0, 1) := by decide +kernel
theorem dX8_noteAnswer_82 : decode cX8_noteAnswer 82 = .ok (.aload_n 0, 1) := by decide +kernel
theorem dX8_noteAnswer_83 : decode cX8_noteAnswer 83 = .ok (.getfield 33, 3) := by decide +kernel
theorem dX8_noteAnswer_86 : decode cX8_noteAnswer 86 = .ok (.aload_n 0, 1) := by decide +kernel
theorem dX8_noteAnswer_87 : decode cX8_noteAnswer 87 = .ok (.getfield 57, 3) := by decide +kernel
theorem dX8_noteAnswer_90 : decode cX8_noteAnswer 90 = .ok (.iaload, 1) := by decide +kernel
theorem dX8_noteAnswer_91 : decode cX8_noteAnswer 91 = .ok (.putfield 63, 3) := by decide +kernel
theorem dX8_noteAnswer_94 : decode cX8_noteAnswer 94 = .ok (.aload_n 0, 1) := by decide +kernel
theorem dX8_noteAnswer_95 : decode cX8_noteAnswer 95 = .ok (.dup, 1) := by decide +kernel
theorem dX8_noteAnswer_96 : decode cX8_noteAnswer 96 = .ok (.getfield 66, 3) := by decide +kernel
theorem dX8_noteAnswer_99 : decode cX8_noteAnswer 99 = .ok (.aload_n 0, 1) := by decide +kernel
theorem dX8_noteAnswer_100 : decode cX8_noteAnswer 100 = .ok (.aload_n 0, 1) := by decide +kernel
theorem dX8_noteAnswer_101 : decode cX8_noteAnswer 101 = .ok (.getfield 57, 3) := by decide +kernel
theorem dX8_noteAnswer_104 : decode cX8_noteAnswer 104 = .ok (.aload_n 0, 1) := by decide +kernel
theorem dX8_noteAnswer_105 : decode cX8_noteAnswer 105 = .ok (.getfield 60, 3) := by decide +kernel
theorem dX8_noteAnswer_108 : decode cX8_noteAnswer 108 = .ok (.invokevirtual 193, 3) := by decide +kernel
theorem dX8_noteAnswer_111 : decode cX8_noteAnswer 111 = .ok (.i2l, 1) := by decide +kernel
theorem dX8_noteAnswer_112 : decode cX8_noteAnswer 112 = .ok (.ladd, 1) := by decide +kernel
theorem dX8_noteAnswer_113 : decode cX8_noteAnswer 113 = .ok (.putfield 66, 3) := by decide +kernel
theorem dX8_noteAnswer_116 : decode cX8_noteAnswer 116 = .ok (.aload_n 0, 1) := by decide +kernel
theorem dX8_noteAnswer_117 : decode cX8_noteAnswer 117 = .ok (.dup, 1) := by decide +kernel
theorem dX8_noteAnswer_118 : decode cX8_noteAnswer 118 = .ok (.getfield 47, 3) := by decide +kernel
theorem dX8_noteAnswer_121 : decode cX8_noteAnswer 121 = .ok (.iconst 1, 1) := by decide +kernel
theorem dX8_noteAnswer_122 : decode cX8_noteAnswer 122 = .ok (.iadd, 1) := by decide +kernel
theorem dX8_noteAnswer_123 : decode cX8_noteAnswer 123 = .ok (.putfield 47, 3) := by decide +kernel
theorem dX8_noteAnswer_126 : decode cX8_noteAnswer 126 = .ok (.return_, 1) := by decide +kernel
theorem dX9_init_0 : decode cX9_init 0 = .ok (.aload_n 0, 1) := by decide +kernel
theorem dX9_init_1 : decode cX9_init 1 = .ok (.invokespecial 3, 3) := by decide +kernel
theorem dX9_init_4 : decode cX9_init 4 = .ok (.aload_n 0, 1) := by decide +kernel
theorem dX9_init_5 : decode cX9_init 5 = .ok (.iconst 3, 1) := by decide +kernel
theorem dX9_init_6 : decode cX9_init 6 = .ok (.anewarray 9, 3) := by decide +kernel
theorem dX9_init_9 : decode cX9_init 9 = .ok (.putfield 11, 3) := by decide +kernel
theorem dX9_init_12 : decode cX9_init 12 = .ok (.aload_n 0, 1) := by decide +kernel
theorem dX9_init_13 : decode cX9_init 13 = .ok (.iconst 0, 1) := by decide +kernel
theorem dX9_init_14 : decode cX9_init 14 = .ok (.putfield 17, 3) := by decide +kernel
theorem dX9_init_17 : decode cX9_init 17 = .ok (.aload_n 0, 1) := by decide +kernel
theorem dX9_init_18 : decode cX9_init 18 = .ok (.bipush 6, 2) := by decide +kernel
theorem dX9_init_20 : decode cX9_init 20 = .ok (.anewarray 21, 3) := by decide +kernel
theorem dX9_init_23 : decode cX9_init 23 = .ok (.putfield 23, 3) := by decide +kernel
theorem dX9_init_26 : decode cX9_init 26 = .ok (.aload_n 0, 1) := by decide +kernel
theorem dX9_init_27 : decode cX9_init 27 = .ok (.iconst 0, 1) := by decide +kernel
theorem dX9_init_28 : decode cX9_init 28 = .ok (.putfield 27, 3) := by decide +kernel
theorem dX9_init_31 : decode cX9_init 31 = .ok (.return_, 1) := by decide +kernel
theorem dX9_tableAt_0 : decode cX9_tableAt 0 = .ok (.iload_n 1, 1) := by decide +kernel
theorem dX9_tableAt_1 : decode cX9_tableAt 1 = .ok (.ifCond .lt 21, 3) := by decide +kernel
theorem dX9_tableAt_4 : decode cX9_tableAt 4 = .ok (.iload_n 1, 1) := by decide +kernel
theorem dX9_tableAt_5 : decode cX9_tableAt 5 = .ok (.aload_n 0, 1) := by decide +kernel
theorem dX9_tableAt_6 : decode cX9_tableAt 6 = .ok (.getfield 11, 3) := by decide +kernel
theorem dX9_tableAt_9 : decode cX9_tableAt 9 = .ok (.arraylength, 1) := by decide +kernel
theorem dX9_tableAt_10 : decode cX9_tableAt 10 = .ok (.if_icmp .ge 12, 3) := by decide +kernel
theorem dX9_tableAt_13 : decode cX9_tableAt 13 = .ok (.aload_n 0, 1) := by decide +kernel
theorem dX9_tableAt_14 : decode cX9_tableAt 14 = .ok (.getfield 11, 3) := by decide +kernel
theorem dX9_tableAt_17 : decode cX9_tableAt 17 = .ok (.iload_n 1, 1) := by decide +kernel
theorem dX9_tableAt_18 : decode cX9_tableAt 18 = .ok (.aaload, 1) := by decide +kernel
theorem dX9_tableAt_19 : decode cX9_tableAt 19 = .ok (.goto 4, 3) := by decide +kernel
theorem dX9_tableAt_22 : decode cX9_tableAt 22 = .ok (.aconst_null, 1) := by decide +kernel
theorem dX9_tableAt_23 : decode cX9_tableAt 23 = .ok (.areturn, 1) := by decide +kernel
theorem dX9_indexAt_0 : decode cX9_indexAt 0 = .ok (.iload_n 1, 1) := by decide +kernel
theorem dX9_indexAt_1 : decode cX9_indexAt 1 = .ok (.ifCond .lt 21, 3) := by decide +kernel
theorem dX9_indexAt_4 : decode cX9_indexAt 4 = .ok (.iload_n 1, 1) := by decide +kernel
theorem dX9_indexAt_5 : decode cX9_indexAt 5 = .ok (.aload_n 0, 1) := by decide +kernel
theorem dX9_indexAt_6 : decode cX9_indexAt 6 = .ok (.getfield 23, 3) := by decide +kernel
theorem dX9_indexAt_9 : decode cX9_indexAt 9 = .ok (.arraylength, 1) := by decide +kernel
theorem dX9_indexAt_10 : decode cX9_indexAt 10 = .ok (.if_icmp .ge 12, 3) := by decide +kernel
theorem dX9_indexAt_13 : decode cX9_indexAt 13 = .ok (.aload_n 0, 1) := by decide +kernel
theorem dX9_indexAt_14 : decode cX9_indexAt 14 = .ok (.getfield 23, 3) := by decide +kernel
theorem dX9_indexAt_17 : decode cX9_indexAt 17 = .ok (.iload_n 1, 1) := by decide +kernel
theorem dX9_indexAt_18 : decode cX9_indexAt 18 = .ok (.aaload, 1) := by decide +kernel
theorem dX9_indexAt_19 : decode cX9_indexAt 19 = .ok (.goto 4, 3) := by decide +kernel
theorem dX9_indexAt_22 : decode cX9_indexAt 22 = .ok (.aconst_null, 1) := by decide +kernel
theorem dX9_indexAt_23 : decode cX9_indexAt 23 = .ok (.areturn, 1) := by decide +kernel
theorem dX9_addTable_0 : decode cX9_addTable 0 = .ok (.aload_n 0, 1) := by decide +kernel
theorem dX9_addTable_1 : decode cX9_addTable 1 = .ok (.getfield 17, 3) := by decide +kernel
theorem dX9_addTable_4 : decode cX9_addTable 4 = .ok (.istore_n 2, 1) := by decide +kernel
theorem dX9_addTable_5 : decode cX9_addTable 5 = .ok (.iload_n 2, 1) := by decide +kernel
theorem dX9_addTable_6 : decode cX9_addTable 6 = .ok (.ifCond .lt 12, 3) := by decide +kernel
theorem dX9_addTable_9 : decode cX9_addTable 9 = .ok (.iload_n 2, 1) := by decide +kernel
theorem dX9_addTable_10 : decode cX9_addTable 10 = .ok (.aload_n 0, 1) := by decide +kernel
theorem dX9_addTable_11 : decode cX9_addTable 11 = .ok (.getfield 11, 3) := by decide +kernel
theorem dX9_addTable_14 : decode cX9_addTable 14 = .ok (.arraylength, 1) := by decide +kernel
theorem dX9_addTable_15 : decode cX9_addTable 15 = .ok (.if_icmp .lt 5, 3) := by decide +kernel
theorem dX9_addTable_18 : decode cX9_addTable 18 = .ok (.iconst (-1), 1) := by decide +kernel
theorem dX9_addTable_19 : decode cX9_addTable 19 = .ok (.ireturn, 1) := by decide +kernel
theorem dX9_addTable_20 : decode cX9_addTable 20 = .ok (.aload_n 0, 1) := by decide +kernel
theorem dX9_addTable_21 : decode cX9_addTable 21 = .ok (.getfield 11, 3) := by decide +kernel
theorem dX9_addTable_24 : decode cX9_addTable 24 = .ok (.iload_n 2, 1) := by decide +kernel
theorem dX9_addTable_25 : decode cX9_addTable 25 = .ok (.new 9, 3) := by decide +kernel
theorem dX9_addTable_28 : decode cX9_addTable 28 = .ok (.dup, 1) := by decide +kernel
theorem dX9_addTable_29 : decode cX9_addTable 29 = .ok (.iload_n 2, 1) := by decide +kernel
theorem dX9_addTable_30 : decode cX9_addTable 30 = .ok (.iload_n 1, 1) := by decide +kernel
theorem dX9_addTable_31 : decode cX9_addTable 31 = .ok (.invokespecial 30, 3) := by decide +kernel
theorem dX9_addTable_34 : decode cX9_addTable 34 = .ok (.aastore, 1) := by decide +kernel
theorem dX9_addTable_35 : decode cX9_addTable 35 = .ok (.aload_n 0, 1) := by decide +kernel
theorem dX9_addTable_36 : decode cX9_addTable 36 = .ok (.iload_n 2, 1) := by decide +kernel
theorem dX9_addTable_37 : decode cX9_addTable 37 = .ok (.iconst 1, 1) := by decide +kernel
theorem dX9_addTable_38 : decode cX9_addTable 38 = .ok (.iadd, 1) := by decide +kernel
theorem dX9_addTable_39 : decode cX9_addTable 39 = .ok (.putfield 17, 3) := by decide +kernel
theorem dX9_addTable_42 : decode cX9_addTable 42 = .ok (.iload_n 2, 1) := by decide +kernel
theorem dX9_addTable_43 : decode cX9_addTable 43 = .ok (.ireturn, 1) := by decide +kernel
theorem dX9_addIndex_0 : decode cX9_addIndex 0 = .ok (.aload_n 0, 1) := by decide +kernel
theorem dX9_addIndex_1 : decode cX9_addIndex 1 = .ok (.getfield 27, 3) := by decide +kernel
theorem dX9_addIndex_4 : decode cX9_addIndex 4 = .ok (.istore_n 3, 1) := by decide +kernel
theorem dX9_addIndex_5 : decode cX9_addIndex 5 = .ok (.iload_n 3, 1) := by decide +kernel
theorem dX9_addIndex_6 : decode cX9_addIndex 6 = .ok (.ifCond .lt 12, 3) := by decide +kernel
theorem dX9_addIndex_9 : decode cX9_addIndex 9 = .ok (.iload_n 3, 1) := by decide +kernel
theorem dX9_addIndex_10 : decode cX9_addIndex 10 = .ok (.aload_n 0, 1) := by decide +kernel
theorem dX9_addIndex_11 : decode cX9_addIndex 11 = .ok (.getfield 23, 3) := by decide +kernel
theorem dX9_addIndex_14 : decode cX9_addIndex 14 = .ok (.arraylength, 1) := by decide +kernel
theorem dX9_addIndex_15 : decode cX9_addIndex 15 = .ok (.if_icmp .lt 5, 3) := by decide +kernel
theorem dX9_addIndex_18 : decode cX9_addIndex 18 = .ok (.iconst (-1), 1) := by decide +kernel
theorem dX9_addIndex_19 : decode cX9_addIndex 19 = .ok (.ireturn, 1) := by decide +kernel
theorem dX9_addIndex_20 : decode cX9_addIndex 20 = .ok (.new 21, 3) := by decide +kernel
theorem dX9_addIndex_23 : decode cX9_addIndex 23 = .ok (.dup, 1) := by decide +kernel
theorem dX9_addIndex_24 : decode cX9_addIndex 24 = .ok (.iload_n 3, 1) := by decide +kernel
theorem dX9_addIndex_25 : decode cX9_addIndex 25 = .ok (.aload_n 1, 1) := by decide +kernel
theorem dX9_addIndex_26 : decode cX9_addIndex 26 = .ok (.iload_n 2, 1) := by decide +kernel
theorem dX9_addIndex_27 : decode cX9_addIndex 27 = .ok (.invokespecial 33, 3) := by decide +kernel
theorem dX9_addIndex_30 : decode cX9_addIndex 30 = .ok (.astore 4, 2) := by decide +kernel
theorem dX9_addIndex_32 : decode cX9_addIndex 32 = .ok (.iconst 0, 1) := by decide +kernel
theorem dX9_addIndex_33 : decode cX9_addIndex 33 = .ok (.istore 5, 2) := by decide +kernel
theorem dX9_addIndex_35 : decode cX9_addIndex 35 = .ok (.iload 5, 2) := by decide +kernel
theorem dX9_addIndex_37 : decode cX9_addIndex 37 = .ok (.bipush 40, 2) := by decide +kernel
theorem dX9_addIndex_39 : decode cX9_addIndex 39 = .ok (.if_icmp .ge 25, 3) := by decide +kernel
theorem dX9_addIndex_42 : decode cX9_addIndex 42 = .ok (.aload_n 1, 1) := by decide +kernel
theorem dX9_addIndex_43 : decode cX9_addIndex 43 = .ok (.iload 5, 2) := by decide +kernel
theorem dX9_addIndex_45 : decode cX9_addIndex 45 = .ok (.invokevirtual 36, 3) := by decide +kernel
theorem dX9_addIndex_48 : decode cX9_addIndex 48 = .ok (.ifCond .eq 10, 3) := by decide +kernel
theorem dX9_addIndex_51 : decode cX9_addIndex 51 = .ok (.aload 4, 2) := by decide +kernel
theorem dX9_addIndex_53 : decode cX9_addIndex 53 = .ok (.iload 5, 2) := by decide +kernel
theorem dX9_addIndex_55 : decode cX9_addIndex 55 = .ok (.invokevirtual 40, 3) := by decide +kernel
theorem dX9_addIndex_58 : decode cX9_addIndex 58 = .ok (.iinc 5 1, 3) := by decide +kernel
theorem dX9_addIndex_61 : decode cX9_addIndex 61 = .ok (.goto (-26), 3) := by decide +kernel
theorem dX9_addIndex_64 : decode cX9_addIndex 64 = .ok (.aload_n 0, 1) := by decide +kernel
theorem dX9_addIndex_65 : decode cX9_addIndex 65 = .ok (.getfield 23, 3) := by decide +kernel
theorem dX9_addIndex_68 : decode cX9_addIndex 68 = .ok (.iload_n 3, 1) := by decide +kernel
theorem dX9_addIndex_69 : decode cX9_addIndex 69 = .ok (.aload 4, 2) := by decide +kernel
theorem dX9_addIndex_71 : decode cX9_addIndex 71 = .ok (.aastore, 1) := by decide +kernel
theorem dX9_addIndex_72 : decode cX9_addIndex 72 = .ok (.aload_n 0, 1) := by decide +kernel
theorem dX9_addIndex_73 : decode cX9_addIndex 73 = .ok (.iload_n 3, 1) := by decide +kernel
theorem dX9_addIndex_74 : decode cX9_addIndex 74 = .ok (.iconst 1, 1) := by decide +kernel
theorem dX9_addIndex_75 : decode cX9_addIndex 75 = .ok (.iadd, 1) := by decide +kernel
theorem dX9_addIndex_76 : decode cX9_addIndex 76 = .ok (.putfield 27, 3) := by decide +kernel
theorem dX9_addIndex_79 : decode cX9_addIndex 79 = .ok (.iload_n 3, 1) := by decide +kernel
theorem dX9_addIndex_80 : decode cX9_addIndex 80 = .ok (.ireturn, 1) := by decide +kernel
theorem dX9_addRow_0 : decode cX9_addRow 0 = .ok (.aload_n 1, 1) := by decide +kernel
theorem dX9_addRow_1 : decode cX9_addRow 1 = .ok (.iload_n 2, 1) := by decide +kernel
theorem dX9_addRow_2 : decode cX9_addRow 2 = .ok (.iload_n 3, 1) := by decide +kernel
theorem dX9_addRow_3 : decode cX9_addRow 3 = .ok (.iload 4, 2) := by decide +kernel
theorem dX9_addRow_5 : decode cX9_addRow 5 = .ok (.invokevirtual 44, 3) := by decide +kernel
theorem dX9_addRow_8 : decode cX9_addRow 8 = .ok (.istore 5, 2) := by decide +kernel
theorem dX9_addRow_10 : decode cX9_addRow 10 = .ok (.iconst 0, 1) := by decide +kernel
theorem dX9_addRow_11 : decode cX9_addRow 11 = .ok (.istore 6, 2) := by decide +kernel
theorem dX9_addRow_13 : decode cX9_addRow 13 = .ok (.iload 5, 2) := by decide +kernel
theorem dX9_addRow_15 : decode cX9_addRow 15 = .ok (.iconst (-1), 1) := by decide +kernel
theorem dX9_addRow_16 : decode cX9_addRow 16 = .ok (.if_icmp .eq 49, 3) := by decide +kernel
theorem dX9_addRow_19 : decode cX9_addRow 19 = .ok (.iload 6, 2) := by decide +kernel
theorem dX9_addRow_21 : decode cX9_addRow 21 = .ok (.aload_n 0, 1) := by decide +kernel
theorem dX9_addRow_22 : decode cX9_addRow 22 = .ok (.getfield 23, 3) := by decide +kernel
theorem dX9_addRow_25 : decode cX9_addRow 25 = .ok (.arraylength, 1) := by decide +kernel
theorem dX9_addRow_26 : decode cX9_addRow 26 = .ok (.if_icmp .ge 39, 3) := by decide +kernel
theorem dX9_addRow_29 : decode cX9_addRow 29 = .ok (.aload_n 0, 1) := by decide +kernel
theorem dX9_addRow_30 : decode cX9_addRow 30 = .ok (.getfield 23, 3) := by decide +kernel
theorem dX9_addRow_33 : decode cX9_addRow 33 = .ok (.iload 6, 2) := by decide +kernel
theorem dX9_addRow_35 : decode cX9_addRow 35 = .ok (.aaload, 1) := by decide +kernel
theorem dX9_addRow_36 : decode cX9_addRow 36 = .ok (.astore 7, 2) := by decide +kernel
theorem dX9_addRow_38 : decode cX9_addRow 38 = .ok (.aload 7, 2) := by decide +kernel
theorem dX9_addRow_40 : decode cX9_addRow 40 = .ok (.ifnull 19, 3) := by decide +kernel
theorem dX9_addRow_43 : decode cX9_addRow 43 = .ok (.aload 7, 2) := by decide +kernel
theorem dX9_addRow_45 : decode cX9_addRow 45 = .ok (.aload_n 1, 1) := by decide +kernel
theorem dX9_addRow_46 : decode cX9_addRow 46 = .ok (.invokevirtual 47, 3) := by decide +kernel
theorem dX9_addRow_49 : decode cX9_addRow 49 = .ok (.ifCond .eq 10, 3) := by decide +kernel
theorem dX9_addRow_52 : decode cX9_addRow 52 = .ok (.aload 7, 2) := by decide +kernel
theorem dX9_addRow_54 : decode cX9_addRow 54 = .ok (.iload 5, 2) := by decide +kernel
theorem dX9_addRow_56 : decode cX9_addRow 56 = .ok (.invokevirtual 40, 3) := by decide +kernel
theorem dX9_addRow_59 : decode cX9_addRow 59 = .ok (.iinc 6 1, 3) := by decide +kernel
theorem dX9_addRow_62 : decode cX9_addRow 62 = .ok (.goto (-49), 3) := by decide +kernel
theorem dX9_addRow_65 : decode cX9_addRow 65 = .ok (.iload 5, 2) := by decide +kernel
theorem dX9_addRow_67 : decode cX9_addRow 67 = .ok (.ireturn, 1) := by decide +kernel
theorem dX9_dropRow_0 : decode cX9_dropRow 0 = .ok (.aload_n 1, 1) := by decide +kernel
theorem dX9_dropRow_1 : decode cX9_dropRow 1 = .ok (.iload_n 2, 1) := by decide +kernel
theorem dX9_dropRow_2 : decode cX9_dropRow 2 = .ok (.invokevirtual 51, 3) := by decide +kernel
theorem dX9_dropRow_5 : decode cX9_dropRow 5 = .ok (.iconst 0, 1) := by decide +kernel
theorem dX9_dropRow_6 : decode cX9_dropRow 6 = .ok (.istore_n 3, 1) := by decide +kernel
theorem dX9_dropRow_7 : decode cX9_dropRow 7 = .ok (.iload_n 3, 1) := by decide +kernel
theorem dX9_dropRow_8 : decode cX9_dropRow 8 = .ok (.aload_n 0, 1) := by decide +kernel
theorem dX9_dropRow_9 : decode cX9_dropRow 9 = .ok (.getfield 23, 3) := by decide +kernel
theorem dX9_dropRow_12 : decode cX9_dropRow 12 = .ok (.arraylength, 1) := by decide +kernel
theorem dX9_dropRow_13 : decode cX9_dropRow 13 = .ok (.if_icmp .ge 37, 3) := by decide +kernel
theorem dX9_dropRow_16 : decode cX9_dropRow 16 = .ok (.aload_n 0, 1) := by decide +kernel
theorem dX9_dropRow_17 : decode cX9_dropRow 17 = .ok (.getfield 23, 3) := by decide +kernel
theorem dX9_dropRow_20 : decode cX9_dropRow 20 = .ok (.iload_n 3, 1) := by decide +kernel
theorem dX9_dropRow_21 : decode cX9_dropRow 21 = .ok (.aaload, 1) := by decide +kernel
theorem dX9_dropRow_22 : decode cX9_dropRow 22 = .ok (.astore 4, 2) := by decide +kernel
theorem dX9_dropRow_24 : decode cX9_dropRow 24 = .ok (.aload 4, 2) := by decide +kernel
theorem dX9_dropRow_26 : decode cX9_dropRow 26 = .ok (.ifnull 18, 3) := by decide +kernel
theorem dX9_dropRow_29 : decode cX9_dropRow 29 = .ok (.aload 4, 2) := by decide +kernel
theorem dX9_dropRow_31 : decode cX9_dropRow 31 = .ok (.aload_n 1, 1) := by decide +kernel
theorem dX9_dropRow_32 : decode cX9_dropRow 32 = .ok (.invokevirtual 47, 3) := by decide +kernel
theorem dX9_dropRow_35 : decode cX9_dropRow 35 = .ok (.ifCond .eq 9, 3) := by decide +kernel
theorem dX9_dropRow_38 : decode cX9_dropRow 38 = .ok (.aload 4, 2) := by decide +kernel
theorem dX9_dropRow_40 : decode cX9_dropRow 40 = .ok (.iload_n 2, 1) := by decide +kernel
theorem dX9_dropRow_41 : decode cX9_dropRow 41 = .ok (.invokevirtual 54, 3) := by decide +kernel
theorem dX9_dropRow_44 : decode cX9_dropRow 44 = .ok (.iinc 3 1, 3) := by decide +kernel
theorem dX9_dropRow_47 : decode cX9_dropRow 47 = .ok (.goto (-40), 3) := by decide +kernel
theorem dX9_dropRow_50 : decode cX9_dropRow 50 = .ok (.return_, 1) := by decide +kernel
theorem dX9_lowestIndexOn_0 : decode cX9_lowestIndexOn 0 = .ok (.iconst 0, 1) := by decide +kernel
theorem dX9_lowestIndexOn_1 : decode cX9_lowestIndexOn 1 = .ok (.istore 4, 2) := by decide +kernel
theorem dX9_lowestIndexOn_3 : decode cX9_lowestIndexOn 3 = .ok (.iload 4, 2) := by decide +kernel
theorem dX9_lowestIndexOn_5 : decode cX9_lowestIndexOn 5 = .ok (.aload_n 0, 1) := by decide +kernel
theorem dX9_lowestIndexOn_6 : decode cX9_lowestIndexOn 6 = .ok (.getfield 23, 3) := by decide +kernel
theorem dX9_lowestIndexOn_9 : decode cX9_lowestIndexOn 9 = .ok (.arraylength, 1) := by decide +kernel
theorem dX9_lowestIndexOn_10 : decode cX9_lowestIndexOn 10 = .ok (.if_icmp .ge 45, 3) := by decide +kernel
theorem dX9_lowestIndexOn_13 : decode cX9_lowestIndexOn 13 = .ok (.aload_n 0, 1) := by decide +kernel
theorem dX9_lowestIndexOn_14 : decode cX9_lowestIndexOn 14 = .ok (.getfield 23, 3) := by decide +kernel
theorem dX9_lowestIndexOn_17 : decode cX9_lowestIndexOn 17 = .ok (.iload 4, 2) := by decide +kernel
theorem dX9_lowestIndexOn_19 : decode cX9_lowestIndexOn 19 = .ok (.aaload, 1) := by decide +kernel
theorem dX9_lowestIndexOn_20 : decode cX9_lowestIndexOn 20 = .ok (.astore 5, 2) := by decide +kernel
theorem dX9_lowestIndexOn_22 : decode cX9_lowestIndexOn 22 = .ok (.aload 5, 2) := by decide +kernel
theorem dX9_lowestIndexOn_24 : decode cX9_lowestIndexOn 24 = .ok (.ifnull 25, 3) := by decide +kernel
theorem dX9_lowestIndexOn_27 : decode cX9_lowestIndexOn 27 = .ok (.aload 5, 2) := by decide +kernel
theorem dX9_lowestIndexOn_29 : decode cX9_lowestIndexOn 29 = .ok (.aload_n 1, 1) := by decide +kernel
theorem dX9_lowestIndexOn_30 : decode cX9_lowestIndexOn 30 = .ok (.iload_n 2, 1) := by decide +kernel
theorem dX9_lowestIndexOn_31 : decode cX9_lowestIndexOn 31 = .ok (.invokevirtual 55, 3) := by decide +kernel
theorem dX9_lowestIndexOn_34 : decode cX9_lowestIndexOn 34 = .ok (.ifCond .eq 15, 3) := by decide +kernel
theorem dX9_lowestIndexOn_37 : decode cX9_lowestIndexOn 37 = .ok (.iload_n 3, 1) := by decide +kernel
theorem dX9_lowestIndexOn_38 : decode cX9_lowestIndexOn 38 = .ok (.iload 4, 2) := by decide +kernel
theorem dX9_lowestIndexOn_40 : decode cX9_lowestIndexOn 40 = .ok (.invokestatic 59, 3) := by decide +kernel
theorem dX9_lowestIndexOn_43 : decode cX9_lowestIndexOn 43 = .ok (.ifCond .ne 6, 3) := by decide +kernel
theorem dX9_lowestIndexOn_46 : decode cX9_lowestIndexOn 46 = .ok (.iload 4, 2) := by decide +kernel
theorem dX9_lowestIndexOn_48 : decode cX9_lowestIndexOn 48 = .ok (.ireturn, 1) := by decide +kernel
theorem dX9_lowestIndexOn_49 : decode cX9_lowestIndexOn 49 = .ok (.iinc 4 1, 3) := by decide +kernel
theorem dX9_lowestIndexOn_52 : decode cX9_lowestIndexOn 52 = .ok (.goto (-49), 3) := by decide +kernel
theorem dX9_lowestIndexOn_55 : decode cX9_lowestIndexOn 55 = .ok (.iconst (-1), 1) := by decide +kernel
theorem dX9_lowestIndexOn_56 : decode cX9_lowestIndexOn 56 = .ok (.ireturn, 1) := by decide +kernel
theorem dX9_indexesRise_0 : decode cX9_indexesRise 0 = .ok (.iconst 0, 1) := by decide +kernel
theorem dX9_indexesRise_1 : decode cX9_indexesRise 1 = .ok (.istore_n 1, 1) := by decide +kernel
theorem dX9_indexesRise_2 : decode cX9_indexesRise 2 = .ok (.iload_n 1, 1) := by decide +kernel
theorem dX9_indexesRise_3 : decode cX9_indexesRise 3 = .ok (.aload_n 0, 1) := by decide +kernel
theorem dX9_indexesRise_4 : decode cX9_indexesRise 4 = .ok (.getfield 23, 3) := by decide +kernel
theorem dX9_indexesRise_7 : decode cX9_indexesRise 7 = .ok (.arraylength, 1) := by decide +kernel
theorem dX9_indexesRise_8 : decode cX9_indexesRise 8 = .ok (.if_icmp .ge 29, 3) := by decide +kernel
theorem dX9_indexesRise_11 : decode cX9_indexesRise 11 = .ok (.aload_n 0, 1) := by decide +kernel
theorem dX9_indexesRise_12 : decode cX9_indexesRise 12 = .ok (.getfield 23, 3) := by decide +kernel
theorem dX9_indexesRise_15 : decode cX9_indexesRise 15 = .ok (.iload_n 1, 1) := by decide +kernel
theorem dX9_indexesRise_16 : decode cX9_indexesRise 16 = .ok (.aaload, 1) := by decide +kernel
theorem dX9_indexesRise_17 : decode cX9_indexesRise 17 = .ok (.astore_n 2, 1) := by decide +kernel
theorem dX9_indexesRise_18 : decode cX9_indexesRise 18 = .ok (.aload_n 2, 1) := by decide +kernel
theorem dX9_indexesRise_19 : decode cX9_indexesRise 19 = .ok (.ifnull 12, 3) := by decide +kernel
theorem dX9_indexesRise_22 : decode cX9_indexesRise 22 = .ok (.aload_n 2, 1) := by decide +kernel
theorem dX9_indexesRise_23 : decode cX9_indexesRise 23 = .ok (.invokevirtual 63, 3) := by decide +kernel
theorem dX9_indexesRise_26 : decode cX9_indexesRise 26 = .ok (.ifCond .ne 5, 3) := by decide +kernel
theorem dX9_indexesRise_29 : decode cX9_indexesRise 29 = .ok (.iconst 0, 1) := by decide +kernel
theorem dX9_indexesRise_30 : decode cX9_indexesRise 30 = .ok (.ireturn, 1) := by decide +kernel
theorem dX9_indexesRise_31 : decode cX9_indexesRise 31 = .ok (.iinc 1 1, 3) := by decide +kernel
theorem dX9_indexesRise_34 : decode cX9_indexesRise 34 = .ok (.goto (-32), 3) := by decide +kernel
theorem dX9_indexesRise_37 : decode cX9_indexesRise 37 = .ok (.iconst 1, 1) := by decide +kernel
theorem dX9_indexesRise_38 : decode cX9_indexesRise 38 = .ok (.ireturn, 1) := by decide +kernel
theorem dX9_printFrom_0 : decode cX9_printFrom 0 = .ok (.lload_n 1, 1) := by decide +kernel
theorem dX9_printFrom_1 : decode cX9_printFrom 1 = .ok (.lstore_n 3, 1) := by decide +kernel
theorem dX9_printFrom_2 : decode cX9_printFrom 2 = .ok (.iconst 0, 1) := by decide +kernel
theorem dX9_printFrom_3 : decode cX9_printFrom 3 = .ok (.istore 5, 2) := by decide +kernel
theorem dX9_printFrom_5 : decode cX9_printFrom 5 = .ok (.iload 5, 2) := by decide +kernel
theorem dX9_printFrom_7 : decode cX9_printFrom 7 = .ok (.aload_n 0, 1) := by decide +kernel
theorem dX9_printFrom_8 : decode cX9_printFrom 8 = .ok (.getfield 11, 3) := by decide +kernel
theorem dX9_printFrom_11 : decode cX9_printFrom 11 = .ok (.arraylength, 1) := by decide +kernel
theorem dX9_printFrom_12 : decode cX9_printFrom 12 = .ok (.if_icmp .ge 30, 3) := by decide +kernel
theorem dX9_printFrom_15 : decode cX9_printFrom 15 = .ok (.aload_n 0, 1) := by decide +kernel
theorem dX9_printFrom_16 : decode cX9_printFrom 16 = .ok (.getfield 11, 3) := by decide +kernel
theorem dX9_printFrom_19 : decode cX9_printFrom 19 = .ok (.iload 5, 2) := by decide +kernel
theorem dX9_printFrom_21 : decode cX9_printFrom 21 = .ok (.aaload, 1) := by decide +kernel
theorem dX9_printFrom_22 : decode cX9_printFrom 22 = .ok (.astore 6, 2) := by decide +kernel
theorem dX9_printFrom_24 : decode cX9_printFrom 24 = .ok (.aload 6, 2) := by decide +kernel
theorem dX9_printFrom_26 : decode cX9_printFrom 26 = .ok (.ifnull 10, 3) := by decide +kernel
theorem dX9_printFrom_29 : decode cX9_printFrom 29 = .ok (.aload 6, 2) := by decide +kernel
theorem dX9_printFrom_31 : decode cX9_printFrom 31 = .ok (.lload_n 3, 1) := by decide +kernel
theorem dX9_printFrom_32 : decode cX9_printFrom 32 = .ok (.invokevirtual 67, 3) := by decide +kernel
theorem dX9_printFrom_35 : decode cX9_printFrom 35 = .ok (.lstore_n 3, 1) := by decide +kernel
theorem dX9_printFrom_36 : decode cX9_printFrom 36 = .ok (.iinc 5 1, 3) := by decide +kernel
theorem dX9_printFrom_39 : decode cX9_printFrom 39 = .ok (.goto (-34), 3) := by decide +kernel
theorem dX9_printFrom_42 : decode cX9_printFrom 42 = .ok (.lload_n 3, 1) := by decide +kernel
theorem dX9_printFrom_43 : decode cX9_printFrom 43 = .ok (.lreturn, 1) := by decide +kernel
theorem dX10_init_0 : decode cX10_init 0 = .ok (.aload_n 0, 1) := by decide +kernel
theorem dX10_init_1 : decode cX10_init 1 = .ok (.invokespecial 3, 3) := by decide +kernel
theorem dX10_init_4 : decode cX10_init 4 = .ok (.aload_n 0, 1) := by decide +kernel
theorem dX10_init_5 : decode cX10_init 5 = .ok (.iconst 0, 1) := by decide +kernel
theorem dX10_init_6 : decode cX10_init 6 = .ok (.putfield 9, 3) := by decide +kernel
theorem dX10_init_9 : decode cX10_init 9 = .ok (.aload_n 0, 1) := by decide +kernel
theorem dX10_init_10 : decode cX10_init 10 = .ok (.iconst 0, 1) := by decide +kernel
theorem dX10_init_11 : decode cX10_init 11 = .ok (.putfield 15, 3) := by decide +kernel
theorem dX10_init_14 : decode cX10_init 14 = .ok (.aload_n 0, 1) := by decide +kernel
theorem dX10_init_15 : decode cX10_init 15 = .ok (.bipush 40, 2) := by decide +kernel
theorem dX10_init_17 : decode cX10_init 17 = .ok (.newarray .boolean, 2) := by decide +kernel
theorem dX10_init_19 : decode cX10_init 19 = .ok (.putfield 18, 3) := by decide +kernel
theorem dX10_init_22 : decode cX10_init 22 = .ok (.aload_n 0, 1) := by decide +kernel
theorem dX10_init_23 : decode cX10_init 23 = .ok (.bipush 120, 2) := by decide +kernel
theorem dX10_init_25 : decode cX10_init 25 = .ok (.newarray .int, 2) := by decide +kernel
theorem dX10_init_27 : decode cX10_init 27 = .ok (.putfield 22, 3) := by decide +kernel
theorem dX10_init_30 : decode cX10_init 30 = .ok (.aload_n 0, 1) := by decide +kernel
theorem dX10_init_31 : decode cX10_init 31 = .ok (.iconst 3, 1) := by decide +kernel
theorem dX10_init_32 : decode cX10_init 32 = .ok (.newarray .int, 2) := by decide +kernel
theorem dX10_init_34 : decode cX10_init 34 = .ok (.putfield 26, 3) := by decide +kernel
theorem dX10_init_37 : decode cX10_init 37 = .ok (.aload_n 0, 1) := by decide +kernel
theorem dX10_init_38 : decode cX10_init 38 = .ok (.iconst 3, 1) := by decide +kernel
theorem dX10_init_39 : decode cX10_init 39 = .ok (.newarray .int, 2) := by decide +kernel
theorem dX10_init_41 : decode cX10_init 41 = .ok (.dup, 1) := by decide +kernel
theorem dX10_init_42 : decode cX10_init 42 = .ok (.iconst 0, 1) := by decide +kernel
theorem dX10_init_43 : decode cX10_init 43 = .ok (.bipush 99, 2) := by decide +kernel
theorem dX10_init_45 : decode cX10_init 45 = .ok (.iastore, 1) := by decide +kernel
theorem dX10_init_46 : decode cX10_init 46 = .ok (.dup, 1) := by decide +kernel
theorem dX10_init_47 : decode cX10_init 47 = .ok (.iconst 1, 1) := by decide +kernel
theorem dX10_init_48 : decode cX10_init 48 = .ok (.bipush 99, 2) := by decide +kernel
theorem dX10_init_50 : decode cX10_init 50 = .ok (.iastore, 1) := by decide +kernel
theorem dX10_init_51 : decode cX10_init 51 = .ok (.dup, 1) := by decide +kernel
theorem dX10_init_52 : decode cX10_init 52 = .ok (.iconst 2, 1) := by decide +kernel
theorem dX10_init_53 : decode cX10_init 53 = .ok (.bipush 99, 2) := by decide +kernel
theorem dX10_init_55 : decode cX10_init 55 = .ok (.iastore, 1) := by decide +kernel
theorem dX10_init_56 : decode cX10_init 56 = .ok (.putfield 29, 3) := by decide +kernel
theorem dX10_init_59 : decode cX10_init 59 = .ok (.aload_n 0, 1) := by decide +kernel
theorem dX10_init_60 : decode cX10_init 60 = .ok (.iconst 0, 1) := by decide +kernel
theorem dX10_init_61 : decode cX10_init 61 = .ok (.putfield 32, 3) := by decide +kernel
theorem dX10_init_64 : decode cX10_init 64 = .ok (.aload_n 0, 1) := by decide +kernel
theorem dX10_init_65 : decode cX10_init 65 = .ok (.iconst 0, 1) := by decide +kernel
theorem dX10_init_66 : decode cX10_init 66 = .ok (.putfield 35, 3) := by decide +kernel
theorem dX10_init_69 : decode cX10_init 69 = .ok (.aload_n 0, 1) := by decide +kernel
theorem dX10_init_70 : decode cX10_init 70 = .ok (.iconst 3, 1) := by decide +kernel
theorem dX10_init_71 : decode cX10_init 71 = .ok (.newarray .int, 2) := by decide +kernel
theorem dX10_init_73 : decode cX10_init 73 = .ok (.putfield 38, 3) := by decide +kernel
theorem dX10_init_76 : decode cX10_init 76 = .ok (.aload_n 0, 1) := by decide +kernel
theorem dX10_init_77 : decode cX10_init 77 = .ok (.iconst 3, 1) := by decide +kernel
theorem dX10_init_78 : decode cX10_init 78 = .ok (.newarray .int, 2) := by decide +kernel
theorem dX10_init_80 : decode cX10_init 80 = .ok (.putfield 41, 3) := by decide +kernel
theorem dX10_init_83 : decode cX10_init 83 = .ok (.aload_n 0, 1) := by decide +kernel
theorem dX10_init_84 : decode cX10_init 84 = .ok (.iconst 3, 1) := by decide +kernel
theorem dX10_init_85 : decode cX10_init 85 = .ok (.newarray .int, 2) := by decide +kernel
theorem dX10_init_87 : decode cX10_init 87 = .ok (.putfield 44, 3) := by decide +kernel
theorem dX10_init_90 : decode cX10_init 90 = .ok (.aload_n 0, 1) := by decide +kernel
theorem dX10_init_91 : decode cX10_init 91 = .ok (.iload_n 1, 1) := by decide +kernel
theorem dX10_init_92 : decode cX10_init 92 = .ok (.putfield 47, 3) := by decide +kernel
theorem dX10_init_95 : decode cX10_init 95 = .ok (.aload_n 0, 1) := by decide +kernel
theorem dX10_init_96 : decode cX10_init 96 = .ok (.iload_n 2, 1) := by decide +kernel
theorem dX10_init_97 : decode cX10_init 97 = .ok (.putfield 50, 3) := by decide +kernel
theorem dX10_init_100 : decode cX10_init 100 = .ok (.return_, 1) := by decide +kernel
theorem dX10_number_0 : decode cX10_number 0 = .ok (.aload_n 0, 1) := by decide +kernel
theorem dX10_number_1 : decode cX10_number 1 = .ok (.getfield 47, 3) := by decide +kernel
theorem dX10_number_4 : decode cX10_number 4 = .ok (.ireturn, 1) := by decide +kernel
theorem dX10_hasColumn_0 : decode cX10_hasColumn 0 = .ok (.iload_n 1, 1) := by decide +kernel
theorem dX10_hasColumn_1 : decode cX10_hasColumn 1 = .ok (.ifCond .lt 20, 3) := by decide +kernel
theorem dX10_hasColumn_4 : decode cX10_hasColumn 4 = .ok (.iload_n 1, 1) := by decide +kernel
theorem dX10_hasColumn_5 : decode cX10_hasColumn 5 = .ok (.aload_n 0, 1) := by decide +kernel
theorem dX10_hasColumn_6 : decode cX10_hasColumn 6 = .ok (.getfield 50, 3) := by decide +kernel
theorem dX10_hasColumn_9 : decode cX10_hasColumn 9 = .ok (.if_icmp .ge 12, 3) := by decide +kernel
theorem dX10_hasColumn_12 : decode cX10_hasColumn 12 = .ok (.iload_n 1, 1) := by decide +kernel
theorem dX10_hasColumn_13 : decode cX10_hasColumn 13 = .ok (.iconst 3, 1) := by decide +kernel
theorem dX10_hasColumn_14 : decode cX10_hasColumn 14 = .ok (.if_icmp .ge 7, 3) := by decide +kernel
theorem dX10_hasColumn_17 : decode cX10_hasColumn 17 = .ok (.iconst 1, 1) := by decide +kernel
theorem dX10_hasColumn_18 : decode cX10_hasColumn 18 = .ok (.goto 4, 3) := by decide +kernel
theorem dX10_hasColumn_21 : decode cX10_hasColumn 21 = .ok (.iconst 0, 1) := by decide +kernel
theorem dX10_hasColumn_22 : decode cX10_hasColumn 22 = .ok (.ireturn, 1) := by decide +kernel
theorem dX10_hasRow_0 : decode cX10_hasRow 0 = .ok (.iload_n 1, 1) := by decide +kernel
theorem dX10_hasRow_1 : decode cX10_hasRow 1 = .ok (.ifCond .lt 25, 3) := by decide +kernel
theorem dX10_hasRow_4 : decode cX10_hasRow 4 = .ok (.iload_n 1, 1) := by decide +kernel
theorem dX10_hasRow_5 : decode cX10_hasRow 5 = .ok (.aload_n 0, 1) := by decide +kernel
theorem dX10_hasRow_6 : decode cX10_hasRow 6 = .ok (.getfield 18, 3) := by decide +kernel
theorem dX10_hasRow_9 : decode cX10_hasRow 9 = .ok (.arraylength, 1) := by decide +kernel
theorem dX10_hasRow_10 : decode cX10_hasRow 10 = .ok (.if_icmp .ge 16, 3) := by decide +kernel
theorem dX10_hasRow_13 : decode cX10_hasRow 13 = .ok (.aload_n 0, 1) := by decide +kernel
theorem dX10_hasRow_14 : decode cX10_hasRow 14 = .ok (.getfield 18, 3) := by decide +kernel
theorem dX10_hasRow_17 : decode cX10_hasRow 17 = .ok (.iload_n 1, 1) := by decide +kernel
theorem dX10_hasRow_18 : decode cX10_hasRow 18 = .ok (.baload, 1) := by decide +kernel
theorem dX10_hasRow_19 : decode cX10_hasRow 19 = .ok (.ifCond .eq 7, 3) := by decide +kernel
theorem dX10_hasRow_22 : decode cX10_hasRow 22 = .ok (.iconst 1, 1) := by decide +kernel
theorem dX10_hasRow_23 : decode cX10_hasRow 23 = .ok (.goto 4, 3) := by decide +kernel
theorem dX10_hasRow_26 : decode cX10_hasRow 26 = .ok (.iconst 0, 1) := by decide +kernel
theorem dX10_hasRow_27 : decode cX10_hasRow 27 = .ok (.ireturn, 1) := by decide +kernel
theorem dX10_rowCount_0 : decode cX10_rowCount 0 = .ok (.aload_n 0, 1) := by decide +kernel
theorem dX10_rowCount_1 : decode cX10_rowCount 1 = .ok (.getfield 15, 3) := by decide +kernel
theorem dX10_rowCount_4 : decode cX10_rowCount 4 = .ok (.ireturn, 1) := by decide +kernel
theorem dX10_rowsEver_0 : decode cX10_rowsEver 0 = .ok (.aload_n 0, 1) := by decide +kernel
theorem dX10_rowsEver_1 : decode cX10_rowsEver 1 = .ok (.getfield 9, 3) := by decide +kernel
theorem dX10_rowsEver_4 : decode cX10_rowsEver 4 = .ok (.ireturn, 1) := by decide +kernel
theorem dX10_pageCount_0 : decode cX10_pageCount 0 = .ok (.aload_n 0, 1) := by decide +kernel
theorem dX10_pageCount_1 : decode cX10_pageCount 1 = .ok (.getfield 9, 3) := by decide +kernel
theorem dX10_pageCount_4 : decode cX10_pageCount 4 = .ok (.iconst 4, 1) := by decide +kernel
theorem dX10_pageCount_5 : decode cX10_pageCount 5 = .ok (.iadd, 1) := by decide +kernel
theorem dX10_pageCount_6 : decode cX10_pageCount 6 = .ok (.iconst 1, 1) := by decide +kernel
theorem dX10_pageCount_7 : decode cX10_pageCount 7 = .ok (.isub, 1) := by decide +kernel
theorem dX10_pageCount_8 : decode cX10_pageCount 8 = .ok (.iconst 4, 1) := by decide +kernel
theorem dX10_pageCount_9 : decode cX10_pageCount 9 = .ok (.idiv, 1) := by decide +kernel
theorem dX10_pageCount_10 : decode cX10_pageCount 10 = .ok (.ireturn, 1) := by decide +kernel
theorem dX10_cell_0 : decode cX10_cell 0 = .ok (.iload_n 1, 1) := by decide +kernel
theorem dX10_cell_1 : decode cX10_cell 1 = .ok (.iconst 3, 1) := by decide +kernel
theorem dX10_cell_2 : decode cX10_cell 2 = .ok (.imul, 1) := by decide +kernel
theorem dX10_cell_3 : decode cX10_cell 3 = .ok (.iload_n 2, 1) := by decide +kernel
theorem dX10_cell_4 : decode cX10_cell 4 = .ok (.iadd, 1) := by decide +kernel
theorem dX10_cell_5 : decode cX10_cell 5 = .ok (.istore_n 3, 1) := by decide +kernel
theorem dX10_cell_6 : decode cX10_cell 6 = .ok (.iload_n 3, 1) := by decide +kernel
theorem dX10_cell_7 : decode cX10_cell 7 = .ok (.ifCond .lt 21, 3) := by decide +kernel
theorem dX10_cell_10 : decode cX10_cell 10 = .ok (.iload_n 3, 1) := by decide +kernel
theorem dX10_cell_11 : decode cX10_cell 11 = .ok (.aload_n 0, 1) := by decide +kernel
theorem dX10_cell_12 : decode cX10_cell 12 = .ok (.getfield 22, 3) := by decide +kernel
theorem dX10_cell_15 : decode cX10_cell 15 = .ok (.arraylength, 1) := by decide +kernel
theorem dX10_cell_16 : decode cX10_cell 16 = .ok (.if_icmp .ge 12, 3) := by decide +kernel
theorem dX10_cell_19 : decode cX10_cell 19 = .ok (.aload_n 0, 1) := by decide +kernel
theorem dX10_cell_20 : decode cX10_cell 20 = .ok (.getfield 22, 3) := by decide +kernel
theorem dX10_cell_23 : decode cX10_cell 23 = .ok (.iload_n 3, 1) := by decide +kernel
theorem dX10_cell_24 : decode cX10_cell 24 = .ok (.iaload, 1) := by decide +kernel
theorem dX10_cell_25 : decode cX10_cell 25 = .ok (.goto 4, 3) := by decide +kernel
theorem dX10_cell_28 : decode cX10_cell 28 = .ok (.iconst 0, 1) := by decide +kernel
theorem dX10_cell_29 : decode cX10_cell 29 = .ok (.ireturn, 1) := by decide +kernel
theorem dX10_setBounds_0 : decode cX10_setBounds 0 = .ok (.aload_n 0, 1) := by decide +kernel
theorem dX10_setBounds_1 : decode cX10_setBounds 1 = .ok (.iload_n 1, 1) := by decide +kernel
theorem dX10_setBounds_2 : decode cX10_setBounds 2 = .ok (.invokevirtual 53, 3) := by decide +kernel
theorem dX10_setBounds_5 : decode cX10_setBounds 5 = .ok (.ifCond .eq 17, 3) := by decide +kernel
theorem dX10_setBounds_8 : decode cX10_setBounds 8 = .ok (.aload_n 0, 1) := by decide +kernel
theorem dX10_setBounds_9 : decode cX10_setBounds 9 = .ok (.getfield 26, 3) := by decide +kernel
theorem dX10_setBounds_12 : decode cX10_setBounds 12 = .ok (.iload_n 1, 1) := by decide +kernel
theorem dX10_setBounds_13 : decode cX10_setBounds 13 = .ok (.iload_n 2, 1) := by decide +kernel
theorem dX10_setBounds_14 : decode cX10_setBounds 14 = .ok (.iastore, 1) := by decide +kernel
theorem dX10_setBounds_15 : decode cX10_setBounds 15 = .ok (.aload_n 0, 1) := by decide +kernel
theorem dX10_setBounds_16 : decode cX10_setBounds 16 = .ok (.getfield 29, 3) := by decide +kernel
theorem dX10_setBounds_19 : decode cX10_setBounds 19 = .ok (.iload_n 1, 1) := by decide +kernel
theorem dX10_setBounds_20 : decode cX10_setBounds 20 = .ok (.iload_n 3, 1) := by decide +kernel
theorem dX10_setBounds_21 : decode cX10_setBounds 21 = .ok (.iastore, 1) := by decide +kernel
theorem dX10_setBounds_22 : decode cX10_setBounds 22 = .ok (.return_, 1) := by decide +kernel
theorem dX10_isWithin_0 : decode cX10_isWithin 0 = .ok (.aload_n 0, 1) := by decide +kernel
theorem dX10_isWithin_1 : decode cX10_isWithin 1 = .ok (.iload_n 1, 1) := by decide +kernel
theorem dX10_isWithin_2 : decode cX10_isWithin 2 = .ok (.invokevirtual 53, 3) := by decide +kernel
theorem dX10_isWithin_5 : decode cX10_isWithin 5 = .ok (.ifCond .eq 23, 3) := by decide +kernel
theorem dX10_isWithin_8 : decode cX10_isWithin 8 = .ok (.iload_n 2, 1) := by decide +kernel
theorem dX10_isWithin_9 : decode cX10_isWithin 9 = .ok (.aload_n 0, 1) := by decide +kernel
theorem dX10_isWithin_10 : decode cX10_isWithin 10 = .ok (.getfield 26, 3) := by decide +kernel
theorem dX10_isWithin_13 : decode cX10_isWithin 13 = .ok (.iload_n 1, 1) := by decide +kernel
theorem dX10_isWithin_14 : decode cX10_isWithin 14 = .ok (.iaload, 1) := by decide +kernel
theorem dX10_isWithin_15 : decode cX10_isWithin 15 = .ok (.if_icmp .lt 17, 3) := by decide +kernel
theorem dX10_isWithin_18 : decode cX10_isWithin 18 = .ok (.iload_n 2, 1) := by decide +kernel
theorem dX10_isWithin_19 : decode cX10_isWithin 19 = .ok (.aload_n 0, 1) := by decide +kernel
theorem dX10_isWithin_20 : decode cX10_isWithin 20 = .ok (.getfield 29, 3) := by decide +kernel
theorem dX10_isWithin_23 : decode cX10_isWithin 23 = .ok (.iload_n 1, 1) := by decide +kernel
theorem dX10_isWithin_24 : decode cX10_isWithin 24 = .ok (.iaload, 1) := by decide +kernel
theorem dX10_isWithin_25 : decode cX10_isWithin 25 = .ok (.if_icmp .gt 7, 3) := by decide +kernel
theorem dX10_isWithin_28 : decode cX10_isWithin 28 = .ok (.iconst 1, 1) := by decide +kernel
theorem dX10_isWithin_29 : decode cX10_isWithin 29 = .ok (.goto 4, 3) := by decide +kernel
theorem dX10_isWithin_32 : decode cX10_isWithin 32 = .ok (.iconst 0, 1) := by decide +kernel
theorem dX10_isWithin_33 : decode cX10_isWithin 33 = .ok (.ireturn, 1) := by decide +kernel
theorem dX10_admits_0 : decode cX10_admits 0 = .ok (.aload_n 0, 1) := by decide +kernel
theorem dX10_admits_1 : decode cX10_admits 1 = .ok (.iconst 0, 1) := by decide +kernel
theorem dX10_admits_2 : decode cX10_admits 2 = .ok (.iload_n 1, 1) := by decide +kernel
theorem dX10_admits_3 : decode cX10_admits 3 = .ok (.invokevirtual 57, 3) := by decide +kernel
theorem dX10_admits_6 : decode cX10_admits 6 = .ok (.ifCond .eq 25, 3) := by decide +kernel
theorem dX10_admits_9 : decode cX10_admits 9 = .ok (.aload_n 0, 1) := by decide +kernel
theorem dX10_admits_10 : decode cX10_admits 10 = .ok (.iconst 1, 1) := by decide +kernel
theorem dX10_admits_11 : decode cX10_admits 11 = .ok (.iload_n 2, 1) := by decide +kernel
theorem dX10_admits_12 : decode cX10_admits 12 = .ok (.invokevirtual 57, 3) := by decide +kernel
theorem dX10_admits_15 : decode cX10_admits 15 = .ok (.ifCond .eq 16, 3) := by decide +kernel
theorem dX10_admits_18 : decode cX10_admits 18 = .ok (.aload_n 0, 1) := by decide +kernel
theorem dX10_admits_19 : decode cX10_admits 19 = .ok (.iconst 2, 1) := by decide +kernel
theorem dX10_admits_20 : decode cX10_admits 20 = .ok (.iload_n 3, 1) := by decide +kernel
theorem dX10_admits_21 : decode cX10_admits 21 = .ok (.invokevirtual 57, 3) := by decide +kernel
theorem dX10_admits_24 : decode cX10_admits 24 = .ok (.ifCond .eq 7, 3) := by decide +kernel
theorem dX10_admits_27 : decode cX10_admits 27 = .ok (.iconst 1, 1) := by decide +kernel
theorem dX10_admits_28 : decode cX10_admits 28 = .ok (.goto 4, 3) := by decide +kernel
theorem dX10_admits_31 : decode cX10_admits 31 = .ok (.iconst 0, 1) := by decide +kernel
theorem dX10_admits_32 : decode cX10_admits 32 = .ok (.ireturn, 1) := by decide +kernel
theorem dX10_rowsBeyondBounds_0 : decode cX10_rowsBeyondBounds 0 = .ok (.iconst 0, 1) := by decide +kernel
theorem dX10_rowsBeyondBounds_1 : decode cX10_rowsBeyondBounds 1 = .ok (.istore_n 2, 1) := by decide +kernel
theorem dX10_rowsBeyondBounds_2 : decode cX10_rowsBeyondBounds 2 = .ok (.iconst 0, 1) := by decide +kernel
theorem dX10_rowsBeyondBounds_3 : decode cX10_rowsBeyondBounds 3 = .ok (.istore_n 3, 1) := by decide +kernel
theorem dX10_rowsBeyondBounds_4 : decode cX10_rowsBeyondBounds 4 = .ok (.iload_n 3, 1) := by decide +kernel
theorem dX10_rowsBeyondBounds_5 : decode cX10_rowsBeyondBounds 5 = .ok (.aload_n 0, 1) := by decide +kernel
theorem dX10_rowsBeyondBounds_6 : decode cX10_rowsBeyondBounds 6 = .ok (.getfield 18, 3) := by decide +kernel
theorem dX10_rowsBeyondBounds_9 : decode cX10_rowsBeyondBounds 9 = .ok (.arraylength, 1) := by decide +kernel
theorem dX10_rowsBeyondBounds_10 : decode cX10_rowsBeyondBounds 10 = .ok (.if_icmp .ge 35, 3) := by decide +kernel
theorem dX10_rowsBeyondBounds_13 : decode cX10_rowsBeyondBounds 13 = .ok (.aload_n 0, 1) := by decide +kernel
theorem dX10_rowsBeyondBounds_14 : decode cX10_rowsBeyondBounds 14 = .ok (.getfield 18, 3) := by decide +kernel
theorem dX10_rowsBeyondBounds_17 : decode cX10_rowsBeyondBounds 17 = .ok (.iload_n 3, 1) := by decide +kernel
theorem dX10_rowsBeyondBounds_18 : decode cX10_rowsBeyondBounds 18 = .ok (.baload, 1) := by decide +kernel
theorem dX10_rowsBeyondBounds_19 : decode cX10_rowsBeyondBounds 19 = .ok (.ifCond .eq 20, 3) := by decide +kernel
theorem dX10_rowsBeyondBounds_22 : decode cX10_rowsBeyondBounds 22 = .ok (.aload_n 0, 1) := by decide +kernel
theorem dX10_rowsBeyondBounds_23 : decode cX10_rowsBeyondBounds 23 = .ok (.iload_n 1, 1) := by decide +kernel
theorem dX10_rowsBeyondBounds_24 : decode cX10_rowsBeyondBounds 24 = .ok (.aload_n 0, 1) := by decide +kernel
theorem dX10_rowsBeyondBounds_25 : decode cX10_rowsBeyondBounds 25 = .ok (.iload_n 3, 1) := by decide +kernel
theorem dX10_rowsBeyondBounds_26 : decode cX10_rowsBeyondBounds 26 = .ok (.iload_n 1, 1) := by decide +kernel
theorem dX10_rowsBeyondBounds_27 : decode cX10_rowsBeyondBounds 27 = .ok (.invokevirtual 61, 3) := by decide +kernel
theorem dX10_rowsBeyondBounds_30 : decode cX10_rowsBeyondBounds 30 = .ok (.invokevirtual 57, 3) := by decide +kernel
theorem dX10_rowsBeyondBounds_33 : decode cX10_rowsBeyondBounds 33 = .ok (.ifCond .ne 6, 3) := by decide +kernel
theorem dX10_rowsBeyondBounds_36 : decode cX10_rowsBeyondBounds 36 = .ok (.iinc 2 1, 3) := by decide +kernel
theorem dX10_rowsBeyondBounds_39 : decode cX10_rowsBeyondBounds 39 = .ok (.iinc 3 1, 3) := by decide +kernel
theorem dX10_rowsBeyondBounds_42 : decode cX10_rowsBeyondBounds 42 = .ok (.goto (-38), 3) := by decide +kernel
theorem dX10_rowsBeyondBounds_45 : decode cX10_rowsBeyondBounds 45 = .ok (.iload_n 2, 1) := by decide +kernel
theorem dX10_rowsBeyondBounds_46 : decode cX10_rowsBeyondBounds 46 = .ok (.ireturn, 1) := by decide +kernel
theorem dX10_addRow_0 : decode cX10_addRow 0 = .ok (.aload_n 0, 1) := by decide +kernel
theorem dX10_addRow_1 : decode cX10_addRow 1 = .ok (.getfield 9, 3) := by decide +kernel
theorem dX10_addRow_4 : decode cX10_addRow 4 = .ok (.istore 4, 2) := by decide +kernel
theorem dX10_addRow_6 : decode cX10_addRow 6 = .ok (.iload 4, 2) := by decide +kernel
theorem dX10_addRow_8 : decode cX10_addRow 8 = .ok (.iconst 3, 1) := by decide +kernel
theorem dX10_addRow_9 : decode cX10_addRow 9 = .ok (.imul, 1) := by decide +kernel
theorem dX10_addRow_10 : decode cX10_addRow 10 = .ok (.istore 5, 2) := by decide +kernel
theorem dX10_addRow_12 : decode cX10_addRow 12 = .ok (.iload 4, 2) := by decide +kernel
theorem dX10_addRow_14 : decode cX10_addRow 14 = .ok (.ifCond .lt 30, 3) := by decide +kernel
theorem dX10_addRow_17 : decode cX10_addRow 17 = .ok (.iload 4, 2) := by decide +kernel
theorem dX10_addRow_19 : decode cX10_addRow 19 = .ok (.aload_n 0, 1) := by decide +kernel
theorem dX10_addRow_20 : decode cX10_addRow 20 = .ok (.getfield 18, 3) := by decide +kernel
theorem dX10_addRow_23 : decode cX10_addRow 23 = .ok (.arraylength, 1) := by decide +kernel
theorem dX10_addRow_24 : decode cX10_addRow 24 = .ok (.if_icmp .ge 20, 3) := by decide +kernel
theorem dX10_addRow_27 : decode cX10_addRow 27 = .ok (.iload 5, 2) := by decide +kernel
theorem dX10_addRow_29 : decode cX10_addRow 29 = .ok (.ifCond .lt 15, 3) := by decide +kernel
theorem dX10_addRow_32 : decode cX10_addRow 32 = .ok (.iload 5, 2) := by decide +kernel
theorem dX10_addRow_34 : decode cX10_addRow 34 = .ok (.iconst 2, 1) := by decide +kernel
theorem dX10_addRow_35 : decode cX10_addRow 35 = .ok (.iadd, 1) := by decide +kernel
theorem dX10_addRow_36 : decode cX10_addRow 36 = .ok (.aload_n 0, 1) := by decide +kernel
theorem dX10_addRow_37 : decode cX10_addRow 37 = .ok (.getfield 22, 3) := by decide +kernel
theorem dX10_addRow_40 : decode cX10_addRow 40 = .ok (.arraylength, 1) := by decide +kernel
theorem dX10_addRow_41 : decode cX10_addRow 41 = .ok (.if_icmp .lt 5, 3) := by decide +kernel
theorem dX10_addRow_44 : decode cX10_addRow 44 = .ok (.iconst (-1), 1) := by decide +kernel
theorem dX10_addRow_45 : decode cX10_addRow 45 = .ok (.ireturn, 1) := by decide +kernel
theorem dX10_addRow_46 : decode cX10_addRow 46 = .ok (.aload_n 0, 1) := by decide +kernel
theorem dX10_addRow_47 : decode cX10_addRow 47 = .ok (.getfield 22, 3) := by decide +kernel
theorem dX10_addRow_50 : decode cX10_addRow 50 = .ok (.iload 5, 2) := by decide +kernel
theorem dX10_addRow_52 : decode cX10_addRow 52 = .ok (.iload_n 1, 1) := by decide +kernel
theorem dX10_addRow_53 : decode cX10_addRow 53 = .ok (.iastore, 1) := by decide +kernel
theorem dX10_addRow_54 : decode cX10_addRow 54 = .ok (.aload_n 0, 1) := by decide +kernel
theorem dX10_addRow_55 : decode cX10_addRow 55 = .ok (.getfield 22, 3) := by decide +kernel
theorem dX10_addRow_58 : decode cX10_addRow 58 = .ok (.iload 5, 2) := by decide +kernel
theorem dX10_addRow_60 : decode cX10_addRow 60 = .ok (.iconst 1, 1) := by decide +kernel
theorem dX10_addRow_61 : decode cX10_addRow 61 = .ok (.iadd, 1) := by decide +kernel
theorem dX10_addRow_62 : decode cX10_addRow 62 = .ok (.iload_n 2, 1) := by decide +kernel
theorem dX10_addRow_63 : decode cX10_addRow 63 = .ok (.iastore, 1) := by decide +kernel
theorem dX10_addRow_64 : decode cX10_addRow 64 = .ok (.aload_n 0, 1) := by decide +kernel
theorem dX10_addRow_65 : decode cX10_addRow 65 = .ok (.getfield 22, 3) := by decide +kernel
theorem dX10_addRow_68 : decode cX10_addRow 68 = .ok (.iload 5, 2) := by decide +kernel
theorem dX10_addRow_70 : decode cX10_addRow 70 = .ok (.iconst 2, 1) := by decide +kernel
theorem dX10_addRow_71 : decode cX10_addRow 71 = .ok (.iadd, 1) := by decide +kernel
theorem dX10_addRow_72 : decode cX10_addRow 72 = .ok (.iload_n 3, 1) := by decide +kernel
theorem dX10_addRow_73 : decode cX10_addRow 73 = .ok (.iastore, 1) := by decide +kernel
theorem dX10_addRow_74 : decode cX10_addRow 74 = .ok (.aload_n 0, 1) := by decide +kernel
theorem dX10_addRow_75 : decode cX10_addRow 75 = .ok (.getfield 18, 3) := by decide +kernel
theorem dX10_addRow_78 : decode cX10_addRow 78 = .ok (.iload 4, 2) := by decide +kernel
theorem dX10_addRow_80 : decode cX10_addRow 80 = .ok (.iconst 1, 1) := by decide +kernel
theorem dX10_addRow_81 : decode cX10_addRow 81 = .ok (.bastore, 1) := by decide +kernel
theorem dX10_addRow_82 : decode cX10_addRow 82 = .ok (.aload_n 0, 1) := by decide +kernel
theorem dX10_addRow_83 : decode cX10_addRow 83 = .ok (.dup, 1) := by decide +kernel
theorem dX10_addRow_84 : decode cX10_addRow 84 = .ok (.getfield 9, 3) := by decide +kernel
theorem dX10_addRow_87 : decode cX10_addRow 87 = .ok (.iconst 1, 1) := by decide +kernel
theorem dX10_addRow_88 : decode cX10_addRow 88 = .ok (.iadd, 1) := by decide +kernel
theorem dX10_addRow_89 : decode cX10_addRow 89 = .ok (.putfield 9, 3) := by decide +kernel
theorem dX10_addRow_92 : decode cX10_addRow 92 = .ok (.aload_n 0, 1) := by decide +kernel
theorem dX10_addRow_93 : decode cX10_addRow 93 = .ok (.dup, 1) := by decide +kernel
theorem dX10_addRow_94 : decode cX10_addRow 94 = .ok (.getfield 15, 3) := by decide +kernel
theorem dX10_addRow_97 : decode cX10_addRow 97 = .ok (.iconst 1, 1) := by decide +kernel
theorem dX10_addRow_98 : decode cX10_addRow 98 = .ok (.iadd, 1) := by decide +kernel
theorem dX10_addRow_99 : decode cX10_addRow 99 = .ok (.putfield 15, 3) := by decide +kernel
theorem dX10_addRow_102 : decode cX10_addRow 102 = .ok (.iload 4, 2) := by decide +kernel
theorem dX10_addRow_104 : decode cX10_addRow 104 = .ok (.ireturn, 1) := by decide +kernel
theorem dX10_dropRow_0 : decode cX10_dropRow 0 = .ok (.aload_n 0, 1) := by decide +kernel
theorem dX10_dropRow_1 : decode cX10_dropRow 1 = .ok (.iload_n 1, 1) := by decide +kernel
theorem dX10_dropRow_2 : decode cX10_dropRow 2 = .ok (.invokevirtual 65, 3) := by decide +kernel
theorem dX10_dropRow_5 : decode cX10_dropRow 5 = .ok (.ifCond .eq 20, 3) := by decide +kernel
theorem dX10_dropRow_8 : decode cX10_dropRow 8 = .ok (.aload_n 0, 1) := by decide +kernel
theorem dX10_dropRow_9 : decode cX10_dropRow 9 = .ok (.getfield 18, 3) := by decide +kernel
theorem dX10_dropRow_12 : decode cX10_dropRow 12 = .ok (.iload_n 1, 1) := by decide +kernel
theorem dX10_dropRow_13 : decode cX10_dropRow 13 = .ok (.iconst 0, 1) := by decide +kernel
theorem dX10_dropRow_14 : decode cX10_dropRow 14 = .ok (.bastore, 1) := by decide +kernel
theorem dX10_dropRow_15 : decode cX10_dropRow 15 = .ok (.aload_n 0, 1) := by decide +kernel
theorem dX10_dropRow_16 : decode cX10_dropRow 16 = .ok (.dup, 1) := by decide +kernel
theorem dX10_dropRow_17 : decode cX10_dropRow 17 = .ok (.getfield 15, 3) := by decide +kernel
theorem dX10_dropRow_20 : decode cX10_dropRow 20 = .ok (.iconst 1, 1) := by decide +kernel
theorem dX10_dropRow_21 : decode cX10_dropRow 21 = .ok (.isub, 1) := by decide +kernel
theorem dX10_dropRow_22 : decode cX10_dropRow 22 = .ok (.putfield 15, 3) := by decide +kernel
theorem dX10_dropRow_25 : decode cX10_dropRow 25 = .ok (.return_, 1) := by decide +kernel
theorem dX10_takeCounts_0 : decode cX10_takeCounts 0 = .ok (.aload_n 0, 1) := by decide +kernel
theorem dX10_takeCounts_1 : decode cX10_takeCounts 1 = .ok (.aload_n 0, 1) := by decide +kernel
theorem dX10_takeCounts_2 : decode cX10_takeCounts 2 = .ok (.getfield 15, 3) := by decide +kernel
theorem dX10_takeCounts_5 : decode cX10_takeCounts 5 = .ok (.putfield 32, 3) := by decide +kernel
theorem dX10_takeCounts_8 : decode cX10_takeCounts 8 = .ok (.aload_n 0, 1) := by decide +kernel
theorem dX10_takeCounts_9 : decode cX10_takeCounts 9 = .ok (.aload_n 0, 1) := by decide +kernel
theorem dX10_takeCounts_10 : decode cX10_takeCounts 10 = .ok (.invokevirtual 68, 3) := by decide +kernel
theorem dX10_takeCounts_13 : decode cX10_takeCounts 13 = .ok (.putfield 35, 3) := by decide +kernel
theorem dX10_takeCounts_16 : decode cX10_takeCounts 16 = .ok (.iconst 0, 1) := by decide +kernel
theorem dX10_takeCounts_17 : decode cX10_takeCounts 17 = .ok (.istore_n 1, 1) := by decide +kernel
theorem dX10_takeCounts_18 : decode cX10_takeCounts 18 = .ok (.iload_n 1, 1) := by decide +kernel
theorem dX10_takeCounts_19 : decode cX10_takeCounts 19 = .ok (.aload_n 0, 1) := by decide +kernel
theorem dX10_takeCounts_20 : decode cX10_takeCounts 20 = .ok (.getfield 50, 3) := by decide +kernel
theorem dX10_takeCounts_23 : decode cX10_takeCounts 23 = .ok (.if_icmp .ge 14, 3) := by decide +kernel
theorem dX10_takeCounts_26 : decode cX10_takeCounts 26 = .ok (.aload_n 0, 1) := by decide +kernel
theorem dX10_takeCounts_27 : decode cX10_takeCounts 27 = .ok (.iload_n 1, 1) := by decide +kernel
theorem dX10_takeCounts_28 : decode cX10_takeCounts 28 = .ok (.invokevirtual 72, 3) := by decide +kernel
theorem dX10_takeCounts_31 : decode cX10_takeCounts 31 = .ok (.iinc 1 1, 3) := by decide +kernel
theorem dX10_takeCounts_34 : decode cX10_takeCounts 34 = .ok (.goto (-16), 3) := by decide +kernel
theorem dX10_takeCounts_37 : decode cX10_takeCounts 37 = .ok (.return_, 1) := by decide +kernel
theorem dX10_takeColumn_0 : decode cX10_takeColumn 0 = .ok (.iconst 0, 1) := by decide +kernel
theorem dX10_takeColumn_1 : decode cX10_takeColumn 1 = .ok (.istore_n 2, 1) := by decide +kernel
theorem dX10_takeColumn_2 : decode cX10_takeColumn 2 = .ok (.bipush 99, 2) := by decide +kernel
theorem dX10_takeColumn_4 : decode cX10_takeColumn 4 = .ok (.istore_n 3, 1) := by decide +kernel
theorem dX10_takeColumn_5 : decode cX10_takeColumn 5 = .ok (.iconst 0, 1) := by decide +kernel
theorem dX10_takeColumn_6 : decode cX10_takeColumn 6 = .ok (.istore 4, 2) := by decide +kernel
theorem dX10_takeColumn_8 : decode cX10_takeColumn 8 = .ok (.iconst 0, 1) := by decide +kernel
theorem dX10_takeColumn_9 : decode cX10_takeColumn 9 = .ok (.istore 5, 2) := by decide +kernel
theorem dX10_takeColumn_11 : decode cX10_takeColumn 11 = .ok (.iload 5, 2) := by decide +kernel
theorem dX10_takeColumn_13 : decode cX10_takeColumn 13 = .ok (.aload_n 0, 1) := by decide +kernel
theorem dX10_takeColumn_14 : decode cX10_takeColumn 14 = .ok (.getfield 18, 3) := by decide +kernel
theorem dX10_takeColumn_17 : decode cX10_takeColumn 17 = .ok (.arraylength, 1) := by decide +kernel
theorem dX10_takeColumn_18 : decode cX10_takeColumn 18 = .ok (.if_icmp .ge 64, 3) := by decide +kernel
theorem dX10_takeColumn_21 : decode cX10_takeColumn 21 = .ok (.aload_n 0, 1) := by decide +kernel
theorem dX10_takeColumn_22 : decode cX10_takeColumn 22 = .ok (.getfield 18, 3) := by decide +kernel
theorem dX10_takeColumn_25 : decode cX10_takeColumn 25 = .ok (.iload 5, 2) := by decide +kernel
theorem dX10_takeColumn_27 : decode cX10_takeColumn 27 = .ok (.baload, 1) := by decide +kernel
theorem dX10_takeColumn_28 : decode cX10_takeColumn 28 = .ok (.ifCond .eq 48, 3) := by decide +kernel
theorem dX10_takeColumn_31 : decode cX10_takeColumn 31 = .ok (.aload_n 0, 1) := by decide +kernel
theorem dX10_takeColumn_32 : decode cX10_takeColumn 32 = .ok (.iload 5, 2) := by decide +kernel
theorem dX10_takeColumn_34 : decode cX10_takeColumn 34 = .ok (.iload_n 1, 1) := by decide +kernel
theorem dX10_takeColumn_35 : decode cX10_takeColumn 35 = .ok (.invokevirtual 61, 3) := by decide +kernel
theorem dX10_takeColumn_38 : decode cX10_takeColumn 38 = .ok (.istore 6, 2) := by decide +kernel
theorem dX10_takeColumn_40 : decode cX10_takeColumn 40 = .ok (.iload_n 3, 1) := by decide +kernel
theorem dX10_takeColumn_41 : decode cX10_takeColumn 41 = .ok (.iload 6, 2) := by decide +kernel
theorem dX10_takeColumn_43 : decode cX10_takeColumn 43 = .ok (.invokestatic 76, 3) := by decide +kernel
theorem dX10_takeColumn_46 : decode cX10_takeColumn 46 = .ok (.istore_n 3, 1) := by decide +kernel
theorem dX10_takeColumn_47 : decode cX10_takeColumn 47 = .ok (.iload 4, 2) := by decide +kernel
theorem dX10_takeColumn_49 : decode cX10_takeColumn 49 = .ok (.iload 6, 2) := by decide +kernel
theorem dX10_takeColumn_51 : decode cX10_takeColumn 51 = .ok (.invokestatic 81, 3) := by decide +kernel
theorem dX10_takeColumn_54 : decode cX10_takeColumn 54 = .ok (.istore 4, 2) := by decide +kernel
theorem dX10_takeColumn_56 : decode cX10_takeColumn 56 = .ok (.iload_n 2, 1) := by decide +kernel
theorem dX10_takeColumn_57 : decode cX10_takeColumn 57 = .ok (.aload_n 0, 1) := by decide +kernel
theorem dX10_takeColumn_58 : decode cX10_takeColumn 58 = .ok (.iload 5, 2) := by decide +kernel
theorem dX10_takeColumn_60 : decode cX10_takeColumn 60 = .ok (.iload_n 1, 1) := by decide +kernel
theorem dX10_takeColumn_61 : decode cX10_takeColumn 61 = .ok (.iload 6, 2) := by decide +kernel
theorem dX10_takeColumn_63 : decode cX10_takeColumn 63 = .ok (.invokevirtual 84, 3) := by decide +kernel
theorem dX10_takeColumn_66 : decode cX10_takeColumn 66 = .ok (.ifCond .eq 7, 3) := by decide +kernel
theorem dX10_takeColumn_69 : decode cX10_takeColumn 69 = .ok (.iconst 1, 1) := by decide +kernel
theorem dX10_takeColumn_70 : decode cX10_takeColumn 70 = .ok (.goto 4, 3) := by decide +kernel
theorem dX10_takeColumn_73 : decode cX10_takeColumn 73 = .ok (.iconst 0, 1) := by decide +kernel
theorem dX10_takeColumn_74 : decode cX10_takeColumn 74 = .ok (.iadd, 1) := by decide +kernel
theorem dX10_takeColumn_75 : decode cX10_takeColumn 75 = .ok (.istore_n 2, 1) := by decide +kernel
theorem dX10_takeColumn_76 : decode cX10_takeColumn 76 = .ok (.iinc 5 1, 3) := by decide +kernel
theorem dX10_takeColumn_79 : decode cX10_takeColumn 79 = .ok (.goto (-68), 3) := by decide +kernel
theorem dX10_takeColumn_82 : decode cX10_takeColumn 82 = .ok (.iload_n 1, 1) := by decide +kernel
theorem dX10_takeColumn_83 : decode cX10_takeColumn 83 = .ok (.ifCond .lt 41, 3) := by decide +kernel
theorem dX10_takeColumn_86 : decode cX10_takeColumn 86 = .ok (.iload_n 1, 1) := by decide +kernel
theorem dX10_takeColumn_87 : decode cX10_takeColumn 87 = .ok (.iconst 3, 1) := by decide +kernel
theorem dX10_takeColumn_88 : decode cX10_takeColumn 88 = .ok (.if_icmp .ge 36, 3) := by decide +kernel
theorem dX10_takeColumn_91 : decode cX10_takeColumn 91 = .ok (.aload_n 0, 1) := by decide +kernel
theorem dX10_takeColumn_92 : decode cX10_takeColumn 92 = .ok (.getfield 38, 3) := by decide +kernel
theorem dX10_takeColumn_95 : decode cX10_takeColumn 95 = .ok (.iload_n 1, 1) := by decide +kernel
theorem dX10_takeColumn_96 : decode cX10_takeColumn 96 = .ok (.iload_n 2, 1) := by decide +kernel
theorem dX10_takeColumn_97 : decode cX10_takeColumn 97 = .ok (.iastore, 1) := by decide +kernel
theorem dX10_takeColumn_98 : decode cX10_takeColumn 98 = .ok (.aload_n 0, 1) := by decide +kernel
theorem dX10_takeColumn_99 : decode cX10_takeColumn 99 = .ok (.getfield 41, 3) := by decide +kernel
theorem dX10_takeColumn_102 : decode cX10_takeColumn 102 = .ok (.iload_n 1, 1) := by decide +kernel
theorem dX10_takeColumn_103 : decode cX10_takeColumn 103 = .ok (.aload_n 0, 1) := by decide +kernel
theorem dX10_takeColumn_104 : decode cX10_takeColumn 104 = .ok (.getfield 15, 3) := by decide +kernel
theorem dX10_takeColumn_107 : decode cX10_takeColumn 107 = .ok (.ifCond .ne 7, 3) := by decide +kernel
theorem dX10_takeColumn_110 : decode cX10_takeColumn 110 = .ok (.iconst 0, 1) := by decide +kernel
theorem dX10_takeColumn_111 : decode cX10_takeColumn 111 = .ok (.goto 4, 3) := by decide +kernel
theorem dX10_takeColumn_114 : decode cX10_takeColumn 114 = .ok (.iload_n 3, 1) := by decide +kernel
theorem dX10_takeColumn_115 : decode cX10_takeColumn 115 = .ok (.iastore, 1) := by decide +kernel
theorem dX10_takeColumn_116 : decode cX10_takeColumn 116 = .ok (.aload_n 0, 1) := by decide +kernel
theorem dX10_takeColumn_117 : decode cX10_takeColumn 117 = .ok (.getfield 44, 3) := by decide +kernel
theorem dX10_takeColumn_120 : decode cX10_takeColumn 120 = .ok (.iload_n 1, 1) := by decide +kernel
theorem dX10_takeColumn_121 : decode cX10_takeColumn 121 = .ok (.iload 4, 2) := by decide +kernel
theorem dX10_takeColumn_123 : decode cX10_takeColumn 123 = .ok (.iastore, 1) := by decide +kernel
theorem dX10_takeColumn_124 : decode cX10_takeColumn 124 = .ok (.return_, 1) := by decide +kernel
theorem dX10_isFirstWith_0 : decode cX10_isFirstWith 0 = .ok (.iconst 0, 1) := by decide +kernel
theorem dX10_isFirstWith_1 : decode cX10_isFirstWith 1 = .ok (.istore 4, 2) := by decide +kernel
theorem dX10_isFirstWith_3 : decode cX10_isFirstWith 3 = .ok (.iload 4, 2) := by decide +kernel
theorem dX10_isFirstWith_5 : decode cX10_isFirstWith 5 = .ok (.iload_n 1, 1) := by decide +kernel
theorem dX10_isFirstWith_6 : decode cX10_isFirstWith 6 = .ok (.if_icmp .ge 31, 3) := by decide +kernel
theorem dX10_isFirstWith_9 : decode cX10_isFirstWith 9 = .ok (.aload_n 0, 1) := by decide +kernel
theorem dX10_isFirstWith_10 : decode cX10_isFirstWith 10 = .ok (.iload 4, 2) := by decide +kernel
theorem dX10_isFirstWith_12 : decode cX10_isFirstWith 12 = .ok (.invokevirtual 65, 3) := by decide +kernel
theorem dX10_isFirstWith_15 : decode cX10_isFirstWith 15 = .ok (.ifCond .eq 16, 3) := by decide +kernel
theorem dX10_isFirstWith_18 : decode cX10_isFirstWith 18 = .ok (.aload_n 0, 1) := by decide +kernel
theorem dX10_isFirstWith_19 : decode cX10_isFirstWith 19 = .ok (.iload 4, 2) := by decide +kernel
theorem dX10_isFirstWith_21 : decode cX10_isFirstWith 21 = .ok (.iload_n 2, 1) := by decide +kernel
theorem dX10_isFirstWith_22 : decode cX10_isFirstWith 22 = .ok (.invokevirtual 61, 3) := by decide +kernel
theorem dX10_isFirstWith_25 : decode cX10_isFirstWith 25 = .ok (.iload_n 3, 1) := by decide +kernel
theorem dX10_isFirstWith_26 : decode cX10_isFirstWith 26 = .ok (.if_icmp .ne 5, 3) := by decide +kernel
theorem dX10_isFirstWith_29 : decode cX10_isFirstWith 29 = .ok (.iconst 0, 1) := by decide +kernel
theorem dX10_isFirstWith_30 : decode cX10_isFirstWith 30 = .ok (.ireturn, 1) := by decide +kernel
theorem dX10_isFirstWith_31 : decode cX10_isFirstWith 31 = .ok (.iinc 4 1, 3) := by decide +kernel
theorem dX10_isFirstWith_34 : decode cX10_isFirstWith 34 = .ok (.goto (-31), 3) := by decide +kernel
theorem dX10_isFirstWith_37 : decode cX10_isFirstWith 37 = .ok (.iconst 1, 1) := by decide +kernel
theorem dX10_isFirstWith_38 : decode cX10_isFirstWith 38 = .ok (.ireturn, 1) := by decide +kernel
theorem dX10_takenRows_0 : decode cX10_takenRows 0 = .ok (.aload_n 0, 1) := by decide +kernel
theorem dX10_takenRows_1 : decode cX10_takenRows 1 = .ok (.getfield 32, 3) := by decide +kernel
theorem dX10_takenRows_4 : decode cX10_takenRows 4 = .ok (.ireturn, 1) := by decide +kernel
theorem dX10_takenPages_0 : decode cX10_takenPages 0 = .ok (.aload_n 0, 1) := by decide +kernel
theorem dX10_takenPages_1 : decode cX10_takenPages 1 = .ok (.getfield 35, 3) := by decide +kernel
theorem dX10_takenPages_4 : decode cX10_takenPages 4 = .ok (.ireturn, 1) := by decide +kernel
theorem dX10_takenUnlike_0 : decode cX10_takenUnlike 0 = .ok (.iload_n 1, 1) := by decide +kernel
theorem dX10_takenUnlike_1 : decode cX10_takenUnlike 1 = .ok (.ifCond .lt 21, 3) := by decide +kernel
theorem dX10_takenUnlike_4 : decode cX10_takenUnlike 4 = .ok (.iload_n 1, 1) := by decide +kernel
theorem dX10_takenUnlike_5 : decode cX10_takenUnlike 5 = .ok (.aload_n 0, 1) := by decide +kernel
theorem dX10_takenUnlike_6 : decode cX10_takenUnlike 6 = .ok (.getfield 38, 3) := by decide +kernel
theorem dX10_takenUnlike_9 : decode cX10_takenUnlike 9 = .ok (.arraylength, 1) := by decide +kernel
theorem dX10_takenUnlike_10 : decode cX10_takenUnlike 10 = .ok (.if_icmp .ge 12, 3) := by decide +kernel
theorem dX10_takenUnlike_13 : decode cX10_takenUnlike 13 = .ok (.aload_n 0, 1) := by decide +kernel
theorem dX10_takenUnlike_14 : decode cX10_takenUnlike 14 = .ok (.getfield 38, 3) := by decide +kernel
theorem dX10_takenUnlike_17 : decode cX10_takenUnlike 17 = .ok (.iload_n 1, 1) := by decide +kernel
theorem dX10_takenUnlike_18 : decode cX10_takenUnlike 18 = .ok (.iaload, 1) := by decide +kernel
theorem dX10_takenUnlike_19 : decode cX10_takenUnlike 19 = .ok (.goto 4, 3) := by decide +kernel
theorem dX10_takenUnlike_22 : decode cX10_takenUnlike 22 = .ok (.iconst 0, 1) := by decide +kernel
theorem dX10_takenUnlike_23 : decode cX10_takenUnlike 23 = .ok (.ireturn, 1) := by decide +kernel
theorem dX10_takenCount_0 : decode cX10_takenCount 0 = .ok (.aload_n 0, 1) := by decide +kernel
theorem dX10_takenCount_1 : decode cX10_takenCount 1 = .ok (.iload_n 1, 1) := by decide +kernel
theorem dX10_takenCount_2 : decode cX10_takenCount 2 = .ok (.invokevirtual 53, 3) := by decide +kernel
theorem dX10_takenCount_5 : decode cX10_takenCount 5 = .ok (.ifCond .ne 5, 3) := by decide +kernel
theorem dX10_takenCount_8 : decode cX10_takenCount 8 = .ok (.iconst (-1), 1) := by decide +kernel
theorem dX10_takenCount_9 : decode cX10_takenCount 9 = .ok (.ireturn, 1) := by decide +kernel
theorem dX10_takenCount_10 : decode cX10_takenCount 10 = .ok (.iload_n 2, 1) := by decide +kernel
theorem dX10_takenCount_11 : decode cX10_takenCount 11 = .ok (.bipush 114, 2) := by decide +kernel
theorem dX10_takenCount_13 : decode cX10_takenCount 13 = .ok (.if_icmp .ne 8, 3) := by decide +kernel
theorem dX10_takenCount_16 : decode cX10_takenCount 16 = .ok (.aload_n 0, 1) := by decide +kernel
theorem dX10_takenCount_17 : decode cX10_takenCount 17 = .ok (.getfield 32, 3) := by decide +kernel
theorem dX10_takenCount_20 : decode cX10_takenCount 20 = .ok (.ireturn, 1) := by decide +kernel
theorem dX10_takenCount_21 : decode cX10_takenCount 21 = .ok (.iload_n 2, 1) := by decide +kernel
theorem dX10_takenCount_22 : decode cX10_takenCount 22 = .ok (.bipush 112, 2) := by decide +kernel
theorem dX10_takenCount_24 : decode cX10_takenCount 24 = .ok (.if_icmp .ne 8, 3) := by decide +kernel
theorem dX10_takenCount_27 : decode cX10_takenCount 27 = .ok (.aload_n 0, 1) := by decide +kernel
theorem dX10_takenCount_28 : decode cX10_takenCount 28 = .ok (.getfield 35, 3) := by decide +kernel
theorem dX10_takenCount_31 : decode cX10_takenCount 31 = .ok (.ireturn, 1) := by decide +kernel
theorem dX10_takenCount_32 : decode cX10_takenCount 32 = .ok (.iload_n 2, 1) := by decide +kernel
theorem dX10_takenCount_33 : decode cX10_takenCount 33 = .ok (.bipush 117, 2) := by decide +kernel
theorem dX10_takenCount_35 : decode cX10_takenCount 35 = .ok (.if_icmp .ne 10, 3) := by decide +kernel
theorem dX10_takenCount_38 : decode cX10_takenCount 38 = .ok (.aload_n 0, 1) := by decide +kernel
theorem dX10_takenCount_39 : decode cX10_takenCount 39 = .ok (.getfield 38, 3) := by decide +kernel
theorem dX10_takenCount_42 : decode cX10_takenCount 42 = .ok (.iload_n 1, 1) := by decide +kernel
theorem dX10_takenCount_43 : decode cX10_takenCount 43 = .ok (.iaload, 1) := by decide +kernel
theorem dX10_takenCount_44 : decode cX10_takenCount 44 = .ok (.ireturn, 1) := by decide +kernel
theorem dX10_takenCount_45 : decode cX10_takenCount 45 = .ok (.iload_n 2, 1) := by decide +kernel
theorem dX10_takenCount_46 : decode cX10_takenCount 46 = .ok (.bipush 108, 2) := by decide +kernel
theorem dX10_takenCount_48 : decode cX10_takenCount 48 = .ok (.if_icmp .ne 10, 3) := by decide +kernel
theorem dX10_takenCount_51 : decode cX10_takenCount 51 = .ok (.aload_n 0, 1) := by decide +kernel
theorem dX10_takenCount_52 : decode cX10_takenCount 52 = .ok (.getfield 41, 3) := by decide +kernel
theorem dX10_takenCount_55 : decode cX10_takenCount 55 = .ok (.iload_n 1, 1) := by decide +kernel
theorem dX10_takenCount_56 : decode cX10_takenCount 56 = .ok (.iaload, 1) := by decide +kernel
theorem dX10_takenCount_57 : decode cX10_takenCount 57 = .ok (.ireturn, 1) := by decide +kernel
theorem dX10_takenCount_58 : decode cX10_takenCount 58 = .ok (.iload_n 2, 1) := by decide +kernel
theorem dX10_takenCount_59 : decode cX10_takenCount 59 = .ok (.bipush 103, 2) := by decide +kernel
theorem dX10_takenCount_61 : decode cX10_takenCount 61 = .ok (.if_icmp .ne 12, 3) := by decide +kernel
theorem dX10_takenCount_64 : decode cX10_takenCount 64 = .ok (.aload_n 0, 1) := by decide +kernel
theorem dX10_takenCount_65 : decode cX10_takenCount 65 = .ok (.getfield 44, 3) := by decide +kernel
theorem dX10_takenCount_68 : decode cX10_takenCount 68 = .ok (.iload_n 1, 1) := by decide +kernel
theorem dX10_takenCount_69 : decode cX10_takenCount 69 = .ok (.iaload, 1) := by decide +kernel
theorem dX10_takenCount_70 : decode cX10_takenCount 70 = .ok (.goto 4, 3) := by decide +kernel
theorem dX10_takenCount_73 : decode cX10_takenCount 73 = .ok (.iconst (-1), 1) := by decide +kernel
theorem dX10_takenCount_74 : decode cX10_takenCount 74 = .ok (.ireturn, 1) := by decide +kernel
theorem dX10_shareOf_0 : decode cX10_shareOf 0 = .ok (.aload_n 1, 1) := by decide +kernel
theorem dX10_shareOf_1 : decode cX10_shareOf 1 = .ok (.invokevirtual 88, 3) := by decide +kernel
theorem dX10_shareOf_4 : decode cX10_shareOf 4 = .ok (.istore_n 2, 1) := by decide +kernel
theorem dX10_shareOf_5 : decode cX10_shareOf 5 = .ok (.aload_n 0, 1) := by decide +kernel
theorem dX10_shareOf_6 : decode cX10_shareOf 6 = .ok (.iload_n 2, 1) := by decide +kernel
theorem dX10_shareOf_7 : decode cX10_shareOf 7 = .ok (.invokevirtual 53, 3) := by decide +kernel
theorem dX10_shareOf_10 : decode cX10_shareOf 10 = .ok (.ifCond .ne 5, 3) := by decide +kernel
theorem dX10_shareOf_13 : decode cX10_shareOf 13 = .ok (.iconst 0, 1) := by decide +kernel
theorem dX10_shareOf_14 : decode cX10_shareOf 14 = .ok (.ireturn, 1) := by decide +kernel
theorem dX10_shareOf_15 : decode cX10_shareOf 15 = .ok (.aload_n 1, 1) := by decide +kernel
theorem dX10_shareOf_16 : decode cX10_shareOf 16 = .ok (.invokevirtual 93, 3) := by decide +kernel
theorem dX10_shareOf_19 : decode cX10_shareOf 19 = .ok (.ifCond .eq 16, 3) := by decide +kernel
theorem dX10_shareOf_22 : decode cX10_shareOf 22 = .ok (.sipush 1000, 3) := by decide +kernel
theorem dX10_shareOf_25 : decode cX10_shareOf 25 = .ok (.aload_n 0, 1) := by decide +kernel
theorem dX10_shareOf_26 : decode cX10_shareOf 26 = .ok (.getfield 38, 3) := by decide +kernel
theorem dX10_shareOf_29 : decode cX10_shareOf 29 = .ok (.iload_n 2, 1) := by decide +kernel
theorem dX10_shareOf_30 : decode cX10_shareOf 30 = .ok (.iaload, 1) := by decide +kernel
theorem dX10_shareOf_31 : decode cX10_shareOf 31 = .ok (.invokestatic 97, 3) := by decide +kernel
theorem dX10_shareOf_34 : decode cX10_shareOf 34 = .ok (.ireturn, 1) := by decide +kernel
theorem dX10_shareOf_35 : decode cX10_shareOf 35 = .ok (.aload_n 0, 1) := by decide +kernel
theorem dX10_shareOf_36 : decode cX10_shareOf 36 = .ok (.getfield 41, 3) := by decide +kernel
theorem dX10_shareOf_39 : decode cX10_shareOf 39 = .ok (.iload_n 2, 1) := by decide +kernel
theorem dX10_shareOf_40 : decode cX10_shareOf 40 = .ok (.iaload, 1) := by decide +kernel
theorem dX10_shareOf_41 : decode cX10_shareOf 41 = .ok (.aload_n 1, 1) := by decide +kernel
theorem dX10_shareOf_42 : decode cX10_shareOf 42 = .ok (.invokevirtual 100, 3) := by decide +kernel
theorem dX10_shareOf_45 : decode cX10_shareOf 45 = .ok (.invokestatic 81, 3) := by decide +kernel
theorem dX10_shareOf_48 : decode cX10_shareOf 48 = .ok (.istore_n 3, 1) := by decide +kernel
theorem dX10_shareOf_49 : decode cX10_shareOf 49 = .ok (.aload_n 0, 1) := by decide +kernel
theorem dX10_shareOf_50 : decode cX10_shareOf 50 = .ok (.getfield 44, 3) := by decide +kernel
theorem dX10_shareOf_53 : decode cX10_shareOf 53 = .ok (.iload_n 2, 1) := by decide +kernel
theorem dX10_shareOf_54 : decode cX10_shareOf 54 = .ok (.iaload, 1) := by decide +kernel
theorem dX10_shareOf_55 : decode cX10_shareOf 55 = .ok (.aload_n 1, 1) := by decide +kernel
theorem dX10_shareOf_56 : decode cX10_shareOf 56 = .ok (.invokevirtual 103, 3) := by decide +kernel
theorem dX10_shareOf_59 : decode cX10_shareOf 59 = .ok (.invokestatic 76, 3) := by decide +kernel
theorem dX10_shareOf_62 : decode cX10_shareOf 62 = .ok (.istore 4, 2) := by decide +kernel
theorem dX10_shareOf_64 : decode cX10_shareOf 64 = .ok (.aload_n 0, 1) := by decide +kernel
theorem dX10_shareOf_65 : decode cX10_shareOf 65 = .ok (.getfield 44, 3) := by decide +kernel
theorem dX10_shareOf_68 : decode cX10_shareOf 68 = .ok (.iload_n 2, 1) := by decide +kernel
theorem dX10_shareOf_69 : decode cX10_shareOf 69 = .ok (.iaload, 1) := by decide +kernel
theorem dX10_shareOf_70 : decode cX10_shareOf 70 = .ok (.aload_n 0, 1) := by decide +kernel
theorem dX10_shareOf_71 : decode cX10_shareOf 71 = .ok (.getfield 41, 3) := by decide +kernel
theorem dX10_shareOf_74 : decode cX10_shareOf 74 = .ok (.iload_n 2, 1) := by decide +kernel
theorem dX10_shareOf_75 : decode cX10_shareOf 75 = .ok (.iaload, 1) := by decide +kernel
theorem dX10_shareOf_76 : decode cX10_shareOf 76 = .ok (.isub, 1) := by decide +kernel
theorem dX10_shareOf_77 : decode cX10_shareOf 77 = .ok (.iconst 1, 1) := by decide +kernel
theorem dX10_shareOf_78 : decode cX10_shareOf 78 = .ok (.iadd, 1) := by decide +kernel
theorem dX10_shareOf_79 : decode cX10_shareOf 79 = .ok (.istore 5, 2) := by decide +kernel
theorem dX10_shareOf_81 : decode cX10_shareOf 81 = .ok (.sipush 1000, 3) := by decide +kernel
theorem dX10_shareOf_84 : decode cX10_shareOf 84 = .ok (.iconst 0, 1) := by decide +kernel
theorem dX10_shareOf_85 : decode cX10_shareOf 85 = .ok (.iload 4, 2) := by decide +kernel
theorem dX10_shareOf_87 : decode cX10_shareOf 87 = .ok (.iload_n 3, 1) := by decide +kernel
theorem dX10_shareOf_88 : decode cX10_shareOf 88 = .ok (.isub, 1) := by decide +kernel
theorem dX10_shareOf_89 : decode cX10_shareOf 89 = .ok (.iconst 1, 1) := by decide +kernel
theorem dX10_shareOf_90 : decode cX10_shareOf 90 = .ok (.iadd, 1) := by decide +kernel
theorem dX10_shareOf_91 : decode cX10_shareOf 91 = .ok (.invokestatic 81, 3) := by decide +kernel
theorem dX10_shareOf_94 : decode cX10_shareOf 94 = .ok (.imul, 1) := by decide +kernel
theorem dX10_shareOf_95 : decode cX10_shareOf 95 = .ok (.iload 5, 2) := by decide +kernel
theorem dX10_shareOf_97 : decode cX10_shareOf 97 = .ok (.invokestatic 97, 3) := by decide +kernel
theorem dX10_shareOf_100 : decode cX10_shareOf 100 = .ok (.ireturn, 1) := by decide +kernel
theorem dX10_printFrom_0 : decode cX10_printFrom 0 = .ok (.lload_n 1, 1) := by decide +kernel
theorem dX10_printFrom_1 : decode cX10_printFrom 1 = .ok (.lstore_n 3, 1) := by decide +kernel
theorem dX10_printFrom_2 : decode cX10_printFrom 2 = .ok (.iconst 0, 1) := by decide +kernel
theorem dX10_printFrom_3 : decode cX10_printFrom 3 = .ok (.istore 5, 2) := by decide +kernel
theorem dX10_printFrom_5 : decode cX10_printFrom 5 = .ok (.iload 5, 2) := by decide +kernel
theorem dX10_printFrom_7 : decode cX10_printFrom 7 = .ok (.aload_n 0, 1) := by decide +kernel
theorem dX10_printFrom_8 : decode cX10_printFrom 8 = .ok (.getfield 18, 3) := by decide +kernel
theorem dX10_printFrom_11 : decode cX10_printFrom 11 = .ok (.arraylength, 1) := by decide +kernel
theorem dX10_printFrom_12 : decode cX10_printFrom 12 = .ok (.if_icmp .ge 53, 3) := by decide +kernel
theorem dX10_printFrom_15 : decode cX10_printFrom 15 = .ok (.iconst 0, 1) := by decide +kernel
theorem dX10_printFrom_16 : decode cX10_printFrom 16 = .ok (.istore 6, 2) := by decide +kernel
theorem dX10_printFrom_18 : decode cX10_printFrom 18 = .ok (.aload_n 0, 1) := by decide +kernel
theorem dX10_printFrom_19 : decode cX10_printFrom 19 = .ok (.getfield 18, 3) := by decide +kernel
theorem dX10_printFrom_22 : decode cX10_printFrom 22 = .ok (.iload 5, 2) := by decide +kernel
theorem dX10_printFrom_24 : decode cX10_printFrom 24 = .ok (.baload, 1) := by decide +kernel
theorem dX10_printFrom_25 : decode cX10_printFrom 25 = .ok (.ifCond .eq 34, 3) := by decide +kernel
theorem dX10_printFrom_28 : decode cX10_printFrom 28 = .ok (.iload 6, 2) := by decide +kernel
theorem dX10_printFrom_30 : decode cX10_printFrom 30 = .ok (.aload_n 0, 1) := by decide +kernel
theorem dX10_printFrom_31 : decode cX10_printFrom 31 = .ok (.getfield 50, 3) := by decide +kernel
theorem dX10_printFrom_34 : decode cX10_printFrom 34 = .ok (.if_icmp .ge 25, 3) := by decide +kernel
theorem dX10_printFrom_37 : decode cX10_printFrom 37 = .ok (.ldc2_w 106, 3) := by decide +kernel
theorem dX10_printFrom_40 : decode cX10_printFrom 40 = .ok (.lload_n 3, 1) := by decide +kernel
theorem dX10_printFrom_41 : decode cX10_printFrom 41 = .ok (.lmul, 1) := by decide +kernel
theorem dX10_printFrom_42 : decode cX10_printFrom 42 = .ok (.aload_n 0, 1) := by decide +kernel
theorem dX10_printFrom_43 : decode cX10_printFrom 43 = .ok (.iload 5, 2) := by decide +kernel
theorem dX10_printFrom_45 : decode cX10_printFrom 45 = .ok (.iload 6, 2) := by decide +kernel
theorem dX10_printFrom_47 : decode cX10_printFrom 47 = .ok (.invokevirtual 61, 3) := by decide +kernel
theorem dX10_printFrom_50 : decode cX10_printFrom 50 = .ok (.i2l, 1) := by decide +kernel
theorem dX10_printFrom_51 : decode cX10_printFrom 51 = .ok (.ladd, 1) := by decide +kernel
theorem dX10_printFrom_52 : decode cX10_printFrom 52 = .ok (.lstore_n 3, 1) := by decide +kernel
theorem dX10_printFrom_53 : decode cX10_printFrom 53 = .ok (.iinc 6 1, 3) := by decide +kernel
theorem dX10_printFrom_56 : decode cX10_printFrom 56 = .ok (.goto (-38), 3) := by decide +kernel
theorem dX10_printFrom_59 : decode cX10_printFrom 59 = .ok (.iinc 5 1, 3) := by decide +kernel
theorem dX10_printFrom_62 : decode cX10_printFrom 62 = .ok (.goto (-57), 3) := by decide +kernel
theorem dX10_printFrom_65 : decode cX10_printFrom 65 = .ok (.lload_n 3, 1) := by decide +kernel
theorem dX10_printFrom_66 : decode cX10_printFrom 66 = .ok (.lreturn, 1) := by decide +kernel
theorem dJ6_bitCount_0f7a4_0 : decode cJ6_bitCount_0f7a4 0 = .ok (.iload_n 0, 1) := by decide +kernel
theorem dJ6_bitCount_0f7a4_1 : decode cJ6_bitCount_0f7a4 1 = .ok (.iload_n 0, 1) := by decide +kernel
theorem dJ6_bitCount_0f7a4_2 : decode cJ6_bitCount_0f7a4 2 = .ok (.iconst 1, 1) := by decide +kernel
theorem dJ6_bitCount_0f7a4_3 : decode cJ6_bitCount_0f7a4 3 = .ok (.iushr, 1) := by decide +kernel
theorem dJ6_bitCount_0f7a4_4 : decode cJ6_bitCount_0f7a4 4 = .ok (.ldc_w 265, 3) := by decide +kernel
theorem dJ6_bitCount_0f7a4_7 : decode cJ6_bitCount_0f7a4 7 = .ok (.iand, 1) := by decide +kernel
theorem dJ6_bitCount_0f7a4_8 : decode cJ6_bitCount_0f7a4 8 = .ok (.isub, 1) := by decide +kernel
theorem dJ6_bitCount_0f7a4_9 : decode cJ6_bitCount_0f7a4 9 = .ok (.istore_n 0, 1) := by decide +kernel
theorem dJ6_bitCount_0f7a4_10 : decode cJ6_bitCount_0f7a4 10 = .ok (.iload_n 0, 1) := by decide +kernel
theorem dJ6_bitCount_0f7a4_11 : decode cJ6_bitCount_0f7a4 11 = .ok (.ldc_w 266, 3) := by decide +kernel
theorem dJ6_bitCount_0f7a4_14 : decode cJ6_bitCount_0f7a4 14 = .ok (.iand, 1) := by decide +kernel
theorem dJ6_bitCount_0f7a4_15 : decode cJ6_bitCount_0f7a4 15 = .ok (.iload_n 0, 1) := by decide +kernel
theorem dJ6_bitCount_0f7a4_16 : decode cJ6_bitCount_0f7a4 16 = .ok (.iconst 2, 1) := by decide +kernel
theorem dJ6_bitCount_0f7a4_17 : decode cJ6_bitCount_0f7a4 17 = .ok (.iushr, 1) := by decide +kernel
theorem dJ6_bitCount_0f7a4_18 : decode cJ6_bitCount_0f7a4 18 = .ok (.ldc_w 266, 3) := by decide +kernel
theorem dJ6_bitCount_0f7a4_21 : decode cJ6_bitCount_0f7a4 21 = .ok (.iand, 1) := by decide +kernel
theorem dJ6_bitCount_0f7a4_22 : decode cJ6_bitCount_0f7a4 22 = .ok (.iadd, 1) := by decide +kernel
theorem dJ6_bitCount_0f7a4_23 : decode cJ6_bitCount_0f7a4 23 = .ok (.istore_n 0, 1) := by decide +kernel
theorem dJ6_bitCount_0f7a4_24 : decode cJ6_bitCount_0f7a4 24 = .ok (.iload_n 0, 1) := by decide +kernel
theorem dJ6_bitCount_0f7a4_25 : decode cJ6_bitCount_0f7a4 25 = .ok (.iload_n 0, 1) := by decide +kernel
theorem dJ6_bitCount_0f7a4_26 : decode cJ6_bitCount_0f7a4 26 = .ok (.iconst 4, 1) := by decide +kernel
theorem dJ6_bitCount_0f7a4_27 : decode cJ6_bitCount_0f7a4 27 = .ok (.iushr, 1) := by decide +kernel
theorem dJ6_bitCount_0f7a4_28 : decode cJ6_bitCount_0f7a4 28 = .ok (.iadd, 1) := by decide +kernel
theorem dJ6_bitCount_0f7a4_29 : decode cJ6_bitCount_0f7a4 29 = .ok (.ldc_w 267, 3) := by decide +kernel
theorem dJ6_bitCount_0f7a4_32 : decode cJ6_bitCount_0f7a4 32 = .ok (.iand, 1) := by decide +kernel
theorem dJ6_bitCount_0f7a4_33 : decode cJ6_bitCount_0f7a4 33 = .ok (.istore_n 0, 1) := by decide +kernel
theorem dJ6_bitCount_0f7a4_34 : decode cJ6_bitCount_0f7a4 34 = .ok (.iload_n 0, 1) := by decide +kernel
theorem dJ6_bitCount_0f7a4_35 : decode cJ6_bitCount_0f7a4 35 = .ok (.iload_n 0, 1) := by decide +kernel
theorem dJ6_bitCount_0f7a4_36 : decode cJ6_bitCount_0f7a4 36 = .ok (.bipush 8, 2) := by decide +kernel
theorem dJ6_bitCount_0f7a4_38 : decode cJ6_bitCount_0f7a4 38 = .ok (.iushr, 1) := by decide +kernel
theorem dJ6_bitCount_0f7a4_39 : decode cJ6_bitCount_0f7a4 39 = .ok (.iadd, 1) := by decide +kernel
theorem dJ6_bitCount_0f7a4_40 : decode cJ6_bitCount_0f7a4 40 = .ok (.istore_n 0, 1) := by decide +kernel
theorem dJ6_bitCount_0f7a4_41 : decode cJ6_bitCount_0f7a4 41 = .ok (.iload_n 0, 1) := by decide +kernel
theorem dJ6_bitCount_0f7a4_42 : decode cJ6_bitCount_0f7a4 42 = .ok (.iload_n 0, 1) := by decide +kernel
theorem dJ6_bitCount_0f7a4_43 : decode cJ6_bitCount_0f7a4 43 = .ok (.bipush 16, 2) := by decide +kernel
theorem dJ6_bitCount_0f7a4_45 : decode cJ6_bitCount_0f7a4 45 = .ok (.iushr, 1) := by decide +kernel
theorem dJ6_bitCount_0f7a4_46 : decode cJ6_bitCount_0f7a4 46 = .ok (.iadd, 1) := by decide +kernel
theorem dJ6_bitCount_0f7a4_47 : decode cJ6_bitCount_0f7a4 47 = .ok (.istore_n 0, 1) := by decide +kernel
theorem dJ6_bitCount_0f7a4_48 : decode cJ6_bitCount_0f7a4 48 = .ok (.iload_n 0, 1) := by decide +kernel
theorem dJ6_bitCount_0f7a4_49 : decode cJ6_bitCount_0f7a4 49 = .ok (.bipush 63, 2) := by decide +kernel
theorem dJ6_bitCount_0f7a4_51 : decode cJ6_bitCount_0f7a4 51 = .ok (.iand, 1) := by decide +kernel
theorem dJ6_bitCount_0f7a4_52 : decode cJ6_bitCount_0f7a4 52 = .ok (.ireturn, 1) := by decide +kernel
