theorem dX11_init_0 : decode cX11_init 0 = .ok (.aload_n 0, 1) := by decide +kernel
theorem dX11_init_1 : decode cX11_init 1 = .ok (.invokespecial 1, 3) := by decide +kernel
theorem dX11_init_4 : decode cX11_init 4 = .ok (.aload_n 0, 1) := by decide +kernel
theorem dX11_init_5 : decode cX11_init 5 = .ok (.new 7, 3) := by decide +kernel
theorem dX11_init_8 : decode cX11_init 8 = .ok (.dup, 1) := by decide +kernel
theorem dX11_init_9 : decode cX11_init 9 = .ok (.invokespecial 9, 3) := by decide +kernel
theorem dX11_init_12 : decode cX11_init 12 = .ok (.putfield 10, 3) := by decide +kernel
theorem dX11_init_15 : decode cX11_init 15 = .ok (.aload_n 0, 1) := by decide +kernel
theorem dX11_init_16 : decode cX11_init 16 = .ok (.bipush 8, 2) := by decide +kernel
theorem dX11_init_18 : decode cX11_init 18 = .ok (.anewarray 16, 3) := by decide +kernel
theorem dX11_init_21 : decode cX11_init 21 = .ok (.putfield 18, 3) := by decide +kernel
theorem dX11_init_24 : decode cX11_init 24 = .ok (.aload_n 0, 1) := by decide +kernel
theorem dX11_init_25 : decode cX11_init 25 = .ok (.iconst 0, 1) := by decide +kernel
theorem dX11_init_26 : decode cX11_init 26 = .ok (.putfield 22, 3) := by decide +kernel
theorem dX11_init_29 : decode cX11_init 29 = .ok (.aload_n 0, 1) := by decide +kernel
theorem dX11_init_30 : decode cX11_init 30 = .ok (.new 26, 3) := by decide +kernel
theorem dX11_init_33 : decode cX11_init 33 = .ok (.dup, 1) := by decide +kernel
theorem dX11_init_34 : decode cX11_init 34 = .ok (.invokespecial 28, 3) := by decide +kernel
theorem dX11_init_37 : decode cX11_init 37 = .ok (.putfield 29, 3) := by decide +kernel
theorem dX11_init_40 : decode cX11_init 40 = .ok (.aload_n 0, 1) := by decide +kernel
theorem dX11_init_41 : decode cX11_init 41 = .ok (.new 26, 3) := by decide +kernel
theorem dX11_init_44 : decode cX11_init 44 = .ok (.dup, 1) := by decide +kernel
theorem dX11_init_45 : decode cX11_init 45 = .ok (.invokespecial 28, 3) := by decide +kernel
theorem dX11_init_48 : decode cX11_init 48 = .ok (.putfield 33, 3) := by decide +kernel
theorem dX11_init_51 : decode cX11_init 51 = .ok (.aload_n 0, 1) := by decide +kernel
theorem dX11_init_52 : decode cX11_init 52 = .ok (.new 36, 3) := by decide +kernel
theorem dX11_init_55 : decode cX11_init 55 = .ok (.dup, 1) := by decide +kernel
theorem dX11_init_56 : decode cX11_init 56 = .ok (.invokespecial 38, 3) := by decide +kernel
theorem dX11_init_59 : decode cX11_init 59 = .ok (.putfield 39, 3) := by decide +kernel
theorem dX11_init_62 : decode cX11_init 62 = .ok (.aload_n 0, 1) := by decide +kernel
theorem dX11_init_63 : decode cX11_init 63 = .ok (.new 43, 3) := by decide +kernel
theorem dX11_init_66 : decode cX11_init 66 = .ok (.dup, 1) := by decide +kernel
theorem dX11_init_67 : decode cX11_init 67 = .ok (.invokespecial 45, 3) := by decide +kernel
theorem dX11_init_70 : decode cX11_init 70 = .ok (.putfield 46, 3) := by decide +kernel
theorem dX11_init_73 : decode cX11_init 73 = .ok (.aload_n 0, 1) := by decide +kernel
theorem dX11_init_74 : decode cX11_init 74 = .ok (.new 50, 3) := by decide +kernel
theorem dX11_init_77 : decode cX11_init 77 = .ok (.dup, 1) := by decide +kernel
theorem dX11_init_78 : decode cX11_init 78 = .ok (.invokespecial 52, 3) := by decide +kernel
theorem dX11_init_81 : decode cX11_init 81 = .ok (.putfield 53, 3) := by decide +kernel
theorem dX11_init_84 : decode cX11_init 84 = .ok (.aload_n 0, 1) := by decide +kernel
theorem dX11_init_85 : decode cX11_init 85 = .ok (.new 50, 3) := by decide +kernel
theorem dX11_init_88 : decode cX11_init 88 = .ok (.dup, 1) := by decide +kernel
theorem dX11_init_89 : decode cX11_init 89 = .ok (.invokespecial 52, 3) := by decide +kernel
theorem dX11_init_92 : decode cX11_init 92 = .ok (.putfield 57, 3) := by decide +kernel
theorem dX11_init_95 : decode cX11_init 95 = .ok (.aload_n 0, 1) := by decide +kernel
theorem dX11_init_96 : decode cX11_init 96 = .ok (.new 50, 3) := by decide +kernel
theorem dX11_init_99 : decode cX11_init 99 = .ok (.dup, 1) := by decide +kernel
theorem dX11_init_100 : decode cX11_init 100 = .ok (.invokespecial 52, 3) := by decide +kernel
theorem dX11_init_103 : decode cX11_init 103 = .ok (.putfield 60, 3) := by decide +kernel
theorem dX11_init_106 : decode cX11_init 106 = .ok (.aload_n 0, 1) := by decide +kernel
theorem dX11_init_107 : decode cX11_init 107 = .ok (.aconst_null, 1) := by decide +kernel
theorem dX11_init_108 : decode cX11_init 108 = .ok (.putfield 63, 3) := by decide +kernel
theorem dX11_init_111 : decode cX11_init 111 = .ok (.aload_n 0, 1) := by decide +kernel
theorem dX11_init_112 : decode cX11_init 112 = .ok (.new 67, 3) := by decide +kernel
theorem dX11_init_115 : decode cX11_init 115 = .ok (.dup, 1) := by decide +kernel
theorem dX11_init_116 : decode cX11_init 116 = .ok (.invokespecial 69, 3) := by decide +kernel
theorem dX11_init_119 : decode cX11_init 119 = .ok (.putfield 70, 3) := by decide +kernel
theorem dX11_init_122 : decode cX11_init 122 = .ok (.return_, 1) := by decide +kernel
theorem dX11_table_0 : decode cX11_table 0 = .ok (.iload_n 1, 1) := by decide +kernel
theorem dX11_table_1 : decode cX11_table 1 = .ok (.iconst 1, 1) := by decide +kernel
theorem dX11_table_2 : decode cX11_table 2 = .ok (.if_icmp .lt 8, 3) := by decide +kernel
theorem dX11_table_5 : decode cX11_table 5 = .ok (.iload_n 1, 1) := by decide +kernel
theorem dX11_table_6 : decode cX11_table 6 = .ok (.iconst 3, 1) := by decide +kernel
theorem dX11_table_7 : decode cX11_table 7 = .ok (.if_icmp .le 13, 3) := by decide +kernel
theorem dX11_table_10 : decode cX11_table 10 = .ok (.new 74, 3) := by decide +kernel
theorem dX11_table_13 : decode cX11_table 13 = .ok (.dup, 1) := by decide +kernel
theorem dX11_table_14 : decode cX11_table 14 = .ok (.ldc 76, 2) := by decide +kernel
theorem dX11_table_16 : decode cX11_table 16 = .ok (.invokespecial 78, 3) := by decide +kernel
theorem dX11_table_19 : decode cX11_table 19 = .ok (.athrow, 1) := by decide +kernel
theorem dX11_table_20 : decode cX11_table 20 = .ok (.aload_n 0, 1) := by decide +kernel
theorem dX11_table_21 : decode cX11_table 21 = .ok (.getfield 10, 3) := by decide +kernel
theorem dX11_table_24 : decode cX11_table 24 = .ok (.iload_n 1, 1) := by decide +kernel
theorem dX11_table_25 : decode cX11_table 25 = .ok (.invokevirtual 81, 3) := by decide +kernel
theorem dX11_table_28 : decode cX11_table 28 = .ok (.istore_n 2, 1) := by decide +kernel
theorem dX11_table_29 : decode cX11_table 29 = .ok (.iload_n 2, 1) := by decide +kernel
theorem dX11_table_30 : decode cX11_table 30 = .ok (.iconst (-1), 1) := by decide +kernel
theorem dX11_table_31 : decode cX11_table 31 = .ok (.if_icmp .ne 13, 3) := by decide +kernel
theorem dX11_table_34 : decode cX11_table 34 = .ok (.new 85, 3) := by decide +kernel
theorem dX11_table_37 : decode cX11_table 37 = .ok (.dup, 1) := by decide +kernel
theorem dX11_table_38 : decode cX11_table 38 = .ok (.ldc 87, 2) := by decide +kernel
theorem dX11_table_40 : decode cX11_table 40 = .ok (.invokespecial 89, 3) := by decide +kernel
theorem dX11_table_43 : decode cX11_table 43 = .ok (.athrow, 1) := by decide +kernel
theorem dX11_table_44 : decode cX11_table 44 = .ok (.aload_n 0, 1) := by decide +kernel
theorem dX11_table_45 : decode cX11_table 45 = .ok (.getfield 70, 3) := by decide +kernel
theorem dX11_table_48 : decode cX11_table 48 = .ok (.invokevirtual 90, 3) := by decide +kernel
theorem dX11_table_51 : decode cX11_table 51 = .ok (.iload_n 2, 1) := by decide +kernel
theorem dX11_table_52 : decode cX11_table 52 = .ok (.ireturn, 1) := by decide +kernel
theorem dX11_bound_0 : decode cX11_bound 0 = .ok (.aload_n 0, 1) := by decide +kernel
theorem dX11_bound_1 : decode cX11_bound 1 = .ok (.iload_n 1, 1) := by decide +kernel
theorem dX11_bound_2 : decode cX11_bound 2 = .ok (.invokevirtual 93, 3) := by decide +kernel
theorem dX11_bound_5 : decode cX11_bound 5 = .ok (.astore 5, 2) := by decide +kernel
theorem dX11_bound_7 : decode cX11_bound 7 = .ok (.aload 5, 2) := by decide +kernel
theorem dX11_bound_9 : decode cX11_bound 9 = .ok (.iload_n 2, 1) := by decide +kernel
theorem dX11_bound_10 : decode cX11_bound 10 = .ok (.invokevirtual 97, 3) := by decide +kernel
theorem dX11_bound_13 : decode cX11_bound 13 = .ok (.ifCond .eq 24, 3) := by decide +kernel
theorem dX11_bound_16 : decode cX11_bound 16 = .ok (.iload_n 3, 1) := by decide +kernel
theorem dX11_bound_17 : decode cX11_bound 17 = .ok (.invokestatic 103, 3) := by decide +kernel
theorem dX11_bound_20 : decode cX11_bound 20 = .ok (.ifCond .eq 17, 3) := by decide +kernel
theorem dX11_bound_23 : decode cX11_bound 23 = .ok (.iload 4, 2) := by decide +kernel
theorem dX11_bound_25 : decode cX11_bound 25 = .ok (.invokestatic 103, 3) := by decide +kernel
theorem dX11_bound_28 : decode cX11_bound 28 = .ok (.ifCond .eq 9, 3) := by decide +kernel
theorem dX11_bound_31 : decode cX11_bound 31 = .ok (.iload_n 3, 1) := by decide +kernel
theorem dX11_bound_32 : decode cX11_bound 32 = .ok (.iload 4, 2) := by decide +kernel
theorem dX11_bound_34 : decode cX11_bound 34 = .ok (.if_icmp .le 13, 3) := by decide +kernel
theorem dX11_bound_37 : decode cX11_bound 37 = .ok (.new 74, 3) := by decide +kernel
theorem dX11_bound_40 : decode cX11_bound 40 = .ok (.dup, 1) := by decide +kernel
theorem dX11_bound_41 : decode cX11_bound 41 = .ok (.ldc 106, 2) := by decide +kernel
theorem dX11_bound_43 : decode cX11_bound 43 = .ok (.invokespecial 78, 3) := by decide +kernel
theorem dX11_bound_46 : decode cX11_bound 46 = .ok (.athrow, 1) := by decide +kernel
theorem dX11_bound_47 : decode cX11_bound 47 = .ok (.aload 5, 2) := by decide +kernel
theorem dX11_bound_49 : decode cX11_bound 49 = .ok (.iload_n 2, 1) := by decide +kernel
theorem dX11_bound_50 : decode cX11_bound 50 = .ok (.iload_n 3, 1) := by decide +kernel
theorem dX11_bound_51 : decode cX11_bound 51 = .ok (.iload 4, 2) := by decide +kernel
theorem dX11_bound_53 : decode cX11_bound 53 = .ok (.invokevirtual 108, 3) := by decide +kernel
theorem dX11_bound_56 : decode cX11_bound 56 = .ok (.aload_n 0, 1) := by decide +kernel
theorem dX11_bound_57 : decode cX11_bound 57 = .ok (.getfield 70, 3) := by decide +kernel
theorem dX11_bound_60 : decode cX11_bound 60 = .ok (.invokevirtual 90, 3) := by decide +kernel
theorem dX11_bound_63 : decode cX11_bound 63 = .ok (.aload 5, 2) := by decide +kernel
theorem dX11_bound_65 : decode cX11_bound 65 = .ok (.iload_n 2, 1) := by decide +kernel
theorem dX11_bound_66 : decode cX11_bound 66 = .ok (.invokevirtual 112, 3) := by decide +kernel
theorem dX11_bound_69 : decode cX11_bound 69 = .ok (.ireturn, 1) := by decide +kernel
theorem dX11_insert_0 : decode cX11_insert 0 = .ok (.aload_n 0, 1) := by decide +kernel
theorem dX11_insert_1 : decode cX11_insert 1 = .ok (.iload_n 1, 1) := by decide +kernel
theorem dX11_insert_2 : decode cX11_insert 2 = .ok (.invokevirtual 93, 3) := by decide +kernel
theorem dX11_insert_5 : decode cX11_insert 5 = .ok (.astore 5, 2) := by decide +kernel
theorem dX11_insert_7 : decode cX11_insert 7 = .ok (.aload 5, 2) := by decide +kernel
theorem dX11_insert_9 : decode cX11_insert 9 = .ok (.iload_n 2, 1) := by decide +kernel
theorem dX11_insert_10 : decode cX11_insert 10 = .ok (.iload_n 3, 1) := by decide +kernel
theorem dX11_insert_11 : decode cX11_insert 11 = .ok (.iload 4, 2) := by decide +kernel
theorem dX11_insert_13 : decode cX11_insert 13 = .ok (.invokevirtual 115, 3) := by decide +kernel
theorem dX11_insert_16 : decode cX11_insert 16 = .ok (.ifCond .ne 13, 3) := by decide +kernel
theorem dX11_insert_19 : decode cX11_insert 19 = .ok (.new 74, 3) := by decide +kernel
theorem dX11_insert_22 : decode cX11_insert 22 = .ok (.dup, 1) := by decide +kernel
theorem dX11_insert_23 : decode cX11_insert 23 = .ok (.ldc 119, 2) := by decide +kernel
theorem dX11_insert_25 : decode cX11_insert 25 = .ok (.invokespecial 78, 3) := by decide +kernel
theorem dX11_insert_28 : decode cX11_insert 28 = .ok (.athrow, 1) := by decide +kernel
theorem dX11_insert_29 : decode cX11_insert 29 = .ok (.aload_n 0, 1) := by decide +kernel
theorem dX11_insert_30 : decode cX11_insert 30 = .ok (.getfield 10, 3) := by decide +kernel
theorem dX11_insert_33 : decode cX11_insert 33 = .ok (.aload 5, 2) := by decide +kernel
theorem dX11_insert_35 : decode cX11_insert 35 = .ok (.iload_n 2, 1) := by decide +kernel
theorem dX11_insert_36 : decode cX11_insert 36 = .ok (.iload_n 3, 1) := by decide +kernel
theorem dX11_insert_37 : decode cX11_insert 37 = .ok (.iload 4, 2) := by decide +kernel
theorem dX11_insert_39 : decode cX11_insert 39 = .ok (.invokevirtual 121, 3) := by decide +kernel
theorem dX11_insert_42 : decode cX11_insert 42 = .ok (.istore 6, 2) := by decide +kernel
theorem dX11_insert_44 : decode cX11_insert 44 = .ok (.iload 6, 2) := by decide +kernel
theorem dX11_insert_46 : decode cX11_insert 46 = .ok (.iconst (-1), 1) := by decide +kernel
theorem dX11_insert_47 : decode cX11_insert 47 = .ok (.if_icmp .ne 13, 3) := by decide +kernel
theorem dX11_insert_50 : decode cX11_insert 50 = .ok (.new 85, 3) := by decide +kernel
theorem dX11_insert_53 : decode cX11_insert 53 = .ok (.dup, 1) := by decide +kernel
theorem dX11_insert_54 : decode cX11_insert 54 = .ok (.ldc 125, 2) := by decide +kernel
theorem dX11_insert_56 : decode cX11_insert 56 = .ok (.invokespecial 89, 3) := by decide +kernel
theorem dX11_insert_59 : decode cX11_insert 59 = .ok (.athrow, 1) := by decide +kernel
theorem dX11_insert_60 : decode cX11_insert 60 = .ok (.aload_n 0, 1) := by decide +kernel
theorem dX11_insert_61 : decode cX11_insert 61 = .ok (.aload 5, 2) := by decide +kernel
theorem dX11_insert_63 : decode cX11_insert 63 = .ok (.iload 6, 2) := by decide +kernel
theorem dX11_insert_65 : decode cX11_insert 65 = .ok (.invokevirtual 127, 3) := by decide +kernel
theorem dX11_insert_68 : decode cX11_insert 68 = .ok (.aload_n 0, 1) := by decide +kernel
theorem dX11_insert_69 : decode cX11_insert 69 = .ok (.getfield 70, 3) := by decide +kernel
theorem dX11_insert_72 : decode cX11_insert 72 = .ok (.invokevirtual 90, 3) := by decide +kernel
theorem dX11_insert_75 : decode cX11_insert 75 = .ok (.iload 6, 2) := by decide +kernel
theorem dX11_insert_77 : decode cX11_insert 77 = .ok (.ireturn, 1) := by decide +kernel
theorem dX11_remove_0 : decode cX11_remove 0 = .ok (.aload_n 0, 1) := by decide +kernel
theorem dX11_remove_1 : decode cX11_remove 1 = .ok (.iload_n 1, 1) := by decide +kernel
theorem dX11_remove_2 : decode cX11_remove 2 = .ok (.invokevirtual 93, 3) := by decide +kernel
theorem dX11_remove_5 : decode cX11_remove 5 = .ok (.astore_n 3, 1) := by decide +kernel
theorem dX11_remove_6 : decode cX11_remove 6 = .ok (.aload_n 3, 1) := by decide +kernel
theorem dX11_remove_7 : decode cX11_remove 7 = .ok (.iload_n 2, 1) := by decide +kernel
theorem dX11_remove_8 : decode cX11_remove 8 = .ok (.invokevirtual 131, 3) := by decide +kernel
theorem dX11_remove_11 : decode cX11_remove 11 = .ok (.ifCond .ne 13, 3) := by decide +kernel
theorem dX11_remove_14 : decode cX11_remove 14 = .ok (.new 134, 3) := by decide +kernel
theorem dX11_remove_17 : decode cX11_remove 17 = .ok (.dup, 1) := by decide +kernel
theorem dX11_remove_18 : decode cX11_remove 18 = .ok (.ldc 136, 2) := by decide +kernel
theorem dX11_remove_20 : decode cX11_remove 20 = .ok (.invokespecial 138, 3) := by decide +kernel
theorem dX11_remove_23 : decode cX11_remove 23 = .ok (.athrow, 1) := by decide +kernel
theorem dX11_remove_24 : decode cX11_remove 24 = .ok (.aload_n 0, 1) := by decide +kernel
theorem dX11_remove_25 : decode cX11_remove 25 = .ok (.getfield 10, 3) := by decide +kernel
theorem dX11_remove_28 : decode cX11_remove 28 = .ok (.aload_n 3, 1) := by decide +kernel
theorem dX11_remove_29 : decode cX11_remove 29 = .ok (.iload_n 2, 1) := by decide +kernel
theorem dX11_remove_30 : decode cX11_remove 30 = .ok (.invokevirtual 139, 3) := by decide +kernel
theorem dX11_remove_33 : decode cX11_remove 33 = .ok (.aload_n 0, 1) := by decide +kernel
theorem dX11_remove_34 : decode cX11_remove 34 = .ok (.aload_n 3, 1) := by decide +kernel
theorem dX11_remove_35 : decode cX11_remove 35 = .ok (.iload_n 2, 1) := by decide +kernel
theorem dX11_remove_36 : decode cX11_remove 36 = .ok (.invokevirtual 127, 3) := by decide +kernel
theorem dX11_remove_39 : decode cX11_remove 39 = .ok (.aload_n 0, 1) := by decide +kernel
theorem dX11_remove_40 : decode cX11_remove 40 = .ok (.getfield 70, 3) := by decide +kernel
theorem dX11_remove_43 : decode cX11_remove 43 = .ok (.invokevirtual 90, 3) := by decide +kernel
theorem dX11_remove_46 : decode cX11_remove 46 = .ok (.aload_n 3, 1) := by decide +kernel
theorem dX11_remove_47 : decode cX11_remove 47 = .ok (.invokevirtual 142, 3) := by decide +kernel
theorem dX11_remove_50 : decode cX11_remove 50 = .ok (.ireturn, 1) := by decide +kernel
theorem dX11_count_0 : decode cX11_count 0 = .ok (.aload_n 0, 1) := by decide +kernel
theorem dX11_count_1 : decode cX11_count 1 = .ok (.iload_n 1, 1) := by decide +kernel
theorem dX11_count_2 : decode cX11_count 2 = .ok (.invokevirtual 93, 3) := by decide +kernel
theorem dX11_count_5 : decode cX11_count 5 = .ok (.astore_n 2, 1) := by decide +kernel
theorem dX11_count_6 : decode cX11_count 6 = .ok (.aload_n 2, 1) := by decide +kernel
theorem dX11_count_7 : decode cX11_count 7 = .ok (.invokevirtual 146, 3) := by decide +kernel
theorem dX11_count_10 : decode cX11_count 10 = .ok (.aload_n 0, 1) := by decide +kernel
theorem dX11_count_11 : decode cX11_count 11 = .ok (.getfield 70, 3) := by decide +kernel
theorem dX11_count_14 : decode cX11_count 14 = .ok (.invokevirtual 90, 3) := by decide +kernel
theorem dX11_count_17 : decode cX11_count 17 = .ok (.aload_n 2, 1) := by decide +kernel
theorem dX11_count_18 : decode cX11_count 18 = .ok (.invokevirtual 149, 3) := by decide +kernel
theorem dX11_count_21 : decode cX11_count 21 = .ok (.ireturn, 1) := by decide +kernel
theorem dX11_index_0 : decode cX11_index 0 = .ok (.aload_n 0, 1) := by decide +kernel
theorem dX11_index_1 : decode cX11_index 1 = .ok (.iload_n 1, 1) := by decide +kernel
theorem dX11_index_2 : decode cX11_index 2 = .ok (.invokevirtual 93, 3) := by decide +kernel
theorem dX11_index_5 : decode cX11_index 5 = .ok (.astore_n 3, 1) := by decide +kernel
theorem dX11_index_6 : decode cX11_index 6 = .ok (.aload_n 3, 1) := by decide +kernel
theorem dX11_index_7 : decode cX11_index 7 = .ok (.iload_n 2, 1) := by decide +kernel
theorem dX11_index_8 : decode cX11_index 8 = .ok (.invokevirtual 97, 3) := by decide +kernel
theorem dX11_index_11 : decode cX11_index 11 = .ok (.ifCond .ne 13, 3) := by decide +kernel
theorem dX11_index_14 : decode cX11_index 14 = .ok (.new 74, 3) := by decide +kernel
theorem dX11_index_17 : decode cX11_index 17 = .ok (.dup, 1) := by decide +kernel
theorem dX11_index_18 : decode cX11_index 18 = .ok (.ldc 152, 2) := by decide +kernel
theorem dX11_index_20 : decode cX11_index 20 = .ok (.invokespecial 78, 3) := by decide +kernel
theorem dX11_index_23 : decode cX11_index 23 = .ok (.athrow, 1) := by decide +kernel
theorem dX11_index_24 : decode cX11_index 24 = .ok (.aload_n 0, 1) := by decide +kernel
theorem dX11_index_25 : decode cX11_index 25 = .ok (.getfield 10, 3) := by decide +kernel
theorem dX11_index_28 : decode cX11_index 28 = .ok (.aload_n 3, 1) := by decide +kernel
theorem dX11_index_29 : decode cX11_index 29 = .ok (.iload_n 2, 1) := by decide +kernel
theorem dX11_index_30 : decode cX11_index 30 = .ok (.invokevirtual 154, 3) := by decide +kernel
theorem dX11_index_33 : decode cX11_index 33 = .ok (.istore 4, 2) := by decide +kernel
theorem dX11_index_35 : decode cX11_index 35 = .ok (.iload 4, 2) := by decide +kernel
theorem dX11_index_37 : decode cX11_index 37 = .ok (.iconst (-1), 1) := by decide +kernel
theorem dX11_index_38 : decode cX11_index 38 = .ok (.if_icmp .ne 13, 3) := by decide +kernel
theorem dX11_index_41 : decode cX11_index 41 = .ok (.new 85, 3) := by decide +kernel
theorem dX11_index_44 : decode cX11_index 44 = .ok (.dup, 1) := by decide +kernel
theorem dX11_index_45 : decode cX11_index 45 = .ok (.ldc 158, 2) := by decide +kernel
theorem dX11_index_47 : decode cX11_index 47 = .ok (.invokespecial 89, 3) := by decide +kernel
theorem dX11_index_50 : decode cX11_index 50 = .ok (.athrow, 1) := by decide +kernel
theorem dX11_index_51 : decode cX11_index 51 = .ok (.aload_n 0, 1) := by decide +kernel
theorem dX11_index_52 : decode cX11_index 52 = .ok (.getfield 70, 3) := by decide +kernel
theorem dX11_index_55 : decode cX11_index 55 = .ok (.invokevirtual 90, 3) := by decide +kernel
theorem dX11_index_58 : decode cX11_index 58 = .ok (.iload 4, 2) := by decide +kernel
theorem dX11_index_60 : decode cX11_index 60 = .ok (.ireturn, 1) := by decide +kernel
theorem dX11_frames_0 : decode cX11_frames 0 = .ok (.iload_n 1, 1) := by decide +kernel
theorem dX11_frames_1 : decode cX11_frames 1 = .ok (.ifCond .lt 9, 3) := by decide +kernel
theorem dX11_frames_4 : decode cX11_frames 4 = .ok (.iload_n 1, 1) := by decide +kernel
theorem dX11_frames_5 : decode cX11_frames 5 = .ok (.bipush 12, 2) := by decide +kernel
theorem dX11_frames_7 : decode cX11_frames 7 = .ok (.if_icmp .le 13, 3) := by decide +kernel
theorem dX11_frames_10 : decode cX11_frames 10 = .ok (.new 74, 3) := by decide +kernel
theorem dX11_frames_13 : decode cX11_frames 13 = .ok (.dup, 1) := by decide +kernel
theorem dX11_frames_14 : decode cX11_frames 14 = .ok (.ldc 160, 2) := by decide +kernel
theorem dX11_frames_16 : decode cX11_frames 16 = .ok (.invokespecial 78, 3) := by decide +kernel
theorem dX11_frames_19 : decode cX11_frames 19 = .ok (.athrow, 1) := by decide +kernel
theorem dX11_frames_20 : decode cX11_frames 20 = .ok (.aload_n 0, 1) := by decide +kernel
theorem dX11_frames_21 : decode cX11_frames 21 = .ok (.getfield 29, 3) := by decide +kernel
theorem dX11_frames_24 : decode cX11_frames 24 = .ok (.invokevirtual 162, 3) := by decide +kernel
theorem dX11_frames_27 : decode cX11_frames 27 = .ok (.istore_n 2, 1) := by decide +kernel
theorem dX11_frames_28 : decode cX11_frames 28 = .ok (.aload_n 0, 1) := by decide +kernel
theorem dX11_frames_29 : decode cX11_frames 29 = .ok (.getfield 29, 3) := by decide +kernel
theorem dX11_frames_32 : decode cX11_frames 32 = .ok (.iload_n 1, 1) := by decide +kernel
theorem dX11_frames_33 : decode cX11_frames 33 = .ok (.invokevirtual 165, 3) := by decide +kernel
theorem dX11_frames_36 : decode cX11_frames 36 = .ok (.aload_n 0, 1) := by decide +kernel
theorem dX11_frames_37 : decode cX11_frames 37 = .ok (.getfield 70, 3) := by decide +kernel
theorem dX11_frames_40 : decode cX11_frames 40 = .ok (.invokevirtual 90, 3) := by decide +kernel
theorem dX11_frames_43 : decode cX11_frames 43 = .ok (.iload_n 2, 1) := by decide +kernel
theorem dX11_frames_44 : decode cX11_frames 44 = .ok (.ireturn, 1) := by decide +kernel
theorem dX11_pages_0 : decode cX11_pages 0 = .ok (.aload_n 0, 1) := by decide +kernel
theorem dX11_pages_1 : decode cX11_pages 1 = .ok (.iload_n 1, 1) := by decide +kernel
theorem dX11_pages_2 : decode cX11_pages 2 = .ok (.invokevirtual 93, 3) := by decide +kernel
theorem dX11_pages_5 : decode cX11_pages 5 = .ok (.invokevirtual 169, 3) := by decide +kernel
theorem dX11_pages_8 : decode cX11_pages 8 = .ok (.ireturn, 1) := by decide +kernel
theorem dX11_value_0 : decode cX11_value 0 = .ok (.aload_n 0, 1) := by decide +kernel
theorem dX11_value_1 : decode cX11_value 1 = .ok (.iload_n 1, 1) := by decide +kernel
theorem dX11_value_2 : decode cX11_value 2 = .ok (.invokevirtual 93, 3) := by decide +kernel
theorem dX11_value_5 : decode cX11_value 5 = .ok (.astore 4, 2) := by decide +kernel
theorem dX11_value_7 : decode cX11_value 7 = .ok (.aload 4, 2) := by decide +kernel
theorem dX11_value_9 : decode cX11_value 9 = .ok (.iload_n 3, 1) := by decide +kernel
theorem dX11_value_10 : decode cX11_value 10 = .ok (.invokevirtual 97, 3) := by decide +kernel
theorem dX11_value_13 : decode cX11_value 13 = .ok (.ifCond .ne 13, 3) := by decide +kernel
theorem dX11_value_16 : decode cX11_value 16 = .ok (.new 74, 3) := by decide +kernel
theorem dX11_value_19 : decode cX11_value 19 = .ok (.dup, 1) := by decide +kernel
theorem dX11_value_20 : decode cX11_value 20 = .ok (.ldc 152, 2) := by decide +kernel
theorem dX11_value_22 : decode cX11_value 22 = .ok (.invokespecial 78, 3) := by decide +kernel
theorem dX11_value_25 : decode cX11_value 25 = .ok (.athrow, 1) := by decide +kernel
theorem dX11_value_26 : decode cX11_value 26 = .ok (.aload 4, 2) := by decide +kernel
theorem dX11_value_28 : decode cX11_value 28 = .ok (.iload_n 2, 1) := by decide +kernel
theorem dX11_value_29 : decode cX11_value 29 = .ok (.invokevirtual 131, 3) := by decide +kernel
theorem dX11_value_32 : decode cX11_value 32 = .ok (.ifCond .ne 13, 3) := by decide +kernel
theorem dX11_value_35 : decode cX11_value 35 = .ok (.new 134, 3) := by decide +kernel
theorem dX11_value_38 : decode cX11_value 38 = .ok (.dup, 1) := by decide +kernel
theorem dX11_value_39 : decode cX11_value 39 = .ok (.ldc 136, 2) := by decide +kernel
theorem dX11_value_41 : decode cX11_value 41 = .ok (.invokespecial 138, 3) := by decide +kernel
theorem dX11_value_44 : decode cX11_value 44 = .ok (.athrow, 1) := by decide +kernel
theorem dX11_value_45 : decode cX11_value 45 = .ok (.aload 4, 2) := by decide +kernel
theorem dX11_value_47 : decode cX11_value 47 = .ok (.iload_n 2, 1) := by decide +kernel
theorem dX11_value_48 : decode cX11_value 48 = .ok (.iload_n 3, 1) := by decide +kernel
theorem dX11_value_49 : decode cX11_value 49 = .ok (.invokevirtual 172, 3) := by decide +kernel
theorem dX11_value_52 : decode cX11_value 52 = .ok (.ireturn, 1) := by decide +kernel
theorem dX11_entries_0 : decode cX11_entries 0 = .ok (.aload_n 0, 1) := by decide +kernel
theorem dX11_entries_1 : decode cX11_entries 1 = .ok (.iload_n 1, 1) := by decide +kernel
theorem dX11_entries_2 : decode cX11_entries 2 = .ok (.invokevirtual 176, 3) := by decide +kernel
theorem dX11_entries_5 : decode cX11_entries 5 = .ok (.invokevirtual 180, 3) := by decide +kernel
theorem dX11_entries_8 : decode cX11_entries 8 = .ok (.ireturn, 1) := by decide +kernel
theorem dX11_entryAt_0 : decode cX11_entryAt 0 = .ok (.aload_n 0, 1) := by decide +kernel
theorem dX11_entryAt_1 : decode cX11_entryAt 1 = .ok (.iload_n 1, 1) := by decide +kernel
theorem dX11_entryAt_2 : decode cX11_entryAt 2 = .ok (.invokevirtual 176, 3) := by decide +kernel
theorem dX11_entryAt_5 : decode cX11_entryAt 5 = .ok (.iload_n 2, 1) := by decide +kernel
theorem dX11_entryAt_6 : decode cX11_entryAt 6 = .ok (.invokevirtual 185, 3) := by decide +kernel
theorem dX11_entryAt_9 : decode cX11_entryAt 9 = .ok (.istore_n 3, 1) := by decide +kernel
theorem dX11_entryAt_10 : decode cX11_entryAt 10 = .ok (.iload_n 3, 1) := by decide +kernel
theorem dX11_entryAt_11 : decode cX11_entryAt 11 = .ok (.iconst (-1), 1) := by decide +kernel
theorem dX11_entryAt_12 : decode cX11_entryAt 12 = .ok (.if_icmp .ne 13, 3) := by decide +kernel
theorem dX11_entryAt_15 : decode cX11_entryAt 15 = .ok (.new 134, 3) := by decide +kernel
theorem dX11_entryAt_18 : decode cX11_entryAt 18 = .ok (.dup, 1) := by decide +kernel
theorem dX11_entryAt_19 : decode cX11_entryAt 19 = .ok (.ldc 188, 2) := by decide +kernel
theorem dX11_entryAt_21 : decode cX11_entryAt 21 = .ok (.invokespecial 138, 3) := by decide +kernel
theorem dX11_entryAt_24 : decode cX11_entryAt 24 = .ok (.athrow, 1) := by decide +kernel
theorem dX11_entryAt_25 : decode cX11_entryAt 25 = .ok (.iload_n 3, 1) := by decide +kernel
theorem dX11_entryAt_26 : decode cX11_entryAt 26 = .ok (.ireturn, 1) := by decide +kernel
theorem dX11_counted_0 : decode cX11_counted 0 = .ok (.aload_n 0, 1) := by decide +kernel
theorem dX11_counted_1 : decode cX11_counted 1 = .ok (.iload_n 1, 1) := by decide +kernel
theorem dX11_counted_2 : decode cX11_counted 2 = .ok (.invokevirtual 93, 3) := by decide +kernel
theorem dX11_counted_5 : decode cX11_counted 5 = .ok (.iload_n 2, 1) := by decide +kernel
theorem dX11_counted_6 : decode cX11_counted 6 = .ok (.iload_n 3, 1) := by decide +kernel
theorem dX11_counted_7 : decode cX11_counted 7 = .ok (.invokevirtual 190, 3) := by decide +kernel
theorem dX11_counted_10 : decode cX11_counted 10 = .ok (.istore 4, 2) := by decide +kernel
theorem dX11_counted_12 : decode cX11_counted 12 = .ok (.iload 4, 2) := by decide +kernel
theorem dX11_counted_14 : decode cX11_counted 14 = .ok (.iconst (-1), 1) := by decide +kernel
theorem dX11_counted_15 : decode cX11_counted 15 = .ok (.if_icmp .ne 13, 3) := by decide +kernel
theorem dX11_counted_18 : decode cX11_counted 18 = .ok (.new 74, 3) := by decide +kernel
theorem dX11_counted_21 : decode cX11_counted 21 = .ok (.dup, 1) := by decide +kernel
theorem dX11_counted_22 : decode cX11_counted 22 = .ok (.ldc 194, 2) := by decide +kernel
theorem dX11_counted_24 : decode cX11_counted 24 = .ok (.invokespecial 78, 3) := by decide +kernel
theorem dX11_counted_27 : decode cX11_counted 27 = .ok (.athrow, 1) := by decide +kernel
theorem dX11_counted_28 : decode cX11_counted 28 = .ok (.iload 4, 2) := by decide +kernel
theorem dX11_counted_30 : decode cX11_counted 30 = .ok (.ireturn, 1) := by decide +kernel
theorem dX11_cached_0 : decode cX11_cached 0 = .ok (.aload_n 0, 1) := by decide +kernel
theorem dX11_cached_1 : decode cX11_cached 1 = .ok (.getfield 29, 3) := by decide +kernel
theorem dX11_cached_4 : decode cX11_cached 4 = .ok (.invokevirtual 196, 3) := by decide +kernel
theorem dX11_cached_7 : decode cX11_cached 7 = .ok (.ireturn, 1) := by decide +kernel
theorem dX11_cachedAt_0 : decode cX11_cachedAt 0 = .ok (.aload_n 0, 1) := by decide +kernel
theorem dX11_cachedAt_1 : decode cX11_cachedAt 1 = .ok (.getfield 29, 3) := by decide +kernel
theorem dX11_cachedAt_4 : decode cX11_cachedAt 4 = .ok (.iload_n 1, 1) := by decide +kernel
theorem dX11_cachedAt_5 : decode cX11_cachedAt 5 = .ok (.invokevirtual 197, 3) := by decide +kernel
theorem dX11_cachedAt_8 : decode cX11_cachedAt 8 = .ok (.istore_n 2, 1) := by decide +kernel
theorem dX11_cachedAt_9 : decode cX11_cachedAt 9 = .ok (.iload_n 2, 1) := by decide +kernel
theorem dX11_cachedAt_10 : decode cX11_cachedAt 10 = .ok (.iconst (-1), 1) := by decide +kernel
theorem dX11_cachedAt_11 : decode cX11_cachedAt 11 = .ok (.if_icmp .ne 13, 3) := by decide +kernel
theorem dX11_cachedAt_14 : decode cX11_cachedAt 14 = .ok (.new 134, 3) := by decide +kernel
theorem dX11_cachedAt_17 : decode cX11_cachedAt 17 = .ok (.dup, 1) := by decide +kernel
theorem dX11_cachedAt_18 : decode cX11_cachedAt 18 = .ok (.ldc 188, 2) := by decide +kernel
theorem dX11_cachedAt_20 : decode cX11_cachedAt 20 = .ok (.invokespecial 138, 3) := by decide +kernel
theorem dX11_cachedAt_23 : decode cX11_cachedAt 23 = .ok (.athrow, 1) := by decide +kernel
theorem dX11_cachedAt_24 : decode cX11_cachedAt 24 = .ok (.iload_n 2, 1) := by decide +kernel
theorem dX11_cachedAt_25 : decode cX11_cachedAt 25 = .ok (.ireturn, 1) := by decide +kernel
theorem dX11_flush_0 : decode cX11_flush 0 = .ok (.aload_n 0, 1) := by decide +kernel
theorem dX11_flush_1 : decode cX11_flush 1 = .ok (.getfield 29, 3) := by decide +kernel
theorem dX11_flush_4 : decode cX11_flush 4 = .ok (.invokevirtual 196, 3) := by decide +kernel
theorem dX11_flush_7 : decode cX11_flush 7 = .ok (.istore_n 1, 1) := by decide +kernel
theorem dX11_flush_8 : decode cX11_flush 8 = .ok (.aload_n 0, 1) := by decide +kernel
theorem dX11_flush_9 : decode cX11_flush 9 = .ok (.getfield 29, 3) := by decide +kernel
theorem dX11_flush_12 : decode cX11_flush 12 = .ok (.invokevirtual 200, 3) := by decide +kernel
theorem dX11_flush_15 : decode cX11_flush 15 = .ok (.aload_n 0, 1) := by decide +kernel
theorem dX11_flush_16 : decode cX11_flush 16 = .ok (.getfield 70, 3) := by decide +kernel
theorem dX11_flush_19 : decode cX11_flush 19 = .ok (.invokevirtual 90, 3) := by decide +kernel
theorem dX11_flush_22 : decode cX11_flush 22 = .ok (.iload_n 1, 1) := by decide +kernel
theorem dX11_flush_23 : decode cX11_flush 23 = .ok (.ireturn, 1) := by decide +kernel
theorem dX11_query_0 : decode cX11_query 0 = .ok (.aload_n 0, 1) := by decide +kernel
theorem dX11_query_1 : decode cX11_query 1 = .ok (.getfield 22, 3) := by decide +kernel
theorem dX11_query_4 : decode cX11_query 4 = .ok (.ifCond .lt 15, 3) := by decide +kernel
theorem dX11_query_7 : decode cX11_query 7 = .ok (.aload_n 0, 1) := by decide +kernel
theorem dX11_query_8 : decode cX11_query 8 = .ok (.getfield 22, 3) := by decide +kernel
theorem dX11_query_11 : decode cX11_query 11 = .ok (.aload_n 0, 1) := by decide +kernel
theorem dX11_query_12 : decode cX11_query 12 = .ok (.getfield 18, 3) := by decide +kernel
theorem dX11_query_15 : decode cX11_query 15 = .ok (.arraylength, 1) := by decide +kernel
theorem dX11_query_16 : decode cX11_query 16 = .ok (.if_icmp .lt 13, 3) := by decide +kernel
theorem dX11_query_19 : decode cX11_query 19 = .ok (.new 85, 3) := by decide +kernel
theorem dX11_query_22 : decode cX11_query 22 = .ok (.dup, 1) := by decide +kernel
theorem dX11_query_23 : decode cX11_query 23 = .ok (.ldc 203, 2) := by decide +kernel
theorem dX11_query_25 : decode cX11_query 25 = .ok (.invokespecial 89, 3) := by decide +kernel
theorem dX11_query_28 : decode cX11_query 28 = .ok (.athrow, 1) := by decide +kernel
theorem dX11_query_29 : decode cX11_query 29 = .ok (.aload_n 0, 1) := by decide +kernel
theorem dX11_query_30 : decode cX11_query 30 = .ok (.getfield 22, 3) := by decide +kernel
theorem dX11_query_33 : decode cX11_query 33 = .ok (.istore_n 1, 1) := by decide +kernel
theorem dX11_query_34 : decode cX11_query 34 = .ok (.aload_n 0, 1) := by decide +kernel
theorem dX11_query_35 : decode cX11_query 35 = .ok (.getfield 18, 3) := by decide +kernel
theorem dX11_query_38 : decode cX11_query 38 = .ok (.iload_n 1, 1) := by decide +kernel
theorem dX11_query_39 : decode cX11_query 39 = .ok (.new 16, 3) := by decide +kernel
theorem dX11_query_42 : decode cX11_query 42 = .ok (.dup, 1) := by decide +kernel
theorem dX11_query_43 : decode cX11_query 43 = .ok (.invokespecial 205, 3) := by decide +kernel
theorem dX11_query_46 : decode cX11_query 46 = .ok (.aastore, 1) := by decide +kernel
theorem dX11_query_47 : decode cX11_query 47 = .ok (.aload_n 0, 1) := by decide +kernel
theorem dX11_query_48 : decode cX11_query 48 = .ok (.iload_n 1, 1) := by decide +kernel
theorem dX11_query_49 : decode cX11_query 49 = .ok (.iconst 1, 1) := by decide +kernel
theorem dX11_query_50 : decode cX11_query 50 = .ok (.iadd, 1) := by decide +kernel
theorem dX11_query_51 : decode cX11_query 51 = .ok (.putfield 22, 3) := by decide +kernel
theorem dX11_query_54 : decode cX11_query 54 = .ok (.aload_n 0, 1) := by decide +kernel
theorem dX11_query_55 : decode cX11_query 55 = .ok (.getfield 70, 3) := by decide +kernel
theorem dX11_query_58 : decode cX11_query 58 = .ok (.invokevirtual 90, 3) := by decide +kernel
theorem dX11_query_61 : decode cX11_query 61 = .ok (.iload_n 1, 1) := by decide +kernel
theorem dX11_query_62 : decode cX11_query 62 = .ok (.ireturn, 1) := by decide +kernel
theorem dX11_from_0 : decode cX11_from 0 = .ok (.aload_n 0, 1) := by decide +kernel
theorem dX11_from_1 : decode cX11_from 1 = .ok (.iload_n 1, 1) := by decide +kernel
theorem dX11_from_2 : decode cX11_from 2 = .ok (.invokevirtual 206, 3) := by decide +kernel
theorem dX11_from_5 : decode cX11_from 5 = .ok (.astore_n 3, 1) := by decide +kernel
theorem dX11_from_6 : decode cX11_from 6 = .ok (.aload_n 0, 1) := by decide +kernel
theorem dX11_from_7 : decode cX11_from 7 = .ok (.iload_n 2, 1) := by decide +kernel
theorem dX11_from_8 : decode cX11_from 8 = .ok (.invokevirtual 93, 3) := by decide +kernel
theorem dX11_from_11 : decode cX11_from 11 = .ok (.astore 4, 2) := by decide +kernel
theorem dX11_from_13 : decode cX11_from 13 = .ok (.aload_n 3, 1) := by decide +kernel
theorem dX11_from_14 : decode cX11_from 14 = .ok (.aload 4, 2) := by decide +kernel
theorem dX11_from_16 : decode cX11_from 16 = .ok (.invokevirtual 210, 3) := by decide +kernel
theorem dX11_from_19 : decode cX11_from 19 = .ok (.ifCond .ne 13, 3) := by decide +kernel
theorem dX11_from_22 : decode cX11_from 22 = .ok (.new 85, 3) := by decide +kernel
theorem dX11_from_25 : decode cX11_from 25 = .ok (.dup, 1) := by decide +kernel
theorem dX11_from_26 : decode cX11_from 26 = .ok (.ldc 214, 2) := by decide +kernel
theorem dX11_from_28 : decode cX11_from 28 = .ok (.invokespecial 89, 3) := by decide +kernel
theorem dX11_from_31 : decode cX11_from 31 = .ok (.athrow, 1) := by decide +kernel
theorem dX11_from_32 : decode cX11_from 32 = .ok (.aload_n 0, 1) := by decide +kernel
theorem dX11_from_33 : decode cX11_from 33 = .ok (.getfield 70, 3) := by decide +kernel
theorem dX11_from_36 : decode cX11_from 36 = .ok (.invokevirtual 90, 3) := by decide +kernel
theorem dX11_from_39 : decode cX11_from 39 = .ok (.aload_n 3, 1) := by decide +kernel
theorem dX11_from_40 : decode cX11_from 40 = .ok (.invokevirtual 216, 3) := by decide +kernel
theorem dX11_from_43 : decode cX11_from 43 = .ok (.ireturn, 1) := by decide +kernel
theorem dX11_where_0 : decode cX11_where 0 = .ok (.aload_n 0, 1) := by decide +kernel
theorem dX11_where_1 : decode cX11_where 1 = .ok (.iload_n 1, 1) := by decide +kernel
theorem dX11_where_2 : decode cX11_where 2 = .ok (.invokevirtual 206, 3) := by decide +kernel
theorem dX11_where_5 : decode cX11_where 5 = .ok (.astore 6, 2) := by decide +kernel
theorem dX11_where_7 : decode cX11_where 7 = .ok (.iload 4, 2) := by decide +kernel
theorem dX11_where_9 : decode cX11_where 9 = .ok (.bipush 61, 2) := by decide +kernel
theorem dX11_where_11 : decode cX11_where 11 = .ok (.if_icmp .eq 17, 3) := by decide +kernel
theorem dX11_where_14 : decode cX11_where 14 = .ok (.iload 4, 2) := by decide +kernel
theorem dX11_where_16 : decode cX11_where 16 = .ok (.bipush 60, 2) := by decide +kernel
theorem dX11_where_18 : decode cX11_where 18 = .ok (.if_icmp .eq 10, 3) := by decide +kernel
theorem dX11_where_21 : decode cX11_where 21 = .ok (.iload 4, 2) := by decide +kernel
theorem dX11_where_23 : decode cX11_where 23 = .ok (.bipush 62, 2) := by decide +kernel
theorem dX11_where_25 : decode cX11_where 25 = .ok (.if_icmp .ne 7, 3) := by decide +kernel
theorem dX11_where_28 : decode cX11_where 28 = .ok (.iconst 1, 1) := by decide +kernel
theorem dX11_where_29 : decode cX11_where 29 = .ok (.goto 4, 3) := by decide +kernel
theorem dX11_where_32 : decode cX11_where 32 = .ok (.iconst 0, 1) := by decide +kernel
theorem dX11_where_33 : decode cX11_where 33 = .ok (.istore 7, 2) := by decide +kernel
theorem dX11_where_35 : decode cX11_where 35 = .ok (.aload 6, 2) := by decide +kernel
theorem dX11_where_37 : decode cX11_where 37 = .ok (.iload_n 2, 1) := by decide +kernel
theorem dX11_where_38 : decode cX11_where 38 = .ok (.iload_n 3, 1) := by decide +kernel
theorem dX11_where_39 : decode cX11_where 39 = .ok (.invokevirtual 217, 3) := by decide +kernel
theorem dX11_where_42 : decode cX11_where 42 = .ok (.ifCond .eq 16, 3) := by decide +kernel
theorem dX11_where_45 : decode cX11_where 45 = .ok (.iload 7, 2) := by decide +kernel
theorem dX11_where_47 : decode cX11_where 47 = .ok (.ifCond .eq 11, 3) := by decide +kernel
theorem dX11_where_50 : decode cX11_where 50 = .ok (.iload 5, 2) := by decide +kernel
theorem dX11_where_52 : decode cX11_where 52 = .ok (.invokestatic 103, 3) := by decide +kernel
theorem dX11_where_55 : decode cX11_where 55 = .ok (.ifCond .ne 13, 3) := by decide +kernel
theorem dX11_where_58 : decode cX11_where 58 = .ok (.new 74, 3) := by decide +kernel
theorem dX11_where_61 : decode cX11_where 61 = .ok (.dup, 1) := by decide +kernel
theorem dX11_where_62 : decode cX11_where 62 = .ok (.ldc 220, 2) := by decide +kernel
theorem dX11_where_64 : decode cX11_where 64 = .ok (.invokespecial 78, 3) := by decide +kernel
theorem dX11_where_67 : decode cX11_where 67 = .ok (.athrow, 1) := by decide +kernel
theorem dX11_where_68 : decode cX11_where 68 = .ok (.aload 6, 2) := by decide +kernel
theorem dX11_where_70 : decode cX11_where 70 = .ok (.invokevirtual 222, 3) := by decide +kernel
theorem dX11_where_73 : decode cX11_where 73 = .ok (.iconst 4, 1) := by decide +kernel
theorem dX11_where_74 : decode cX11_where 74 = .ok (.if_icmp .lt 13, 3) := by decide +kernel
theorem dX11_where_77 : decode cX11_where 77 = .ok (.new 85, 3) := by decide +kernel
theorem dX11_where_80 : decode cX11_where 80 = .ok (.dup, 1) := by decide +kernel
theorem dX11_where_81 : decode cX11_where 81 = .ok (.ldc 225, 2) := by decide +kernel
theorem dX11_where_83 : decode cX11_where 83 = .ok (.invokespecial 89, 3) := by decide +kernel
theorem dX11_where_86 : decode cX11_where 86 = .ok (.athrow, 1) := by decide +kernel
theorem dX11_where_87 : decode cX11_where 87 = .ok (.aload 6, 2) := by decide +kernel
theorem dX11_where_89 : decode cX11_where 89 = .ok (.new 227, 3) := by decide +kernel
theorem dX11_where_92 : decode cX11_where 92 = .ok (.dup, 1) := by decide +kernel
theorem dX11_where_93 : decode cX11_where 93 = .ok (.iload_n 2, 1) := by decide +kernel
theorem dX11_where_94 : decode cX11_where 94 = .ok (.iload_n 3, 1) := by decide +kernel
theorem dX11_where_95 : decode cX11_where 95 = .ok (.iload 4, 2) := by decide +kernel
theorem dX11_where_97 : decode cX11_where 97 = .ok (.iload 5, 2) := by decide +kernel
theorem dX11_where_99 : decode cX11_where 99 = .ok (.invokespecial 229, 3) := by decide +kernel
theorem dX11_where_102 : decode cX11_where 102 = .ok (.invokevirtual 232, 3) := by decide +kernel
theorem dX11_where_105 : decode cX11_where 105 = .ok (.aload_n 0, 1) := by decide +kernel
theorem dX11_where_106 : decode cX11_where 106 = .ok (.getfield 70, 3) := by decide +kernel
theorem dX11_where_109 : decode cX11_where 109 = .ok (.invokevirtual 90, 3) := by decide +kernel
theorem dX11_where_112 : decode cX11_where 112 = .ok (.aload 6, 2) := by decide +kernel
theorem dX11_where_114 : decode cX11_where 114 = .ok (.invokevirtual 222, 3) := by decide +kernel
theorem dX11_where_117 : decode cX11_where 117 = .ok (.ireturn, 1) := by decide +kernel
theorem dX11_join_0 : decode cX11_join 0 = .ok (.aload_n 0, 1) := by decide +kernel
theorem dX11_join_1 : decode cX11_join 1 = .ok (.iload_n 1, 1) := by decide +kernel
theorem dX11_join_2 : decode cX11_join 2 = .ok (.invokevirtual 206, 3) := by decide +kernel
theorem dX11_join_5 : decode cX11_join 5 = .ok (.astore 6, 2) := by decide +kernel
theorem dX11_join_7 : decode cX11_join 7 = .ok (.aload 6, 2) := by decide +kernel
theorem dX11_join_9 : decode cX11_join 9 = .ok (.iload_n 2, 1) := by decide +kernel
theorem dX11_join_10 : decode cX11_join 10 = .ok (.iload_n 3, 1) := by decide +kernel
theorem dX11_join_11 : decode cX11_join 11 = .ok (.invokevirtual 217, 3) := by decide +kernel
theorem dX11_join_14 : decode cX11_join 14 = .ok (.ifCond .eq 21, 3) := by decide +kernel
theorem dX11_join_17 : decode cX11_join 17 = .ok (.aload 6, 2) := by decide +kernel
theorem dX11_join_19 : decode cX11_join 19 = .ok (.iload 4, 2) := by decide +kernel
theorem dX11_join_21 : decode cX11_join 21 = .ok (.iload 5, 2) := by decide +kernel
theorem dX11_join_23 : decode cX11_join 23 = .ok (.invokevirtual 217, 3) := by decide +kernel
theorem dX11_join_26 : decode cX11_join 26 = .ok (.ifCond .eq 9, 3) := by decide +kernel
theorem dX11_join_29 : decode cX11_join 29 = .ok (.iload_n 2, 1) := by decide +kernel
theorem dX11_join_30 : decode cX11_join 30 = .ok (.iload 4, 2) := by decide +kernel
theorem dX11_join_32 : decode cX11_join 32 = .ok (.if_icmp .ne 13, 3) := by decide +kernel
theorem dX11_join_35 : decode cX11_join 35 = .ok (.new 74, 3) := by decide +kernel
theorem dX11_join_38 : decode cX11_join 38 = .ok (.dup, 1) := by decide +kernel
theorem dX11_join_39 : decode cX11_join 39 = .ok (.ldc 236, 2) := by decide +kernel
theorem dX11_join_41 : decode cX11_join 41 = .ok (.invokespecial 78, 3) := by decide +kernel
theorem dX11_join_44 : decode cX11_join 44 = .ok (.athrow, 1) := by decide +kernel
theorem dX11_join_45 : decode cX11_join 45 = .ok (.aload 6, 2) := by decide +kernel
theorem dX11_join_47 : decode cX11_join 47 = .ok (.invokevirtual 238, 3) := by decide +kernel
theorem dX11_join_50 : decode cX11_join 50 = .ok (.iconst 3, 1) := by decide +kernel
theorem dX11_join_51 : decode cX11_join 51 = .ok (.if_icmp .lt 13, 3) := by decide +kernel
theorem dX11_join_54 : decode cX11_join 54 = .ok (.new 85, 3) := by decide +kernel
theorem dX11_join_57 : decode cX11_join 57 = .ok (.dup, 1) := by decide +kernel
theorem dX11_join_58 : decode cX11_join 58 = .ok (.ldc 241, 2) := by decide +kernel
theorem dX11_join_60 : decode cX11_join 60 = .ok (.invokespecial 89, 3) := by decide +kernel
theorem dX11_join_63 : decode cX11_join 63 = .ok (.athrow, 1) := by decide +kernel
theorem dX11_join_64 : decode cX11_join 64 = .ok (.aload 6, 2) := by decide +kernel
theorem dX11_join_66 : decode cX11_join 66 = .ok (.new 243, 3) := by decide +kernel
theorem dX11_join_69 : decode cX11_join 69 = .ok (.dup, 1) := by decide +kernel
theorem dX11_join_70 : decode cX11_join 70 = .ok (.iload_n 2, 1) := by decide +kernel
theorem dX11_join_71 : decode cX11_join 71 = .ok (.iload_n 3, 1) := by decide +kernel
theorem dX11_join_72 : decode cX11_join 72 = .ok (.iload 4, 2) := by decide +kernel
theorem dX11_join_74 : decode cX11_join 74 = .ok (.iload 5, 2) := by decide +kernel
theorem dX11_join_76 : decode cX11_join 76 = .ok (.invokespecial 245, 3) := by decide +kernel
theorem dX11_join_79 : decode cX11_join 79 = .ok (.invokevirtual 248, 3) := by decide +kernel
theorem dX11_join_82 : decode cX11_join 82 = .ok (.aload_n 0, 1) := by decide +kernel
theorem dX11_join_83 : decode cX11_join 83 = .ok (.getfield 70, 3) := by decide +kernel
theorem dX11_join_86 : decode cX11_join 86 = .ok (.invokevirtual 90, 3) := by decide +kernel
theorem dX11_join_89 : decode cX11_join 89 = .ok (.aload 6, 2) := by decide +kernel
theorem dX11_join_91 : decode cX11_join 91 = .ok (.invokevirtual 238, 3) := by decide +kernel
theorem dX11_join_94 : decode cX11_join 94 = .ok (.ireturn, 1) := by decide +kernel
theorem dX11_answers_0 : decode cX11_answers 0 = .ok (.aload_n 0, 1) := by decide +kernel
theorem dX11_answers_1 : decode cX11_answers 1 = .ok (.iload_n 1, 1) := by decide +kernel
theorem dX11_answers_2 : decode cX11_answers 2 = .ok (.invokevirtual 252, 3) := by decide +kernel
theorem dX11_answers_5 : decode cX11_answers 5 = .ok (.astore_n 2, 1) := by decide +kernel
theorem dX11_answers_6 : decode cX11_answers 6 = .ok (.aload_n 0, 1) := by decide +kernel
theorem dX11_answers_7 : decode cX11_answers 7 = .ok (.getfield 46, 3) := by decide +kernel
theorem dX11_answers_10 : decode cX11_answers 10 = .ok (.aload_n 2, 1) := by decide +kernel
theorem dX11_answers_11 : decode cX11_answers 11 = .ok (.iconst (-1), 1) := by decide +kernel
theorem dX11_answers_12 : decode cX11_answers 12 = .ok (.iconst 0, 1) := by decide +kernel
theorem dX11_answers_13 : decode cX11_answers 13 = .ok (.iconst 0, 1) := by decide +kernel
theorem dX11_answers_14 : decode cX11_answers 14 = .ok (.invokevirtual 255, 3) := by decide +kernel
theorem dX11_answers_17 : decode cX11_answers 17 = .ok (.aload_n 0, 1) := by decide +kernel
theorem dX11_answers_18 : decode cX11_answers 18 = .ok (.getfield 46, 3) := by decide +kernel
theorem dX11_answers_21 : decode cX11_answers 21 = .ok (.invokevirtual 259, 3) := by decide +kernel
theorem dX11_answers_24 : decode cX11_answers 24 = .ok (.ireturn, 1) := by decide +kernel
theorem dX11_answerAt_0 : decode cX11_answerAt 0 = .ok (.aload_n 0, 1) := by decide +kernel
theorem dX11_answerAt_1 : decode cX11_answerAt 1 = .ok (.iload_n 1, 1) := by decide +kernel
theorem dX11_answerAt_2 : decode cX11_answerAt 2 = .ok (.invokevirtual 206, 3) := by decide +kernel
theorem dX11_answerAt_5 : decode cX11_answerAt 5 = .ok (.astore 4, 2) := by decide +kernel
theorem dX11_answerAt_7 : decode cX11_answerAt 7 = .ok (.aload 4, 2) := by decide +kernel
theorem dX11_answerAt_9 : decode cX11_answerAt 9 = .ok (.iload_n 3, 1) := by decide +kernel
theorem dX11_answerAt_10 : decode cX11_answerAt 10 = .ok (.invokevirtual 262, 3) := by decide +kernel
theorem dX11_answerAt_13 : decode cX11_answerAt 13 = .ok (.ifCond .ne 14, 3) := by decide +kernel
theorem dX11_answerAt_16 : decode cX11_answerAt 16 = .ok (.new 74, 3) := by decide +kernel
theorem dX11_answerAt_19 : decode cX11_answerAt 19 = .ok (.dup, 1) := by decide +kernel
theorem dX11_answerAt_20 : decode cX11_answerAt 20 = .ok (.ldc_w 265, 3) := by decide +kernel
theorem dX11_answerAt_23 : decode cX11_answerAt 23 = .ok (.invokespecial 78, 3) := by decide +kernel
theorem dX11_answerAt_26 : decode cX11_answerAt 26 = .ok (.athrow, 1) := by decide +kernel
theorem dX11_answerAt_27 : decode cX11_answerAt 27 = .ok (.aload_n 0, 1) := by decide +kernel
theorem dX11_answerAt_28 : decode cX11_answerAt 28 = .ok (.getfield 46, 3) := by decide +kernel
theorem dX11_answerAt_31 : decode cX11_answerAt 31 = .ok (.aload 4, 2) := by decide +kernel
theorem dX11_answerAt_33 : decode cX11_answerAt 33 = .ok (.iload_n 2, 1) := by decide +kernel
theorem dX11_answerAt_34 : decode cX11_answerAt 34 = .ok (.iload_n 3, 1) := by decide +kernel
theorem dX11_answerAt_35 : decode cX11_answerAt 35 = .ok (.iconst 0, 1) := by decide +kernel
theorem dX11_answerAt_36 : decode cX11_answerAt 36 = .ok (.invokevirtual 255, 3) := by decide +kernel
theorem dX11_answerAt_39 : decode cX11_answerAt 39 = .ok (.aload_n 0, 1) := by decide +kernel
theorem dX11_answerAt_40 : decode cX11_answerAt 40 = .ok (.getfield 46, 3) := by decide +kernel
theorem dX11_answerAt_43 : decode cX11_answerAt 43 = .ok (.invokevirtual 267, 3) := by decide +kernel
theorem dX11_answerAt_46 : decode cX11_answerAt 46 = .ok (.istore 5, 2) := by decide +kernel
theorem dX11_answerAt_48 : decode cX11_answerAt 48 = .ok (.iload 5, 2) := by decide +kernel
theorem dX11_answerAt_50 : decode cX11_answerAt 50 = .ok (.iconst (-1), 1) := by decide +kernel
theorem dX11_answerAt_51 : decode cX11_answerAt 51 = .ok (.if_icmp .ne 14, 3) := by decide +kernel
theorem dX11_answerAt_54 : decode cX11_answerAt 54 = .ok (.new 134, 3) := by decide +kernel
theorem dX11_answerAt_57 : decode cX11_answerAt 57 = .ok (.dup, 1) := by decide +kernel
theorem dX11_answerAt_58 : decode cX11_answerAt 58 = .ok (.ldc_w 270, 3) := by decide +kernel
theorem dX11_answerAt_61 : decode cX11_answerAt 61 = .ok (.invokespecial 138, 3) := by decide +kernel
theorem dX11_answerAt_64 : decode cX11_answerAt 64 = .ok (.athrow, 1) := by decide +kernel
theorem dX11_answerAt_65 : decode cX11_answerAt 65 = .ok (.iload 5, 2) := by decide +kernel
theorem dX11_answerAt_67 : decode cX11_answerAt 67 = .ok (.ireturn, 1) := by decide +kernel
theorem dX11_sum_0 : decode cX11_sum 0 = .ok (.aload_n 0, 1) := by decide +kernel
theorem dX11_sum_1 : decode cX11_sum 1 = .ok (.iload_n 1, 1) := by decide +kernel
theorem dX11_sum_2 : decode cX11_sum 2 = .ok (.invokevirtual 206, 3) := by decide +kernel
theorem dX11_sum_5 : decode cX11_sum 5 = .ok (.astore 4, 2) := by decide +kernel
theorem dX11_sum_7 : decode cX11_sum 7 = .ok (.aload 4, 2) := by decide +kernel
theorem dX11_sum_9 : decode cX11_sum 9 = .ok (.iload_n 2, 1) := by decide +kernel
theorem dX11_sum_10 : decode cX11_sum 10 = .ok (.iload_n 3, 1) := by decide +kernel
theorem dX11_sum_11 : decode cX11_sum 11 = .ok (.invokevirtual 217, 3) := by decide +kernel
theorem dX11_sum_14 : decode cX11_sum 14 = .ok (.ifCond .ne 14, 3) := by decide +kernel
theorem dX11_sum_17 : decode cX11_sum 17 = .ok (.new 74, 3) := by decide +kernel
theorem dX11_sum_20 : decode cX11_sum 20 = .ok (.dup, 1) := by decide +kernel
theorem dX11_sum_21 : decode cX11_sum 21 = .ok (.ldc_w 272, 3) := by decide +kernel
theorem dX11_sum_24 : decode cX11_sum 24 = .ok (.invokespecial 78, 3) := by decide +kernel
theorem dX11_sum_27 : decode cX11_sum 27 = .ok (.athrow, 1) := by decide +kernel
theorem dX11_sum_28 : decode cX11_sum 28 = .ok (.aload_n 0, 1) := by decide +kernel
theorem dX11_sum_29 : decode cX11_sum 29 = .ok (.getfield 46, 3) := by decide +kernel
theorem dX11_sum_32 : decode cX11_sum 32 = .ok (.aload 4, 2) := by decide +kernel
theorem dX11_sum_34 : decode cX11_sum 34 = .ok (.iconst (-1), 1) := by decide +kernel
theorem dX11_sum_35 : decode cX11_sum 35 = .ok (.iload_n 2, 1) := by decide +kernel
theorem dX11_sum_36 : decode cX11_sum 36 = .ok (.iload_n 3, 1) := by decide +kernel
theorem dX11_sum_37 : decode cX11_sum 37 = .ok (.invokevirtual 255, 3) := by decide +kernel
theorem dX11_sum_40 : decode cX11_sum 40 = .ok (.aload_n 0, 1) := by decide +kernel
theorem dX11_sum_41 : decode cX11_sum 41 = .ok (.getfield 46, 3) := by decide +kernel
theorem dX11_sum_44 : decode cX11_sum 44 = .ok (.invokevirtual 274, 3) := by decide +kernel
theorem dX11_sum_47 : decode cX11_sum 47 = .ok (.lreturn, 1) := by decide +kernel
theorem dX11_planned_0 : decode cX11_planned 0 = .ok (.aload_n 0, 1) := by decide +kernel
theorem dX11_planned_1 : decode cX11_planned 1 = .ok (.iload_n 1, 1) := by decide +kernel
theorem dX11_planned_2 : decode cX11_planned 2 = .ok (.iload_n 2, 1) := by decide +kernel
theorem dX11_planned_3 : decode cX11_planned 3 = .ok (.iload_n 3, 1) := by decide +kernel
theorem dX11_planned_4 : decode cX11_planned 4 = .ok (.invokevirtual 278, 3) := by decide +kernel
theorem dX11_planned_7 : decode cX11_planned 7 = .ok (.iload_n 3, 1) := by decide +kernel
theorem dX11_planned_8 : decode cX11_planned 8 = .ok (.invokevirtual 282, 3) := by decide +kernel
theorem dX11_planned_11 : decode cX11_planned 11 = .ok (.ireturn, 1) := by decide +kernel
theorem dX11_way_0 : decode cX11_way 0 = .ok (.aload_n 0, 1) := by decide +kernel
theorem dX11_way_1 : decode cX11_way 1 = .ok (.iload_n 1, 1) := by decide +kernel
theorem dX11_way_2 : decode cX11_way 2 = .ok (.iload_n 2, 1) := by decide +kernel
theorem dX11_way_3 : decode cX11_way 3 = .ok (.iload_n 3, 1) := by decide +kernel
theorem dX11_way_4 : decode cX11_way 4 = .ok (.invokevirtual 278, 3) := by decide +kernel
theorem dX11_way_7 : decode cX11_way 7 = .ok (.iload_n 3, 1) := by decide +kernel
theorem dX11_way_8 : decode cX11_way 8 = .ok (.invokevirtual 285, 3) := by decide +kernel
theorem dX11_way_11 : decode cX11_way 11 = .ok (.ireturn, 1) := by decide +kernel
theorem dX11_usedIndex_0 : decode cX11_usedIndex 0 = .ok (.aload_n 0, 1) := by decide +kernel
theorem dX11_usedIndex_1 : decode cX11_usedIndex 1 = .ok (.iload_n 1, 1) := by decide +kernel
theorem dX11_usedIndex_2 : decode cX11_usedIndex 2 = .ok (.iload_n 2, 1) := by decide +kernel
theorem dX11_usedIndex_3 : decode cX11_usedIndex 3 = .ok (.iload_n 3, 1) := by decide +kernel
theorem dX11_usedIndex_4 : decode cX11_usedIndex 4 = .ok (.invokevirtual 278, 3) := by decide +kernel
theorem dX11_usedIndex_7 : decode cX11_usedIndex 7 = .ok (.iload_n 3, 1) := by decide +kernel
theorem dX11_usedIndex_8 : decode cX11_usedIndex 8 = .ok (.invokevirtual 289, 3) := by decide +kernel
theorem dX11_usedIndex_11 : decode cX11_usedIndex 11 = .ok (.ireturn, 1) := by decide +kernel
theorem dX11_estimate_0 : decode cX11_estimate 0 = .ok (.iload_n 1, 1) := by decide +kernel
theorem dX11_estimate_1 : decode cX11_estimate 1 = .ok (.invokestatic 292, 3) := by decide +kernel
theorem dX11_estimate_4 : decode cX11_estimate 4 = .ok (.aload_n 0, 1) := by decide +kernel
theorem dX11_estimate_5 : decode cX11_estimate 5 = .ok (.getfield 39, 3) := by decide +kernel
theorem dX11_estimate_8 : decode cX11_estimate 8 = .ok (.aload_n 0, 1) := by decide +kernel
theorem dX11_estimate_9 : decode cX11_estimate 9 = .ok (.getfield 53, 3) := by decide +kernel
theorem dX11_estimate_12 : decode cX11_estimate 12 = .ok (.iload_n 1, 1) := by decide +kernel
theorem dX11_estimate_13 : decode cX11_estimate 13 = .ok (.aload_n 0, 1) := by decide +kernel
theorem dX11_estimate_14 : decode cX11_estimate 14 = .ok (.getfield 10, 3) := by decide +kernel
theorem dX11_estimate_17 : decode cX11_estimate 17 = .ok (.aload_n 0, 1) := by decide +kernel
theorem dX11_estimate_18 : decode cX11_estimate 18 = .ok (.iload_n 2, 1) := by decide +kernel
theorem dX11_estimate_19 : decode cX11_estimate 19 = .ok (.invokevirtual 252, 3) := by decide +kernel
theorem dX11_estimate_22 : decode cX11_estimate 22 = .ok (.aload_n 0, 1) := by decide +kernel
theorem dX11_estimate_23 : decode cX11_estimate 23 = .ok (.getfield 70, 3) := by decide +kernel
theorem dX11_estimate_26 : decode cX11_estimate 26 = .ok (.iload_n 1, 1) := by decide +kernel
theorem dX11_estimate_27 : decode cX11_estimate 27 = .ok (.invokevirtual 295, 3) := by decide +kernel
theorem dX11_estimate_30 : decode cX11_estimate 30 = .ok (.invokevirtual 298, 3) := by decide +kernel
theorem dX11_estimate_33 : decode cX11_estimate 33 = .ok (.aload_n 0, 1) := by decide +kernel
theorem dX11_estimate_34 : decode cX11_estimate 34 = .ok (.getfield 53, 3) := by decide +kernel
theorem dX11_estimate_37 : decode cX11_estimate 37 = .ok (.invokevirtual 302, 3) := by decide +kernel
theorem dX11_estimate_40 : decode cX11_estimate 40 = .ok (.lreturn, 1) := by decide +kernel
theorem dX11_cold_0 : decode cX11_cold 0 = .ok (.iload_n 1, 1) := by decide +kernel
theorem dX11_cold_1 : decode cX11_cold 1 = .ok (.invokestatic 292, 3) := by decide +kernel
theorem dX11_cold_4 : decode cX11_cold 4 = .ok (.aload_n 0, 1) := by decide +kernel
theorem dX11_cold_5 : decode cX11_cold 5 = .ok (.iload_n 1, 1) := by decide +kernel
theorem dX11_cold_6 : decode cX11_cold 6 = .ok (.aload_n 0, 1) := by decide +kernel
theorem dX11_cold_7 : decode cX11_cold 7 = .ok (.iload_n 2, 1) := by decide +kernel
theorem dX11_cold_8 : decode cX11_cold 8 = .ok (.invokevirtual 252, 3) := by decide +kernel
theorem dX11_cold_11 : decode cX11_cold 11 = .ok (.invokevirtual 305, 3) := by decide +kernel
theorem dX11_cold_14 : decode cX11_cold 14 = .ok (.aload_n 0, 1) := by decide +kernel
theorem dX11_cold_15 : decode cX11_cold 15 = .ok (.getfield 46, 3) := by decide +kernel
theorem dX11_cold_18 : decode cX11_cold 18 = .ok (.invokevirtual 309, 3) := by decide +kernel
theorem dX11_cold_21 : decode cX11_cold 21 = .ok (.ireturn, 1) := by decide +kernel
theorem dX11_reads_0 : decode cX11_reads 0 = .ok (.iload_n 1, 1) := by decide +kernel
theorem dX11_reads_1 : decode cX11_reads 1 = .ok (.invokestatic 292, 3) := by decide +kernel
theorem dX11_reads_4 : decode cX11_reads 4 = .ok (.aload_n 0, 1) := by decide +kernel
theorem dX11_reads_5 : decode cX11_reads 5 = .ok (.iload_n 1, 1) := by decide +kernel
theorem dX11_reads_6 : decode cX11_reads 6 = .ok (.aload_n 0, 1) := by decide +kernel
theorem dX11_reads_7 : decode cX11_reads 7 = .ok (.iload_n 2, 1) := by decide +kernel
theorem dX11_reads_8 : decode cX11_reads 8 = .ok (.invokevirtual 252, 3) := by decide +kernel
theorem dX11_reads_11 : decode cX11_reads 11 = .ok (.invokevirtual 305, 3) := by decide +kernel
theorem dX11_reads_14 : decode cX11_reads 14 = .ok (.aload_n 0, 1) := by decide +kernel
theorem dX11_reads_15 : decode cX11_reads 15 = .ok (.getfield 46, 3) := by decide +kernel
theorem dX11_reads_18 : decode cX11_reads 18 = .ok (.invokevirtual 312, 3) := by decide +kernel
theorem dX11_reads_21 : decode cX11_reads 21 = .ok (.ireturn, 1) := by decide +kernel
theorem dX11_ban_0 : decode cX11_ban 0 = .ok (.iload_n 1, 1) := by decide +kernel
theorem dX11_ban_1 : decode cX11_ban 1 = .ok (.invokestatic 292, 3) := by decide +kernel
theorem dX11_ban_4 : decode cX11_ban 4 = .ok (.aload_n 0, 1) := by decide +kernel
theorem dX11_ban_5 : decode cX11_ban 5 = .ok (.iload_n 2, 1) := by decide +kernel
theorem dX11_ban_6 : decode cX11_ban 6 = .ok (.invokevirtual 176, 3) := by decide +kernel
theorem dX11_ban_9 : decode cX11_ban 9 = .ok (.pop, 1) := by decide +kernel
theorem dX11_ban_10 : decode cX11_ban 10 = .ok (.iconst 1, 1) := by decide +kernel
theorem dX11_ban_11 : decode cX11_ban 11 = .ok (.iload_n 1, 1) := by decide +kernel
theorem dX11_ban_12 : decode cX11_ban 12 = .ok (.isub, 1) := by decide +kernel
theorem dX11_ban_13 : decode cX11_ban 13 = .ok (.istore_n 3, 1) := by decide +kernel
theorem dX11_ban_14 : decode cX11_ban 14 = .ok (.aload_n 0, 1) := by decide +kernel
theorem dX11_ban_15 : decode cX11_ban 15 = .ok (.getfield 70, 3) := by decide +kernel
theorem dX11_ban_18 : decode cX11_ban 18 = .ok (.iload_n 3, 1) := by decide +kernel
theorem dX11_ban_19 : decode cX11_ban 19 = .ok (.invokevirtual 295, 3) := by decide +kernel
theorem dX11_ban_22 : decode cX11_ban 22 = .ok (.iload_n 2, 1) := by decide +kernel
theorem dX11_ban_23 : decode cX11_ban 23 = .ok (.invokestatic 315, 3) := by decide +kernel
theorem dX11_ban_26 : decode cX11_ban 26 = .ok (.ifCond .ne 18, 3) := by decide +kernel
theorem dX11_ban_29 : decode cX11_ban 29 = .ok (.aload_n 0, 1) := by decide +kernel
theorem dX11_ban_30 : decode cX11_ban 30 = .ok (.getfield 70, 3) := by decide +kernel
theorem dX11_ban_33 : decode cX11_ban 33 = .ok (.iload_n 3, 1) := by decide +kernel
theorem dX11_ban_34 : decode cX11_ban 34 = .ok (.invokevirtual 295, 3) := by decide +kernel
theorem dX11_ban_37 : decode cX11_ban 37 = .ok (.invokestatic 318, 3) := by decide +kernel
theorem dX11_ban_40 : decode cX11_ban 40 = .ok (.iconst 2, 1) := by decide +kernel
theorem dX11_ban_41 : decode cX11_ban 41 = .ok (.if_icmp .lt 14, 3) := by decide +kernel
theorem dX11_ban_44 : decode cX11_ban 44 = .ok (.new 323, 3) := by decide +kernel
theorem dX11_ban_47 : decode cX11_ban 47 = .ok (.dup, 1) := by decide +kernel
theorem dX11_ban_48 : decode cX11_ban 48 = .ok (.ldc_w 325, 3) := by decide +kernel
theorem dX11_ban_51 : decode cX11_ban 51 = .ok (.invokespecial 327, 3) := by decide +kernel
theorem dX11_ban_54 : decode cX11_ban 54 = .ok (.athrow, 1) := by decide +kernel
theorem dX11_ban_55 : decode cX11_ban 55 = .ok (.aload_n 0, 1) := by decide +kernel
theorem dX11_ban_56 : decode cX11_ban 56 = .ok (.getfield 70, 3) := by decide +kernel
theorem dX11_ban_59 : decode cX11_ban 59 = .ok (.iload_n 1, 1) := by decide +kernel
theorem dX11_ban_60 : decode cX11_ban 60 = .ok (.invokevirtual 328, 3) := by decide +kernel
theorem dX11_ban_63 : decode cX11_ban 63 = .ok (.iconst 2, 1) := by decide +kernel
theorem dX11_ban_64 : decode cX11_ban 64 = .ok (.if_icmp .ge 14, 3) := by decide +kernel
theorem dX11_ban_67 : decode cX11_ban 67 = .ok (.new 85, 3) := by decide +kernel
theorem dX11_ban_70 : decode cX11_ban 70 = .ok (.dup, 1) := by decide +kernel
theorem dX11_ban_71 : decode cX11_ban 71 = .ok (.ldc_w 331, 3) := by decide +kernel
theorem dX11_ban_74 : decode cX11_ban 74 = .ok (.invokespecial 89, 3) := by decide +kernel
theorem dX11_ban_77 : decode cX11_ban 77 = .ok (.athrow, 1) := by decide +kernel
theorem dX11_ban_78 : decode cX11_ban 78 = .ok (.aload_n 0, 1) := by decide +kernel
theorem dX11_ban_79 : decode cX11_ban 79 = .ok (.getfield 70, 3) := by decide +kernel
theorem dX11_ban_82 : decode cX11_ban 82 = .ok (.iload_n 3, 1) := by decide +kernel
theorem dX11_ban_83 : decode cX11_ban 83 = .ok (.iload_n 2, 1) := by decide +kernel
theorem dX11_ban_84 : decode cX11_ban 84 = .ok (.invokevirtual 333, 3) := by decide +kernel
theorem dX11_ban_87 : decode cX11_ban 87 = .ok (.aload_n 0, 1) := by decide +kernel
theorem dX11_ban_88 : decode cX11_ban 88 = .ok (.getfield 70, 3) := by decide +kernel
theorem dX11_ban_91 : decode cX11_ban 91 = .ok (.iload_n 1, 1) := by decide +kernel
theorem dX11_ban_92 : decode cX11_ban 92 = .ok (.bipush (-2), 2) := by decide +kernel
theorem dX11_ban_94 : decode cX11_ban 94 = .ok (.invokevirtual 337, 3) := by decide +kernel
theorem dX11_ban_97 : decode cX11_ban 97 = .ok (.aload_n 0, 1) := by decide +kernel
theorem dX11_ban_98 : decode cX11_ban 98 = .ok (.getfield 70, 3) := by decide +kernel
theorem dX11_ban_101 : decode cX11_ban 101 = .ok (.iload_n 1, 1) := by decide +kernel
theorem dX11_ban_102 : decode cX11_ban 102 = .ok (.invokevirtual 328, 3) := by decide +kernel
theorem dX11_ban_105 : decode cX11_ban 105 = .ok (.ireturn, 1) := by decide +kernel
theorem dX11_round_0 : decode cX11_round 0 = .ok (.aload_n 0, 1) := by decide +kernel
theorem dX11_round_1 : decode cX11_round 1 = .ok (.iload_n 1, 1) := by decide +kernel
theorem dX11_round_2 : decode cX11_round 2 = .ok (.invokevirtual 252, 3) := by decide +kernel
theorem dX11_round_5 : decode cX11_round 5 = .ok (.astore_n 2, 1) := by decide +kernel
theorem dX11_round_6 : decode cX11_round 6 = .ok (.aload_n 0, 1) := by decide +kernel
theorem dX11_round_7 : decode cX11_round 7 = .ok (.getfield 39, 3) := by decide +kernel
theorem dX11_round_10 : decode cX11_round 10 = .ok (.aload_n 0, 1) := by decide +kernel
theorem dX11_round_11 : decode cX11_round 11 = .ok (.getfield 57, 3) := by decide +kernel
theorem dX11_round_14 : decode cX11_round 14 = .ok (.iconst 0, 1) := by decide +kernel
theorem dX11_round_15 : decode cX11_round 15 = .ok (.aload_n 0, 1) := by decide +kernel
theorem dX11_round_16 : decode cX11_round 16 = .ok (.getfield 10, 3) := by decide +kernel
theorem dX11_round_19 : decode cX11_round 19 = .ok (.aload_n 2, 1) := by decide +kernel
theorem dX11_round_20 : decode cX11_round 20 = .ok (.aload_n 0, 1) := by decide +kernel
theorem dX11_round_21 : decode cX11_round 21 = .ok (.getfield 70, 3) := by decide +kernel
theorem dX11_round_24 : decode cX11_round 24 = .ok (.iconst 0, 1) := by decide +kernel
theorem dX11_round_25 : decode cX11_round 25 = .ok (.invokevirtual 295, 3) := by decide +kernel
theorem dX11_round_28 : decode cX11_round 28 = .ok (.invokevirtual 298, 3) := by decide +kernel
theorem dX11_round_31 : decode cX11_round 31 = .ok (.aload_n 0, 1) := by decide +kernel
theorem dX11_round_32 : decode cX11_round 32 = .ok (.getfield 39, 3) := by decide +kernel
theorem dX11_round_35 : decode cX11_round 35 = .ok (.aload_n 0, 1) := by decide +kernel
theorem dX11_round_36 : decode cX11_round 36 = .ok (.getfield 60, 3) := by decide +kernel
theorem dX11_round_39 : decode cX11_round 39 = .ok (.iconst 1, 1) := by decide +kernel
theorem dX11_round_40 : decode cX11_round 40 = .ok (.aload_n 0, 1) := by decide +kernel
theorem dX11_round_41 : decode cX11_round 41 = .ok (.getfield 10, 3) := by decide +kernel
theorem dX11_round_44 : decode cX11_round 44 = .ok (.aload_n 2, 1) := by decide +kernel
theorem dX11_round_45 : decode cX11_round 45 = .ok (.aload_n 0, 1) := by decide +kernel
theorem dX11_round_46 : decode cX11_round 46 = .ok (.getfield 70, 3) := by decide +kernel
theorem dX11_round_49 : decode cX11_round 49 = .ok (.iconst 1, 1) := by decide +kernel
theorem dX11_round_50 : decode cX11_round 50 = .ok (.invokevirtual 295, 3) := by decide +kernel
theorem dX11_round_53 : decode cX11_round 53 = .ok (.invokevirtual 298, 3) := by decide +kernel
theorem dX11_round_56 : decode cX11_round 56 = .ok (.aload_n 0, 1) := by decide +kernel
theorem dX11_round_57 : decode cX11_round 57 = .ok (.aload_n 2, 1) := by decide +kernel
theorem dX11_round_58 : decode cX11_round 58 = .ok (.putfield 63, 3) := by decide +kernel
theorem dX11_round_61 : decode cX11_round 61 = .ok (.aload_n 0, 1) := by decide +kernel
theorem dX11_round_62 : decode cX11_round 62 = .ok (.getfield 70, 3) := by decide +kernel
theorem dX11_round_65 : decode cX11_round 65 = .ok (.invokevirtual 340, 3) := by decide +kernel
theorem dX11_round_68 : decode cX11_round 68 = .ok (.iconst 2, 1) := by decide +kernel
theorem dX11_round_69 : decode cX11_round 69 = .ok (.irem, 1) := by decide +kernel
theorem dX11_round_70 : decode cX11_round 70 = .ok (.ifCond .ne 7, 3) := by decide +kernel
theorem dX11_round_73 : decode cX11_round 73 = .ok (.iconst 1, 1) := by decide +kernel
theorem dX11_round_74 : decode cX11_round 74 = .ok (.goto 4, 3) := by decide +kernel
theorem dX11_round_77 : decode cX11_round 77 = .ok (.iconst 0, 1) := by decide +kernel
theorem dX11_round_78 : decode cX11_round 78 = .ok (.istore_n 3, 1) := by decide +kernel
theorem dX11_round_79 : decode cX11_round 79 = .ok (.aload_n 0, 1) := by decide +kernel
theorem dX11_round_80 : decode cX11_round 80 = .ok (.getfield 46, 3) := by decide +kernel
theorem dX11_round_83 : decode cX11_round 83 = .ok (.aload_n 0, 1) := by decide +kernel
theorem dX11_round_84 : decode cX11_round 84 = .ok (.getfield 10, 3) := by decide +kernel
theorem dX11_round_87 : decode cX11_round 87 = .ok (.aload_n 2, 1) := by decide +kernel
theorem dX11_round_88 : decode cX11_round 88 = .ok (.iload_n 3, 1) := by decide +kernel
theorem dX11_round_89 : decode cX11_round 89 = .ok (.ifCond .eq 10, 3) := by decide +kernel
theorem dX11_round_92 : decode cX11_round 92 = .ok (.aload_n 0, 1) := by decide +kernel
theorem dX11_round_93 : decode cX11_round 93 = .ok (.getfield 57, 3) := by decide +kernel
theorem dX11_round_96 : decode cX11_round 96 = .ok (.goto 7, 3) := by decide +kernel
theorem dX11_round_99 : decode cX11_round 99 = .ok (.aload_n 0, 1) := by decide +kernel
theorem dX11_round_100 : decode cX11_round 100 = .ok (.getfield 60, 3) := by decide +kernel
theorem dX11_round_103 : decode cX11_round 103 = .ok (.aload_n 0, 1) := by decide +kernel
theorem dX11_round_104 : decode cX11_round 104 = .ok (.getfield 29, 3) := by decide +kernel
theorem dX11_round_107 : decode cX11_round 107 = .ok (.invokevirtual 343, 3) := by decide +kernel
theorem dX11_round_110 : decode cX11_round 110 = .ok (.istore 4, 2) := by decide +kernel
theorem dX11_round_112 : decode cX11_round 112 = .ok (.aload_n 0, 1) := by decide +kernel
theorem dX11_round_113 : decode cX11_round 113 = .ok (.getfield 46, 3) := by decide +kernel
theorem dX11_round_116 : decode cX11_round 116 = .ok (.aload_n 0, 1) := by decide +kernel
theorem dX11_round_117 : decode cX11_round 117 = .ok (.getfield 10, 3) := by decide +kernel
theorem dX11_round_120 : decode cX11_round 120 = .ok (.aload_n 2, 1) := by decide +kernel
theorem dX11_round_121 : decode cX11_round 121 = .ok (.iload_n 3, 1) := by decide +kernel
theorem dX11_round_122 : decode cX11_round 122 = .ok (.ifCond .eq 10, 3) := by decide +kernel
theorem dX11_round_125 : decode cX11_round 125 = .ok (.aload_n 0, 1) := by decide +kernel
theorem dX11_round_126 : decode cX11_round 126 = .ok (.getfield 60, 3) := by decide +kernel
theorem dX11_round_129 : decode cX11_round 129 = .ok (.goto 7, 3) := by decide +kernel
theorem dX11_round_132 : decode cX11_round 132 = .ok (.aload_n 0, 1) := by decide +kernel
theorem dX11_round_133 : decode cX11_round 133 = .ok (.getfield 57, 3) := by decide +kernel
theorem dX11_round_136 : decode cX11_round 136 = .ok (.aload_n 0, 1) := by decide +kernel
theorem dX11_round_137 : decode cX11_round 137 = .ok (.getfield 29, 3) := by decide +kernel
theorem dX11_round_140 : decode cX11_round 140 = .ok (.invokevirtual 343, 3) := by decide +kernel
theorem dX11_round_143 : decode cX11_round 143 = .ok (.istore 5, 2) := by decide +kernel
theorem dX11_round_145 : decode cX11_round 145 = .ok (.aload_n 0, 1) := by decide +kernel
theorem dX11_round_146 : decode cX11_round 146 = .ok (.getfield 70, 3) := by decide +kernel
theorem dX11_round_149 : decode cX11_round 149 = .ok (.iload_n 3, 1) := by decide +kernel
theorem dX11_round_150 : decode cX11_round 150 = .ok (.ifCond .eq 8, 3) := by decide +kernel
theorem dX11_round_153 : decode cX11_round 153 = .ok (.iload 4, 2) := by decide +kernel
theorem dX11_round_155 : decode cX11_round 155 = .ok (.goto 5, 3) := by decide +kernel
theorem dX11_round_158 : decode cX11_round 158 = .ok (.iload 5, 2) := by decide +kernel
theorem dX11_round_160 : decode cX11_round 160 = .ok (.iload_n 3, 1) := by decide +kernel
theorem dX11_round_161 : decode cX11_round 161 = .ok (.ifCond .eq 8, 3) := by decide +kernel
theorem dX11_round_164 : decode cX11_round 164 = .ok (.iload 5, 2) := by decide +kernel
theorem dX11_round_166 : decode cX11_round 166 = .ok (.goto 5, 3) := by decide +kernel
theorem dX11_round_169 : decode cX11_round 169 = .ok (.iload 4, 2) := by decide +kernel
theorem dX11_round_171 : decode cX11_round 171 = .ok (.invokevirtual 347, 3) := by decide +kernel
theorem dX11_round_174 : decode cX11_round 174 = .ok (.aload_n 0, 1) := by decide +kernel
theorem dX11_round_175 : decode cX11_round 175 = .ok (.getfield 70, 3) := by decide +kernel
theorem dX11_round_178 : decode cX11_round 178 = .ok (.invokevirtual 350, 3) := by decide +kernel
theorem dX11_round_181 : decode cX11_round 181 = .ok (.ireturn, 1) := by decide +kernel
theorem dX11_appeal_0 : decode cX11_appeal 0 = .ok (.iload_n 1, 1) := by decide +kernel
theorem dX11_appeal_1 : decode cX11_appeal 1 = .ok (.invokestatic 292, 3) := by decide +kernel
theorem dX11_appeal_4 : decode cX11_appeal 4 = .ok (.aload_n 0, 1) := by decide +kernel
theorem dX11_appeal_5 : decode cX11_appeal 5 = .ok (.getfield 70, 3) := by decide +kernel
theorem dX11_appeal_8 : decode cX11_appeal 8 = .ok (.invokevirtual 353, 3) := by decide +kernel
theorem dX11_appeal_11 : decode cX11_appeal 11 = .ok (.ifCond .eq 10, 3) := by decide +kernel
theorem dX11_appeal_14 : decode cX11_appeal 14 = .ok (.aload_n 0, 1) := by decide +kernel
theorem dX11_appeal_15 : decode cX11_appeal 15 = .ok (.getfield 63, 3) := by decide +kernel
theorem dX11_appeal_18 : decode cX11_appeal 18 = .ok (.ifnonnull 14, 3) := by decide +kernel
theorem dX11_appeal_21 : decode cX11_appeal 21 = .ok (.new 323, 3) := by decide +kernel
theorem dX11_appeal_24 : decode cX11_appeal 24 = .ok (.dup, 1) := by decide +kernel
theorem dX11_appeal_25 : decode cX11_appeal 25 = .ok (.ldc_w 357, 3) := by decide +kernel
theorem dX11_appeal_28 : decode cX11_appeal 28 = .ok (.invokespecial 327, 3) := by decide +kernel
theorem dX11_appeal_31 : decode cX11_appeal 31 = .ok (.athrow, 1) := by decide +kernel
theorem dX11_appeal_32 : decode cX11_appeal 32 = .ok (.aload_n 0, 1) := by decide +kernel
theorem dX11_appeal_33 : decode cX11_appeal 33 = .ok (.getfield 70, 3) := by decide +kernel
theorem dX11_appeal_36 : decode cX11_appeal 36 = .ok (.iload_n 1, 1) := by decide +kernel
theorem dX11_appeal_37 : decode cX11_appeal 37 = .ok (.invokevirtual 328, 3) := by decide +kernel
theorem dX11_appeal_40 : decode cX11_appeal 40 = .ok (.iconst 1, 1) := by decide +kernel
theorem dX11_appeal_41 : decode cX11_appeal 41 = .ok (.if_icmp .ge 14, 3) := by decide +kernel
theorem dX11_appeal_44 : decode cX11_appeal 44 = .ok (.new 85, 3) := by decide +kernel
theorem dX11_appeal_47 : decode cX11_appeal 47 = .ok (.dup, 1) := by decide +kernel
theorem dX11_appeal_48 : decode cX11_appeal 48 = .ok (.ldc_w 359, 3) := by decide +kernel
theorem dX11_appeal_51 : decode cX11_appeal 51 = .ok (.invokespecial 89, 3) := by decide +kernel
theorem dX11_appeal_54 : decode cX11_appeal 54 = .ok (.athrow, 1) := by decide +kernel
theorem dX11_appeal_55 : decode cX11_appeal 55 = .ok (.aload_n 0, 1) := by decide +kernel
theorem dX11_appeal_56 : decode cX11_appeal 56 = .ok (.getfield 46, 3) := by decide +kernel
theorem dX11_appeal_59 : decode cX11_appeal 59 = .ok (.aload_n 0, 1) := by decide +kernel
theorem dX11_appeal_60 : decode cX11_appeal 60 = .ok (.getfield 10, 3) := by decide +kernel
theorem dX11_appeal_63 : decode cX11_appeal 63 = .ok (.aload_n 0, 1) := by decide +kernel
theorem dX11_appeal_64 : decode cX11_appeal 64 = .ok (.getfield 63, 3) := by decide +kernel
theorem dX11_appeal_67 : decode cX11_appeal 67 = .ok (.aload_n 0, 1) := by decide +kernel
theorem dX11_appeal_68 : decode cX11_appeal 68 = .ok (.getfield 57, 3) := by decide +kernel
theorem dX11_appeal_71 : decode cX11_appeal 71 = .ok (.aload_n 0, 1) := by decide +kernel
theorem dX11_appeal_72 : decode cX11_appeal 72 = .ok (.invokevirtual 361, 3) := by decide +kernel
theorem dX11_appeal_75 : decode cX11_appeal 75 = .ok (.invokevirtual 343, 3) := by decide +kernel
theorem dX11_appeal_78 : decode cX11_appeal 78 = .ok (.istore_n 2, 1) := by decide +kernel
theorem dX11_appeal_79 : decode cX11_appeal 79 = .ok (.aload_n 0, 1) := by decide +kernel
theorem dX11_appeal_80 : decode cX11_appeal 80 = .ok (.getfield 46, 3) := by decide +kernel
theorem dX11_appeal_83 : decode cX11_appeal 83 = .ok (.aload_n 0, 1) := by decide +kernel
theorem dX11_appeal_84 : decode cX11_appeal 84 = .ok (.getfield 10, 3) := by decide +kernel
theorem dX11_appeal_87 : decode cX11_appeal 87 = .ok (.aload_n 0, 1) := by decide +kernel
theorem dX11_appeal_88 : decode cX11_appeal 88 = .ok (.getfield 63, 3) := by decide +kernel
theorem dX11_appeal_91 : decode cX11_appeal 91 = .ok (.aload_n 0, 1) := by decide +kernel
theorem dX11_appeal_92 : decode cX11_appeal 92 = .ok (.getfield 60, 3) := by decide +kernel
theorem dX11_appeal_95 : decode cX11_appeal 95 = .ok (.aload_n 0, 1) := by decide +kernel
theorem dX11_appeal_96 : decode cX11_appeal 96 = .ok (.invokevirtual 361, 3) := by decide +kernel
theorem dX11_appeal_99 : decode cX11_appeal 99 = .ok (.invokevirtual 343, 3) := by decide +kernel
theorem dX11_appeal_102 : decode cX11_appeal 102 = .ok (.istore_n 3, 1) := by decide +kernel
theorem dX11_appeal_103 : decode cX11_appeal 103 = .ok (.aload_n 0, 1) := by decide +kernel
theorem dX11_appeal_104 : decode cX11_appeal 104 = .ok (.getfield 70, 3) := by decide +kernel
theorem dX11_appeal_107 : decode cX11_appeal 107 = .ok (.iload_n 1, 1) := by decide +kernel
theorem dX11_appeal_108 : decode cX11_appeal 108 = .ok (.iload_n 2, 1) := by decide +kernel
theorem dX11_appeal_109 : decode cX11_appeal 109 = .ok (.iload_n 3, 1) := by decide +kernel
theorem dX11_appeal_110 : decode cX11_appeal 110 = .ok (.invokevirtual 365, 3) := by decide +kernel
theorem dX11_appeal_113 : decode cX11_appeal 113 = .ok (.aload_n 0, 1) := by decide +kernel
theorem dX11_appeal_114 : decode cX11_appeal 114 = .ok (.getfield 70, 3) := by decide +kernel
theorem dX11_appeal_117 : decode cX11_appeal 117 = .ok (.invokevirtual 350, 3) := by decide +kernel
theorem dX11_appeal_120 : decode cX11_appeal 120 = .ok (.ireturn, 1) := by decide +kernel
theorem dX11_coins_0 : decode cX11_coins 0 = .ok (.iload_n 1, 1) := by decide +kernel
theorem dX11_coins_1 : decode cX11_coins 1 = .ok (.invokestatic 292, 3) := by decide +kernel
theorem dX11_coins_4 : decode cX11_coins 4 = .ok (.aload_n 0, 1) := by decide +kernel
theorem dX11_coins_5 : decode cX11_coins 5 = .ok (.getfield 70, 3) := by decide +kernel
theorem dX11_coins_8 : decode cX11_coins 8 = .ok (.iload_n 1, 1) := by decide +kernel
theorem dX11_coins_9 : decode cX11_coins 9 = .ok (.invokevirtual 328, 3) := by decide +kernel
theorem dX11_coins_12 : decode cX11_coins 12 = .ok (.ireturn, 1) := by decide +kernel
theorem dX11_misses_0 : decode cX11_misses 0 = .ok (.iload_n 1, 1) := by decide +kernel
theorem dX11_misses_1 : decode cX11_misses 1 = .ok (.invokestatic 292, 3) := by decide +kernel
theorem dX11_misses_4 : decode cX11_misses 4 = .ok (.aload_n 0, 1) := by decide +kernel
theorem dX11_misses_5 : decode cX11_misses 5 = .ok (.getfield 70, 3) := by decide +kernel
theorem dX11_misses_8 : decode cX11_misses 8 = .ok (.iload_n 1, 1) := by decide +kernel
theorem dX11_misses_9 : decode cX11_misses 9 = .ok (.iload_n 2, 1) := by decide +kernel
theorem dX11_misses_10 : decode cX11_misses 10 = .ok (.invokevirtual 368, 3) := by decide +kernel
theorem dX11_misses_13 : decode cX11_misses 13 = .ok (.istore_n 3, 1) := by decide +kernel
theorem dX11_misses_14 : decode cX11_misses 14 = .ok (.iload_n 3, 1) := by decide +kernel
theorem dX11_misses_15 : decode cX11_misses 15 = .ok (.iconst (-1), 1) := by decide +kernel
theorem dX11_misses_16 : decode cX11_misses 16 = .ok (.if_icmp .ne 14, 3) := by decide +kernel
theorem dX11_misses_19 : decode cX11_misses 19 = .ok (.new 134, 3) := by decide +kernel
theorem dX11_misses_22 : decode cX11_misses 22 = .ok (.dup, 1) := by decide +kernel
theorem dX11_misses_23 : decode cX11_misses 23 = .ok (.ldc_w 371, 3) := by decide +kernel
theorem dX11_misses_26 : decode cX11_misses 26 = .ok (.invokespecial 138, 3) := by decide +kernel
theorem dX11_misses_29 : decode cX11_misses 29 = .ok (.athrow, 1) := by decide +kernel
theorem dX11_misses_30 : decode cX11_misses 30 = .ok (.iload_n 3, 1) := by decide +kernel
theorem dX11_misses_31 : decode cX11_misses 31 = .ok (.ireturn, 1) := by decide +kernel
theorem dX11_total_0 : decode cX11_total 0 = .ok (.iload_n 1, 1) := by decide +kernel
theorem dX11_total_1 : decode cX11_total 1 = .ok (.invokestatic 292, 3) := by decide +kernel
theorem dX11_total_4 : decode cX11_total 4 = .ok (.aload_n 0, 1) := by decide +kernel
theorem dX11_total_5 : decode cX11_total 5 = .ok (.getfield 70, 3) := by decide +kernel
theorem dX11_total_8 : decode cX11_total 8 = .ok (.iload_n 1, 1) := by decide +kernel
theorem dX11_total_9 : decode cX11_total 9 = .ok (.invokevirtual 373, 3) := by decide +kernel
theorem dX11_total_12 : decode cX11_total 12 = .ok (.ireturn, 1) := by decide +kernel
theorem dX11_rounds_0 : decode cX11_rounds 0 = .ok (.aload_n 0, 1) := by decide +kernel
theorem dX11_rounds_1 : decode cX11_rounds 1 = .ok (.getfield 70, 3) := by decide +kernel
theorem dX11_rounds_4 : decode cX11_rounds 4 = .ok (.invokevirtual 340, 3) := by decide +kernel
theorem dX11_rounds_7 : decode cX11_rounds 7 = .ok (.ireturn, 1) := by decide +kernel
theorem dX11_print_0 : decode cX11_print 0 = .ok (.aload_n 0, 1) := by decide +kernel
theorem dX11_print_1 : decode cX11_print 1 = .ok (.getfield 10, 3) := by decide +kernel
theorem dX11_print_4 : decode cX11_print 4 = .ok (.ldc2_w 376, 3) := by decide +kernel
theorem dX11_print_7 : decode cX11_print 7 = .ok (.invokevirtual 378, 3) := by decide +kernel
theorem dX11_print_10 : decode cX11_print 10 = .ok (.lstore_n 1, 1) := by decide +kernel
theorem dX11_print_11 : decode cX11_print 11 = .ok (.ldc2_w 382, 3) := by decide +kernel
theorem dX11_print_14 : decode cX11_print 14 = .ok (.lload_n 1, 1) := by decide +kernel
theorem dX11_print_15 : decode cX11_print 15 = .ok (.lmul, 1) := by decide +kernel
theorem dX11_print_16 : decode cX11_print 16 = .ok (.aload_n 0, 1) := by decide +kernel
theorem dX11_print_17 : decode cX11_print 17 = .ok (.getfield 70, 3) := by decide +kernel
theorem dX11_print_20 : decode cX11_print 20 = .ok (.iconst 0, 1) := by decide +kernel
theorem dX11_print_21 : decode cX11_print 21 = .ok (.invokevirtual 328, 3) := by decide +kernel
theorem dX11_print_24 : decode cX11_print 24 = .ok (.i2l, 1) := by decide +kernel
theorem dX11_print_25 : decode cX11_print 25 = .ok (.ladd, 1) := by decide +kernel
theorem dX11_print_26 : decode cX11_print 26 = .ok (.lstore_n 1, 1) := by decide +kernel
theorem dX11_print_27 : decode cX11_print 27 = .ok (.ldc2_w 382, 3) := by decide +kernel
theorem dX11_print_30 : decode cX11_print 30 = .ok (.lload_n 1, 1) := by decide +kernel
theorem dX11_print_31 : decode cX11_print 31 = .ok (.lmul, 1) := by decide +kernel
theorem dX11_print_32 : decode cX11_print 32 = .ok (.aload_n 0, 1) := by decide +kernel
theorem dX11_print_33 : decode cX11_print 33 = .ok (.getfield 70, 3) := by decide +kernel
theorem dX11_print_36 : decode cX11_print 36 = .ok (.iconst 1, 1) := by decide +kernel
theorem dX11_print_37 : decode cX11_print 37 = .ok (.invokevirtual 328, 3) := by decide +kernel
theorem dX11_print_40 : decode cX11_print 40 = .ok (.i2l, 1) := by decide +kernel
theorem dX11_print_41 : decode cX11_print 41 = .ok (.ladd, 1) := by decide +kernel
theorem dX11_print_42 : decode cX11_print 42 = .ok (.lreturn, 1) := by decide +kernel
theorem dX11_hitShare_0 : decode cX11_hitShare 0 = .ok (.iload_n 1, 1) := by decide +kernel
theorem dX11_hitShare_1 : decode cX11_hitShare 1 = .ok (.invokestatic 292, 3) := by decide +kernel
theorem dX11_hitShare_4 : decode cX11_hitShare 4 = .ok (.aload_n 0, 1) := by decide +kernel
theorem dX11_hitShare_5 : decode cX11_hitShare 5 = .ok (.iload_n 1, 1) := by decide +kernel
theorem dX11_hitShare_6 : decode cX11_hitShare 6 = .ok (.aload_n 0, 1) := by decide +kernel
theorem dX11_hitShare_7 : decode cX11_hitShare 7 = .ok (.iload_n 2, 1) := by decide +kernel
theorem dX11_hitShare_8 : decode cX11_hitShare 8 = .ok (.invokevirtual 252, 3) := by decide +kernel
theorem dX11_hitShare_11 : decode cX11_hitShare 11 = .ok (.invokevirtual 305, 3) := by decide +kernel
theorem dX11_hitShare_14 : decode cX11_hitShare 14 = .ok (.aload_n 0, 1) := by decide +kernel
theorem dX11_hitShare_15 : decode cX11_hitShare 15 = .ok (.getfield 46, 3) := by decide +kernel
theorem dX11_hitShare_18 : decode cX11_hitShare 18 = .ok (.invokevirtual 312, 3) := by decide +kernel
theorem dX11_hitShare_21 : decode cX11_hitShare 21 = .ok (.istore_n 3, 1) := by decide +kernel
theorem dX11_hitShare_22 : decode cX11_hitShare 22 = .ok (.iload_n 3, 1) := by decide +kernel
theorem dX11_hitShare_23 : decode cX11_hitShare 23 = .ok (.ifCond .gt 14, 3) := by decide +kernel
theorem dX11_hitShare_26 : decode cX11_hitShare 26 = .ok (.new 384, 3) := by decide +kernel
theorem dX11_hitShare_29 : decode cX11_hitShare 29 = .ok (.dup, 1) := by decide +kernel
theorem dX11_hitShare_30 : decode cX11_hitShare 30 = .ok (.ldc_w 386, 3) := by decide +kernel
theorem dX11_hitShare_33 : decode cX11_hitShare 33 = .ok (.invokespecial 388, 3) := by decide +kernel
theorem dX11_hitShare_36 : decode cX11_hitShare 36 = .ok (.athrow, 1) := by decide +kernel
theorem dX11_hitShare_37 : decode cX11_hitShare 37 = .ok (.iload_n 3, 1) := by decide +kernel
theorem dX11_hitShare_38 : decode cX11_hitShare 38 = .ok (.aload_n 0, 1) := by decide +kernel
theorem dX11_hitShare_39 : decode cX11_hitShare 39 = .ok (.getfield 46, 3) := by decide +kernel
theorem dX11_hitShare_42 : decode cX11_hitShare 42 = .ok (.invokevirtual 309, 3) := by decide +kernel
theorem dX11_hitShare_45 : decode cX11_hitShare 45 = .ok (.isub, 1) := by decide +kernel
theorem dX11_hitShare_46 : decode cX11_hitShare 46 = .ok (.i2f, 1) := by decide +kernel
theorem dX11_hitShare_47 : decode cX11_hitShare 47 = .ok (.iload_n 3, 1) := by decide +kernel
theorem dX11_hitShare_48 : decode cX11_hitShare 48 = .ok (.i2f, 1) := by decide +kernel
theorem dX11_hitShare_49 : decode cX11_hitShare 49 = .ok (.fdiv, 1) := by decide +kernel
theorem dX11_hitShare_50 : decode cX11_hitShare 50 = .ok (.freturn, 1) := by decide +kernel
theorem dX11_meanMisses_0 : decode cX11_meanMisses 0 = .ok (.aload_n 0, 1) := by decide +kernel
theorem dX11_meanMisses_1 : decode cX11_meanMisses 1 = .ok (.getfield 70, 3) := by decide +kernel
theorem dX11_meanMisses_4 : decode cX11_meanMisses 4 = .ok (.invokevirtual 340, 3) := by decide +kernel
theorem dX11_meanMisses_7 : decode cX11_meanMisses 7 = .ok (.istore_n 1, 1) := by decide +kernel
theorem dX11_meanMisses_8 : decode cX11_meanMisses 8 = .ok (.iload_n 1, 1) := by decide +kernel
theorem dX11_meanMisses_9 : decode cX11_meanMisses 9 = .ok (.ifCond .gt 14, 3) := by decide +kernel
theorem dX11_meanMisses_12 : decode cX11_meanMisses 12 = .ok (.new 384, 3) := by decide +kernel
theorem dX11_meanMisses_15 : decode cX11_meanMisses 15 = .ok (.dup, 1) := by decide +kernel
theorem dX11_meanMisses_16 : decode cX11_meanMisses 16 = .ok (.ldc_w 389, 3) := by decide +kernel
theorem dX11_meanMisses_19 : decode cX11_meanMisses 19 = .ok (.invokespecial 388, 3) := by decide +kernel
theorem dX11_meanMisses_22 : decode cX11_meanMisses 22 = .ok (.athrow, 1) := by decide +kernel
theorem dX11_meanMisses_23 : decode cX11_meanMisses 23 = .ok (.aload_n 0, 1) := by decide +kernel
theorem dX11_meanMisses_24 : decode cX11_meanMisses 24 = .ok (.getfield 70, 3) := by decide +kernel
theorem dX11_meanMisses_27 : decode cX11_meanMisses 27 = .ok (.iconst 0, 1) := by decide +kernel
theorem dX11_meanMisses_28 : decode cX11_meanMisses 28 = .ok (.invokevirtual 373, 3) := by decide +kernel
theorem dX11_meanMisses_31 : decode cX11_meanMisses 31 = .ok (.aload_n 0, 1) := by decide +kernel
theorem dX11_meanMisses_32 : decode cX11_meanMisses 32 = .ok (.getfield 70, 3) := by decide +kernel
theorem dX11_meanMisses_35 : decode cX11_meanMisses 35 = .ok (.iconst 1, 1) := by decide +kernel
theorem dX11_meanMisses_36 : decode cX11_meanMisses 36 = .ok (.invokevirtual 373, 3) := by decide +kernel
theorem dX11_meanMisses_39 : decode cX11_meanMisses 39 = .ok (.iadd, 1) := by decide +kernel
theorem dX11_meanMisses_40 : decode cX11_meanMisses 40 = .ok (.i2d, 1) := by decide +kernel
theorem dX11_meanMisses_41 : decode cX11_meanMisses 41 = .ok (.iconst 2, 1) := by decide +kernel
theorem dX11_meanMisses_42 : decode cX11_meanMisses 42 = .ok (.iload_n 1, 1) := by decide +kernel
theorem dX11_meanMisses_43 : decode cX11_meanMisses 43 = .ok (.imul, 1) := by decide +kernel
theorem dX11_meanMisses_44 : decode cX11_meanMisses 44 = .ok (.i2d, 1) := by decide +kernel
theorem dX11_meanMisses_45 : decode cX11_meanMisses 45 = .ok (.ddiv, 1) := by decide +kernel
theorem dX11_meanMisses_46 : decode cX11_meanMisses 46 = .ok (.dreturn, 1) := by decide +kernel
theorem dX11_isSound_0 : decode cX11_isSound 0 = .ok (.aload_n 0, 1) := by decide +kernel
theorem dX11_isSound_1 : decode cX11_isSound 1 = .ok (.getfield 29, 3) := by decide +kernel
theorem dX11_isSound_4 : decode cX11_isSound 4 = .ok (.invokevirtual 391, 3) := by decide +kernel
theorem dX11_isSound_7 : decode cX11_isSound 7 = .ok (.ifCond .eq 17, 3) := by decide +kernel
theorem dX11_isSound_10 : decode cX11_isSound 10 = .ok (.aload_n 0, 1) := by decide +kernel
theorem dX11_isSound_11 : decode cX11_isSound 11 = .ok (.getfield 10, 3) := by decide +kernel
theorem dX11_isSound_14 : decode cX11_isSound 14 = .ok (.invokevirtual 394, 3) := by decide +kernel
theorem dX11_isSound_17 : decode cX11_isSound 17 = .ok (.ifCond .eq 7, 3) := by decide +kernel
theorem dX11_isSound_20 : decode cX11_isSound 20 = .ok (.iconst 1, 1) := by decide +kernel
theorem dX11_isSound_21 : decode cX11_isSound 21 = .ok (.goto 4, 3) := by decide +kernel
theorem dX11_isSound_24 : decode cX11_isSound 24 = .ok (.iconst 0, 1) := by decide +kernel
theorem dX11_isSound_25 : decode cX11_isSound 25 = .ok (.istore_n 1, 1) := by decide +kernel
theorem dX11_isSound_26 : decode cX11_isSound 26 = .ok (.iconst 0, 1) := by decide +kernel
theorem dX11_isSound_27 : decode cX11_isSound 27 = .ok (.istore_n 2, 1) := by decide +kernel
theorem dX11_isSound_28 : decode cX11_isSound 28 = .ok (.iload_n 1, 1) := by decide +kernel
theorem dX11_isSound_29 : decode cX11_isSound 29 = .ok (.ifCond .eq 42, 3) := by decide +kernel
theorem dX11_isSound_32 : decode cX11_isSound 32 = .ok (.iload_n 2, 1) := by decide +kernel
theorem dX11_isSound_33 : decode cX11_isSound 33 = .ok (.aload_n 0, 1) := by decide +kernel
theorem dX11_isSound_34 : decode cX11_isSound 34 = .ok (.getfield 18, 3) := by decide +kernel
theorem dX11_isSound_37 : decode cX11_isSound 37 = .ok (.arraylength, 1) := by decide +kernel
theorem dX11_isSound_38 : decode cX11_isSound 38 = .ok (.if_icmp .ge 33, 3) := by decide +kernel
theorem dX11_isSound_41 : decode cX11_isSound 41 = .ok (.aload_n 0, 1) := by decide +kernel
theorem dX11_isSound_42 : decode cX11_isSound 42 = .ok (.getfield 18, 3) := by decide +kernel
theorem dX11_isSound_45 : decode cX11_isSound 45 = .ok (.iload_n 2, 1) := by decide +kernel
theorem dX11_isSound_46 : decode cX11_isSound 46 = .ok (.aaload, 1) := by decide +kernel
theorem dX11_isSound_47 : decode cX11_isSound 47 = .ok (.astore_n 3, 1) := by decide +kernel
theorem dX11_isSound_48 : decode cX11_isSound 48 = .ok (.aload_n 3, 1) := by decide +kernel
theorem dX11_isSound_49 : decode cX11_isSound 49 = .ok (.ifnull 16, 3) := by decide +kernel
theorem dX11_isSound_52 : decode cX11_isSound 52 = .ok (.aload_n 3, 1) := by decide +kernel
theorem dX11_isSound_53 : decode cX11_isSound 53 = .ok (.invokevirtual 216, 3) := by decide +kernel
theorem dX11_isSound_56 : decode cX11_isSound 56 = .ok (.ifCond .le 9, 3) := by decide +kernel
theorem dX11_isSound_59 : decode cX11_isSound 59 = .ok (.aload_n 0, 1) := by decide +kernel
theorem dX11_isSound_60 : decode cX11_isSound 60 = .ok (.aload_n 3, 1) := by decide +kernel
theorem dX11_isSound_61 : decode cX11_isSound 61 = .ok (.invokevirtual 397, 3) := by decide +kernel
theorem dX11_isSound_64 : decode cX11_isSound 64 = .ok (.istore_n 1, 1) := by decide +kernel
theorem dX11_isSound_65 : decode cX11_isSound 65 = .ok (.iinc 2 1, 3) := by decide +kernel
theorem dX11_isSound_68 : decode cX11_isSound 68 = .ok (.goto (-40), 3) := by decide +kernel
theorem dX11_isSound_71 : decode cX11_isSound 71 = .ok (.iload_n 1, 1) := by decide +kernel
theorem dX11_isSound_72 : decode cX11_isSound 72 = .ok (.ireturn, 1) := by decide +kernel
theorem dX11_isValue_0 : decode cX11_isValue 0 = .ok (.iload_n 0, 1) := by decide +kernel
theorem dX11_isValue_1 : decode cX11_isValue 1 = .ok (.ifCond .lt 13, 3) := by decide +kernel
theorem dX11_isValue_4 : decode cX11_isValue 4 = .ok (.iload_n 0, 1) := by decide +kernel
theorem dX11_isValue_5 : decode cX11_isValue 5 = .ok (.bipush 99, 2) := by decide +kernel
theorem dX11_isValue_7 : decode cX11_isValue 7 = .ok (.if_icmp .gt 7, 3) := by decide +kernel
theorem dX11_isValue_10 : decode cX11_isValue 10 = .ok (.iconst 1, 1) := by decide +kernel
theorem dX11_isValue_11 : decode cX11_isValue 11 = .ok (.goto 4, 3) := by decide +kernel
theorem dX11_isValue_14 : decode cX11_isValue 14 = .ok (.iconst 0, 1) := by decide +kernel
theorem dX11_isValue_15 : decode cX11_isValue 15 = .ok (.ireturn, 1) := by decide +kernel
theorem dX11_isIn_0 : decode cX11_isIn 0 = .ok (.iload_n 1, 1) := by decide +kernel
theorem dX11_isIn_1 : decode cX11_isIn 1 = .ok (.ifCond .lt 21, 3) := by decide +kernel
theorem dX11_isIn_4 : decode cX11_isIn 4 = .ok (.iload_n 1, 1) := by decide +kernel
theorem dX11_isIn_5 : decode cX11_isIn 5 = .ok (.bipush 6, 2) := by decide +kernel
theorem dX11_isIn_7 : decode cX11_isIn 7 = .ok (.if_icmp .ge 15, 3) := by decide +kernel
theorem dX11_isIn_10 : decode cX11_isIn 10 = .ok (.iload_n 0, 1) := by decide +kernel
theorem dX11_isIn_11 : decode cX11_isIn 11 = .ok (.iconst 1, 1) := by decide +kernel
theorem dX11_isIn_12 : decode cX11_isIn 12 = .ok (.iload_n 1, 1) := by decide +kernel
theorem dX11_isIn_13 : decode cX11_isIn 13 = .ok (.ishl, 1) := by decide +kernel
theorem dX11_isIn_14 : decode cX11_isIn 14 = .ok (.iand, 1) := by decide +kernel
theorem dX11_isIn_15 : decode cX11_isIn 15 = .ok (.ifCond .eq 7, 3) := by decide +kernel
theorem dX11_isIn_18 : decode cX11_isIn 18 = .ok (.iconst 1, 1) := by decide +kernel
theorem dX11_isIn_19 : decode cX11_isIn 19 = .ok (.goto 4, 3) := by decide +kernel
theorem dX11_isIn_22 : decode cX11_isIn 22 = .ok (.iconst 0, 1) := by decide +kernel
theorem dX11_isIn_23 : decode cX11_isIn 23 = .ok (.ireturn, 1) := by decide +kernel
theorem dX11_pageKey_0 : decode cX11_pageKey 0 = .ok (.bipush 100, 2) := by decide +kernel
theorem dX11_pageKey_2 : decode cX11_pageKey 2 = .ok (.aload_n 0, 1) := by decide +kernel
theorem dX11_pageKey_3 : decode cX11_pageKey 3 = .ok (.invokevirtual 401, 3) := by decide +kernel
theorem dX11_pageKey_6 : decode cX11_pageKey 6 = .ok (.imul, 1) := by decide +kernel
theorem dX11_pageKey_7 : decode cX11_pageKey 7 = .ok (.iload_n 1, 1) := by decide +kernel
theorem dX11_pageKey_8 : decode cX11_pageKey 8 = .ok (.iconst 4, 1) := by decide +kernel
theorem dX11_pageKey_9 : decode cX11_pageKey 9 = .ok (.idiv, 1) := by decide +kernel
theorem dX11_pageKey_10 : decode cX11_pageKey 10 = .ok (.iadd, 1) := by decide +kernel
theorem dX11_pageKey_11 : decode cX11_pageKey 11 = .ok (.ireturn, 1) := by decide +kernel
theorem dX11_leafKey_0 : decode cX11_leafKey 0 = .ok (.bipush 100, 2) := by decide +kernel
theorem dX11_leafKey_2 : decode cX11_leafKey 2 = .ok (.iconst 3, 1) := by decide +kernel
theorem dX11_leafKey_3 : decode cX11_leafKey 3 = .ok (.aload_n 0, 1) := by decide +kernel
theorem dX11_leafKey_4 : decode cX11_leafKey 4 = .ok (.invokevirtual 404, 3) := by decide +kernel
theorem dX11_leafKey_7 : decode cX11_leafKey 7 = .ok (.iadd, 1) := by decide +kernel
theorem dX11_leafKey_8 : decode cX11_leafKey 8 = .ok (.imul, 1) := by decide +kernel
theorem dX11_leafKey_9 : decode cX11_leafKey 9 = .ok (.iload_n 1, 1) := by decide +kernel
theorem dX11_leafKey_10 : decode cX11_leafKey 10 = .ok (.bipush 8, 2) := by decide +kernel
theorem dX11_leafKey_12 : decode cX11_leafKey 12 = .ok (.idiv, 1) := by decide +kernel
theorem dX11_leafKey_13 : decode cX11_leafKey 13 = .ok (.iadd, 1) := by decide +kernel
theorem dX11_leafKey_14 : decode cX11_leafKey 14 = .ok (.ireturn, 1) := by decide +kernel
theorem dX11_divided_0 : decode cX11_divided 0 = .ok (.iload_n 1, 1) := by decide +kernel
theorem dX11_divided_1 : decode cX11_divided 1 = .ok (.ifCond .ne 7, 3) := by decide +kernel
theorem dX11_divided_4 : decode cX11_divided 4 = .ok (.iload_n 0, 1) := by decide +kernel
theorem dX11_divided_5 : decode cX11_divided 5 = .ok (.goto 6, 3) := by decide +kernel
theorem dX11_divided_8 : decode cX11_divided 8 = .ok (.iload_n 0, 1) := by decide +kernel
theorem dX11_divided_9 : decode cX11_divided 9 = .ok (.iload_n 1, 1) := by decide +kernel
theorem dX11_divided_10 : decode cX11_divided 10 = .ok (.idiv, 1) := by decide +kernel
theorem dX11_divided_11 : decode cX11_divided 11 = .ok (.ireturn, 1) := by decide +kernel
theorem dX11_checkDuellist_0 : decode cX11_checkDuellist 0 = .ok (.iload_n 0, 1) := by decide +kernel
theorem dX11_checkDuellist_1 : decode cX11_checkDuellist 1 = .ok (.ifCond .lt 8, 3) := by decide +kernel
theorem dX11_checkDuellist_4 : decode cX11_checkDuellist 4 = .ok (.iload_n 0, 1) := by decide +kernel
theorem dX11_checkDuellist_5 : decode cX11_checkDuellist 5 = .ok (.iconst 2, 1) := by decide +kernel
theorem dX11_checkDuellist_6 : decode cX11_checkDuellist 6 = .ok (.if_icmp .lt 14, 3) := by decide +kernel
theorem dX11_checkDuellist_9 : decode cX11_checkDuellist 9 = .ok (.new 74, 3) := by decide +kernel
theorem dX11_checkDuellist_12 : decode cX11_checkDuellist 12 = .ok (.dup, 1) := by decide +kernel
theorem dX11_checkDuellist_13 : decode cX11_checkDuellist 13 = .ok (.ldc_w 405, 3) := by decide +kernel
theorem dX11_checkDuellist_16 : decode cX11_checkDuellist 16 = .ok (.invokespecial 78, 3) := by decide +kernel
theorem dX11_checkDuellist_19 : decode cX11_checkDuellist 19 = .ok (.athrow, 1) := by decide +kernel
theorem dX11_checkDuellist_20 : decode cX11_checkDuellist 20 = .ok (.return_, 1) := by decide +kernel
theorem dX11_needTable_0 : decode cX11_needTable 0 = .ok (.aload_n 0, 1) := by decide +kernel
theorem dX11_needTable_1 : decode cX11_needTable 1 = .ok (.getfield 10, 3) := by decide +kernel
theorem dX11_needTable_4 : decode cX11_needTable 4 = .ok (.iload_n 1, 1) := by decide +kernel
theorem dX11_needTable_5 : decode cX11_needTable 5 = .ok (.invokevirtual 407, 3) := by decide +kernel
theorem dX11_needTable_8 : decode cX11_needTable 8 = .ok (.astore_n 2, 1) := by decide +kernel
theorem dX11_needTable_9 : decode cX11_needTable 9 = .ok (.aload_n 2, 1) := by decide +kernel
theorem dX11_needTable_10 : decode cX11_needTable 10 = .ok (.ifnonnull 14, 3) := by decide +kernel
theorem dX11_needTable_13 : decode cX11_needTable 13 = .ok (.new 410, 3) := by decide +kernel
theorem dX11_needTable_16 : decode cX11_needTable 16 = .ok (.dup, 1) := by decide +kernel
theorem dX11_needTable_17 : decode cX11_needTable 17 = .ok (.ldc_w 412, 3) := by decide +kernel
theorem dX11_needTable_20 : decode cX11_needTable 20 = .ok (.invokespecial 414, 3) := by decide +kernel
theorem dX11_needTable_23 : decode cX11_needTable 23 = .ok (.athrow, 1) := by decide +kernel
theorem dX11_needTable_24 : decode cX11_needTable 24 = .ok (.aload_n 2, 1) := by decide +kernel
theorem dX11_needTable_25 : decode cX11_needTable 25 = .ok (.areturn, 1) := by decide +kernel
theorem dX11_needIndex_0 : decode cX11_needIndex 0 = .ok (.aload_n 0, 1) := by decide +kernel
theorem dX11_needIndex_1 : decode cX11_needIndex 1 = .ok (.getfield 10, 3) := by decide +kernel
theorem dX11_needIndex_4 : decode cX11_needIndex 4 = .ok (.iload_n 1, 1) := by decide +kernel
theorem dX11_needIndex_5 : decode cX11_needIndex 5 = .ok (.invokevirtual 415, 3) := by decide +kernel
theorem dX11_needIndex_8 : decode cX11_needIndex 8 = .ok (.astore_n 2, 1) := by decide +kernel
theorem dX11_needIndex_9 : decode cX11_needIndex 9 = .ok (.aload_n 2, 1) := by decide +kernel
theorem dX11_needIndex_10 : decode cX11_needIndex 10 = .ok (.ifnonnull 14, 3) := by decide +kernel
theorem dX11_needIndex_13 : decode cX11_needIndex 13 = .ok (.new 410, 3) := by decide +kernel
theorem dX11_needIndex_16 : decode cX11_needIndex 16 = .ok (.dup, 1) := by decide +kernel
theorem dX11_needIndex_17 : decode cX11_needIndex 17 = .ok (.ldc_w 417, 3) := by decide +kernel
theorem dX11_needIndex_20 : decode cX11_needIndex 20 = .ok (.invokespecial 414, 3) := by decide +kernel
theorem dX11_needIndex_23 : decode cX11_needIndex 23 = .ok (.athrow, 1) := by decide +kernel
theorem dX11_needIndex_24 : decode cX11_needIndex 24 = .ok (.aload_n 2, 1) := by decide +kernel
theorem dX11_needIndex_25 : decode cX11_needIndex 25 = .ok (.areturn, 1) := by decide +kernel
theorem dX11_needQuery_0 : decode cX11_needQuery 0 = .ok (.iload_n 1, 1) := by decide +kernel
theorem dX11_needQuery_1 : decode cX11_needQuery 1 = .ok (.ifCond .lt 21, 3) := by decide +kernel
theorem dX11_needQuery_4 : decode cX11_needQuery 4 = .ok (.iload_n 1, 1) := by decide +kernel
theorem dX11_needQuery_5 : decode cX11_needQuery 5 = .ok (.aload_n 0, 1) := by decide +kernel
theorem dX11_needQuery_6 : decode cX11_needQuery 6 = .ok (.getfield 18, 3) := by decide +kernel
theorem dX11_needQuery_9 : decode cX11_needQuery 9 = .ok (.arraylength, 1) := by decide +kernel
theorem dX11_needQuery_10 : decode cX11_needQuery 10 = .ok (.if_icmp .ge 12, 3) := by decide +kernel
theorem dX11_needQuery_13 : decode cX11_needQuery 13 = .ok (.aload_n 0, 1) := by decide +kernel
theorem dX11_needQuery_14 : decode cX11_needQuery 14 = .ok (.getfield 18, 3) := by decide +kernel
theorem dX11_needQuery_17 : decode cX11_needQuery 17 = .ok (.iload_n 1, 1) := by decide +kernel
theorem dX11_needQuery_18 : decode cX11_needQuery 18 = .ok (.aaload, 1) := by decide +kernel
theorem dX11_needQuery_19 : decode cX11_needQuery 19 = .ok (.goto 4, 3) := by decide +kernel
theorem dX11_needQuery_22 : decode cX11_needQuery 22 = .ok (.aconst_null, 1) := by decide +kernel
theorem dX11_needQuery_23 : decode cX11_needQuery 23 = .ok (.astore_n 2, 1) := by decide +kernel
theorem dX11_needQuery_24 : decode cX11_needQuery 24 = .ok (.aload_n 2, 1) := by decide +kernel
theorem dX11_needQuery_25 : decode cX11_needQuery 25 = .ok (.ifnonnull 14, 3) := by decide +kernel
theorem dX11_needQuery_28 : decode cX11_needQuery 28 = .ok (.new 410, 3) := by decide +kernel
theorem dX11_needQuery_31 : decode cX11_needQuery 31 = .ok (.dup, 1) := by decide +kernel
theorem dX11_needQuery_32 : decode cX11_needQuery 32 = .ok (.ldc_w 419, 3) := by decide +kernel
theorem dX11_needQuery_35 : decode cX11_needQuery 35 = .ok (.invokespecial 414, 3) := by decide +kernel
theorem dX11_needQuery_38 : decode cX11_needQuery 38 = .ok (.athrow, 1) := by decide +kernel
theorem dX11_needQuery_39 : decode cX11_needQuery 39 = .ok (.aload_n 2, 1) := by decide +kernel
theorem dX11_needQuery_40 : decode cX11_needQuery 40 = .ok (.areturn, 1) := by decide +kernel
theorem dX11_needPositions_0 : decode cX11_needPositions 0 = .ok (.aload_n 0, 1) := by decide +kernel
theorem dX11_needPositions_1 : decode cX11_needPositions 1 = .ok (.iload_n 1, 1) := by decide +kernel
theorem dX11_needPositions_2 : decode cX11_needPositions 2 = .ok (.invokevirtual 206, 3) := by decide +kernel
theorem dX11_needPositions_5 : decode cX11_needPositions 5 = .ok (.astore_n 2, 1) := by decide +kernel
theorem dX11_needPositions_6 : decode cX11_needPositions 6 = .ok (.aload_n 2, 1) := by decide +kernel
theorem dX11_needPositions_7 : decode cX11_needPositions 7 = .ok (.invokevirtual 216, 3) := by decide +kernel
theorem dX11_needPositions_10 : decode cX11_needPositions 10 = .ok (.ifCond .ne 14, 3) := by decide +kernel
theorem dX11_needPositions_13 : decode cX11_needPositions 13 = .ok (.new 323, 3) := by decide +kernel
theorem dX11_needPositions_16 : decode cX11_needPositions 16 = .ok (.dup, 1) := by decide +kernel
theorem dX11_needPositions_17 : decode cX11_needPositions 17 = .ok (.ldc_w 421, 3) := by decide +kernel
theorem dX11_needPositions_20 : decode cX11_needPositions 20 = .ok (.invokespecial 327, 3) := by decide +kernel
theorem dX11_needPositions_23 : decode cX11_needPositions 23 = .ok (.athrow, 1) := by decide +kernel
theorem dX11_needPositions_24 : decode cX11_needPositions 24 = .ok (.aload_n 2, 1) := by decide +kernel
theorem dX11_needPositions_25 : decode cX11_needPositions 25 = .ok (.areturn, 1) := by decide +kernel
theorem dX11_needPlace_0 : decode cX11_needPlace 0 = .ok (.iload_n 1, 1) := by decide +kernel
theorem dX11_needPlace_1 : decode cX11_needPlace 1 = .ok (.invokestatic 292, 3) := by decide +kernel
theorem dX11_needPlace_4 : decode cX11_needPlace 4 = .ok (.aload_n 0, 1) := by decide +kernel
theorem dX11_needPlace_5 : decode cX11_needPlace 5 = .ok (.iload_n 2, 1) := by decide +kernel
theorem dX11_needPlace_6 : decode cX11_needPlace 6 = .ok (.invokevirtual 206, 3) := by decide +kernel
theorem dX11_needPlace_9 : decode cX11_needPlace 9 = .ok (.astore 4, 2) := by decide +kernel
theorem dX11_needPlace_11 : decode cX11_needPlace 11 = .ok (.aload 4, 2) := by decide +kernel
theorem dX11_needPlace_13 : decode cX11_needPlace 13 = .ok (.iload_n 3, 1) := by decide +kernel
theorem dX11_needPlace_14 : decode cX11_needPlace 14 = .ok (.invokevirtual 262, 3) := by decide +kernel
theorem dX11_needPlace_17 : decode cX11_needPlace 17 = .ok (.ifCond .ne 13, 3) := by decide +kernel
theorem dX11_needPlace_20 : decode cX11_needPlace 20 = .ok (.new 134, 3) := by decide +kernel
theorem dX11_needPlace_23 : decode cX11_needPlace 23 = .ok (.dup, 1) := by decide +kernel
theorem dX11_needPlace_24 : decode cX11_needPlace 24 = .ok (.ldc 188, 2) := by decide +kernel
theorem dX11_needPlace_26 : decode cX11_needPlace 26 = .ok (.invokespecial 138, 3) := by decide +kernel
theorem dX11_needPlace_29 : decode cX11_needPlace 29 = .ok (.athrow, 1) := by decide +kernel
theorem dX11_needPlace_30 : decode cX11_needPlace 30 = .ok (.aload_n 0, 1) := by decide +kernel
theorem dX11_needPlace_31 : decode cX11_needPlace 31 = .ok (.getfield 39, 3) := by decide +kernel
theorem dX11_needPlace_34 : decode cX11_needPlace 34 = .ok (.aload_n 0, 1) := by decide +kernel
theorem dX11_needPlace_35 : decode cX11_needPlace 35 = .ok (.getfield 53, 3) := by decide +kernel
theorem dX11_needPlace_38 : decode cX11_needPlace 38 = .ok (.iload_n 1, 1) := by decide +kernel
theorem dX11_needPlace_39 : decode cX11_needPlace 39 = .ok (.aload_n 0, 1) := by decide +kernel
theorem dX11_needPlace_40 : decode cX11_needPlace 40 = .ok (.getfield 10, 3) := by decide +kernel
theorem dX11_needPlace_43 : decode cX11_needPlace 43 = .ok (.aload 4, 2) := by decide +kernel
theorem dX11_needPlace_45 : decode cX11_needPlace 45 = .ok (.aload_n 0, 1) := by decide +kernel
theorem dX11_needPlace_46 : decode cX11_needPlace 46 = .ok (.getfield 70, 3) := by decide +kernel
theorem dX11_needPlace_49 : decode cX11_needPlace 49 = .ok (.iload_n 1, 1) := by decide +kernel
theorem dX11_needPlace_50 : decode cX11_needPlace 50 = .ok (.invokevirtual 295, 3) := by decide +kernel
theorem dX11_needPlace_53 : decode cX11_needPlace 53 = .ok (.invokevirtual 298, 3) := by decide +kernel
theorem dX11_needPlace_56 : decode cX11_needPlace 56 = .ok (.aload_n 0, 1) := by decide +kernel
theorem dX11_needPlace_57 : decode cX11_needPlace 57 = .ok (.getfield 53, 3) := by decide +kernel
theorem dX11_needPlace_60 : decode cX11_needPlace 60 = .ok (.areturn, 1) := by decide +kernel
theorem dX11_runCold_0 : decode cX11_runCold 0 = .ok (.aload_n 0, 1) := by decide +kernel
theorem dX11_runCold_1 : decode cX11_runCold 1 = .ok (.getfield 39, 3) := by decide +kernel
theorem dX11_runCold_4 : decode cX11_runCold 4 = .ok (.aload_n 0, 1) := by decide +kernel
theorem dX11_runCold_5 : decode cX11_runCold 5 = .ok (.getfield 53, 3) := by decide +kernel
theorem dX11_runCold_8 : decode cX11_runCold 8 = .ok (.iload_n 1, 1) := by decide +kernel
theorem dX11_runCold_9 : decode cX11_runCold 9 = .ok (.aload_n 0, 1) := by decide +kernel
theorem dX11_runCold_10 : decode cX11_runCold 10 = .ok (.getfield 10, 3) := by decide +kernel
theorem dX11_runCold_13 : decode cX11_runCold 13 = .ok (.aload_n 2, 1) := by decide +kernel
theorem dX11_runCold_14 : decode cX11_runCold 14 = .ok (.aload_n 0, 1) := by decide +kernel
theorem dX11_runCold_15 : decode cX11_runCold 15 = .ok (.getfield 70, 3) := by decide +kernel
theorem dX11_runCold_18 : decode cX11_runCold 18 = .ok (.iload_n 1, 1) := by decide +kernel
theorem dX11_runCold_19 : decode cX11_runCold 19 = .ok (.invokevirtual 295, 3) := by decide +kernel
theorem dX11_runCold_22 : decode cX11_runCold 22 = .ok (.invokevirtual 298, 3) := by decide +kernel
theorem dX11_runCold_25 : decode cX11_runCold 25 = .ok (.aload_n 0, 1) := by decide +kernel
theorem dX11_runCold_26 : decode cX11_runCold 26 = .ok (.getfield 46, 3) := by decide +kernel
theorem dX11_runCold_29 : decode cX11_runCold 29 = .ok (.aload_n 0, 1) := by decide +kernel
theorem dX11_runCold_30 : decode cX11_runCold 30 = .ok (.getfield 10, 3) := by decide +kernel
theorem dX11_runCold_33 : decode cX11_runCold 33 = .ok (.aload_n 2, 1) := by decide +kernel
theorem dX11_runCold_34 : decode cX11_runCold 34 = .ok (.aload_n 0, 1) := by decide +kernel
theorem dX11_runCold_35 : decode cX11_runCold 35 = .ok (.getfield 53, 3) := by decide +kernel
theorem dX11_runCold_38 : decode cX11_runCold 38 = .ok (.aload_n 0, 1) := by decide +kernel
theorem dX11_runCold_39 : decode cX11_runCold 39 = .ok (.invokevirtual 361, 3) := by decide +kernel
theorem dX11_runCold_42 : decode cX11_runCold 42 = .ok (.invokevirtual 343, 3) := by decide +kernel
theorem dX11_runCold_45 : decode cX11_runCold 45 = .ok (.pop, 1) := by decide +kernel
theorem dX11_runCold_46 : decode cX11_runCold 46 = .ok (.return_, 1) := by decide +kernel
theorem dX11_emptyTrial_0 : decode cX11_emptyTrial 0 = .ok (.aload_n 0, 1) := by decide +kernel
theorem dX11_emptyTrial_1 : decode cX11_emptyTrial 1 = .ok (.getfield 33, 3) := by decide +kernel
theorem dX11_emptyTrial_4 : decode cX11_emptyTrial 4 = .ok (.invokevirtual 200, 3) := by decide +kernel
theorem dX11_emptyTrial_7 : decode cX11_emptyTrial 7 = .ok (.aload_n 0, 1) := by decide +kernel
theorem dX11_emptyTrial_8 : decode cX11_emptyTrial 8 = .ok (.getfield 33, 3) := by decide +kernel
theorem dX11_emptyTrial_11 : decode cX11_emptyTrial 11 = .ok (.aload_n 0, 1) := by decide +kernel
theorem dX11_emptyTrial_12 : decode cX11_emptyTrial 12 = .ok (.getfield 29, 3) := by decide +kernel
theorem dX11_emptyTrial_15 : decode cX11_emptyTrial 15 = .ok (.invokevirtual 162, 3) := by decide +kernel
theorem dX11_emptyTrial_18 : decode cX11_emptyTrial 18 = .ok (.invokevirtual 165, 3) := by decide +kernel
theorem dX11_emptyTrial_21 : decode cX11_emptyTrial 21 = .ok (.aload_n 0, 1) := by decide +kernel
theorem dX11_emptyTrial_22 : decode cX11_emptyTrial 22 = .ok (.getfield 33, 3) := by decide +kernel
theorem dX11_emptyTrial_25 : decode cX11_emptyTrial 25 = .ok (.areturn, 1) := by decide +kernel
theorem dX11_forgetRow_0 : decode cX11_forgetRow 0 = .ok (.aload_n 1, 1) := by decide +kernel
theorem dX11_forgetRow_1 : decode cX11_forgetRow 1 = .ok (.iload_n 2, 1) := by decide +kernel
theorem dX11_forgetRow_2 : decode cX11_forgetRow 2 = .ok (.invokestatic 423, 3) := by decide +kernel
theorem dX11_forgetRow_5 : decode cX11_forgetRow 5 = .ok (.istore_n 3, 1) := by decide +kernel
theorem dX11_forgetRow_6 : decode cX11_forgetRow 6 = .ok (.aload_n 0, 1) := by decide +kernel
theorem dX11_forgetRow_7 : decode cX11_forgetRow 7 = .ok (.getfield 29, 3) := by decide +kernel
theorem dX11_forgetRow_10 : decode cX11_forgetRow 10 = .ok (.iload_n 3, 1) := by decide +kernel
theorem dX11_forgetRow_11 : decode cX11_forgetRow 11 = .ok (.iload_n 3, 1) := by decide +kernel
theorem dX11_forgetRow_12 : decode cX11_forgetRow 12 = .ok (.invokevirtual 426, 3) := by decide +kernel
theorem dX11_forgetRow_15 : decode cX11_forgetRow 15 = .ok (.iconst 0, 1) := by decide +kernel
theorem dX11_forgetRow_16 : decode cX11_forgetRow 16 = .ok (.istore 4, 2) := by decide +kernel
theorem dX11_forgetRow_18 : decode cX11_forgetRow 18 = .ok (.iload 4, 2) := by decide +kernel
theorem dX11_forgetRow_20 : decode cX11_forgetRow 20 = .ok (.bipush 6, 2) := by decide +kernel
theorem dX11_forgetRow_22 : decode cX11_forgetRow 22 = .ok (.if_icmp .ge 58, 3) := by decide +kernel
theorem dX11_forgetRow_25 : decode cX11_forgetRow 25 = .ok (.aload_n 0, 1) := by decide +kernel
theorem dX11_forgetRow_26 : decode cX11_forgetRow 26 = .ok (.getfield 10, 3) := by decide +kernel
theorem dX11_forgetRow_29 : decode cX11_forgetRow 29 = .ok (.iload 4, 2) := by decide +kernel
theorem dX11_forgetRow_31 : decode cX11_forgetRow 31 = .ok (.invokevirtual 415, 3) := by decide +kernel
theorem dX11_forgetRow_34 : decode cX11_forgetRow 34 = .ok (.astore 5, 2) := by decide +kernel
theorem dX11_forgetRow_36 : decode cX11_forgetRow 36 = .ok (.aload 5, 2) := by decide +kernel
theorem dX11_forgetRow_38 : decode cX11_forgetRow 38 = .ok (.ifnull 36, 3) := by decide +kernel
theorem dX11_forgetRow_41 : decode cX11_forgetRow 41 = .ok (.aload 5, 2) := by decide +kernel
theorem dX11_forgetRow_43 : decode cX11_forgetRow 43 = .ok (.aload_n 1, 1) := by decide +kernel
theorem dX11_forgetRow_44 : decode cX11_forgetRow 44 = .ok (.invokevirtual 429, 3) := by decide +kernel
theorem dX11_forgetRow_47 : decode cX11_forgetRow 47 = .ok (.ifCond .eq 27, 3) := by decide +kernel
theorem dX11_forgetRow_50 : decode cX11_forgetRow 50 = .ok (.aload 5, 2) := by decide +kernel
theorem dX11_forgetRow_52 : decode cX11_forgetRow 52 = .ok (.iconst 0, 1) := by decide +kernel
theorem dX11_forgetRow_53 : decode cX11_forgetRow 53 = .ok (.invokestatic 432, 3) := by decide +kernel
theorem dX11_forgetRow_56 : decode cX11_forgetRow 56 = .ok (.istore 6, 2) := by decide +kernel
theorem dX11_forgetRow_58 : decode cX11_forgetRow 58 = .ok (.aload_n 0, 1) := by decide +kernel
theorem dX11_forgetRow_59 : decode cX11_forgetRow 59 = .ok (.getfield 29, 3) := by decide +kernel
theorem dX11_forgetRow_62 : decode cX11_forgetRow 62 = .ok (.iload 6, 2) := by decide +kernel
theorem dX11_forgetRow_64 : decode cX11_forgetRow 64 = .ok (.iload 6, 2) := by decide +kernel
theorem dX11_forgetRow_66 : decode cX11_forgetRow 66 = .ok (.bipush 100, 2) := by decide +kernel
theorem dX11_forgetRow_68 : decode cX11_forgetRow 68 = .ok (.iadd, 1) := by decide +kernel
theorem dX11_forgetRow_69 : decode cX11_forgetRow 69 = .ok (.iconst 1, 1) := by decide +kernel
theorem dX11_forgetRow_70 : decode cX11_forgetRow 70 = .ok (.isub, 1) := by decide +kernel
theorem dX11_forgetRow_71 : decode cX11_forgetRow 71 = .ok (.invokevirtual 426, 3) := by decide +kernel
theorem dX11_forgetRow_74 : decode cX11_forgetRow 74 = .ok (.iinc 4 1, 3) := by decide +kernel
theorem dX11_forgetRow_77 : decode cX11_forgetRow 77 = .ok (.goto (-59), 3) := by decide +kernel
theorem dX11_forgetRow_80 : decode cX11_forgetRow 80 = .ok (.return_, 1) := by decide +kernel
theorem dX11_bothPlansFind_0 : decode cX11_bothPlansFind 0 = .ok (.aload_n 0, 1) := by decide +kernel
theorem dX11_bothPlansFind_1 : decode cX11_bothPlansFind 1 = .ok (.getfield 46, 3) := by decide +kernel
theorem dX11_bothPlansFind_4 : decode cX11_bothPlansFind 4 = .ok (.aload_n 1, 1) := by decide +kernel
theorem dX11_bothPlansFind_5 : decode cX11_bothPlansFind 5 = .ok (.iconst (-1), 1) := by decide +kernel
theorem dX11_bothPlansFind_6 : decode cX11_bothPlansFind 6 = .ok (.iconst 0, 1) := by decide +kernel
theorem dX11_bothPlansFind_7 : decode cX11_bothPlansFind 7 = .ok (.iconst 0, 1) := by decide +kernel
theorem dX11_bothPlansFind_8 : decode cX11_bothPlansFind 8 = .ok (.invokevirtual 255, 3) := by decide +kernel
theorem dX11_bothPlansFind_11 : decode cX11_bothPlansFind 11 = .ok (.aload_n 0, 1) := by decide +kernel
theorem dX11_bothPlansFind_12 : decode cX11_bothPlansFind 12 = .ok (.getfield 46, 3) := by decide +kernel
theorem dX11_bothPlansFind_15 : decode cX11_bothPlansFind 15 = .ok (.invokevirtual 259, 3) := by decide +kernel
theorem dX11_bothPlansFind_18 : decode cX11_bothPlansFind 18 = .ok (.istore_n 2, 1) := by decide +kernel
theorem dX11_bothPlansFind_19 : decode cX11_bothPlansFind 19 = .ok (.aload_n 0, 1) := by decide +kernel
theorem dX11_bothPlansFind_20 : decode cX11_bothPlansFind 20 = .ok (.getfield 46, 3) := by decide +kernel
theorem dX11_bothPlansFind_23 : decode cX11_bothPlansFind 23 = .ok (.invokevirtual 436, 3) := by decide +kernel
theorem dX11_bothPlansFind_26 : decode cX11_bothPlansFind 26 = .ok (.lstore_n 3, 1) := by decide +kernel
theorem dX11_bothPlansFind_27 : decode cX11_bothPlansFind 27 = .ok (.iconst 0, 1) := by decide +kernel
theorem dX11_bothPlansFind_28 : decode cX11_bothPlansFind 28 = .ok (.istore 5, 2) := by decide +kernel
theorem dX11_bothPlansFind_30 : decode cX11_bothPlansFind 30 = .ok (.iload 5, 2) := by decide +kernel
theorem dX11_bothPlansFind_32 : decode cX11_bothPlansFind 32 = .ok (.iconst 2, 1) := by decide +kernel
theorem dX11_bothPlansFind_33 : decode cX11_bothPlansFind 33 = .ok (.if_icmp .ge 130, 3) := by decide +kernel
theorem dX11_bothPlansFind_36 : decode cX11_bothPlansFind 36 = .ok (.aload_n 0, 1) := by decide +kernel
theorem dX11_bothPlansFind_37 : decode cX11_bothPlansFind 37 = .ok (.getfield 39, 3) := by decide +kernel
theorem dX11_bothPlansFind_40 : decode cX11_bothPlansFind 40 = .ok (.aload_n 0, 1) := by decide +kernel
theorem dX11_bothPlansFind_41 : decode cX11_bothPlansFind 41 = .ok (.getfield 53, 3) := by decide +kernel
theorem dX11_bothPlansFind_44 : decode cX11_bothPlansFind 44 = .ok (.iload 5, 2) := by decide +kernel
theorem dX11_bothPlansFind_46 : decode cX11_bothPlansFind 46 = .ok (.aload_n 0, 1) := by decide +kernel
theorem dX11_bothPlansFind_47 : decode cX11_bothPlansFind 47 = .ok (.getfield 10, 3) := by decide +kernel
theorem dX11_bothPlansFind_50 : decode cX11_bothPlansFind 50 = .ok (.aload_n 1, 1) := by decide +kernel
theorem dX11_bothPlansFind_51 : decode cX11_bothPlansFind 51 = .ok (.aload_n 0, 1) := by decide +kernel
theorem dX11_bothPlansFind_52 : decode cX11_bothPlansFind 52 = .ok (.getfield 70, 3) := by decide +kernel
theorem dX11_bothPlansFind_55 : decode cX11_bothPlansFind 55 = .ok (.iload 5, 2) := by decide +kernel
theorem dX11_bothPlansFind_57 : decode cX11_bothPlansFind 57 = .ok (.invokevirtual 295, 3) := by decide +kernel
theorem dX11_bothPlansFind_60 : decode cX11_bothPlansFind 60 = .ok (.invokevirtual 298, 3) := by decide +kernel
theorem dX11_bothPlansFind_63 : decode cX11_bothPlansFind 63 = .ok (.aload_n 0, 1) := by decide +kernel
theorem dX11_bothPlansFind_64 : decode cX11_bothPlansFind 64 = .ok (.getfield 46, 3) := by decide +kernel
theorem dX11_bothPlansFind_67 : decode cX11_bothPlansFind 67 = .ok (.aload_n 0, 1) := by decide +kernel
theorem dX11_bothPlansFind_68 : decode cX11_bothPlansFind 68 = .ok (.getfield 10, 3) := by decide +kernel
theorem dX11_bothPlansFind_71 : decode cX11_bothPlansFind 71 = .ok (.aload_n 1, 1) := by decide +kernel
theorem dX11_bothPlansFind_72 : decode cX11_bothPlansFind 72 = .ok (.aload_n 0, 1) := by decide +kernel
theorem dX11_bothPlansFind_73 : decode cX11_bothPlansFind 73 = .ok (.getfield 53, 3) := by decide +kernel
theorem dX11_bothPlansFind_76 : decode cX11_bothPlansFind 76 = .ok (.aload_n 0, 1) := by decide +kernel
theorem dX11_bothPlansFind_77 : decode cX11_bothPlansFind 77 = .ok (.invokevirtual 361, 3) := by decide +kernel
theorem dX11_bothPlansFind_80 : decode cX11_bothPlansFind 80 = .ok (.invokevirtual 343, 3) := by decide +kernel
theorem dX11_bothPlansFind_83 : decode cX11_bothPlansFind 83 = .ok (.pop, 1) := by decide +kernel
theorem dX11_bothPlansFind_84 : decode cX11_bothPlansFind 84 = .ok (.aload_n 0, 1) := by decide +kernel
theorem dX11_bothPlansFind_85 : decode cX11_bothPlansFind 85 = .ok (.getfield 46, 3) := by decide +kernel
theorem dX11_bothPlansFind_88 : decode cX11_bothPlansFind 88 = .ok (.invokevirtual 259, 3) := by decide +kernel
theorem dX11_bothPlansFind_91 : decode cX11_bothPlansFind 91 = .ok (.iload_n 2, 1) := by decide +kernel
theorem dX11_bothPlansFind_92 : decode cX11_bothPlansFind 92 = .ok (.if_icmp .ne 19, 3) := by decide +kernel
theorem dX11_bothPlansFind_95 : decode cX11_bothPlansFind 95 = .ok (.aload_n 0, 1) := by decide +kernel
theorem dX11_bothPlansFind_96 : decode cX11_bothPlansFind 96 = .ok (.getfield 46, 3) := by decide +kernel
theorem dX11_bothPlansFind_99 : decode cX11_bothPlansFind 99 = .ok (.invokevirtual 436, 3) := by decide +kernel
theorem dX11_bothPlansFind_102 : decode cX11_bothPlansFind 102 = .ok (.lload_n 3, 1) := by decide +kernel
theorem dX11_bothPlansFind_103 : decode cX11_bothPlansFind 103 = .ok (.lcmp, 1) := by decide +kernel
theorem dX11_bothPlansFind_104 : decode cX11_bothPlansFind 104 = .ok (.ifCond .ne 7, 3) := by decide +kernel
theorem dX11_bothPlansFind_107 : decode cX11_bothPlansFind 107 = .ok (.iconst 1, 1) := by decide +kernel
theorem dX11_bothPlansFind_108 : decode cX11_bothPlansFind 108 = .ok (.goto 4, 3) := by decide +kernel
theorem dX11_bothPlansFind_111 : decode cX11_bothPlansFind 111 = .ok (.iconst 0, 1) := by decide +kernel
theorem dX11_bothPlansFind_112 : decode cX11_bothPlansFind 112 = .ok (.istore 6, 2) := by decide +kernel
theorem dX11_bothPlansFind_114 : decode cX11_bothPlansFind 114 = .ok (.iload 6, 2) := by decide +kernel
theorem dX11_bothPlansFind_116 : decode cX11_bothPlansFind 116 = .ok (.ifCond .eq 39, 3) := by decide +kernel
theorem dX11_bothPlansFind_119 : decode cX11_bothPlansFind 119 = .ok (.aload_n 0, 1) := by decide +kernel
theorem dX11_bothPlansFind_120 : decode cX11_bothPlansFind 120 = .ok (.getfield 46, 3) := by decide +kernel
theorem dX11_bothPlansFind_123 : decode cX11_bothPlansFind 123 = .ok (.invokevirtual 309, 3) := by decide +kernel
theorem dX11_bothPlansFind_126 : decode cX11_bothPlansFind 126 = .ok (.aload_n 0, 1) := by decide +kernel
theorem dX11_bothPlansFind_127 : decode cX11_bothPlansFind 127 = .ok (.getfield 46, 3) := by decide +kernel
theorem dX11_bothPlansFind_130 : decode cX11_bothPlansFind 130 = .ok (.invokevirtual 312, 3) := by decide +kernel
theorem dX11_bothPlansFind_133 : decode cX11_bothPlansFind 133 = .ok (.if_icmp .gt 22, 3) := by decide +kernel
theorem dX11_bothPlansFind_136 : decode cX11_bothPlansFind 136 = .ok (.aload_n 0, 1) := by decide +kernel
theorem dX11_bothPlansFind_137 : decode cX11_bothPlansFind 137 = .ok (.getfield 53, 3) := by decide +kernel
theorem dX11_bothPlansFind_140 : decode cX11_bothPlansFind 140 = .ok (.aload_n 0, 1) := by decide +kernel
theorem dX11_bothPlansFind_141 : decode cX11_bothPlansFind 141 = .ok (.getfield 70, 3) := by decide +kernel
theorem dX11_bothPlansFind_144 : decode cX11_bothPlansFind 144 = .ok (.iload 5, 2) := by decide +kernel
theorem dX11_bothPlansFind_146 : decode cX11_bothPlansFind 146 = .ok (.invokevirtual 295, 3) := by decide +kernel
theorem dX11_bothPlansFind_149 : decode cX11_bothPlansFind 149 = .ok (.invokevirtual 439, 3) := by decide +kernel
theorem dX11_bothPlansFind_152 : decode cX11_bothPlansFind 152 = .ok (.ifCond .eq 5, 3) := by decide +kernel
theorem dX11_bothPlansFind_155 : decode cX11_bothPlansFind 155 = .ok (.iconst 0, 1) := by decide +kernel
theorem dX11_bothPlansFind_156 : decode cX11_bothPlansFind 156 = .ok (.ireturn, 1) := by decide +kernel
theorem dX11_bothPlansFind_157 : decode cX11_bothPlansFind 157 = .ok (.iinc 5 1, 3) := by decide +kernel
theorem dX11_bothPlansFind_160 : decode cX11_bothPlansFind 160 = .ok (.goto (-130), 3) := by decide +kernel
theorem dX11_bothPlansFind_163 : decode cX11_bothPlansFind 163 = .ok (.iconst 1, 1) := by decide +kernel
theorem dX11_bothPlansFind_164 : decode cX11_bothPlansFind 164 = .ok (.ireturn, 1) := by decide +kernel
