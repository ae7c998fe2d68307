theorem d_C_init_0 : decode prog_1_method_1_code 0 = .ok (.aload_n 0, 1) := by decide +kernel
theorem d_C_init_1 : decode prog_1_method_1_code 1 = .ok (.invokespecial 3, 3) := by decide +kernel
theorem d_C_init_4 : decode prog_1_method_1_code 4 = .ok (.aload_n 0, 1) := by decide +kernel
theorem d_C_init_5 : decode prog_1_method_1_code 5 = .ok (.bipush 6, 2) := by decide +kernel
theorem d_C_init_7 : decode prog_1_method_1_code 7 = .ok (.newarray .int, 2) := by decide +kernel
theorem d_C_init_9 : decode prog_1_method_1_code 9 = .ok (.putfield 9, 3) := by decide +kernel
theorem d_C_init_12 : decode prog_1_method_1_code 12 = .ok (.aload_n 0, 1) := by decide +kernel
theorem d_C_init_13 : decode prog_1_method_1_code 13 = .ok (.bipush 6, 2) := by decide +kernel
theorem d_C_init_15 : decode prog_1_method_1_code 15 = .ok (.newarray .int, 2) := by decide +kernel
theorem d_C_init_17 : decode prog_1_method_1_code 17 = .ok (.putfield 13, 3) := by decide +kernel
theorem d_C_init_20 : decode prog_1_method_1_code 20 = .ok (.aload_n 0, 1) := by decide +kernel
theorem d_C_init_21 : decode prog_1_method_1_code 21 = .ok (.bipush 6, 2) := by decide +kernel
theorem d_C_init_23 : decode prog_1_method_1_code 23 = .ok (.newarray .int, 2) := by decide +kernel
theorem d_C_init_25 : decode prog_1_method_1_code 25 = .ok (.putfield 16, 3) := by decide +kernel
theorem d_C_init_28 : decode prog_1_method_1_code 28 = .ok (.aload_n 0, 1) := by decide +kernel
theorem d_C_init_29 : decode prog_1_method_1_code 29 = .ok (.iconst 0, 1) := by decide +kernel
theorem d_C_init_30 : decode prog_1_method_1_code 30 = .ok (.putfield 19, 3) := by decide +kernel
theorem d_C_init_33 : decode prog_1_method_1_code 33 = .ok (.aload_n 0, 1) := by decide +kernel
theorem d_C_init_34 : decode prog_1_method_1_code 34 = .ok (.new 23, 3) := by decide +kernel
theorem d_C_init_37 : decode prog_1_method_1_code 37 = .ok (.dup, 1) := by decide +kernel
theorem d_C_init_38 : decode prog_1_method_1_code 38 = .ok (.invokespecial 25, 3) := by decide +kernel
theorem d_C_init_41 : decode prog_1_method_1_code 41 = .ok (.putfield 26, 3) := by decide +kernel
theorem d_C_init_44 : decode prog_1_method_1_code 44 = .ok (.aload_n 0, 1) := by decide +kernel
theorem d_C_init_45 : decode prog_1_method_1_code 45 = .ok (.new 23, 3) := by decide +kernel
theorem d_C_init_48 : decode prog_1_method_1_code 48 = .ok (.dup, 1) := by decide +kernel
theorem d_C_init_49 : decode prog_1_method_1_code 49 = .ok (.invokespecial 25, 3) := by decide +kernel
theorem d_C_init_52 : decode prog_1_method_1_code 52 = .ok (.putfield 30, 3) := by decide +kernel
theorem d_C_init_55 : decode prog_1_method_1_code 55 = .ok (.aload_n 0, 1) := by decide +kernel
theorem d_C_init_56 : decode prog_1_method_1_code 56 = .ok (.bipush 31, 2) := by decide +kernel
theorem d_C_init_58 : decode prog_1_method_1_code 58 = .ok (.newarray .long, 2) := by decide +kernel
theorem d_C_init_60 : decode prog_1_method_1_code 60 = .ok (.putfield 33, 3) := by decide +kernel
theorem d_C_init_63 : decode prog_1_method_1_code 63 = .ok (.aload_n 0, 1) := by decide +kernel
theorem d_C_init_64 : decode prog_1_method_1_code 64 = .ok (.bipush 31, 2) := by decide +kernel
theorem d_C_init_66 : decode prog_1_method_1_code 66 = .ok (.newarray .long, 2) := by decide +kernel
theorem d_C_init_68 : decode prog_1_method_1_code 68 = .ok (.putfield 37, 3) := by decide +kernel
theorem d_C_init_71 : decode prog_1_method_1_code 71 = .ok (.aload_n 0, 1) := by decide +kernel
theorem d_C_init_72 : decode prog_1_method_1_code 72 = .ok (.bipush 31, 2) := by decide +kernel
theorem d_C_init_74 : decode prog_1_method_1_code 74 = .ok (.bipush 6, 2) := by decide +kernel
theorem d_C_init_76 : decode prog_1_method_1_code 76 = .ok (.multianewarray 40 2, 4) := by decide +kernel
theorem d_C_init_80 : decode prog_1_method_1_code 80 = .ok (.putfield 42, 3) := by decide +kernel
theorem d_C_init_83 : decode prog_1_method_1_code 83 = .ok (.aload_n 0, 1) := by decide +kernel
theorem d_C_init_84 : decode prog_1_method_1_code 84 = .ok (.bipush 32, 2) := by decide +kernel
theorem d_C_init_86 : decode prog_1_method_1_code 86 = .ok (.newarray .int, 2) := by decide +kernel
theorem d_C_init_88 : decode prog_1_method_1_code 88 = .ok (.putfield 45, 3) := by decide +kernel
theorem d_C_init_91 : decode prog_1_method_1_code 91 = .ok (.aload_n 0, 1) := by decide +kernel
theorem d_C_init_92 : decode prog_1_method_1_code 92 = .ok (.invokevirtual 48, 3) := by decide +kernel
theorem d_C_init_95 : decode prog_1_method_1_code 95 = .ok (.return_, 1) := by decide +kernel
theorem d_C_line_0 : decode prog_1_method_2_code 0 = .ok (.iload_n 1, 1) := by decide +kernel
theorem d_C_line_1 : decode prog_1_method_2_code 1 = .ok (.invokestatic 51, 3) := by decide +kernel
theorem d_C_line_4 : decode prog_1_method_2_code 4 = .ok (.ifCond .eq 17, 3) := by decide +kernel
theorem d_C_line_7 : decode prog_1_method_2_code 7 = .ok (.iload_n 2, 1) := by decide +kernel
theorem d_C_line_8 : decode prog_1_method_2_code 8 = .ok (.invokestatic 51, 3) := by decide +kernel
theorem d_C_line_11 : decode prog_1_method_2_code 11 = .ok (.ifCond .eq 10, 3) := by decide +kernel
theorem d_C_line_14 : decode prog_1_method_2_code 14 = .ok (.iload_n 3, 1) := by decide +kernel
theorem d_C_line_15 : decode prog_1_method_2_code 15 = .ok (.invokestatic 51, 3) := by decide +kernel
theorem d_C_line_18 : decode prog_1_method_2_code 18 = .ok (.ifCond .ne 13, 3) := by decide +kernel
theorem d_C_line_21 : decode prog_1_method_2_code 21 = .ok (.new 55, 3) := by decide +kernel
theorem d_C_line_24 : decode prog_1_method_2_code 24 = .ok (.dup, 1) := by decide +kernel
theorem d_C_line_25 : decode prog_1_method_2_code 25 = .ok (.ldc 57, 2) := by decide +kernel
theorem d_C_line_27 : decode prog_1_method_2_code 27 = .ok (.invokespecial 59, 3) := by decide +kernel
theorem d_C_line_30 : decode prog_1_method_2_code 30 = .ok (.athrow, 1) := by decide +kernel
theorem d_C_line_31 : decode prog_1_method_2_code 31 = .ok (.iload_n 1, 1) := by decide +kernel
theorem d_C_line_32 : decode prog_1_method_2_code 32 = .ok (.ifCond .ne 17, 3) := by decide +kernel
theorem d_C_line_35 : decode prog_1_method_2_code 35 = .ok (.iload_n 2, 1) := by decide +kernel
theorem d_C_line_36 : decode prog_1_method_2_code 36 = .ok (.ifCond .ne 13, 3) := by decide +kernel
theorem d_C_line_39 : decode prog_1_method_2_code 39 = .ok (.new 55, 3) := by decide +kernel
theorem d_C_line_42 : decode prog_1_method_2_code 42 = .ok (.dup, 1) := by decide +kernel
theorem d_C_line_43 : decode prog_1_method_2_code 43 = .ok (.ldc 62, 2) := by decide +kernel
theorem d_C_line_45 : decode prog_1_method_2_code 45 = .ok (.invokespecial 59, 3) := by decide +kernel
theorem d_C_line_48 : decode prog_1_method_2_code 48 = .ok (.athrow, 1) := by decide +kernel
theorem d_C_line_49 : decode prog_1_method_2_code 49 = .ok (.aload_n 0, 1) := by decide +kernel
theorem d_C_line_50 : decode prog_1_method_2_code 50 = .ok (.getfield 19, 3) := by decide +kernel
theorem d_C_line_53 : decode prog_1_method_2_code 53 = .ok (.bipush 6, 2) := by decide +kernel
theorem d_C_line_55 : decode prog_1_method_2_code 55 = .ok (.if_icmp .lt 13, 3) := by decide +kernel
theorem d_C_line_58 : decode prog_1_method_2_code 58 = .ok (.new 64, 3) := by decide +kernel
theorem d_C_line_61 : decode prog_1_method_2_code 61 = .ok (.dup, 1) := by decide +kernel
theorem d_C_line_62 : decode prog_1_method_2_code 62 = .ok (.ldc 66, 2) := by decide +kernel
theorem d_C_line_64 : decode prog_1_method_2_code 64 = .ok (.invokespecial 68, 3) := by decide +kernel
theorem d_C_line_67 : decode prog_1_method_2_code 67 = .ok (.athrow, 1) := by decide +kernel
theorem d_C_line_68 : decode prog_1_method_2_code 68 = .ok (.aload_n 0, 1) := by decide +kernel
theorem d_C_line_69 : decode prog_1_method_2_code 69 = .ok (.getfield 19, 3) := by decide +kernel
theorem d_C_line_72 : decode prog_1_method_2_code 72 = .ok (.istore 4, 2) := by decide +kernel
theorem d_C_line_74 : decode prog_1_method_2_code 74 = .ok (.aload_n 0, 1) := by decide +kernel
theorem d_C_line_75 : decode prog_1_method_2_code 75 = .ok (.getfield 9, 3) := by decide +kernel
theorem d_C_line_78 : decode prog_1_method_2_code 78 = .ok (.iload 4, 2) := by decide +kernel
theorem d_C_line_80 : decode prog_1_method_2_code 80 = .ok (.iload_n 1, 1) := by decide +kernel
theorem d_C_line_81 : decode prog_1_method_2_code 81 = .ok (.iastore, 1) := by decide +kernel
theorem d_C_line_82 : decode prog_1_method_2_code 82 = .ok (.aload_n 0, 1) := by decide +kernel
theorem d_C_line_83 : decode prog_1_method_2_code 83 = .ok (.getfield 13, 3) := by decide +kernel
theorem d_C_line_86 : decode prog_1_method_2_code 86 = .ok (.iload 4, 2) := by decide +kernel
theorem d_C_line_88 : decode prog_1_method_2_code 88 = .ok (.iload_n 2, 1) := by decide +kernel
theorem d_C_line_89 : decode prog_1_method_2_code 89 = .ok (.iastore, 1) := by decide +kernel
theorem d_C_line_90 : decode prog_1_method_2_code 90 = .ok (.aload_n 0, 1) := by decide +kernel
theorem d_C_line_91 : decode prog_1_method_2_code 91 = .ok (.getfield 16, 3) := by decide +kernel
theorem d_C_line_94 : decode prog_1_method_2_code 94 = .ok (.iload 4, 2) := by decide +kernel
theorem d_C_line_96 : decode prog_1_method_2_code 96 = .ok (.iload_n 3, 1) := by decide +kernel
theorem d_C_line_97 : decode prog_1_method_2_code 97 = .ok (.iastore, 1) := by decide +kernel
theorem d_C_line_98 : decode prog_1_method_2_code 98 = .ok (.aload_n 0, 1) := by decide +kernel
theorem d_C_line_99 : decode prog_1_method_2_code 99 = .ok (.iload 4, 2) := by decide +kernel
theorem d_C_line_101 : decode prog_1_method_2_code 101 = .ok (.iconst 1, 1) := by decide +kernel
theorem d_C_line_102 : decode prog_1_method_2_code 102 = .ok (.iadd, 1) := by decide +kernel
theorem d_C_line_103 : decode prog_1_method_2_code 103 = .ok (.putfield 19, 3) := by decide +kernel
theorem d_C_line_106 : decode prog_1_method_2_code 106 = .ok (.aload_n 0, 1) := by decide +kernel
theorem d_C_line_107 : decode prog_1_method_2_code 107 = .ok (.invokevirtual 48, 3) := by decide +kernel
theorem d_C_line_110 : decode prog_1_method_2_code 110 = .ok (.iload 4, 2) := by decide +kernel
theorem d_C_line_112 : decode prog_1_method_2_code 112 = .ok (.ireturn, 1) := by decide +kernel
theorem d_C_drop_0 : decode prog_1_method_3_code 0 = .ok (.aload_n 0, 1) := by decide +kernel
theorem d_C_drop_1 : decode prog_1_method_3_code 1 = .ok (.iload_n 1, 1) := by decide +kernel
theorem d_C_drop_2 : decode prog_1_method_3_code 2 = .ok (.invokevirtual 69, 3) := by decide +kernel
theorem d_C_drop_5 : decode prog_1_method_3_code 5 = .ok (.ifCond .ne 13, 3) := by decide +kernel
theorem d_C_drop_8 : decode prog_1_method_3_code 8 = .ok (.new 72, 3) := by decide +kernel
theorem d_C_drop_11 : decode prog_1_method_3_code 11 = .ok (.dup, 1) := by decide +kernel
theorem d_C_drop_12 : decode prog_1_method_3_code 12 = .ok (.ldc 74, 2) := by decide +kernel
theorem d_C_drop_14 : decode prog_1_method_3_code 14 = .ok (.invokespecial 76, 3) := by decide +kernel
theorem d_C_drop_17 : decode prog_1_method_3_code 17 = .ok (.athrow, 1) := by decide +kernel
theorem d_C_drop_18 : decode prog_1_method_3_code 18 = .ok (.iload_n 1, 1) := by decide +kernel
theorem d_C_drop_19 : decode prog_1_method_3_code 19 = .ok (.iconst 1, 1) := by decide +kernel
theorem d_C_drop_20 : decode prog_1_method_3_code 20 = .ok (.iadd, 1) := by decide +kernel
theorem d_C_drop_21 : decode prog_1_method_3_code 21 = .ok (.istore_n 2, 1) := by decide +kernel
theorem d_C_drop_22 : decode prog_1_method_3_code 22 = .ok (.iload_n 2, 1) := by decide +kernel
theorem d_C_drop_23 : decode prog_1_method_3_code 23 = .ok (.aload_n 0, 1) := by decide +kernel
theorem d_C_drop_24 : decode prog_1_method_3_code 24 = .ok (.getfield 19, 3) := by decide +kernel
theorem d_C_drop_27 : decode prog_1_method_3_code 27 = .ok (.if_icmp .ge 51, 3) := by decide +kernel
theorem d_C_drop_30 : decode prog_1_method_3_code 30 = .ok (.aload_n 0, 1) := by decide +kernel
theorem d_C_drop_31 : decode prog_1_method_3_code 31 = .ok (.getfield 9, 3) := by decide +kernel
theorem d_C_drop_34 : decode prog_1_method_3_code 34 = .ok (.iload_n 2, 1) := by decide +kernel
theorem d_C_drop_35 : decode prog_1_method_3_code 35 = .ok (.iconst 1, 1) := by decide +kernel
theorem d_C_drop_36 : decode prog_1_method_3_code 36 = .ok (.isub, 1) := by decide +kernel
theorem d_C_drop_37 : decode prog_1_method_3_code 37 = .ok (.aload_n 0, 1) := by decide +kernel
theorem d_C_drop_38 : decode prog_1_method_3_code 38 = .ok (.getfield 9, 3) := by decide +kernel
theorem d_C_drop_41 : decode prog_1_method_3_code 41 = .ok (.iload_n 2, 1) := by decide +kernel
theorem d_C_drop_42 : decode prog_1_method_3_code 42 = .ok (.iaload, 1) := by decide +kernel
theorem d_C_drop_43 : decode prog_1_method_3_code 43 = .ok (.iastore, 1) := by decide +kernel
theorem d_C_drop_44 : decode prog_1_method_3_code 44 = .ok (.aload_n 0, 1) := by decide +kernel
theorem d_C_drop_45 : decode prog_1_method_3_code 45 = .ok (.getfield 13, 3) := by decide +kernel
theorem d_C_drop_48 : decode prog_1_method_3_code 48 = .ok (.iload_n 2, 1) := by decide +kernel
theorem d_C_drop_49 : decode prog_1_method_3_code 49 = .ok (.iconst 1, 1) := by decide +kernel
theorem d_C_drop_50 : decode prog_1_method_3_code 50 = .ok (.isub, 1) := by decide +kernel
theorem d_C_drop_51 : decode prog_1_method_3_code 51 = .ok (.aload_n 0, 1) := by decide +kernel
theorem d_C_drop_52 : decode prog_1_method_3_code 52 = .ok (.getfield 13, 3) := by decide +kernel
theorem d_C_drop_55 : decode prog_1_method_3_code 55 = .ok (.iload_n 2, 1) := by decide +kernel
theorem d_C_drop_56 : decode prog_1_method_3_code 56 = .ok (.iaload, 1) := by decide +kernel
theorem d_C_drop_57 : decode prog_1_method_3_code 57 = .ok (.iastore, 1) := by decide +kernel
theorem d_C_drop_58 : decode prog_1_method_3_code 58 = .ok (.aload_n 0, 1) := by decide +kernel
theorem d_C_drop_59 : decode prog_1_method_3_code 59 = .ok (.getfield 16, 3) := by decide +kernel
theorem d_C_drop_62 : decode prog_1_method_3_code 62 = .ok (.iload_n 2, 1) := by decide +kernel
theorem d_C_drop_63 : decode prog_1_method_3_code 63 = .ok (.iconst 1, 1) := by decide +kernel
theorem d_C_drop_64 : decode prog_1_method_3_code 64 = .ok (.isub, 1) := by decide +kernel
theorem d_C_drop_65 : decode prog_1_method_3_code 65 = .ok (.aload_n 0, 1) := by decide +kernel
theorem d_C_drop_66 : decode prog_1_method_3_code 66 = .ok (.getfield 16, 3) := by decide +kernel
theorem d_C_drop_69 : decode prog_1_method_3_code 69 = .ok (.iload_n 2, 1) := by decide +kernel
theorem d_C_drop_70 : decode prog_1_method_3_code 70 = .ok (.iaload, 1) := by decide +kernel
theorem d_C_drop_71 : decode prog_1_method_3_code 71 = .ok (.iastore, 1) := by decide +kernel
theorem d_C_drop_72 : decode prog_1_method_3_code 72 = .ok (.iinc 2 1, 3) := by decide +kernel
theorem d_C_drop_75 : decode prog_1_method_3_code 75 = .ok (.goto (-53), 3) := by decide +kernel
theorem d_C_drop_78 : decode prog_1_method_3_code 78 = .ok (.aload_n 0, 1) := by decide +kernel
theorem d_C_drop_79 : decode prog_1_method_3_code 79 = .ok (.dup, 1) := by decide +kernel
theorem d_C_drop_80 : decode prog_1_method_3_code 80 = .ok (.getfield 19, 3) := by decide +kernel
theorem d_C_drop_83 : decode prog_1_method_3_code 83 = .ok (.iconst 1, 1) := by decide +kernel
theorem d_C_drop_84 : decode prog_1_method_3_code 84 = .ok (.isub, 1) := by decide +kernel
theorem d_C_drop_85 : decode prog_1_method_3_code 85 = .ok (.putfield 19, 3) := by decide +kernel
theorem d_C_drop_88 : decode prog_1_method_3_code 88 = .ok (.aload_n 0, 1) := by decide +kernel
theorem d_C_drop_89 : decode prog_1_method_3_code 89 = .ok (.invokevirtual 48, 3) := by decide +kernel
theorem d_C_drop_92 : decode prog_1_method_3_code 92 = .ok (.return_, 1) := by decide +kernel
theorem d_C_cuts_0 : decode prog_1_method_4_code 0 = .ok (.aload_n 0, 1) := by decide +kernel
theorem d_C_cuts_1 : decode prog_1_method_4_code 1 = .ok (.getfield 26, 3) := by decide +kernel
theorem d_C_cuts_4 : decode prog_1_method_4_code 4 = .ok (.getfield 77, 3) := by decide +kernel
theorem d_C_cuts_7 : decode prog_1_method_4_code 7 = .ok (.ireturn, 1) := by decide +kernel
theorem d_C_cut_0 : decode prog_1_method_5_code 0 = .ok (.iload_n 1, 1) := by decide +kernel
theorem d_C_cut_1 : decode prog_1_method_5_code 1 = .ok (.ifCond .lt 14, 3) := by decide +kernel
theorem d_C_cut_4 : decode prog_1_method_5_code 4 = .ok (.iload_n 1, 1) := by decide +kernel
theorem d_C_cut_5 : decode prog_1_method_5_code 5 = .ok (.aload_n 0, 1) := by decide +kernel
theorem d_C_cut_6 : decode prog_1_method_5_code 6 = .ok (.getfield 26, 3) := by decide +kernel
theorem d_C_cut_9 : decode prog_1_method_5_code 9 = .ok (.getfield 77, 3) := by decide +kernel
theorem d_C_cut_12 : decode prog_1_method_5_code 12 = .ok (.if_icmp .lt 13, 3) := by decide +kernel
theorem d_C_cut_15 : decode prog_1_method_5_code 15 = .ok (.new 72, 3) := by decide +kernel
theorem d_C_cut_18 : decode prog_1_method_5_code 18 = .ok (.dup, 1) := by decide +kernel
theorem d_C_cut_19 : decode prog_1_method_5_code 19 = .ok (.ldc 80, 2) := by decide +kernel
theorem d_C_cut_21 : decode prog_1_method_5_code 21 = .ok (.invokespecial 76, 3) := by decide +kernel
theorem d_C_cut_24 : decode prog_1_method_5_code 24 = .ok (.athrow, 1) := by decide +kernel
theorem d_C_cut_25 : decode prog_1_method_5_code 25 = .ok (.iload_n 2, 1) := by decide +kernel
theorem d_C_cut_26 : decode prog_1_method_5_code 26 = .ok (.invokestatic 82, 3) := by decide +kernel
theorem d_C_cut_29 : decode prog_1_method_5_code 29 = .ok (.ifCond .ne 13, 3) := by decide +kernel
theorem d_C_cut_32 : decode prog_1_method_5_code 32 = .ok (.new 55, 3) := by decide +kernel
theorem d_C_cut_35 : decode prog_1_method_5_code 35 = .ok (.dup, 1) := by decide +kernel
theorem d_C_cut_36 : decode prog_1_method_5_code 36 = .ok (.ldc 85, 2) := by decide +kernel
theorem d_C_cut_38 : decode prog_1_method_5_code 38 = .ok (.invokespecial 59, 3) := by decide +kernel
theorem d_C_cut_41 : decode prog_1_method_5_code 41 = .ok (.athrow, 1) := by decide +kernel
theorem d_C_cut_42 : decode prog_1_method_5_code 42 = .ok (.aload_n 0, 1) := by decide +kernel
theorem d_C_cut_43 : decode prog_1_method_5_code 43 = .ok (.getfield 26, 3) := by decide +kernel
theorem d_C_cut_46 : decode prog_1_method_5_code 46 = .ok (.iconst 2, 1) := by decide +kernel
theorem d_C_cut_47 : decode prog_1_method_5_code 47 = .ok (.iload_n 1, 1) := by decide +kernel
theorem d_C_cut_48 : decode prog_1_method_5_code 48 = .ok (.imul, 1) := by decide +kernel
theorem d_C_cut_49 : decode prog_1_method_5_code 49 = .ok (.iconst 1, 1) := by decide +kernel
theorem d_C_cut_50 : decode prog_1_method_5_code 50 = .ok (.iadd, 1) := by decide +kernel
theorem d_C_cut_51 : decode prog_1_method_5_code 51 = .ok (.iload_n 2, 1) := by decide +kernel
theorem d_C_cut_52 : decode prog_1_method_5_code 52 = .ok (.invokevirtual 87, 3) := by decide +kernel
theorem d_C_cut_55 : decode prog_1_method_5_code 55 = .ok (.lreturn, 1) := by decide +kernel
theorem d_C_curves_0 : decode prog_1_method_6_code 0 = .ok (.iload_n 1, 1) := by decide +kernel
theorem d_C_curves_1 : decode prog_1_method_6_code 1 = .ok (.ifCond .lt 11, 3) := by decide +kernel
theorem d_C_curves_4 : decode prog_1_method_6_code 4 = .ok (.iload_n 1, 1) := by decide +kernel
theorem d_C_curves_5 : decode prog_1_method_6_code 5 = .ok (.aload_n 0, 1) := by decide +kernel
theorem d_C_curves_6 : decode prog_1_method_6_code 6 = .ok (.invokevirtual 91, 3) := by decide +kernel
theorem d_C_curves_9 : decode prog_1_method_6_code 9 = .ok (.if_icmp .lt 13, 3) := by decide +kernel
theorem d_C_curves_12 : decode prog_1_method_6_code 12 = .ok (.new 72, 3) := by decide +kernel
theorem d_C_curves_15 : decode prog_1_method_6_code 15 = .ok (.dup, 1) := by decide +kernel
theorem d_C_curves_16 : decode prog_1_method_6_code 16 = .ok (.ldc 95, 2) := by decide +kernel
theorem d_C_curves_18 : decode prog_1_method_6_code 18 = .ok (.invokespecial 76, 3) := by decide +kernel
theorem d_C_curves_21 : decode prog_1_method_6_code 21 = .ok (.athrow, 1) := by decide +kernel
theorem d_C_curves_22 : decode prog_1_method_6_code 22 = .ok (.aload_n 0, 1) := by decide +kernel
theorem d_C_curves_23 : decode prog_1_method_6_code 23 = .ok (.iload_n 1, 1) := by decide +kernel
theorem d_C_curves_24 : decode prog_1_method_6_code 24 = .ok (.invokevirtual 97, 3) := by decide +kernel
theorem d_C_curves_27 : decode prog_1_method_6_code 27 = .ok (.iconst 2, 1) := by decide +kernel
theorem d_C_curves_28 : decode prog_1_method_6_code 28 = .ok (.idiv, 1) := by decide +kernel
theorem d_C_curves_29 : decode prog_1_method_6_code 29 = .ok (.ireturn, 1) := by decide +kernel
theorem d_C_total_0 : decode prog_1_method_7_code 0 = .ok (.aload_n 0, 1) := by decide +kernel
theorem d_C_total_1 : decode prog_1_method_7_code 1 = .ok (.getfield 45, 3) := by decide +kernel
theorem d_C_total_4 : decode prog_1_method_7_code 4 = .ok (.aload_n 0, 1) := by decide +kernel
theorem d_C_total_5 : decode prog_1_method_7_code 5 = .ok (.invokevirtual 91, 3) := by decide +kernel
theorem d_C_total_8 : decode prog_1_method_7_code 8 = .ok (.iaload, 1) := by decide +kernel
theorem d_C_total_9 : decode prog_1_method_7_code 9 = .ok (.ireturn, 1) := by decide +kernel
theorem d_C_cell_0 : decode prog_1_method_8_code 0 = .ok (.aload_n 0, 1) := by decide +kernel
theorem d_C_cell_1 : decode prog_1_method_8_code 1 = .ok (.iload_n 1, 1) := by decide +kernel
theorem d_C_cell_2 : decode prog_1_method_8_code 2 = .ok (.invokevirtual 101, 3) := by decide +kernel
theorem d_C_cell_5 : decode prog_1_method_8_code 5 = .ok (.ifCond .ne 13, 3) := by decide +kernel
theorem d_C_cell_8 : decode prog_1_method_8_code 8 = .ok (.new 72, 3) := by decide +kernel
theorem d_C_cell_11 : decode prog_1_method_8_code 11 = .ok (.dup, 1) := by decide +kernel
theorem d_C_cell_12 : decode prog_1_method_8_code 12 = .ok (.ldc 104, 2) := by decide +kernel
theorem d_C_cell_14 : decode prog_1_method_8_code 14 = .ok (.invokespecial 76, 3) := by decide +kernel
theorem d_C_cell_17 : decode prog_1_method_8_code 17 = .ok (.athrow, 1) := by decide +kernel
theorem d_C_cell_18 : decode prog_1_method_8_code 18 = .ok (.aload_n 0, 1) := by decide +kernel
theorem d_C_cell_19 : decode prog_1_method_8_code 19 = .ok (.iload_n 1, 1) := by decide +kernel
theorem d_C_cell_20 : decode prog_1_method_8_code 20 = .ok (.invokevirtual 106, 3) := by decide +kernel
theorem d_C_cell_23 : decode prog_1_method_8_code 23 = .ok (.istore_n 3, 1) := by decide +kernel
theorem d_C_cell_24 : decode prog_1_method_8_code 24 = .ok (.iload_n 1, 1) := by decide +kernel
theorem d_C_cell_25 : decode prog_1_method_8_code 25 = .ok (.aload_n 0, 1) := by decide +kernel
theorem d_C_cell_26 : decode prog_1_method_8_code 26 = .ok (.getfield 45, 3) := by decide +kernel
theorem d_C_cell_29 : decode prog_1_method_8_code 29 = .ok (.iload_n 3, 1) := by decide +kernel
theorem d_C_cell_30 : decode prog_1_method_8_code 30 = .ok (.iaload, 1) := by decide +kernel
theorem d_C_cell_31 : decode prog_1_method_8_code 31 = .ok (.isub, 1) := by decide +kernel
theorem d_C_cell_32 : decode prog_1_method_8_code 32 = .ok (.istore 4, 2) := by decide +kernel
theorem d_C_cell_34 : decode prog_1_method_8_code 34 = .ok (.iload_n 2, 1) := by decide +kernel
theorem d_C_cell_35 : decode prog_1_method_8_code 35 = .ok (.tableswitch 41 0 2 #[25, 27, 30], 25) := by decide +kernel
theorem d_C_cell_60 : decode prog_1_method_8_code 60 = .ok (.iload_n 3, 1) := by decide +kernel
theorem d_C_cell_61 : decode prog_1_method_8_code 61 = .ok (.ireturn, 1) := by decide +kernel
theorem d_C_cell_62 : decode prog_1_method_8_code 62 = .ok (.iload 4, 2) := by decide +kernel
theorem d_C_cell_64 : decode prog_1_method_8_code 64 = .ok (.ireturn, 1) := by decide +kernel
theorem d_C_cell_65 : decode prog_1_method_8_code 65 = .ok (.iconst 2, 1) := by decide +kernel
theorem d_C_cell_66 : decode prog_1_method_8_code 66 = .ok (.iload_n 3, 1) := by decide +kernel
theorem d_C_cell_67 : decode prog_1_method_8_code 67 = .ok (.iconst 2, 1) := by decide +kernel
theorem d_C_cell_68 : decode prog_1_method_8_code 68 = .ok (.irem, 1) := by decide +kernel
theorem d_C_cell_69 : decode prog_1_method_8_code 69 = .ok (.isub, 1) := by decide +kernel
theorem d_C_cell_70 : decode prog_1_method_8_code 70 = .ok (.iload 4, 2) := by decide +kernel
theorem d_C_cell_72 : decode prog_1_method_8_code 72 = .ok (.iconst 2, 1) := by decide +kernel
theorem d_C_cell_73 : decode prog_1_method_8_code 73 = .ok (.irem, 1) := by decide +kernel
theorem d_C_cell_74 : decode prog_1_method_8_code 74 = .ok (.isub, 1) := by decide +kernel
theorem d_C_cell_75 : decode prog_1_method_8_code 75 = .ok (.ireturn, 1) := by decide +kernel
theorem d_C_cell_76 : decode prog_1_method_8_code 76 = .ok (.new 55, 3) := by decide +kernel
theorem d_C_cell_79 : decode prog_1_method_8_code 79 = .ok (.dup, 1) := by decide +kernel
theorem d_C_cell_80 : decode prog_1_method_8_code 80 = .ok (.ldc 109, 2) := by decide +kernel
theorem d_C_cell_82 : decode prog_1_method_8_code 82 = .ok (.invokespecial 59, 3) := by decide +kernel
theorem d_C_cell_85 : decode prog_1_method_8_code 85 = .ok (.athrow, 1) := by decide +kernel
theorem d_C_sample_0 : decode prog_1_method_9_code 0 = .ok (.aload_n 0, 1) := by decide +kernel
theorem d_C_sample_1 : decode prog_1_method_9_code 1 = .ok (.iload_n 1, 1) := by decide +kernel
theorem d_C_sample_2 : decode prog_1_method_9_code 2 = .ok (.invokevirtual 101, 3) := by decide +kernel
theorem d_C_sample_5 : decode prog_1_method_9_code 5 = .ok (.ifCond .ne 13, 3) := by decide +kernel
theorem d_C_sample_8 : decode prog_1_method_9_code 8 = .ok (.new 72, 3) := by decide +kernel
theorem d_C_sample_11 : decode prog_1_method_9_code 11 = .ok (.dup, 1) := by decide +kernel
theorem d_C_sample_12 : decode prog_1_method_9_code 12 = .ok (.ldc 104, 2) := by decide +kernel
theorem d_C_sample_14 : decode prog_1_method_9_code 14 = .ok (.invokespecial 76, 3) := by decide +kernel
theorem d_C_sample_17 : decode prog_1_method_9_code 17 = .ok (.athrow, 1) := by decide +kernel
theorem d_C_sample_18 : decode prog_1_method_9_code 18 = .ok (.iload_n 2, 1) := by decide +kernel
theorem d_C_sample_19 : decode prog_1_method_9_code 19 = .ok (.ifCond .lt 8, 3) := by decide +kernel
theorem d_C_sample_22 : decode prog_1_method_9_code 22 = .ok (.iload_n 2, 1) := by decide +kernel
theorem d_C_sample_23 : decode prog_1_method_9_code 23 = .ok (.iconst 1, 1) := by decide +kernel
theorem d_C_sample_24 : decode prog_1_method_9_code 24 = .ok (.if_icmp .le 13, 3) := by decide +kernel
theorem d_C_sample_27 : decode prog_1_method_9_code 27 = .ok (.new 55, 3) := by decide +kernel
theorem d_C_sample_30 : decode prog_1_method_9_code 30 = .ok (.dup, 1) := by decide +kernel
theorem d_C_sample_31 : decode prog_1_method_9_code 31 = .ok (.ldc 111, 2) := by decide +kernel
theorem d_C_sample_33 : decode prog_1_method_9_code 33 = .ok (.invokespecial 59, 3) := by decide +kernel
theorem d_C_sample_36 : decode prog_1_method_9_code 36 = .ok (.athrow, 1) := by decide +kernel
theorem d_C_sample_37 : decode prog_1_method_9_code 37 = .ok (.iload_n 3, 1) := by decide +kernel
theorem d_C_sample_38 : decode prog_1_method_9_code 38 = .ok (.invokestatic 82, 3) := by decide +kernel
theorem d_C_sample_41 : decode prog_1_method_9_code 41 = .ok (.ifCond .ne 13, 3) := by decide +kernel
theorem d_C_sample_44 : decode prog_1_method_9_code 44 = .ok (.new 55, 3) := by decide +kernel
theorem d_C_sample_47 : decode prog_1_method_9_code 47 = .ok (.dup, 1) := by decide +kernel
theorem d_C_sample_48 : decode prog_1_method_9_code 48 = .ok (.ldc 85, 2) := by decide +kernel
theorem d_C_sample_50 : decode prog_1_method_9_code 50 = .ok (.invokespecial 59, 3) := by decide +kernel
theorem d_C_sample_53 : decode prog_1_method_9_code 53 = .ok (.athrow, 1) := by decide +kernel
theorem d_C_sample_54 : decode prog_1_method_9_code 54 = .ok (.aload_n 0, 1) := by decide +kernel
theorem d_C_sample_55 : decode prog_1_method_9_code 55 = .ok (.iload_n 1, 1) := by decide +kernel
theorem d_C_sample_56 : decode prog_1_method_9_code 56 = .ok (.invokevirtual 106, 3) := by decide +kernel
theorem d_C_sample_59 : decode prog_1_method_9_code 59 = .ok (.istore 4, 2) := by decide +kernel
theorem d_C_sample_61 : decode prog_1_method_9_code 61 = .ok (.iload_n 2, 1) := by decide +kernel
theorem d_C_sample_62 : decode prog_1_method_9_code 62 = .ok (.ifCond .ne 25, 3) := by decide +kernel
theorem d_C_sample_65 : decode prog_1_method_9_code 65 = .ok (.iload_n 3, 1) := by decide +kernel
theorem d_C_sample_66 : decode prog_1_method_9_code 66 = .ok (.ifCond .ne 13, 3) := by decide +kernel
theorem d_C_sample_69 : decode prog_1_method_9_code 69 = .ok (.aload_n 0, 1) := by decide +kernel
theorem d_C_sample_70 : decode prog_1_method_9_code 70 = .ok (.getfield 33, 3) := by decide +kernel
theorem d_C_sample_73 : decode prog_1_method_9_code 73 = .ok (.iload 4, 2) := by decide +kernel
theorem d_C_sample_75 : decode prog_1_method_9_code 75 = .ok (.laload, 1) := by decide +kernel
theorem d_C_sample_76 : decode prog_1_method_9_code 76 = .ok (.goto 10, 3) := by decide +kernel
theorem d_C_sample_79 : decode prog_1_method_9_code 79 = .ok (.aload_n 0, 1) := by decide +kernel
theorem d_C_sample_80 : decode prog_1_method_9_code 80 = .ok (.getfield 37, 3) := by decide +kernel
theorem d_C_sample_83 : decode prog_1_method_9_code 83 = .ok (.iload 4, 2) := by decide +kernel
theorem d_C_sample_85 : decode prog_1_method_9_code 85 = .ok (.laload, 1) := by decide +kernel
theorem d_C_sample_86 : decode prog_1_method_9_code 86 = .ok (.lreturn, 1) := by decide +kernel
theorem d_C_sample_87 : decode prog_1_method_9_code 87 = .ok (.aload_n 0, 1) := by decide +kernel
theorem d_C_sample_88 : decode prog_1_method_9_code 88 = .ok (.aload_n 0, 1) := by decide +kernel
theorem d_C_sample_89 : decode prog_1_method_9_code 89 = .ok (.getfield 33, 3) := by decide +kernel
theorem d_C_sample_92 : decode prog_1_method_9_code 92 = .ok (.iload 4, 2) := by decide +kernel
theorem d_C_sample_94 : decode prog_1_method_9_code 94 = .ok (.laload, 1) := by decide +kernel
theorem d_C_sample_95 : decode prog_1_method_9_code 95 = .ok (.aload_n 0, 1) := by decide +kernel
theorem d_C_sample_96 : decode prog_1_method_9_code 96 = .ok (.getfield 37, 3) := by decide +kernel
theorem d_C_sample_99 : decode prog_1_method_9_code 99 = .ok (.iload 4, 2) := by decide +kernel
theorem d_C_sample_101 : decode prog_1_method_9_code 101 = .ok (.laload, 1) := by decide +kernel
theorem d_C_sample_102 : decode prog_1_method_9_code 102 = .ok (.invokevirtual 113, 3) := by decide +kernel
theorem d_C_sample_105 : decode prog_1_method_9_code 105 = .ok (.aload_n 0, 1) := by decide +kernel
theorem d_C_sample_106 : decode prog_1_method_9_code 106 = .ok (.getfield 30, 3) := by decide +kernel
theorem d_C_sample_109 : decode prog_1_method_9_code 109 = .ok (.iload_n 1, 1) := by decide +kernel
theorem d_C_sample_110 : decode prog_1_method_9_code 110 = .ok (.aload_n 0, 1) := by decide +kernel
theorem d_C_sample_111 : decode prog_1_method_9_code 111 = .ok (.getfield 45, 3) := by decide +kernel
theorem d_C_sample_114 : decode prog_1_method_9_code 114 = .ok (.iload 4, 2) := by decide +kernel
theorem d_C_sample_116 : decode prog_1_method_9_code 116 = .ok (.iaload, 1) := by decide +kernel
theorem d_C_sample_117 : decode prog_1_method_9_code 117 = .ok (.isub, 1) := by decide +kernel
theorem d_C_sample_118 : decode prog_1_method_9_code 118 = .ok (.iload_n 3, 1) := by decide +kernel
theorem d_C_sample_119 : decode prog_1_method_9_code 119 = .ok (.invokevirtual 87, 3) := by decide +kernel
theorem d_C_sample_122 : decode prog_1_method_9_code 122 = .ok (.lreturn, 1) := by decide +kernel
theorem d_C_sign_0 : decode prog_1_method_10_code 0 = .ok (.aload_n 0, 1) := by decide +kernel
theorem d_C_sign_1 : decode prog_1_method_10_code 1 = .ok (.iload_n 1, 1) := by decide +kernel
theorem d_C_sign_2 : decode prog_1_method_10_code 2 = .ok (.invokevirtual 101, 3) := by decide +kernel
theorem d_C_sign_5 : decode prog_1_method_10_code 5 = .ok (.ifCond .ne 13, 3) := by decide +kernel
theorem d_C_sign_8 : decode prog_1_method_10_code 8 = .ok (.new 72, 3) := by decide +kernel
theorem d_C_sign_11 : decode prog_1_method_10_code 11 = .ok (.dup, 1) := by decide +kernel
theorem d_C_sign_12 : decode prog_1_method_10_code 12 = .ok (.ldc 104, 2) := by decide +kernel
theorem d_C_sign_14 : decode prog_1_method_10_code 14 = .ok (.invokespecial 76, 3) := by decide +kernel
theorem d_C_sign_17 : decode prog_1_method_10_code 17 = .ok (.athrow, 1) := by decide +kernel
theorem d_C_sign_18 : decode prog_1_method_10_code 18 = .ok (.aload_n 0, 1) := by decide +kernel
theorem d_C_sign_19 : decode prog_1_method_10_code 19 = .ok (.iload_n 2, 1) := by decide +kernel
theorem d_C_sign_20 : decode prog_1_method_10_code 20 = .ok (.invokevirtual 69, 3) := by decide +kernel
theorem d_C_sign_23 : decode prog_1_method_10_code 23 = .ok (.ifCond .ne 13, 3) := by decide +kernel
theorem d_C_sign_26 : decode prog_1_method_10_code 26 = .ok (.new 72, 3) := by decide +kernel
theorem d_C_sign_29 : decode prog_1_method_10_code 29 = .ok (.dup, 1) := by decide +kernel
theorem d_C_sign_30 : decode prog_1_method_10_code 30 = .ok (.ldc 74, 2) := by decide +kernel
theorem d_C_sign_32 : decode prog_1_method_10_code 32 = .ok (.invokespecial 76, 3) := by decide +kernel
theorem d_C_sign_35 : decode prog_1_method_10_code 35 = .ok (.athrow, 1) := by decide +kernel
theorem d_C_sign_36 : decode prog_1_method_10_code 36 = .ok (.aload_n 0, 1) := by decide +kernel
theorem d_C_sign_37 : decode prog_1_method_10_code 37 = .ok (.iload_n 1, 1) := by decide +kernel
theorem d_C_sign_38 : decode prog_1_method_10_code 38 = .ok (.invokevirtual 106, 3) := by decide +kernel
theorem d_C_sign_41 : decode prog_1_method_10_code 41 = .ok (.istore_n 3, 1) := by decide +kernel
theorem d_C_sign_42 : decode prog_1_method_10_code 42 = .ok (.aload_n 0, 1) := by decide +kernel
theorem d_C_sign_43 : decode prog_1_method_10_code 43 = .ok (.iload_n 3, 1) := by decide +kernel
theorem d_C_sign_44 : decode prog_1_method_10_code 44 = .ok (.iload_n 1, 1) := by decide +kernel
theorem d_C_sign_45 : decode prog_1_method_10_code 45 = .ok (.aload_n 0, 1) := by decide +kernel
theorem d_C_sign_46 : decode prog_1_method_10_code 46 = .ok (.getfield 45, 3) := by decide +kernel
theorem d_C_sign_49 : decode prog_1_method_10_code 49 = .ok (.iload_n 3, 1) := by decide +kernel
theorem d_C_sign_50 : decode prog_1_method_10_code 50 = .ok (.iaload, 1) := by decide +kernel
theorem d_C_sign_51 : decode prog_1_method_10_code 51 = .ok (.isub, 1) := by decide +kernel
theorem d_C_sign_52 : decode prog_1_method_10_code 52 = .ok (.iload_n 2, 1) := by decide +kernel
theorem d_C_sign_53 : decode prog_1_method_10_code 53 = .ok (.invokevirtual 117, 3) := by decide +kernel
theorem d_C_sign_56 : decode prog_1_method_10_code 56 = .ok (.ireturn, 1) := by decide +kernel
theorem d_C_at_0 : decode prog_1_method_11_code 0 = .ok (.iload_n 1, 1) := by decide +kernel
theorem d_C_at_1 : decode prog_1_method_11_code 1 = .ok (.invokestatic 121, 3) := by decide +kernel
theorem d_C_at_4 : decode prog_1_method_11_code 4 = .ok (.ifCond .eq 25, 3) := by decide +kernel
theorem d_C_at_7 : decode prog_1_method_11_code 7 = .ok (.iload_n 2, 1) := by decide +kernel
theorem d_C_at_8 : decode prog_1_method_11_code 8 = .ok (.invokestatic 121, 3) := by decide +kernel
theorem d_C_at_11 : decode prog_1_method_11_code 11 = .ok (.ifCond .eq 18, 3) := by decide +kernel
theorem d_C_at_14 : decode prog_1_method_11_code 14 = .ok (.iload_n 3, 1) := by decide +kernel
theorem d_C_at_15 : decode prog_1_method_11_code 15 = .ok (.invokestatic 121, 3) := by decide +kernel
theorem d_C_at_18 : decode prog_1_method_11_code 18 = .ok (.ifCond .eq 11, 3) := by decide +kernel
theorem d_C_at_21 : decode prog_1_method_11_code 21 = .ok (.iload 4, 2) := by decide +kernel
theorem d_C_at_23 : decode prog_1_method_11_code 23 = .ok (.invokestatic 121, 3) := by decide +kernel
theorem d_C_at_26 : decode prog_1_method_11_code 26 = .ok (.ifCond .ne 13, 3) := by decide +kernel
theorem d_C_at_29 : decode prog_1_method_11_code 29 = .ok (.new 55, 3) := by decide +kernel
theorem d_C_at_32 : decode prog_1_method_11_code 32 = .ok (.dup, 1) := by decide +kernel
theorem d_C_at_33 : decode prog_1_method_11_code 33 = .ok (.ldc 124, 2) := by decide +kernel
theorem d_C_at_35 : decode prog_1_method_11_code 35 = .ok (.invokespecial 59, 3) := by decide +kernel
theorem d_C_at_38 : decode prog_1_method_11_code 38 = .ok (.athrow, 1) := by decide +kernel
theorem d_C_at_39 : decode prog_1_method_11_code 39 = .ok (.iload_n 2, 1) := by decide +kernel
theorem d_C_at_40 : decode prog_1_method_11_code 40 = .ok (.iconst 1, 1) := by decide +kernel
theorem d_C_at_41 : decode prog_1_method_11_code 41 = .ok (.if_icmp .lt 9, 3) := by decide +kernel
theorem d_C_at_44 : decode prog_1_method_11_code 44 = .ok (.iload 4, 2) := by decide +kernel
theorem d_C_at_46 : decode prog_1_method_11_code 46 = .ok (.iconst 1, 1) := by decide +kernel
theorem d_C_at_47 : decode prog_1_method_11_code 47 = .ok (.if_icmp .ge 13, 3) := by decide +kernel
theorem d_C_at_50 : decode prog_1_method_11_code 50 = .ok (.new 55, 3) := by decide +kernel
theorem d_C_at_53 : decode prog_1_method_11_code 53 = .ok (.dup, 1) := by decide +kernel
theorem d_C_at_54 : decode prog_1_method_11_code 54 = .ok (.ldc 126, 2) := by decide +kernel
theorem d_C_at_56 : decode prog_1_method_11_code 56 = .ok (.invokespecial 59, 3) := by decide +kernel
theorem d_C_at_59 : decode prog_1_method_11_code 59 = .ok (.athrow, 1) := by decide +kernel
theorem d_C_at_60 : decode prog_1_method_11_code 60 = .ok (.aload_n 0, 1) := by decide +kernel
theorem d_C_at_61 : decode prog_1_method_11_code 61 = .ok (.iload_n 1, 1) := by decide +kernel
theorem d_C_at_62 : decode prog_1_method_11_code 62 = .ok (.i2l, 1) := by decide +kernel
theorem d_C_at_63 : decode prog_1_method_11_code 63 = .ok (.iload_n 2, 1) := by decide +kernel
theorem d_C_at_64 : decode prog_1_method_11_code 64 = .ok (.i2l, 1) := by decide +kernel
theorem d_C_at_65 : decode prog_1_method_11_code 65 = .ok (.invokevirtual 113, 3) := by decide +kernel
theorem d_C_at_68 : decode prog_1_method_11_code 68 = .ok (.aload_n 0, 1) := by decide +kernel
theorem d_C_at_69 : decode prog_1_method_11_code 69 = .ok (.getfield 45, 3) := by decide +kernel
theorem d_C_at_72 : decode prog_1_method_11_code 72 = .ok (.aload_n 0, 1) := by decide +kernel
theorem d_C_at_73 : decode prog_1_method_11_code 73 = .ok (.getfield 26, 3) := by decide +kernel
theorem d_C_at_76 : decode prog_1_method_11_code 76 = .ok (.iload_n 1, 1) := by decide +kernel
theorem d_C_at_77 : decode prog_1_method_11_code 77 = .ok (.i2l, 1) := by decide +kernel
theorem d_C_at_78 : decode prog_1_method_11_code 78 = .ok (.iload_n 2, 1) := by decide +kernel
theorem d_C_at_79 : decode prog_1_method_11_code 79 = .ok (.i2l, 1) := by decide +kernel
theorem d_C_at_80 : decode prog_1_method_11_code 80 = .ok (.invokevirtual 128, 3) := by decide +kernel
theorem d_C_at_83 : decode prog_1_method_11_code 83 = .ok (.iaload, 1) := by decide +kernel
theorem d_C_at_84 : decode prog_1_method_11_code 84 = .ok (.aload_n 0, 1) := by decide +kernel
theorem d_C_at_85 : decode prog_1_method_11_code 85 = .ok (.getfield 30, 3) := by decide +kernel
theorem d_C_at_88 : decode prog_1_method_11_code 88 = .ok (.iload_n 3, 1) := by decide +kernel
theorem d_C_at_89 : decode prog_1_method_11_code 89 = .ok (.i2l, 1) := by decide +kernel
theorem d_C_at_90 : decode prog_1_method_11_code 90 = .ok (.iload 4, 2) := by decide +kernel
theorem d_C_at_92 : decode prog_1_method_11_code 92 = .ok (.i2l, 1) := by decide +kernel
theorem d_C_at_93 : decode prog_1_method_11_code 93 = .ok (.invokevirtual 128, 3) := by decide +kernel
theorem d_C_at_96 : decode prog_1_method_11_code 96 = .ok (.iadd, 1) := by decide +kernel
theorem d_C_at_97 : decode prog_1_method_11_code 97 = .ok (.ireturn, 1) := by decide +kernel
theorem d_C_find_0 : decode prog_1_method_12_code 0 = .ok (.aload_n 0, 1) := by decide +kernel
theorem d_C_find_1 : decode prog_1_method_12_code 1 = .ok (.invokevirtual 91, 3) := by decide +kernel
theorem d_C_find_4 : decode prog_1_method_12_code 4 = .ok (.istore_n 2, 1) := by decide +kernel
theorem d_C_find_5 : decode prog_1_method_12_code 5 = .ok (.iconst 0, 1) := by decide +kernel
theorem d_C_find_6 : decode prog_1_method_12_code 6 = .ok (.istore_n 3, 1) := by decide +kernel
theorem d_C_find_7 : decode prog_1_method_12_code 7 = .ok (.iload_n 3, 1) := by decide +kernel
theorem d_C_find_8 : decode prog_1_method_12_code 8 = .ok (.iload_n 2, 1) := by decide +kernel
theorem d_C_find_9 : decode prog_1_method_12_code 9 = .ok (.if_icmp .ge 53, 3) := by decide +kernel
theorem d_C_find_12 : decode prog_1_method_12_code 12 = .ok (.aload_n 0, 1) := by decide +kernel
theorem d_C_find_13 : decode prog_1_method_12_code 13 = .ok (.iload_n 3, 1) := by decide +kernel
theorem d_C_find_14 : decode prog_1_method_12_code 14 = .ok (.invokevirtual 97, 3) := by decide +kernel
theorem d_C_find_17 : decode prog_1_method_12_code 17 = .ok (.istore 4, 2) := by decide +kernel
theorem d_C_find_19 : decode prog_1_method_12_code 19 = .ok (.iconst 0, 1) := by decide +kernel
theorem d_C_find_20 : decode prog_1_method_12_code 20 = .ok (.istore 5, 2) := by decide +kernel
theorem d_C_find_22 : decode prog_1_method_12_code 22 = .ok (.iload 5, 2) := by decide +kernel
theorem d_C_find_24 : decode prog_1_method_12_code 24 = .ok (.iload 4, 2) := by decide +kernel
theorem d_C_find_26 : decode prog_1_method_12_code 26 = .ok (.if_icmp .ge 30, 3) := by decide +kernel
theorem d_C_find_29 : decode prog_1_method_12_code 29 = .ok (.aload_n 0, 1) := by decide +kernel
theorem d_C_find_30 : decode prog_1_method_12_code 30 = .ok (.iload_n 3, 1) := by decide +kernel
theorem d_C_find_31 : decode prog_1_method_12_code 31 = .ok (.iload 5, 2) := by decide +kernel
theorem d_C_find_33 : decode prog_1_method_12_code 33 = .ok (.iload_n 1, 1) := by decide +kernel
theorem d_C_find_34 : decode prog_1_method_12_code 34 = .ok (.invokevirtual 132, 3) := by decide +kernel
theorem d_C_find_37 : decode prog_1_method_12_code 37 = .ok (.ifCond .eq 13, 3) := by decide +kernel
theorem d_C_find_40 : decode prog_1_method_12_code 40 = .ok (.aload_n 0, 1) := by decide +kernel
theorem d_C_find_41 : decode prog_1_method_12_code 41 = .ok (.getfield 45, 3) := by decide +kernel
theorem d_C_find_44 : decode prog_1_method_12_code 44 = .ok (.iload_n 3, 1) := by decide +kernel
theorem d_C_find_45 : decode prog_1_method_12_code 45 = .ok (.iaload, 1) := by decide +kernel
theorem d_C_find_46 : decode prog_1_method_12_code 46 = .ok (.iload 5, 2) := by decide +kernel
theorem d_C_find_48 : decode prog_1_method_12_code 48 = .ok (.iadd, 1) := by decide +kernel
theorem d_C_find_49 : decode prog_1_method_12_code 49 = .ok (.ireturn, 1) := by decide +kernel
theorem d_C_find_50 : decode prog_1_method_12_code 50 = .ok (.iinc 5 1, 3) := by decide +kernel
theorem d_C_find_53 : decode prog_1_method_12_code 53 = .ok (.goto (-31), 3) := by decide +kernel
theorem d_C_find_56 : decode prog_1_method_12_code 56 = .ok (.iinc 3 1, 3) := by decide +kernel
theorem d_C_find_59 : decode prog_1_method_12_code 59 = .ok (.goto (-52), 3) := by decide +kernel
theorem d_C_find_62 : decode prog_1_method_12_code 62 = .ok (.iconst (-1), 1) := by decide +kernel
theorem d_C_find_63 : decode prog_1_method_12_code 63 = .ok (.ireturn, 1) := by decide +kernel
theorem d_C_touch_0 : decode prog_1_method_13_code 0 = .ok (.aload_n 0, 1) := by decide +kernel
theorem d_C_touch_1 : decode prog_1_method_13_code 1 = .ok (.iload_n 1, 1) := by decide +kernel
theorem d_C_touch_2 : decode prog_1_method_13_code 2 = .ok (.invokevirtual 101, 3) := by decide +kernel
theorem d_C_touch_5 : decode prog_1_method_13_code 5 = .ok (.ifCond .eq 11, 3) := by decide +kernel
theorem d_C_touch_8 : decode prog_1_method_13_code 8 = .ok (.aload_n 0, 1) := by decide +kernel
theorem d_C_touch_9 : decode prog_1_method_13_code 9 = .ok (.iload_n 2, 1) := by decide +kernel
theorem d_C_touch_10 : decode prog_1_method_13_code 10 = .ok (.invokevirtual 101, 3) := by decide +kernel
theorem d_C_touch_13 : decode prog_1_method_13_code 13 = .ok (.ifCond .ne 13, 3) := by decide +kernel
theorem d_C_touch_16 : decode prog_1_method_13_code 16 = .ok (.new 72, 3) := by decide +kernel
theorem d_C_touch_19 : decode prog_1_method_13_code 19 = .ok (.dup, 1) := by decide +kernel
theorem d_C_touch_20 : decode prog_1_method_13_code 20 = .ok (.ldc 104, 2) := by decide +kernel
theorem d_C_touch_22 : decode prog_1_method_13_code 22 = .ok (.invokespecial 76, 3) := by decide +kernel
theorem d_C_touch_25 : decode prog_1_method_13_code 25 = .ok (.athrow, 1) := by decide +kernel
theorem d_C_touch_26 : decode prog_1_method_13_code 26 = .ok (.aload_n 0, 1) := by decide +kernel
theorem d_C_touch_27 : decode prog_1_method_13_code 27 = .ok (.iload_n 1, 1) := by decide +kernel
theorem d_C_touch_28 : decode prog_1_method_13_code 28 = .ok (.invokevirtual 106, 3) := by decide +kernel
theorem d_C_touch_31 : decode prog_1_method_13_code 31 = .ok (.istore_n 3, 1) := by decide +kernel
theorem d_C_touch_32 : decode prog_1_method_13_code 32 = .ok (.aload_n 0, 1) := by decide +kernel
theorem d_C_touch_33 : decode prog_1_method_13_code 33 = .ok (.iload_n 2, 1) := by decide +kernel
theorem d_C_touch_34 : decode prog_1_method_13_code 34 = .ok (.invokevirtual 106, 3) := by decide +kernel
theorem d_C_touch_37 : decode prog_1_method_13_code 37 = .ok (.istore 4, 2) := by decide +kernel
theorem d_C_touch_39 : decode prog_1_method_13_code 39 = .ok (.iload_n 1, 1) := by decide +kernel
theorem d_C_touch_40 : decode prog_1_method_13_code 40 = .ok (.aload_n 0, 1) := by decide +kernel
theorem d_C_touch_41 : decode prog_1_method_13_code 41 = .ok (.getfield 45, 3) := by decide +kernel
theorem d_C_touch_44 : decode prog_1_method_13_code 44 = .ok (.iload_n 3, 1) := by decide +kernel
theorem d_C_touch_45 : decode prog_1_method_13_code 45 = .ok (.iaload, 1) := by decide +kernel
theorem d_C_touch_46 : decode prog_1_method_13_code 46 = .ok (.isub, 1) := by decide +kernel
theorem d_C_touch_47 : decode prog_1_method_13_code 47 = .ok (.istore 5, 2) := by decide +kernel
theorem d_C_touch_49 : decode prog_1_method_13_code 49 = .ok (.iload_n 2, 1) := by decide +kernel
theorem d_C_touch_50 : decode prog_1_method_13_code 50 = .ok (.aload_n 0, 1) := by decide +kernel
theorem d_C_touch_51 : decode prog_1_method_13_code 51 = .ok (.getfield 45, 3) := by decide +kernel
theorem d_C_touch_54 : decode prog_1_method_13_code 54 = .ok (.iload 4, 2) := by decide +kernel
theorem d_C_touch_56 : decode prog_1_method_13_code 56 = .ok (.iaload, 1) := by decide +kernel
theorem d_C_touch_57 : decode prog_1_method_13_code 57 = .ok (.isub, 1) := by decide +kernel
theorem d_C_touch_58 : decode prog_1_method_13_code 58 = .ok (.istore 6, 2) := by decide +kernel
theorem d_C_touch_60 : decode prog_1_method_13_code 60 = .ok (.iload_n 3, 1) := by decide +kernel
theorem d_C_touch_61 : decode prog_1_method_13_code 61 = .ok (.iload 4, 2) := by decide +kernel
theorem d_C_touch_63 : decode prog_1_method_13_code 63 = .ok (.if_icmp .ne 21, 3) := by decide +kernel
theorem d_C_touch_66 : decode prog_1_method_13_code 66 = .ok (.iload 5, 2) := by decide +kernel
theorem d_C_touch_68 : decode prog_1_method_13_code 68 = .ok (.iload 6, 2) := by decide +kernel
theorem d_C_touch_70 : decode prog_1_method_13_code 70 = .ok (.isub, 1) := by decide +kernel
theorem d_C_touch_71 : decode prog_1_method_13_code 71 = .ok (.invokestatic 136, 3) := by decide +kernel
theorem d_C_touch_74 : decode prog_1_method_13_code 74 = .ok (.iconst 1, 1) := by decide +kernel
theorem d_C_touch_75 : decode prog_1_method_13_code 75 = .ok (.if_icmp .gt 7, 3) := by decide +kernel
theorem d_C_touch_78 : decode prog_1_method_13_code 78 = .ok (.iconst 1, 1) := by decide +kernel
theorem d_C_touch_79 : decode prog_1_method_13_code 79 = .ok (.goto 4, 3) := by decide +kernel
theorem d_C_touch_82 : decode prog_1_method_13_code 82 = .ok (.iconst 0, 1) := by decide +kernel
theorem d_C_touch_83 : decode prog_1_method_13_code 83 = .ok (.ireturn, 1) := by decide +kernel
theorem d_C_touch_84 : decode prog_1_method_13_code 84 = .ok (.iload_n 3, 1) := by decide +kernel
theorem d_C_touch_85 : decode prog_1_method_13_code 85 = .ok (.iload 4, 2) := by decide +kernel
theorem d_C_touch_87 : decode prog_1_method_13_code 87 = .ok (.isub, 1) := by decide +kernel
theorem d_C_touch_88 : decode prog_1_method_13_code 88 = .ok (.invokestatic 136, 3) := by decide +kernel
theorem d_C_touch_91 : decode prog_1_method_13_code 91 = .ok (.iconst 1, 1) := by decide +kernel
theorem d_C_touch_92 : decode prog_1_method_13_code 92 = .ok (.if_icmp .eq 5, 3) := by decide +kernel
theorem d_C_touch_95 : decode prog_1_method_13_code 95 = .ok (.iconst 0, 1) := by decide +kernel
theorem d_C_touch_96 : decode prog_1_method_13_code 96 = .ok (.ireturn, 1) := by decide +kernel
theorem d_C_touch_97 : decode prog_1_method_13_code 97 = .ok (.iload_n 3, 1) := by decide +kernel
theorem d_C_touch_98 : decode prog_1_method_13_code 98 = .ok (.iconst 2, 1) := by decide +kernel
theorem d_C_touch_99 : decode prog_1_method_13_code 99 = .ok (.irem, 1) := by decide +kernel
theorem d_C_touch_100 : decode prog_1_method_13_code 100 = .ok (.iconst 1, 1) := by decide +kernel
theorem d_C_touch_101 : decode prog_1_method_13_code 101 = .ok (.if_icmp .ne 17, 3) := by decide +kernel
theorem d_C_touch_104 : decode prog_1_method_13_code 104 = .ok (.aload_n 0, 1) := by decide +kernel
theorem d_C_touch_105 : decode prog_1_method_13_code 105 = .ok (.iload 4, 2) := by decide +kernel
theorem d_C_touch_107 : decode prog_1_method_13_code 107 = .ok (.iload 6, 2) := by decide +kernel
theorem d_C_touch_109 : decode prog_1_method_13_code 109 = .ok (.iload_n 3, 1) := by decide +kernel
theorem d_C_touch_110 : decode prog_1_method_13_code 110 = .ok (.iload 5, 2) := by decide +kernel
theorem d_C_touch_112 : decode prog_1_method_13_code 112 = .ok (.invokevirtual 141, 3) := by decide +kernel
theorem d_C_touch_115 : decode prog_1_method_13_code 115 = .ok (.goto 14, 3) := by decide +kernel
theorem d_C_touch_118 : decode prog_1_method_13_code 118 = .ok (.aload_n 0, 1) := by decide +kernel
theorem d_C_touch_119 : decode prog_1_method_13_code 119 = .ok (.iload_n 3, 1) := by decide +kernel
theorem d_C_touch_120 : decode prog_1_method_13_code 120 = .ok (.iload 5, 2) := by decide +kernel
theorem d_C_touch_122 : decode prog_1_method_13_code 122 = .ok (.iload 4, 2) := by decide +kernel
theorem d_C_touch_124 : decode prog_1_method_13_code 124 = .ok (.iload 6, 2) := by decide +kernel
theorem d_C_touch_126 : decode prog_1_method_13_code 126 = .ok (.invokevirtual 141, 3) := by decide +kernel
theorem d_C_touch_129 : decode prog_1_method_13_code 129 = .ok (.ireturn, 1) := by decide +kernel
theorem d_C_lines_0 : decode prog_1_method_14_code 0 = .ok (.aload_n 0, 1) := by decide +kernel
theorem d_C_lines_1 : decode prog_1_method_14_code 1 = .ok (.getfield 19, 3) := by decide +kernel
theorem d_C_lines_4 : decode prog_1_method_14_code 4 = .ok (.ireturn, 1) := by decide +kernel
theorem d_C_isFactor_0 : decode prog_1_method_15_code 0 = .ok (.iload_n 0, 1) := by decide +kernel
theorem d_C_isFactor_1 : decode prog_1_method_15_code 1 = .ok (.bipush (-6), 2) := by decide +kernel
theorem d_C_isFactor_3 : decode prog_1_method_15_code 3 = .ok (.if_icmp .lt 13, 3) := by decide +kernel
theorem d_C_isFactor_6 : decode prog_1_method_15_code 6 = .ok (.iload_n 0, 1) := by decide +kernel
theorem d_C_isFactor_7 : decode prog_1_method_15_code 7 = .ok (.bipush 6, 2) := by decide +kernel
theorem d_C_isFactor_9 : decode prog_1_method_15_code 9 = .ok (.if_icmp .gt 7, 3) := by decide +kernel
theorem d_C_isFactor_12 : decode prog_1_method_15_code 12 = .ok (.iconst 1, 1) := by decide +kernel
theorem d_C_isFactor_13 : decode prog_1_method_15_code 13 = .ok (.goto 4, 3) := by decide +kernel
theorem d_C_isFactor_16 : decode prog_1_method_15_code 16 = .ok (.iconst 0, 1) := by decide +kernel
theorem d_C_isFactor_17 : decode prog_1_method_15_code 17 = .ok (.ireturn, 1) := by decide +kernel
theorem d_C_isNear_0 : decode prog_1_method_16_code 0 = .ok (.iload_n 0, 1) := by decide +kernel
theorem d_C_isNear_1 : decode prog_1_method_16_code 1 = .ok (.bipush (-100), 2) := by decide +kernel
theorem d_C_isNear_3 : decode prog_1_method_16_code 3 = .ok (.if_icmp .lt 13, 3) := by decide +kernel
theorem d_C_isNear_6 : decode prog_1_method_16_code 6 = .ok (.iload_n 0, 1) := by decide +kernel
theorem d_C_isNear_7 : decode prog_1_method_16_code 7 = .ok (.bipush 100, 2) := by decide +kernel
theorem d_C_isNear_9 : decode prog_1_method_16_code 9 = .ok (.if_icmp .gt 7, 3) := by decide +kernel
theorem d_C_isNear_12 : decode prog_1_method_16_code 12 = .ok (.iconst 1, 1) := by decide +kernel
theorem d_C_isNear_13 : decode prog_1_method_16_code 13 = .ok (.goto 4, 3) := by decide +kernel
theorem d_C_isNear_16 : decode prog_1_method_16_code 16 = .ok (.iconst 0, 1) := by decide +kernel
theorem d_C_isNear_17 : decode prog_1_method_16_code 17 = .ok (.ireturn, 1) := by decide +kernel
theorem d_C_isPart_0 : decode prog_1_method_17_code 0 = .ok (.iload_n 0, 1) := by decide +kernel
theorem d_C_isPart_1 : decode prog_1_method_17_code 1 = .ok (.ifCond .eq 8, 3) := by decide +kernel
theorem d_C_isPart_4 : decode prog_1_method_17_code 4 = .ok (.iload_n 0, 1) := by decide +kernel
theorem d_C_isPart_5 : decode prog_1_method_17_code 5 = .ok (.iconst 1, 1) := by decide +kernel
theorem d_C_isPart_6 : decode prog_1_method_17_code 6 = .ok (.if_icmp .ne 7, 3) := by decide +kernel
theorem d_C_isPart_9 : decode prog_1_method_17_code 9 = .ok (.iconst 1, 1) := by decide +kernel
theorem d_C_isPart_10 : decode prog_1_method_17_code 10 = .ok (.goto 4, 3) := by decide +kernel
theorem d_C_isPart_13 : decode prog_1_method_17_code 13 = .ok (.iconst 0, 1) := by decide +kernel
theorem d_C_isPart_14 : decode prog_1_method_17_code 14 = .ok (.ireturn, 1) := by decide +kernel
theorem d_C_isLine_0 : decode prog_1_method_18_code 0 = .ok (.iload_n 1, 1) := by decide +kernel
theorem d_C_isLine_1 : decode prog_1_method_18_code 1 = .ok (.ifCond .lt 15, 3) := by decide +kernel
theorem d_C_isLine_4 : decode prog_1_method_18_code 4 = .ok (.iload_n 1, 1) := by decide +kernel
theorem d_C_isLine_5 : decode prog_1_method_18_code 5 = .ok (.aload_n 0, 1) := by decide +kernel
theorem d_C_isLine_6 : decode prog_1_method_18_code 6 = .ok (.getfield 19, 3) := by decide +kernel
theorem d_C_isLine_9 : decode prog_1_method_18_code 9 = .ok (.if_icmp .ge 7, 3) := by decide +kernel
theorem d_C_isLine_12 : decode prog_1_method_18_code 12 = .ok (.iconst 1, 1) := by decide +kernel
theorem d_C_isLine_13 : decode prog_1_method_18_code 13 = .ok (.goto 4, 3) := by decide +kernel
theorem d_C_isLine_16 : decode prog_1_method_18_code 16 = .ok (.iconst 0, 1) := by decide +kernel
theorem d_C_isLine_17 : decode prog_1_method_18_code 17 = .ok (.ireturn, 1) := by decide +kernel
theorem d_C_isCell_0 : decode prog_1_method_19_code 0 = .ok (.iload_n 1, 1) := by decide +kernel
theorem d_C_isCell_1 : decode prog_1_method_19_code 1 = .ok (.ifCond .lt 20, 3) := by decide +kernel
theorem d_C_isCell_4 : decode prog_1_method_19_code 4 = .ok (.iload_n 1, 1) := by decide +kernel
theorem d_C_isCell_5 : decode prog_1_method_19_code 5 = .ok (.aload_n 0, 1) := by decide +kernel
theorem d_C_isCell_6 : decode prog_1_method_19_code 6 = .ok (.getfield 45, 3) := by decide +kernel
theorem d_C_isCell_9 : decode prog_1_method_19_code 9 = .ok (.aload_n 0, 1) := by decide +kernel
theorem d_C_isCell_10 : decode prog_1_method_19_code 10 = .ok (.invokevirtual 91, 3) := by decide +kernel
theorem d_C_isCell_13 : decode prog_1_method_19_code 13 = .ok (.iaload, 1) := by decide +kernel
theorem d_C_isCell_14 : decode prog_1_method_19_code 14 = .ok (.if_icmp .ge 7, 3) := by decide +kernel
theorem d_C_isCell_17 : decode prog_1_method_19_code 17 = .ok (.iconst 1, 1) := by decide +kernel
theorem d_C_isCell_18 : decode prog_1_method_19_code 18 = .ok (.goto 4, 3) := by decide +kernel
theorem d_C_isCell_21 : decode prog_1_method_19_code 21 = .ok (.iconst 0, 1) := by decide +kernel
theorem d_C_isCell_22 : decode prog_1_method_19_code 22 = .ok (.ireturn, 1) := by decide +kernel
theorem d_C_stripCount_0 : decode prog_1_method_20_code 0 = .ok (.iconst 2, 1) := by decide +kernel
theorem d_C_stripCount_1 : decode prog_1_method_20_code 1 = .ok (.aload_n 0, 1) := by decide +kernel
theorem d_C_stripCount_2 : decode prog_1_method_20_code 2 = .ok (.getfield 26, 3) := by decide +kernel
theorem d_C_stripCount_5 : decode prog_1_method_20_code 5 = .ok (.getfield 77, 3) := by decide +kernel
theorem d_C_stripCount_8 : decode prog_1_method_20_code 8 = .ok (.imul, 1) := by decide +kernel
theorem d_C_stripCount_9 : decode prog_1_method_20_code 9 = .ok (.iconst 1, 1) := by decide +kernel
theorem d_C_stripCount_10 : decode prog_1_method_20_code 10 = .ok (.iadd, 1) := by decide +kernel
theorem d_C_stripCount_11 : decode prog_1_method_20_code 11 = .ok (.ireturn, 1) := by decide +kernel
theorem d_C_cellsOf_0 : decode prog_1_method_21_code 0 = .ok (.aload_n 0, 1) := by decide +kernel
theorem d_C_cellsOf_1 : decode prog_1_method_21_code 1 = .ok (.getfield 45, 3) := by decide +kernel
theorem d_C_cellsOf_4 : decode prog_1_method_21_code 4 = .ok (.iload_n 1, 1) := by decide +kernel
theorem d_C_cellsOf_5 : decode prog_1_method_21_code 5 = .ok (.iconst 1, 1) := by decide +kernel
theorem d_C_cellsOf_6 : decode prog_1_method_21_code 6 = .ok (.iadd, 1) := by decide +kernel
theorem d_C_cellsOf_7 : decode prog_1_method_21_code 7 = .ok (.iaload, 1) := by decide +kernel
theorem d_C_cellsOf_8 : decode prog_1_method_21_code 8 = .ok (.aload_n 0, 1) := by decide +kernel
theorem d_C_cellsOf_9 : decode prog_1_method_21_code 9 = .ok (.getfield 45, 3) := by decide +kernel
theorem d_C_cellsOf_12 : decode prog_1_method_21_code 12 = .ok (.iload_n 1, 1) := by decide +kernel
theorem d_C_cellsOf_13 : decode prog_1_method_21_code 13 = .ok (.iaload, 1) := by decide +kernel
theorem d_C_cellsOf_14 : decode prog_1_method_21_code 14 = .ok (.isub, 1) := by decide +kernel
theorem d_C_cellsOf_15 : decode prog_1_method_21_code 15 = .ok (.ireturn, 1) := by decide +kernel
theorem d_C_stripOf_0 : decode prog_1_method_22_code 0 = .ok (.aload_n 0, 1) := by decide +kernel
theorem d_C_stripOf_1 : decode prog_1_method_22_code 1 = .ok (.invokevirtual 91, 3) := by decide +kernel
theorem d_C_stripOf_4 : decode prog_1_method_22_code 4 = .ok (.iconst 1, 1) := by decide +kernel
theorem d_C_stripOf_5 : decode prog_1_method_22_code 5 = .ok (.isub, 1) := by decide +kernel
theorem d_C_stripOf_6 : decode prog_1_method_22_code 6 = .ok (.istore_n 2, 1) := by decide +kernel
theorem d_C_stripOf_7 : decode prog_1_method_22_code 7 = .ok (.iconst 0, 1) := by decide +kernel
theorem d_C_stripOf_8 : decode prog_1_method_22_code 8 = .ok (.istore_n 3, 1) := by decide +kernel
theorem d_C_stripOf_9 : decode prog_1_method_22_code 9 = .ok (.iload_n 3, 1) := by decide +kernel
theorem d_C_stripOf_10 : decode prog_1_method_22_code 10 = .ok (.iload_n 2, 1) := by decide +kernel
theorem d_C_stripOf_11 : decode prog_1_method_22_code 11 = .ok (.if_icmp .ge 23, 3) := by decide +kernel
theorem d_C_stripOf_14 : decode prog_1_method_22_code 14 = .ok (.iload_n 1, 1) := by decide +kernel
theorem d_C_stripOf_15 : decode prog_1_method_22_code 15 = .ok (.aload_n 0, 1) := by decide +kernel
theorem d_C_stripOf_16 : decode prog_1_method_22_code 16 = .ok (.getfield 45, 3) := by decide +kernel
theorem d_C_stripOf_19 : decode prog_1_method_22_code 19 = .ok (.iload_n 3, 1) := by decide +kernel
theorem d_C_stripOf_20 : decode prog_1_method_22_code 20 = .ok (.iconst 1, 1) := by decide +kernel
theorem d_C_stripOf_21 : decode prog_1_method_22_code 21 = .ok (.iadd, 1) := by decide +kernel
theorem d_C_stripOf_22 : decode prog_1_method_22_code 22 = .ok (.iaload, 1) := by decide +kernel
theorem d_C_stripOf_23 : decode prog_1_method_22_code 23 = .ok (.if_icmp .ge 5, 3) := by decide +kernel
theorem d_C_stripOf_26 : decode prog_1_method_22_code 26 = .ok (.iload_n 3, 1) := by decide +kernel
theorem d_C_stripOf_27 : decode prog_1_method_22_code 27 = .ok (.ireturn, 1) := by decide +kernel
theorem d_C_stripOf_28 : decode prog_1_method_22_code 28 = .ok (.iinc 3 1, 3) := by decide +kernel
theorem d_C_stripOf_31 : decode prog_1_method_22_code 31 = .ok (.goto (-22), 3) := by decide +kernel
theorem d_C_stripOf_34 : decode prog_1_method_22_code 34 = .ok (.iload_n 2, 1) := by decide +kernel
theorem d_C_stripOf_35 : decode prog_1_method_22_code 35 = .ok (.ireturn, 1) := by decide +kernel
theorem d_C_rebuild_0 : decode prog_1_method_23_code 0 = .ok (.aload_n 0, 1) := by decide +kernel
theorem d_C_rebuild_1 : decode prog_1_method_23_code 1 = .ok (.invokevirtual 145, 3) := by decide +kernel
theorem d_C_rebuild_4 : decode prog_1_method_23_code 4 = .ok (.aload_n 0, 1) := by decide +kernel
theorem d_C_rebuild_5 : decode prog_1_method_23_code 5 = .ok (.invokevirtual 91, 3) := by decide +kernel
theorem d_C_rebuild_8 : decode prog_1_method_23_code 8 = .ok (.istore_n 1, 1) := by decide +kernel
theorem d_C_rebuild_9 : decode prog_1_method_23_code 9 = .ok (.aload_n 0, 1) := by decide +kernel
theorem d_C_rebuild_10 : decode prog_1_method_23_code 10 = .ok (.getfield 45, 3) := by decide +kernel
theorem d_C_rebuild_13 : decode prog_1_method_23_code 13 = .ok (.iconst 0, 1) := by decide +kernel
theorem d_C_rebuild_14 : decode prog_1_method_23_code 14 = .ok (.iconst 0, 1) := by decide +kernel
theorem d_C_rebuild_15 : decode prog_1_method_23_code 15 = .ok (.iastore, 1) := by decide +kernel
theorem d_C_rebuild_16 : decode prog_1_method_23_code 16 = .ok (.iconst 0, 1) := by decide +kernel
theorem d_C_rebuild_17 : decode prog_1_method_23_code 17 = .ok (.istore_n 2, 1) := by decide +kernel
theorem d_C_rebuild_18 : decode prog_1_method_23_code 18 = .ok (.iload_n 2, 1) := by decide +kernel
theorem d_C_rebuild_19 : decode prog_1_method_23_code 19 = .ok (.iload_n 1, 1) := by decide +kernel
theorem d_C_rebuild_20 : decode prog_1_method_23_code 20 = .ok (.if_icmp .ge 14, 3) := by decide +kernel
theorem d_C_rebuild_23 : decode prog_1_method_23_code 23 = .ok (.aload_n 0, 1) := by decide +kernel
theorem d_C_rebuild_24 : decode prog_1_method_23_code 24 = .ok (.iload_n 2, 1) := by decide +kernel
theorem d_C_rebuild_25 : decode prog_1_method_23_code 25 = .ok (.invokevirtual 148, 3) := by decide +kernel
theorem d_C_rebuild_28 : decode prog_1_method_23_code 28 = .ok (.iinc 2 1, 3) := by decide +kernel
theorem d_C_rebuild_31 : decode prog_1_method_23_code 31 = .ok (.goto (-13), 3) := by decide +kernel
theorem d_C_rebuild_34 : decode prog_1_method_23_code 34 = .ok (.return_, 1) := by decide +kernel
theorem d_C_gatherCuts_0 : decode prog_1_method_24_code 0 = .ok (.aload_n 0, 1) := by decide +kernel
theorem d_C_gatherCuts_1 : decode prog_1_method_24_code 1 = .ok (.getfield 26, 3) := by decide +kernel
theorem d_C_gatherCuts_4 : decode prog_1_method_24_code 4 = .ok (.iconst 0, 1) := by decide +kernel
theorem d_C_gatherCuts_5 : decode prog_1_method_24_code 5 = .ok (.putfield 77, 3) := by decide +kernel
theorem d_C_gatherCuts_8 : decode prog_1_method_24_code 8 = .ok (.iconst 0, 1) := by decide +kernel
theorem d_C_gatherCuts_9 : decode prog_1_method_24_code 9 = .ok (.istore_n 1, 1) := by decide +kernel
theorem d_C_gatherCuts_10 : decode prog_1_method_24_code 10 = .ok (.iload_n 1, 1) := by decide +kernel
theorem d_C_gatherCuts_11 : decode prog_1_method_24_code 11 = .ok (.aload_n 0, 1) := by decide +kernel
theorem d_C_gatherCuts_12 : decode prog_1_method_24_code 12 = .ok (.getfield 19, 3) := by decide +kernel
theorem d_C_gatherCuts_15 : decode prog_1_method_24_code 15 = .ok (.if_icmp .ge 106, 3) := by decide +kernel
theorem d_C_gatherCuts_18 : decode prog_1_method_24_code 18 = .ok (.aload_n 0, 1) := by decide +kernel
theorem d_C_gatherCuts_19 : decode prog_1_method_24_code 19 = .ok (.getfield 13, 3) := by decide +kernel
theorem d_C_gatherCuts_22 : decode prog_1_method_24_code 22 = .ok (.iload_n 1, 1) := by decide +kernel
theorem d_C_gatherCuts_23 : decode prog_1_method_24_code 23 = .ok (.iaload, 1) := by decide +kernel
theorem d_C_gatherCuts_24 : decode prog_1_method_24_code 24 = .ok (.ifCond .ne 20, 3) := by decide +kernel
theorem d_C_gatherCuts_27 : decode prog_1_method_24_code 27 = .ok (.aload_n 0, 1) := by decide +kernel
theorem d_C_gatherCuts_28 : decode prog_1_method_24_code 28 = .ok (.aload_n 0, 1) := by decide +kernel
theorem d_C_gatherCuts_29 : decode prog_1_method_24_code 29 = .ok (.getfield 16, 3) := by decide +kernel
theorem d_C_gatherCuts_32 : decode prog_1_method_24_code 32 = .ok (.iload_n 1, 1) := by decide +kernel
theorem d_C_gatherCuts_33 : decode prog_1_method_24_code 33 = .ok (.iaload, 1) := by decide +kernel
theorem d_C_gatherCuts_34 : decode prog_1_method_24_code 34 = .ok (.ineg, 1) := by decide +kernel
theorem d_C_gatherCuts_35 : decode prog_1_method_24_code 35 = .ok (.aload_n 0, 1) := by decide +kernel
theorem d_C_gatherCuts_36 : decode prog_1_method_24_code 36 = .ok (.getfield 9, 3) := by decide +kernel
theorem d_C_gatherCuts_39 : decode prog_1_method_24_code 39 = .ok (.iload_n 1, 1) := by decide +kernel
theorem d_C_gatherCuts_40 : decode prog_1_method_24_code 40 = .ok (.iaload, 1) := by decide +kernel
theorem d_C_gatherCuts_41 : decode prog_1_method_24_code 41 = .ok (.invokevirtual 152, 3) := by decide +kernel
theorem d_C_gatherCuts_44 : decode prog_1_method_24_code 44 = .ok (.iconst 0, 1) := by decide +kernel
theorem d_C_gatherCuts_45 : decode prog_1_method_24_code 45 = .ok (.istore_n 2, 1) := by decide +kernel
theorem d_C_gatherCuts_46 : decode prog_1_method_24_code 46 = .ok (.iload_n 2, 1) := by decide +kernel
theorem d_C_gatherCuts_47 : decode prog_1_method_24_code 47 = .ok (.iload_n 1, 1) := by decide +kernel
theorem d_C_gatherCuts_48 : decode prog_1_method_24_code 48 = .ok (.if_icmp .ge 67, 3) := by decide +kernel
theorem d_C_gatherCuts_51 : decode prog_1_method_24_code 51 = .ok (.aload_n 0, 1) := by decide +kernel
theorem d_C_gatherCuts_52 : decode prog_1_method_24_code 52 = .ok (.aload_n 0, 1) := by decide +kernel
theorem d_C_gatherCuts_53 : decode prog_1_method_24_code 53 = .ok (.getfield 13, 3) := by decide +kernel
theorem d_C_gatherCuts_56 : decode prog_1_method_24_code 56 = .ok (.iload_n 1, 1) := by decide +kernel
theorem d_C_gatherCuts_57 : decode prog_1_method_24_code 57 = .ok (.iaload, 1) := by decide +kernel
theorem d_C_gatherCuts_58 : decode prog_1_method_24_code 58 = .ok (.aload_n 0, 1) := by decide +kernel
theorem d_C_gatherCuts_59 : decode prog_1_method_24_code 59 = .ok (.getfield 16, 3) := by decide +kernel
theorem d_C_gatherCuts_62 : decode prog_1_method_24_code 62 = .ok (.iload_n 2, 1) := by decide +kernel
theorem d_C_gatherCuts_63 : decode prog_1_method_24_code 63 = .ok (.iaload, 1) := by decide +kernel
theorem d_C_gatherCuts_64 : decode prog_1_method_24_code 64 = .ok (.imul, 1) := by decide +kernel
theorem d_C_gatherCuts_65 : decode prog_1_method_24_code 65 = .ok (.aload_n 0, 1) := by decide +kernel
theorem d_C_gatherCuts_66 : decode prog_1_method_24_code 66 = .ok (.getfield 13, 3) := by decide +kernel
theorem d_C_gatherCuts_69 : decode prog_1_method_24_code 69 = .ok (.iload_n 2, 1) := by decide +kernel
theorem d_C_gatherCuts_70 : decode prog_1_method_24_code 70 = .ok (.iaload, 1) := by decide +kernel
theorem d_C_gatherCuts_71 : decode prog_1_method_24_code 71 = .ok (.aload_n 0, 1) := by decide +kernel
theorem d_C_gatherCuts_72 : decode prog_1_method_24_code 72 = .ok (.getfield 16, 3) := by decide +kernel
theorem d_C_gatherCuts_75 : decode prog_1_method_24_code 75 = .ok (.iload_n 1, 1) := by decide +kernel
theorem d_C_gatherCuts_76 : decode prog_1_method_24_code 76 = .ok (.iaload, 1) := by decide +kernel
theorem d_C_gatherCuts_77 : decode prog_1_method_24_code 77 = .ok (.imul, 1) := by decide +kernel
theorem d_C_gatherCuts_78 : decode prog_1_method_24_code 78 = .ok (.isub, 1) := by decide +kernel
theorem d_C_gatherCuts_79 : decode prog_1_method_24_code 79 = .ok (.aload_n 0, 1) := by decide +kernel
theorem d_C_gatherCuts_80 : decode prog_1_method_24_code 80 = .ok (.getfield 9, 3) := by decide +kernel
theorem d_C_gatherCuts_83 : decode prog_1_method_24_code 83 = .ok (.iload_n 1, 1) := by decide +kernel
theorem d_C_gatherCuts_84 : decode prog_1_method_24_code 84 = .ok (.iaload, 1) := by decide +kernel
theorem d_C_gatherCuts_85 : decode prog_1_method_24_code 85 = .ok (.aload_n 0, 1) := by decide +kernel
theorem d_C_gatherCuts_86 : decode prog_1_method_24_code 86 = .ok (.getfield 13, 3) := by decide +kernel
theorem d_C_gatherCuts_89 : decode prog_1_method_24_code 89 = .ok (.iload_n 2, 1) := by decide +kernel
theorem d_C_gatherCuts_90 : decode prog_1_method_24_code 90 = .ok (.iaload, 1) := by decide +kernel
theorem d_C_gatherCuts_91 : decode prog_1_method_24_code 91 = .ok (.imul, 1) := by decide +kernel
theorem d_C_gatherCuts_92 : decode prog_1_method_24_code 92 = .ok (.aload_n 0, 1) := by decide +kernel
theorem d_C_gatherCuts_93 : decode prog_1_method_24_code 93 = .ok (.getfield 9, 3) := by decide +kernel
theorem d_C_gatherCuts_96 : decode prog_1_method_24_code 96 = .ok (.iload_n 2, 1) := by decide +kernel
theorem d_C_gatherCuts_97 : decode prog_1_method_24_code 97 = .ok (.iaload, 1) := by decide +kernel
theorem d_C_gatherCuts_98 : decode prog_1_method_24_code 98 = .ok (.aload_n 0, 1) := by decide +kernel
theorem d_C_gatherCuts_99 : decode prog_1_method_24_code 99 = .ok (.getfield 13, 3) := by decide +kernel
theorem d_C_gatherCuts_102 : decode prog_1_method_24_code 102 = .ok (.iload_n 1, 1) := by decide +kernel
theorem d_C_gatherCuts_103 : decode prog_1_method_24_code 103 = .ok (.iaload, 1) := by decide +kernel
theorem d_C_gatherCuts_104 : decode prog_1_method_24_code 104 = .ok (.imul, 1) := by decide +kernel
theorem d_C_gatherCuts_105 : decode prog_1_method_24_code 105 = .ok (.isub, 1) := by decide +kernel
theorem d_C_gatherCuts_106 : decode prog_1_method_24_code 106 = .ok (.invokevirtual 152, 3) := by decide +kernel
theorem d_C_gatherCuts_109 : decode prog_1_method_24_code 109 = .ok (.iinc 2 1, 3) := by decide +kernel
theorem d_C_gatherCuts_112 : decode prog_1_method_24_code 112 = .ok (.goto (-66), 3) := by decide +kernel
theorem d_C_gatherCuts_115 : decode prog_1_method_24_code 115 = .ok (.iinc 1 1, 3) := by decide +kernel
theorem d_C_gatherCuts_118 : decode prog_1_method_24_code 118 = .ok (.goto (-108), 3) := by decide +kernel
theorem d_C_gatherCuts_121 : decode prog_1_method_24_code 121 = .ok (.return_, 1) := by decide +kernel
theorem d_C_addCut_0 : decode prog_1_method_25_code 0 = .ok (.iload_n 2, 1) := by decide +kernel
theorem d_C_addCut_1 : decode prog_1_method_25_code 1 = .ok (.ifCond .le 17, 3) := by decide +kernel
theorem d_C_addCut_4 : decode prog_1_method_25_code 4 = .ok (.aload_n 0, 1) := by decide +kernel
theorem d_C_addCut_5 : decode prog_1_method_25_code 5 = .ok (.getfield 26, 3) := by decide +kernel
theorem d_C_addCut_8 : decode prog_1_method_25_code 8 = .ok (.iload_n 1, 1) := by decide +kernel
theorem d_C_addCut_9 : decode prog_1_method_25_code 9 = .ok (.i2l, 1) := by decide +kernel
theorem d_C_addCut_10 : decode prog_1_method_25_code 10 = .ok (.iload_n 2, 1) := by decide +kernel
theorem d_C_addCut_11 : decode prog_1_method_25_code 11 = .ok (.i2l, 1) := by decide +kernel
theorem d_C_addCut_12 : decode prog_1_method_25_code 12 = .ok (.invokevirtual 156, 3) := by decide +kernel
theorem d_C_addCut_15 : decode prog_1_method_25_code 15 = .ok (.goto 20, 3) := by decide +kernel
theorem d_C_addCut_18 : decode prog_1_method_25_code 18 = .ok (.iload_n 2, 1) := by decide +kernel
theorem d_C_addCut_19 : decode prog_1_method_25_code 19 = .ok (.ifCond .ge 16, 3) := by decide +kernel
theorem d_C_addCut_22 : decode prog_1_method_25_code 22 = .ok (.aload_n 0, 1) := by decide +kernel
theorem d_C_addCut_23 : decode prog_1_method_25_code 23 = .ok (.getfield 26, 3) := by decide +kernel
theorem d_C_addCut_26 : decode prog_1_method_25_code 26 = .ok (.iload_n 1, 1) := by decide +kernel
theorem d_C_addCut_27 : decode prog_1_method_25_code 27 = .ok (.ineg, 1) := by decide +kernel
theorem d_C_addCut_28 : decode prog_1_method_25_code 28 = .ok (.i2l, 1) := by decide +kernel
theorem d_C_addCut_29 : decode prog_1_method_25_code 29 = .ok (.iload_n 2, 1) := by decide +kernel
theorem d_C_addCut_30 : decode prog_1_method_25_code 30 = .ok (.ineg, 1) := by decide +kernel
theorem d_C_addCut_31 : decode prog_1_method_25_code 31 = .ok (.i2l, 1) := by decide +kernel
theorem d_C_addCut_32 : decode prog_1_method_25_code 32 = .ok (.invokevirtual 156, 3) := by decide +kernel
theorem d_C_addCut_35 : decode prog_1_method_25_code 35 = .ok (.return_, 1) := by decide +kernel
theorem d_C_layStrip_0 : decode prog_1_method_26_code 0 = .ok (.aload_n 0, 1) := by decide +kernel
theorem d_C_layStrip_1 : decode prog_1_method_26_code 1 = .ok (.getfield 26, 3) := by decide +kernel
theorem d_C_layStrip_4 : decode prog_1_method_26_code 4 = .ok (.iload_n 1, 1) := by decide +kernel
theorem d_C_layStrip_5 : decode prog_1_method_26_code 5 = .ok (.iconst 0, 1) := by decide +kernel
theorem d_C_layStrip_6 : decode prog_1_method_26_code 6 = .ok (.invokevirtual 87, 3) := by decide +kernel
theorem d_C_layStrip_9 : decode prog_1_method_26_code 9 = .ok (.lstore_n 2, 1) := by decide +kernel
theorem d_C_layStrip_10 : decode prog_1_method_26_code 10 = .ok (.aload_n 0, 1) := by decide +kernel
theorem d_C_layStrip_11 : decode prog_1_method_26_code 11 = .ok (.getfield 26, 3) := by decide +kernel
theorem d_C_layStrip_14 : decode prog_1_method_26_code 14 = .ok (.iload_n 1, 1) := by decide +kernel
theorem d_C_layStrip_15 : decode prog_1_method_26_code 15 = .ok (.iconst 1, 1) := by decide +kernel
theorem d_C_layStrip_16 : decode prog_1_method_26_code 16 = .ok (.invokevirtual 87, 3) := by decide +kernel
theorem d_C_layStrip_19 : decode prog_1_method_26_code 19 = .ok (.lstore 4, 2) := by decide +kernel
theorem d_C_layStrip_21 : decode prog_1_method_26_code 21 = .ok (.aload_n 0, 1) := by decide +kernel
theorem d_C_layStrip_22 : decode prog_1_method_26_code 22 = .ok (.getfield 33, 3) := by decide +kernel
theorem d_C_layStrip_25 : decode prog_1_method_26_code 25 = .ok (.iload_n 1, 1) := by decide +kernel
theorem d_C_layStrip_26 : decode prog_1_method_26_code 26 = .ok (.lload_n 2, 1) := by decide +kernel
theorem d_C_layStrip_27 : decode prog_1_method_26_code 27 = .ok (.lastore, 1) := by decide +kernel
theorem d_C_layStrip_28 : decode prog_1_method_26_code 28 = .ok (.aload_n 0, 1) := by decide +kernel
theorem d_C_layStrip_29 : decode prog_1_method_26_code 29 = .ok (.getfield 37, 3) := by decide +kernel
theorem d_C_layStrip_32 : decode prog_1_method_26_code 32 = .ok (.iload_n 1, 1) := by decide +kernel
theorem d_C_layStrip_33 : decode prog_1_method_26_code 33 = .ok (.lload 4, 2) := by decide +kernel
theorem d_C_layStrip_35 : decode prog_1_method_26_code 35 = .ok (.lastore, 1) := by decide +kernel
theorem d_C_layStrip_36 : decode prog_1_method_26_code 36 = .ok (.aload_n 0, 1) := by decide +kernel
theorem d_C_layStrip_37 : decode prog_1_method_26_code 37 = .ok (.lload_n 2, 1) := by decide +kernel
theorem d_C_layStrip_38 : decode prog_1_method_26_code 38 = .ok (.lload 4, 2) := by decide +kernel
theorem d_C_layStrip_40 : decode prog_1_method_26_code 40 = .ok (.invokevirtual 113, 3) := by decide +kernel
theorem d_C_layStrip_43 : decode prog_1_method_26_code 43 = .ok (.iconst 0, 1) := by decide +kernel
theorem d_C_layStrip_44 : decode prog_1_method_26_code 44 = .ok (.istore 6, 2) := by decide +kernel
theorem d_C_layStrip_46 : decode prog_1_method_26_code 46 = .ok (.iload 6, 2) := by decide +kernel
theorem d_C_layStrip_48 : decode prog_1_method_26_code 48 = .ok (.aload_n 0, 1) := by decide +kernel
theorem d_C_layStrip_49 : decode prog_1_method_26_code 49 = .ok (.getfield 19, 3) := by decide +kernel
theorem d_C_layStrip_52 : decode prog_1_method_26_code 52 = .ok (.if_icmp .ge 56, 3) := by decide +kernel
theorem d_C_layStrip_55 : decode prog_1_method_26_code 55 = .ok (.aload_n 0, 1) := by decide +kernel
theorem d_C_layStrip_56 : decode prog_1_method_26_code 56 = .ok (.getfield 42, 3) := by decide +kernel
theorem d_C_layStrip_59 : decode prog_1_method_26_code 59 = .ok (.iload_n 1, 1) := by decide +kernel
theorem d_C_layStrip_60 : decode prog_1_method_26_code 60 = .ok (.aaload, 1) := by decide +kernel
theorem d_C_layStrip_61 : decode prog_1_method_26_code 61 = .ok (.iload 6, 2) := by decide +kernel
theorem d_C_layStrip_63 : decode prog_1_method_26_code 63 = .ok (.aload_n 0, 1) := by decide +kernel
theorem d_C_layStrip_64 : decode prog_1_method_26_code 64 = .ok (.getfield 13, 3) := by decide +kernel
theorem d_C_layStrip_67 : decode prog_1_method_26_code 67 = .ok (.iload 6, 2) := by decide +kernel
theorem d_C_layStrip_69 : decode prog_1_method_26_code 69 = .ok (.iaload, 1) := by decide +kernel
theorem d_C_layStrip_70 : decode prog_1_method_26_code 70 = .ok (.ifCond .ne 7, 3) := by decide +kernel
theorem d_C_layStrip_73 : decode prog_1_method_26_code 73 = .ok (.iconst (-1), 1) := by decide +kernel
theorem d_C_layStrip_74 : decode prog_1_method_26_code 74 = .ok (.goto 27, 3) := by decide +kernel
theorem d_C_layStrip_77 : decode prog_1_method_26_code 77 = .ok (.aload_n 0, 1) := by decide +kernel
theorem d_C_layStrip_78 : decode prog_1_method_26_code 78 = .ok (.getfield 30, 3) := by decide +kernel
theorem d_C_layStrip_81 : decode prog_1_method_26_code 81 = .ok (.aload_n 0, 1) := by decide +kernel
theorem d_C_layStrip_82 : decode prog_1_method_26_code 82 = .ok (.iload 6, 2) := by decide +kernel
theorem d_C_layStrip_84 : decode prog_1_method_26_code 84 = .ok (.lload_n 2, 1) := by decide +kernel
theorem d_C_layStrip_85 : decode prog_1_method_26_code 85 = .ok (.lload 4, 2) := by decide +kernel
theorem d_C_layStrip_87 : decode prog_1_method_26_code 87 = .ok (.invokevirtual 159, 3) := by decide +kernel
theorem d_C_layStrip_90 : decode prog_1_method_26_code 90 = .ok (.aload_n 0, 1) := by decide +kernel
theorem d_C_layStrip_91 : decode prog_1_method_26_code 91 = .ok (.iload 6, 2) := by decide +kernel
theorem d_C_layStrip_93 : decode prog_1_method_26_code 93 = .ok (.lload 4, 2) := by decide +kernel
theorem d_C_layStrip_95 : decode prog_1_method_26_code 95 = .ok (.invokevirtual 163, 3) := by decide +kernel
theorem d_C_layStrip_98 : decode prog_1_method_26_code 98 = .ok (.invokevirtual 128, 3) := by decide +kernel
theorem d_C_layStrip_101 : decode prog_1_method_26_code 101 = .ok (.iastore, 1) := by decide +kernel
theorem d_C_layStrip_102 : decode prog_1_method_26_code 102 = .ok (.iinc 6 1, 3) := by decide +kernel
theorem d_C_layStrip_105 : decode prog_1_method_26_code 105 = .ok (.goto (-59), 3) := by decide +kernel
theorem d_C_layStrip_108 : decode prog_1_method_26_code 108 = .ok (.aload_n 0, 1) := by decide +kernel
theorem d_C_layStrip_109 : decode prog_1_method_26_code 109 = .ok (.getfield 45, 3) := by decide +kernel
theorem d_C_layStrip_112 : decode prog_1_method_26_code 112 = .ok (.iload_n 1, 1) := by decide +kernel
theorem d_C_layStrip_113 : decode prog_1_method_26_code 113 = .ok (.iconst 1, 1) := by decide +kernel
theorem d_C_layStrip_114 : decode prog_1_method_26_code 114 = .ok (.iadd, 1) := by decide +kernel
theorem d_C_layStrip_115 : decode prog_1_method_26_code 115 = .ok (.aload_n 0, 1) := by decide +kernel
theorem d_C_layStrip_116 : decode prog_1_method_26_code 116 = .ok (.getfield 45, 3) := by decide +kernel
theorem d_C_layStrip_119 : decode prog_1_method_26_code 119 = .ok (.iload_n 1, 1) := by decide +kernel
theorem d_C_layStrip_120 : decode prog_1_method_26_code 120 = .ok (.iaload, 1) := by decide +kernel
theorem d_C_layStrip_121 : decode prog_1_method_26_code 121 = .ok (.iconst 2, 1) := by decide +kernel
theorem d_C_layStrip_122 : decode prog_1_method_26_code 122 = .ok (.aload_n 0, 1) := by decide +kernel
theorem d_C_layStrip_123 : decode prog_1_method_26_code 123 = .ok (.getfield 30, 3) := by decide +kernel
theorem d_C_layStrip_126 : decode prog_1_method_26_code 126 = .ok (.getfield 77, 3) := by decide +kernel
theorem d_C_layStrip_129 : decode prog_1_method_26_code 129 = .ok (.imul, 1) := by decide +kernel
theorem d_C_layStrip_130 : decode prog_1_method_26_code 130 = .ok (.iadd, 1) := by decide +kernel
theorem d_C_layStrip_131 : decode prog_1_method_26_code 131 = .ok (.iconst 1, 1) := by decide +kernel
theorem d_C_layStrip_132 : decode prog_1_method_26_code 132 = .ok (.iadd, 1) := by decide +kernel
theorem d_C_layStrip_133 : decode prog_1_method_26_code 133 = .ok (.iastore, 1) := by decide +kernel
theorem d_C_layStrip_134 : decode prog_1_method_26_code 134 = .ok (.return_, 1) := by decide +kernel
theorem d_C_measureHeights_0 : decode prog_1_method_27_code 0 = .ok (.aload_n 0, 1) := by decide +kernel
theorem d_C_measureHeights_1 : decode prog_1_method_27_code 1 = .ok (.getfield 30, 3) := by decide +kernel
theorem d_C_measureHeights_4 : decode prog_1_method_27_code 4 = .ok (.iconst 0, 1) := by decide +kernel
theorem d_C_measureHeights_5 : decode prog_1_method_27_code 5 = .ok (.putfield 77, 3) := by decide +kernel
theorem d_C_measureHeights_8 : decode prog_1_method_27_code 8 = .ok (.iconst 0, 1) := by decide +kernel
theorem d_C_measureHeights_9 : decode prog_1_method_27_code 9 = .ok (.istore 5, 2) := by decide +kernel
theorem d_C_measureHeights_11 : decode prog_1_method_27_code 11 = .ok (.iload 5, 2) := by decide +kernel
theorem d_C_measureHeights_13 : decode prog_1_method_27_code 13 = .ok (.aload_n 0, 1) := by decide +kernel
theorem d_C_measureHeights_14 : decode prog_1_method_27_code 14 = .ok (.getfield 19, 3) := by decide +kernel
theorem d_C_measureHeights_17 : decode prog_1_method_27_code 17 = .ok (.if_icmp .ge 41, 3) := by decide +kernel
theorem d_C_measureHeights_20 : decode prog_1_method_27_code 20 = .ok (.aload_n 0, 1) := by decide +kernel
theorem d_C_measureHeights_21 : decode prog_1_method_27_code 21 = .ok (.getfield 13, 3) := by decide +kernel
theorem d_C_measureHeights_24 : decode prog_1_method_27_code 24 = .ok (.iload 5, 2) := by decide +kernel
theorem d_C_measureHeights_26 : decode prog_1_method_27_code 26 = .ok (.iaload, 1) := by decide +kernel
theorem d_C_measureHeights_27 : decode prog_1_method_27_code 27 = .ok (.ifCond .eq 25, 3) := by decide +kernel
theorem d_C_measureHeights_30 : decode prog_1_method_27_code 30 = .ok (.aload_n 0, 1) := by decide +kernel
theorem d_C_measureHeights_31 : decode prog_1_method_27_code 31 = .ok (.getfield 30, 3) := by decide +kernel
theorem d_C_measureHeights_34 : decode prog_1_method_27_code 34 = .ok (.aload_n 0, 1) := by decide +kernel
theorem d_C_measureHeights_35 : decode prog_1_method_27_code 35 = .ok (.iload 5, 2) := by decide +kernel
theorem d_C_measureHeights_37 : decode prog_1_method_27_code 37 = .ok (.lload_n 1, 1) := by decide +kernel
theorem d_C_measureHeights_38 : decode prog_1_method_27_code 38 = .ok (.lload_n 3, 1) := by decide +kernel
theorem d_C_measureHeights_39 : decode prog_1_method_27_code 39 = .ok (.invokevirtual 159, 3) := by decide +kernel
theorem d_C_measureHeights_42 : decode prog_1_method_27_code 42 = .ok (.aload_n 0, 1) := by decide +kernel
theorem d_C_measureHeights_43 : decode prog_1_method_27_code 43 = .ok (.iload 5, 2) := by decide +kernel
theorem d_C_measureHeights_45 : decode prog_1_method_27_code 45 = .ok (.lload_n 3, 1) := by decide +kernel
theorem d_C_measureHeights_46 : decode prog_1_method_27_code 46 = .ok (.invokevirtual 163, 3) := by decide +kernel
theorem d_C_measureHeights_49 : decode prog_1_method_27_code 49 = .ok (.invokevirtual 156, 3) := by decide +kernel
theorem d_C_measureHeights_52 : decode prog_1_method_27_code 52 = .ok (.iinc 5 1, 3) := by decide +kernel
theorem d_C_measureHeights_55 : decode prog_1_method_27_code 55 = .ok (.goto (-44), 3) := by decide +kernel
theorem d_C_measureHeights_58 : decode prog_1_method_27_code 58 = .ok (.return_, 1) := by decide +kernel
theorem d_C_heightAbove_0 : decode prog_1_method_28_code 0 = .ok (.aload_n 0, 1) := by decide +kernel
theorem d_C_heightAbove_1 : decode prog_1_method_28_code 1 = .ok (.getfield 9, 3) := by decide +kernel
theorem d_C_heightAbove_4 : decode prog_1_method_28_code 4 = .ok (.iload_n 1, 1) := by decide +kernel
theorem d_C_heightAbove_5 : decode prog_1_method_28_code 5 = .ok (.iaload, 1) := by decide +kernel
theorem d_C_heightAbove_6 : decode prog_1_method_28_code 6 = .ok (.i2l, 1) := by decide +kernel
theorem d_C_heightAbove_7 : decode prog_1_method_28_code 7 = .ok (.lload_n 2, 1) := by decide +kernel
theorem d_C_heightAbove_8 : decode prog_1_method_28_code 8 = .ok (.lmul, 1) := by decide +kernel
theorem d_C_heightAbove_9 : decode prog_1_method_28_code 9 = .ok (.aload_n 0, 1) := by decide +kernel
theorem d_C_heightAbove_10 : decode prog_1_method_28_code 10 = .ok (.getfield 16, 3) := by decide +kernel
theorem d_C_heightAbove_13 : decode prog_1_method_28_code 13 = .ok (.iload_n 1, 1) := by decide +kernel
theorem d_C_heightAbove_14 : decode prog_1_method_28_code 14 = .ok (.iaload, 1) := by decide +kernel
theorem d_C_heightAbove_15 : decode prog_1_method_28_code 15 = .ok (.i2l, 1) := by decide +kernel
theorem d_C_heightAbove_16 : decode prog_1_method_28_code 16 = .ok (.lload 4, 2) := by decide +kernel
theorem d_C_heightAbove_18 : decode prog_1_method_28_code 18 = .ok (.lmul, 1) := by decide +kernel
theorem d_C_heightAbove_19 : decode prog_1_method_28_code 19 = .ok (.ladd, 1) := by decide +kernel
theorem d_C_heightAbove_20 : decode prog_1_method_28_code 20 = .ok (.lstore 6, 2) := by decide +kernel
theorem d_C_heightAbove_22 : decode prog_1_method_28_code 22 = .ok (.aload_n 0, 1) := by decide +kernel
theorem d_C_heightAbove_23 : decode prog_1_method_28_code 23 = .ok (.getfield 13, 3) := by decide +kernel
theorem d_C_heightAbove_26 : decode prog_1_method_28_code 26 = .ok (.iload_n 1, 1) := by decide +kernel
theorem d_C_heightAbove_27 : decode prog_1_method_28_code 27 = .ok (.iaload, 1) := by decide +kernel
theorem d_C_heightAbove_28 : decode prog_1_method_28_code 28 = .ok (.ifCond .le 9, 3) := by decide +kernel
theorem d_C_heightAbove_31 : decode prog_1_method_28_code 31 = .ok (.lload 6, 2) := by decide +kernel
theorem d_C_heightAbove_33 : decode prog_1_method_28_code 33 = .ok (.lneg, 1) := by decide +kernel
theorem d_C_heightAbove_34 : decode prog_1_method_28_code 34 = .ok (.goto 5, 3) := by decide +kernel
theorem d_C_heightAbove_37 : decode prog_1_method_28_code 37 = .ok (.lload 6, 2) := by decide +kernel
theorem d_C_heightAbove_39 : decode prog_1_method_28_code 39 = .ok (.lreturn, 1) := by decide +kernel
theorem d_C_heightBelow_0 : decode prog_1_method_29_code 0 = .ok (.aload_n 0, 1) := by decide +kernel
theorem d_C_heightBelow_1 : decode prog_1_method_29_code 1 = .ok (.getfield 13, 3) := by decide +kernel
theorem d_C_heightBelow_4 : decode prog_1_method_29_code 4 = .ok (.iload_n 1, 1) := by decide +kernel
theorem d_C_heightBelow_5 : decode prog_1_method_29_code 5 = .ok (.iaload, 1) := by decide +kernel
theorem d_C_heightBelow_6 : decode prog_1_method_29_code 6 = .ok (.invokestatic 136, 3) := by decide +kernel
theorem d_C_heightBelow_9 : decode prog_1_method_29_code 9 = .ok (.i2l, 1) := by decide +kernel
theorem d_C_heightBelow_10 : decode prog_1_method_29_code 10 = .ok (.lload_n 2, 1) := by decide +kernel
theorem d_C_heightBelow_11 : decode prog_1_method_29_code 11 = .ok (.lmul, 1) := by decide +kernel
theorem d_C_heightBelow_12 : decode prog_1_method_29_code 12 = .ok (.lreturn, 1) := by decide +kernel
theorem d_C_signOf_0 : decode prog_1_method_30_code 0 = .ok (.lload_n 0, 1) := by decide +kernel
theorem d_C_signOf_1 : decode prog_1_method_30_code 1 = .ok (.lconst 0, 1) := by decide +kernel
theorem d_C_signOf_2 : decode prog_1_method_30_code 2 = .ok (.lcmp, 1) := by decide +kernel
theorem d_C_signOf_3 : decode prog_1_method_30_code 3 = .ok (.ifCond .ne 5, 3) := by decide +kernel
theorem d_C_signOf_6 : decode prog_1_method_30_code 6 = .ok (.iconst 0, 1) := by decide +kernel
theorem d_C_signOf_7 : decode prog_1_method_30_code 7 = .ok (.ireturn, 1) := by decide +kernel
theorem d_C_signOf_8 : decode prog_1_method_30_code 8 = .ok (.lload_n 0, 1) := by decide +kernel
theorem d_C_signOf_9 : decode prog_1_method_30_code 9 = .ok (.lconst 0, 1) := by decide +kernel
theorem d_C_signOf_10 : decode prog_1_method_30_code 10 = .ok (.lcmp, 1) := by decide +kernel
theorem d_C_signOf_11 : decode prog_1_method_30_code 11 = .ok (.ifCond .le 7, 3) := by decide +kernel
theorem d_C_signOf_14 : decode prog_1_method_30_code 14 = .ok (.iconst 1, 1) := by decide +kernel
theorem d_C_signOf_15 : decode prog_1_method_30_code 15 = .ok (.goto 4, 3) := by decide +kernel
theorem d_C_signOf_18 : decode prog_1_method_30_code 18 = .ok (.iconst (-1), 1) := by decide +kernel
theorem d_C_signOf_19 : decode prog_1_method_30_code 19 = .ok (.ireturn, 1) := by decide +kernel
theorem d_C_signIn_0 : decode prog_1_method_31_code 0 = .ok (.aload_n 0, 1) := by decide +kernel
theorem d_C_signIn_1 : decode prog_1_method_31_code 1 = .ok (.getfield 13, 3) := by decide +kernel
theorem d_C_signIn_4 : decode prog_1_method_31_code 4 = .ok (.iload_n 3, 1) := by decide +kernel
theorem d_C_signIn_5 : decode prog_1_method_31_code 5 = .ok (.iaload, 1) := by decide +kernel
theorem d_C_signIn_6 : decode prog_1_method_31_code 6 = .ok (.ifCond .ne 36, 3) := by decide +kernel
theorem d_C_signIn_9 : decode prog_1_method_31_code 9 = .ok (.aload_n 0, 1) := by decide +kernel
theorem d_C_signIn_10 : decode prog_1_method_31_code 10 = .ok (.getfield 9, 3) := by decide +kernel
theorem d_C_signIn_13 : decode prog_1_method_31_code 13 = .ok (.iload_n 3, 1) := by decide +kernel
theorem d_C_signIn_14 : decode prog_1_method_31_code 14 = .ok (.iaload, 1) := by decide +kernel
theorem d_C_signIn_15 : decode prog_1_method_31_code 15 = .ok (.i2l, 1) := by decide +kernel
theorem d_C_signIn_16 : decode prog_1_method_31_code 16 = .ok (.aload_n 0, 1) := by decide +kernel
theorem d_C_signIn_17 : decode prog_1_method_31_code 17 = .ok (.getfield 33, 3) := by decide +kernel
theorem d_C_signIn_20 : decode prog_1_method_31_code 20 = .ok (.iload_n 1, 1) := by decide +kernel
theorem d_C_signIn_21 : decode prog_1_method_31_code 21 = .ok (.laload, 1) := by decide +kernel
theorem d_C_signIn_22 : decode prog_1_method_31_code 22 = .ok (.lmul, 1) := by decide +kernel
theorem d_C_signIn_23 : decode prog_1_method_31_code 23 = .ok (.aload_n 0, 1) := by decide +kernel
theorem d_C_signIn_24 : decode prog_1_method_31_code 24 = .ok (.getfield 16, 3) := by decide +kernel
theorem d_C_signIn_27 : decode prog_1_method_31_code 27 = .ok (.iload_n 3, 1) := by decide +kernel
theorem d_C_signIn_28 : decode prog_1_method_31_code 28 = .ok (.iaload, 1) := by decide +kernel
theorem d_C_signIn_29 : decode prog_1_method_31_code 29 = .ok (.i2l, 1) := by decide +kernel
theorem d_C_signIn_30 : decode prog_1_method_31_code 30 = .ok (.aload_n 0, 1) := by decide +kernel
theorem d_C_signIn_31 : decode prog_1_method_31_code 31 = .ok (.getfield 37, 3) := by decide +kernel
theorem d_C_signIn_34 : decode prog_1_method_31_code 34 = .ok (.iload_n 1, 1) := by decide +kernel
theorem d_C_signIn_35 : decode prog_1_method_31_code 35 = .ok (.laload, 1) := by decide +kernel
theorem d_C_signIn_36 : decode prog_1_method_31_code 36 = .ok (.lmul, 1) := by decide +kernel
theorem d_C_signIn_37 : decode prog_1_method_31_code 37 = .ok (.ladd, 1) := by decide +kernel
theorem d_C_signIn_38 : decode prog_1_method_31_code 38 = .ok (.invokestatic 167, 3) := by decide +kernel
theorem d_C_signIn_41 : decode prog_1_method_31_code 41 = .ok (.ireturn, 1) := by decide +kernel
theorem d_C_signIn_42 : decode prog_1_method_31_code 42 = .ok (.iload_n 2, 1) := by decide +kernel
theorem d_C_signIn_43 : decode prog_1_method_31_code 43 = .ok (.aload_n 0, 1) := by decide +kernel
theorem d_C_signIn_44 : decode prog_1_method_31_code 44 = .ok (.getfield 42, 3) := by decide +kernel
theorem d_C_signIn_47 : decode prog_1_method_31_code 47 = .ok (.iload_n 1, 1) := by decide +kernel
theorem d_C_signIn_48 : decode prog_1_method_31_code 48 = .ok (.aaload, 1) := by decide +kernel
theorem d_C_signIn_49 : decode prog_1_method_31_code 49 = .ok (.iload_n 3, 1) := by decide +kernel
theorem d_C_signIn_50 : decode prog_1_method_31_code 50 = .ok (.iaload, 1) := by decide +kernel
theorem d_C_signIn_51 : decode prog_1_method_31_code 51 = .ok (.isub, 1) := by decide +kernel
theorem d_C_signIn_52 : decode prog_1_method_31_code 52 = .ok (.i2l, 1) := by decide +kernel
theorem d_C_signIn_53 : decode prog_1_method_31_code 53 = .ok (.invokestatic 167, 3) := by decide +kernel
theorem d_C_signIn_56 : decode prog_1_method_31_code 56 = .ok (.istore 4, 2) := by decide +kernel
theorem d_C_signIn_58 : decode prog_1_method_31_code 58 = .ok (.aload_n 0, 1) := by decide +kernel
theorem d_C_signIn_59 : decode prog_1_method_31_code 59 = .ok (.getfield 13, 3) := by decide +kernel
theorem d_C_signIn_62 : decode prog_1_method_31_code 62 = .ok (.iload_n 3, 1) := by decide +kernel
theorem d_C_signIn_63 : decode prog_1_method_31_code 63 = .ok (.iaload, 1) := by decide +kernel
theorem d_C_signIn_64 : decode prog_1_method_31_code 64 = .ok (.ifCond .le 8, 3) := by decide +kernel
theorem d_C_signIn_67 : decode prog_1_method_31_code 67 = .ok (.iload 4, 2) := by decide +kernel
theorem d_C_signIn_69 : decode prog_1_method_31_code 69 = .ok (.goto 6, 3) := by decide +kernel
theorem d_C_signIn_72 : decode prog_1_method_31_code 72 = .ok (.iload 4, 2) := by decide +kernel
theorem d_C_signIn_74 : decode prog_1_method_31_code 74 = .ok (.ineg, 1) := by decide +kernel
theorem d_C_signIn_75 : decode prog_1_method_31_code 75 = .ok (.ireturn, 1) := by decide +kernel
theorem d_C_hasSigns_0 : decode prog_1_method_32_code 0 = .ok (.iconst 0, 1) := by decide +kernel
theorem d_C_hasSigns_1 : decode prog_1_method_32_code 1 = .ok (.istore 4, 2) := by decide +kernel
theorem d_C_hasSigns_3 : decode prog_1_method_32_code 3 = .ok (.iload 4, 2) := by decide +kernel
theorem d_C_hasSigns_5 : decode prog_1_method_32_code 5 = .ok (.aload_n 0, 1) := by decide +kernel
theorem d_C_hasSigns_6 : decode prog_1_method_32_code 6 = .ok (.getfield 19, 3) := by decide +kernel
theorem d_C_hasSigns_9 : decode prog_1_method_32_code 9 = .ok (.if_icmp .ge 42, 3) := by decide +kernel
theorem d_C_hasSigns_12 : decode prog_1_method_32_code 12 = .ok (.iload_n 3, 1) := by decide +kernel
theorem d_C_hasSigns_13 : decode prog_1_method_32_code 13 = .ok (.iconst 2, 1) := by decide +kernel
theorem d_C_hasSigns_14 : decode prog_1_method_32_code 14 = .ok (.iload 4, 2) := by decide +kernel
theorem d_C_hasSigns_16 : decode prog_1_method_32_code 16 = .ok (.imul, 1) := by decide +kernel
theorem d_C_hasSigns_17 : decode prog_1_method_32_code 17 = .ok (.ishr, 1) := by decide +kernel
theorem d_C_hasSigns_18 : decode prog_1_method_32_code 18 = .ok (.iconst 3, 1) := by decide +kernel
theorem d_C_hasSigns_19 : decode prog_1_method_32_code 19 = .ok (.iand, 1) := by decide +kernel
theorem d_C_hasSigns_20 : decode prog_1_method_32_code 20 = .ok (.istore 5, 2) := by decide +kernel
theorem d_C_hasSigns_22 : decode prog_1_method_32_code 22 = .ok (.iload 5, 2) := by decide +kernel
theorem d_C_hasSigns_24 : decode prog_1_method_32_code 24 = .ok (.ifCond .eq 21, 3) := by decide +kernel
theorem d_C_hasSigns_27 : decode prog_1_method_32_code 27 = .ok (.iload 5, 2) := by decide +kernel
theorem d_C_hasSigns_29 : decode prog_1_method_32_code 29 = .ok (.aload_n 0, 1) := by decide +kernel
theorem d_C_hasSigns_30 : decode prog_1_method_32_code 30 = .ok (.iload_n 1, 1) := by decide +kernel
theorem d_C_hasSigns_31 : decode prog_1_method_32_code 31 = .ok (.iload_n 2, 1) := by decide +kernel
theorem d_C_hasSigns_32 : decode prog_1_method_32_code 32 = .ok (.iload 4, 2) := by decide +kernel
theorem d_C_hasSigns_34 : decode prog_1_method_32_code 34 = .ok (.invokevirtual 117, 3) := by decide +kernel
theorem d_C_hasSigns_37 : decode prog_1_method_32_code 37 = .ok (.invokestatic 171, 3) := by decide +kernel
theorem d_C_hasSigns_40 : decode prog_1_method_32_code 40 = .ok (.if_icmp .eq 5, 3) := by decide +kernel
theorem d_C_hasSigns_43 : decode prog_1_method_32_code 43 = .ok (.iconst 0, 1) := by decide +kernel
theorem d_C_hasSigns_44 : decode prog_1_method_32_code 44 = .ok (.ireturn, 1) := by decide +kernel
theorem d_C_hasSigns_45 : decode prog_1_method_32_code 45 = .ok (.iinc 4 1, 3) := by decide +kernel
theorem d_C_hasSigns_48 : decode prog_1_method_32_code 48 = .ok (.goto (-45), 3) := by decide +kernel
theorem d_C_hasSigns_51 : decode prog_1_method_32_code 51 = .ok (.iconst 1, 1) := by decide +kernel
theorem d_C_hasSigns_52 : decode prog_1_method_32_code 52 = .ok (.ireturn, 1) := by decide +kernel
theorem d_C_wantFor_0 : decode prog_1_method_33_code 0 = .ok (.iload_n 0, 1) := by decide +kernel
theorem d_C_wantFor_1 : decode prog_1_method_33_code 1 = .ok (.ifCond .ne 5, 3) := by decide +kernel
theorem d_C_wantFor_4 : decode prog_1_method_33_code 4 = .ok (.iconst 3, 1) := by decide +kernel
theorem d_C_wantFor_5 : decode prog_1_method_33_code 5 = .ok (.ireturn, 1) := by decide +kernel
theorem d_C_wantFor_6 : decode prog_1_method_33_code 6 = .ok (.iload_n 0, 1) := by decide +kernel
theorem d_C_wantFor_7 : decode prog_1_method_33_code 7 = .ok (.ifCond .le 7, 3) := by decide +kernel
theorem d_C_wantFor_10 : decode prog_1_method_33_code 10 = .ok (.iconst 1, 1) := by decide +kernel
theorem d_C_wantFor_11 : decode prog_1_method_33_code 11 = .ok (.goto 4, 3) := by decide +kernel
theorem d_C_wantFor_14 : decode prog_1_method_33_code 14 = .ok (.iconst 2, 1) := by decide +kernel
theorem d_C_wantFor_15 : decode prog_1_method_33_code 15 = .ok (.ireturn, 1) := by decide +kernel
theorem d_C_reaches_0 : decode prog_1_method_34_code 0 = .ok (.iconst 0, 1) := by decide +kernel
theorem d_C_reaches_1 : decode prog_1_method_34_code 1 = .ok (.istore 5, 2) := by decide +kernel
theorem d_C_reaches_3 : decode prog_1_method_34_code 3 = .ok (.iload 5, 2) := by decide +kernel
theorem d_C_reaches_5 : decode prog_1_method_34_code 5 = .ok (.aload_n 0, 1) := by decide +kernel
theorem d_C_reaches_6 : decode prog_1_method_34_code 6 = .ok (.getfield 19, 3) := by decide +kernel
theorem d_C_reaches_9 : decode prog_1_method_34_code 9 = .ok (.if_icmp .ge 58, 3) := by decide +kernel
theorem d_C_reaches_12 : decode prog_1_method_34_code 12 = .ok (.iload_n 2, 1) := by decide +kernel
theorem d_C_reaches_13 : decode prog_1_method_34_code 13 = .ok (.aload_n 0, 1) := by decide +kernel
theorem d_C_reaches_14 : decode prog_1_method_34_code 14 = .ok (.getfield 42, 3) := by decide +kernel
theorem d_C_reaches_17 : decode prog_1_method_34_code 17 = .ok (.iload_n 1, 1) := by decide +kernel
theorem d_C_reaches_18 : decode prog_1_method_34_code 18 = .ok (.aaload, 1) := by decide +kernel
theorem d_C_reaches_19 : decode prog_1_method_34_code 19 = .ok (.iload 5, 2) := by decide +kernel
theorem d_C_reaches_21 : decode prog_1_method_34_code 21 = .ok (.iaload, 1) := by decide +kernel
theorem d_C_reaches_22 : decode prog_1_method_34_code 22 = .ok (.isub, 1) := by decide +kernel
theorem d_C_reaches_23 : decode prog_1_method_34_code 23 = .ok (.i2l, 1) := by decide +kernel
theorem d_C_reaches_24 : decode prog_1_method_34_code 24 = .ok (.invokestatic 167, 3) := by decide +kernel
theorem d_C_reaches_27 : decode prog_1_method_34_code 27 = .ok (.istore 6, 2) := by decide +kernel
theorem d_C_reaches_29 : decode prog_1_method_34_code 29 = .ok (.iload 4, 2) := by decide +kernel
theorem d_C_reaches_31 : decode prog_1_method_34_code 31 = .ok (.aload_n 0, 1) := by decide +kernel
theorem d_C_reaches_32 : decode prog_1_method_34_code 32 = .ok (.getfield 42, 3) := by decide +kernel
theorem d_C_reaches_35 : decode prog_1_method_34_code 35 = .ok (.iload_n 3, 1) := by decide +kernel
theorem d_C_reaches_36 : decode prog_1_method_34_code 36 = .ok (.aaload, 1) := by decide +kernel
theorem d_C_reaches_37 : decode prog_1_method_34_code 37 = .ok (.iload 5, 2) := by decide +kernel
theorem d_C_reaches_39 : decode prog_1_method_34_code 39 = .ok (.iaload, 1) := by decide +kernel
theorem d_C_reaches_40 : decode prog_1_method_34_code 40 = .ok (.isub, 1) := by decide +kernel
theorem d_C_reaches_41 : decode prog_1_method_34_code 41 = .ok (.i2l, 1) := by decide +kernel
theorem d_C_reaches_42 : decode prog_1_method_34_code 42 = .ok (.invokestatic 167, 3) := by decide +kernel
theorem d_C_reaches_45 : decode prog_1_method_34_code 45 = .ok (.istore 7, 2) := by decide +kernel
theorem d_C_reaches_47 : decode prog_1_method_34_code 47 = .ok (.iload 7, 2) := by decide +kernel
theorem d_C_reaches_49 : decode prog_1_method_34_code 49 = .ok (.ifCond .eq 12, 3) := by decide +kernel
theorem d_C_reaches_52 : decode prog_1_method_34_code 52 = .ok (.iload 7, 2) := by decide +kernel
theorem d_C_reaches_54 : decode prog_1_method_34_code 54 = .ok (.iload 6, 2) := by decide +kernel
theorem d_C_reaches_56 : decode prog_1_method_34_code 56 = .ok (.if_icmp .eq 5, 3) := by decide +kernel
theorem d_C_reaches_59 : decode prog_1_method_34_code 59 = .ok (.iconst 0, 1) := by decide +kernel
theorem d_C_reaches_60 : decode prog_1_method_34_code 60 = .ok (.ireturn, 1) := by decide +kernel
theorem d_C_reaches_61 : decode prog_1_method_34_code 61 = .ok (.iinc 5 1, 3) := by decide +kernel
theorem d_C_reaches_64 : decode prog_1_method_34_code 64 = .ok (.goto (-61), 3) := by decide +kernel
theorem d_C_reaches_67 : decode prog_1_method_34_code 67 = .ok (.iconst 1, 1) := by decide +kernel
theorem d_C_reaches_68 : decode prog_1_method_34_code 68 = .ok (.ireturn, 1) := by decide +kernel
