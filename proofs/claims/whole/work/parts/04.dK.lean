theorem d_K_init_0 : decode prog_2_method_1_code 0 = .ok (.aload_n 0, 1) := by decide +kernel
theorem d_K_init_1 : decode prog_2_method_1_code 1 = .ok (.invokespecial 3, 3) := by decide +kernel
theorem d_K_init_4 : decode prog_2_method_1_code 4 = .ok (.aload_n 0, 1) := by decide +kernel
theorem d_K_init_5 : decode prog_2_method_1_code 5 = .ok (.bipush 15, 2) := by decide +kernel
theorem d_K_init_7 : decode prog_2_method_1_code 7 = .ok (.newarray .long, 2) := by decide +kernel
theorem d_K_init_9 : decode prog_2_method_1_code 9 = .ok (.putfield 9, 3) := by decide +kernel
theorem d_K_init_12 : decode prog_2_method_1_code 12 = .ok (.aload_n 0, 1) := by decide +kernel
theorem d_K_init_13 : decode prog_2_method_1_code 13 = .ok (.bipush 15, 2) := by decide +kernel
theorem d_K_init_15 : decode prog_2_method_1_code 15 = .ok (.newarray .long, 2) := by decide +kernel
theorem d_K_init_17 : decode prog_2_method_1_code 17 = .ok (.putfield 15, 3) := by decide +kernel
theorem d_K_init_20 : decode prog_2_method_1_code 20 = .ok (.aload_n 0, 1) := by decide +kernel
theorem d_K_init_21 : decode prog_2_method_1_code 21 = .ok (.iconst 0, 1) := by decide +kernel
theorem d_K_init_22 : decode prog_2_method_1_code 22 = .ok (.putfield 18, 3) := by decide +kernel
theorem d_K_init_25 : decode prog_2_method_1_code 25 = .ok (.return_, 1) := by decide +kernel
theorem d_K_insert_0 : decode prog_2_method_2_code 0 = .ok (.aload_n 0, 1) := by decide +kernel
theorem d_K_insert_1 : decode prog_2_method_2_code 1 = .ok (.lload_n 1, 1) := by decide +kernel
theorem d_K_insert_2 : decode prog_2_method_2_code 2 = .ok (.lload_n 3, 1) := by decide +kernel
theorem d_K_insert_3 : decode prog_2_method_2_code 3 = .ok (.invokevirtual 22, 3) := by decide +kernel
theorem d_K_insert_6 : decode prog_2_method_2_code 6 = .ok (.istore 5, 2) := by decide +kernel
theorem d_K_insert_8 : decode prog_2_method_2_code 8 = .ok (.iload 5, 2) := by decide +kernel
theorem d_K_insert_10 : decode prog_2_method_2_code 10 = .ok (.iconst 2, 1) := by decide +kernel
theorem d_K_insert_11 : decode prog_2_method_2_code 11 = .ok (.irem, 1) := by decide +kernel
theorem d_K_insert_12 : decode prog_2_method_2_code 12 = .ok (.iconst 1, 1) := by decide +kernel
theorem d_K_insert_13 : decode prog_2_method_2_code 13 = .ok (.if_icmp .eq 12, 3) := by decide +kernel
theorem d_K_insert_16 : decode prog_2_method_2_code 16 = .ok (.aload_n 0, 1) := by decide +kernel
theorem d_K_insert_17 : decode prog_2_method_2_code 17 = .ok (.getfield 18, 3) := by decide +kernel
theorem d_K_insert_20 : decode prog_2_method_2_code 20 = .ok (.bipush 15, 2) := by decide +kernel
theorem d_K_insert_22 : decode prog_2_method_2_code 22 = .ok (.if_icmp .lt 4, 3) := by decide +kernel
theorem d_K_insert_25 : decode prog_2_method_2_code 25 = .ok (.return_, 1) := by decide +kernel
theorem d_K_insert_26 : decode prog_2_method_2_code 26 = .ok (.iload 5, 2) := by decide +kernel
theorem d_K_insert_28 : decode prog_2_method_2_code 28 = .ok (.iconst 2, 1) := by decide +kernel
theorem d_K_insert_29 : decode prog_2_method_2_code 29 = .ok (.idiv, 1) := by decide +kernel
theorem d_K_insert_30 : decode prog_2_method_2_code 30 = .ok (.istore 6, 2) := by decide +kernel
theorem d_K_insert_32 : decode prog_2_method_2_code 32 = .ok (.aload_n 0, 1) := by decide +kernel
theorem d_K_insert_33 : decode prog_2_method_2_code 33 = .ok (.getfield 18, 3) := by decide +kernel
theorem d_K_insert_36 : decode prog_2_method_2_code 36 = .ok (.istore 7, 2) := by decide +kernel
theorem d_K_insert_38 : decode prog_2_method_2_code 38 = .ok (.iload 7, 2) := by decide +kernel
theorem d_K_insert_40 : decode prog_2_method_2_code 40 = .ok (.iload 6, 2) := by decide +kernel
theorem d_K_insert_42 : decode prog_2_method_2_code 42 = .ok (.if_icmp .le 41, 3) := by decide +kernel
theorem d_K_insert_45 : decode prog_2_method_2_code 45 = .ok (.aload_n 0, 1) := by decide +kernel
theorem d_K_insert_46 : decode prog_2_method_2_code 46 = .ok (.getfield 9, 3) := by decide +kernel
theorem d_K_insert_49 : decode prog_2_method_2_code 49 = .ok (.iload 7, 2) := by decide +kernel
theorem d_K_insert_51 : decode prog_2_method_2_code 51 = .ok (.aload_n 0, 1) := by decide +kernel
theorem d_K_insert_52 : decode prog_2_method_2_code 52 = .ok (.getfield 9, 3) := by decide +kernel
theorem d_K_insert_55 : decode prog_2_method_2_code 55 = .ok (.iload 7, 2) := by decide +kernel
theorem d_K_insert_57 : decode prog_2_method_2_code 57 = .ok (.iconst 1, 1) := by decide +kernel
theorem d_K_insert_58 : decode prog_2_method_2_code 58 = .ok (.isub, 1) := by decide +kernel
theorem d_K_insert_59 : decode prog_2_method_2_code 59 = .ok (.laload, 1) := by decide +kernel
theorem d_K_insert_60 : decode prog_2_method_2_code 60 = .ok (.lastore, 1) := by decide +kernel
theorem d_K_insert_61 : decode prog_2_method_2_code 61 = .ok (.aload_n 0, 1) := by decide +kernel
theorem d_K_insert_62 : decode prog_2_method_2_code 62 = .ok (.getfield 15, 3) := by decide +kernel
theorem d_K_insert_65 : decode prog_2_method_2_code 65 = .ok (.iload 7, 2) := by decide +kernel
theorem d_K_insert_67 : decode prog_2_method_2_code 67 = .ok (.aload_n 0, 1) := by decide +kernel
theorem d_K_insert_68 : decode prog_2_method_2_code 68 = .ok (.getfield 15, 3) := by decide +kernel
theorem d_K_insert_71 : decode prog_2_method_2_code 71 = .ok (.iload 7, 2) := by decide +kernel
theorem d_K_insert_73 : decode prog_2_method_2_code 73 = .ok (.iconst 1, 1) := by decide +kernel
theorem d_K_insert_74 : decode prog_2_method_2_code 74 = .ok (.isub, 1) := by decide +kernel
theorem d_K_insert_75 : decode prog_2_method_2_code 75 = .ok (.laload, 1) := by decide +kernel
theorem d_K_insert_76 : decode prog_2_method_2_code 76 = .ok (.lastore, 1) := by decide +kernel
theorem d_K_insert_77 : decode prog_2_method_2_code 77 = .ok (.iinc 7 (-1), 3) := by decide +kernel
theorem d_K_insert_80 : decode prog_2_method_2_code 80 = .ok (.goto (-42), 3) := by decide +kernel
theorem d_K_insert_83 : decode prog_2_method_2_code 83 = .ok (.aload_n 0, 1) := by decide +kernel
theorem d_K_insert_84 : decode prog_2_method_2_code 84 = .ok (.getfield 9, 3) := by decide +kernel
theorem d_K_insert_87 : decode prog_2_method_2_code 87 = .ok (.iload 6, 2) := by decide +kernel
theorem d_K_insert_89 : decode prog_2_method_2_code 89 = .ok (.lload_n 1, 1) := by decide +kernel
theorem d_K_insert_90 : decode prog_2_method_2_code 90 = .ok (.lastore, 1) := by decide +kernel
theorem d_K_insert_91 : decode prog_2_method_2_code 91 = .ok (.aload_n 0, 1) := by decide +kernel
theorem d_K_insert_92 : decode prog_2_method_2_code 92 = .ok (.getfield 15, 3) := by decide +kernel
theorem d_K_insert_95 : decode prog_2_method_2_code 95 = .ok (.iload 6, 2) := by decide +kernel
theorem d_K_insert_97 : decode prog_2_method_2_code 97 = .ok (.lload_n 3, 1) := by decide +kernel
theorem d_K_insert_98 : decode prog_2_method_2_code 98 = .ok (.lastore, 1) := by decide +kernel
theorem d_K_insert_99 : decode prog_2_method_2_code 99 = .ok (.aload_n 0, 1) := by decide +kernel
theorem d_K_insert_100 : decode prog_2_method_2_code 100 = .ok (.dup, 1) := by decide +kernel
theorem d_K_insert_101 : decode prog_2_method_2_code 101 = .ok (.getfield 18, 3) := by decide +kernel
theorem d_K_insert_104 : decode prog_2_method_2_code 104 = .ok (.iconst 1, 1) := by decide +kernel
theorem d_K_insert_105 : decode prog_2_method_2_code 105 = .ok (.iadd, 1) := by decide +kernel
theorem d_K_insert_106 : decode prog_2_method_2_code 106 = .ok (.putfield 18, 3) := by decide +kernel
theorem d_K_insert_109 : decode prog_2_method_2_code 109 = .ok (.return_, 1) := by decide +kernel
theorem d_K_pieceOf_0 : decode prog_2_method_3_code 0 = .ok (.iconst 0, 1) := by decide +kernel
theorem d_K_pieceOf_1 : decode prog_2_method_3_code 1 = .ok (.istore 5, 2) := by decide +kernel
theorem d_K_pieceOf_3 : decode prog_2_method_3_code 3 = .ok (.iload 5, 2) := by decide +kernel
theorem d_K_pieceOf_5 : decode prog_2_method_3_code 5 = .ok (.aload_n 0, 1) := by decide +kernel
theorem d_K_pieceOf_6 : decode prog_2_method_3_code 6 = .ok (.getfield 18, 3) := by decide +kernel
theorem d_K_pieceOf_9 : decode prog_2_method_3_code 9 = .ok (.if_icmp .ge 56, 3) := by decide +kernel
theorem d_K_pieceOf_12 : decode prog_2_method_3_code 12 = .ok (.lload_n 1, 1) := by decide +kernel
theorem d_K_pieceOf_13 : decode prog_2_method_3_code 13 = .ok (.aload_n 0, 1) := by decide +kernel
theorem d_K_pieceOf_14 : decode prog_2_method_3_code 14 = .ok (.getfield 15, 3) := by decide +kernel
theorem d_K_pieceOf_17 : decode prog_2_method_3_code 17 = .ok (.iload 5, 2) := by decide +kernel
theorem d_K_pieceOf_19 : decode prog_2_method_3_code 19 = .ok (.laload, 1) := by decide +kernel
theorem d_K_pieceOf_20 : decode prog_2_method_3_code 20 = .ok (.lmul, 1) := by decide +kernel
theorem d_K_pieceOf_21 : decode prog_2_method_3_code 21 = .ok (.aload_n 0, 1) := by decide +kernel
theorem d_K_pieceOf_22 : decode prog_2_method_3_code 22 = .ok (.getfield 9, 3) := by decide +kernel
theorem d_K_pieceOf_25 : decode prog_2_method_3_code 25 = .ok (.iload 5, 2) := by decide +kernel
theorem d_K_pieceOf_27 : decode prog_2_method_3_code 27 = .ok (.laload, 1) := by decide +kernel
theorem d_K_pieceOf_28 : decode prog_2_method_3_code 28 = .ok (.lload_n 3, 1) := by decide +kernel
theorem d_K_pieceOf_29 : decode prog_2_method_3_code 29 = .ok (.lmul, 1) := by decide +kernel
theorem d_K_pieceOf_30 : decode prog_2_method_3_code 30 = .ok (.invokestatic 26, 3) := by decide +kernel
theorem d_K_pieceOf_33 : decode prog_2_method_3_code 33 = .ok (.istore 6, 2) := by decide +kernel
theorem d_K_pieceOf_35 : decode prog_2_method_3_code 35 = .ok (.iload 6, 2) := by decide +kernel
theorem d_K_pieceOf_37 : decode prog_2_method_3_code 37 = .ok (.ifCond .gt 22, 3) := by decide +kernel
theorem d_K_pieceOf_40 : decode prog_2_method_3_code 40 = .ok (.iload 6, 2) := by decide +kernel
theorem d_K_pieceOf_42 : decode prog_2_method_3_code 42 = .ok (.ifCond .ne 12, 3) := by decide +kernel
theorem d_K_pieceOf_45 : decode prog_2_method_3_code 45 = .ok (.iconst 2, 1) := by decide +kernel
theorem d_K_pieceOf_46 : decode prog_2_method_3_code 46 = .ok (.iload 5, 2) := by decide +kernel
theorem d_K_pieceOf_48 : decode prog_2_method_3_code 48 = .ok (.imul, 1) := by decide +kernel
theorem d_K_pieceOf_49 : decode prog_2_method_3_code 49 = .ok (.iconst 1, 1) := by decide +kernel
theorem d_K_pieceOf_50 : decode prog_2_method_3_code 50 = .ok (.iadd, 1) := by decide +kernel
theorem d_K_pieceOf_51 : decode prog_2_method_3_code 51 = .ok (.goto 7, 3) := by decide +kernel
theorem d_K_pieceOf_54 : decode prog_2_method_3_code 54 = .ok (.iconst 2, 1) := by decide +kernel
theorem d_K_pieceOf_55 : decode prog_2_method_3_code 55 = .ok (.iload 5, 2) := by decide +kernel
theorem d_K_pieceOf_57 : decode prog_2_method_3_code 57 = .ok (.imul, 1) := by decide +kernel
theorem d_K_pieceOf_58 : decode prog_2_method_3_code 58 = .ok (.ireturn, 1) := by decide +kernel
theorem d_K_pieceOf_59 : decode prog_2_method_3_code 59 = .ok (.iinc 5 1, 3) := by decide +kernel
theorem d_K_pieceOf_62 : decode prog_2_method_3_code 62 = .ok (.goto (-59), 3) := by decide +kernel
theorem d_K_pieceOf_65 : decode prog_2_method_3_code 65 = .ok (.iconst 2, 1) := by decide +kernel
theorem d_K_pieceOf_66 : decode prog_2_method_3_code 66 = .ok (.aload_n 0, 1) := by decide +kernel
theorem d_K_pieceOf_67 : decode prog_2_method_3_code 67 = .ok (.getfield 18, 3) := by decide +kernel
theorem d_K_pieceOf_70 : decode prog_2_method_3_code 70 = .ok (.imul, 1) := by decide +kernel
theorem d_K_pieceOf_71 : decode prog_2_method_3_code 71 = .ok (.ireturn, 1) := by decide +kernel
theorem d_K_samplePart_0 : decode prog_2_method_4_code 0 = .ok (.aload_n 0, 1) := by decide +kernel
theorem d_K_samplePart_1 : decode prog_2_method_4_code 1 = .ok (.getfield 18, 3) := by decide +kernel
theorem d_K_samplePart_4 : decode prog_2_method_4_code 4 = .ok (.ifCond .gt 10, 3) := by decide +kernel
theorem d_K_samplePart_7 : decode prog_2_method_4_code 7 = .ok (.lconst 0, 1) := by decide +kernel
theorem d_K_samplePart_8 : decode prog_2_method_4_code 8 = .ok (.lconst 1, 1) := by decide +kernel
theorem d_K_samplePart_9 : decode prog_2_method_4_code 9 = .ok (.iload_n 2, 1) := by decide +kernel
theorem d_K_samplePart_10 : decode prog_2_method_4_code 10 = .ok (.invokestatic 31, 3) := by decide +kernel
theorem d_K_samplePart_13 : decode prog_2_method_4_code 13 = .ok (.lreturn, 1) := by decide +kernel
theorem d_K_samplePart_14 : decode prog_2_method_4_code 14 = .ok (.iload_n 1, 1) := by decide +kernel
theorem d_K_samplePart_15 : decode prog_2_method_4_code 15 = .ok (.ifCond .gt 27, 3) := by decide +kernel
theorem d_K_samplePart_18 : decode prog_2_method_4_code 18 = .ok (.aload_n 0, 1) := by decide +kernel
theorem d_K_samplePart_19 : decode prog_2_method_4_code 19 = .ok (.getfield 9, 3) := by decide +kernel
theorem d_K_samplePart_22 : decode prog_2_method_4_code 22 = .ok (.iconst 0, 1) := by decide +kernel
theorem d_K_samplePart_23 : decode prog_2_method_4_code 23 = .ok (.laload, 1) := by decide +kernel
theorem d_K_samplePart_24 : decode prog_2_method_4_code 24 = .ok (.aload_n 0, 1) := by decide +kernel
theorem d_K_samplePart_25 : decode prog_2_method_4_code 25 = .ok (.getfield 15, 3) := by decide +kernel
theorem d_K_samplePart_28 : decode prog_2_method_4_code 28 = .ok (.iconst 0, 1) := by decide +kernel
theorem d_K_samplePart_29 : decode prog_2_method_4_code 29 = .ok (.laload, 1) := by decide +kernel
theorem d_K_samplePart_30 : decode prog_2_method_4_code 30 = .ok (.lsub, 1) := by decide +kernel
theorem d_K_samplePart_31 : decode prog_2_method_4_code 31 = .ok (.aload_n 0, 1) := by decide +kernel
theorem d_K_samplePart_32 : decode prog_2_method_4_code 32 = .ok (.getfield 15, 3) := by decide +kernel
theorem d_K_samplePart_35 : decode prog_2_method_4_code 35 = .ok (.iconst 0, 1) := by decide +kernel
theorem d_K_samplePart_36 : decode prog_2_method_4_code 36 = .ok (.laload, 1) := by decide +kernel
theorem d_K_samplePart_37 : decode prog_2_method_4_code 37 = .ok (.iload_n 2, 1) := by decide +kernel
theorem d_K_samplePart_38 : decode prog_2_method_4_code 38 = .ok (.invokestatic 31, 3) := by decide +kernel
theorem d_K_samplePart_41 : decode prog_2_method_4_code 41 = .ok (.lreturn, 1) := by decide +kernel
theorem d_K_samplePart_42 : decode prog_2_method_4_code 42 = .ok (.iload_n 1, 1) := by decide +kernel
theorem d_K_samplePart_43 : decode prog_2_method_4_code 43 = .ok (.iconst 2, 1) := by decide +kernel
theorem d_K_samplePart_44 : decode prog_2_method_4_code 44 = .ok (.idiv, 1) := by decide +kernel
theorem d_K_samplePart_45 : decode prog_2_method_4_code 45 = .ok (.istore_n 3, 1) := by decide +kernel
theorem d_K_samplePart_46 : decode prog_2_method_4_code 46 = .ok (.iload_n 3, 1) := by decide +kernel
theorem d_K_samplePart_47 : decode prog_2_method_4_code 47 = .ok (.aload_n 0, 1) := by decide +kernel
theorem d_K_samplePart_48 : decode prog_2_method_4_code 48 = .ok (.getfield 18, 3) := by decide +kernel
theorem d_K_samplePart_51 : decode prog_2_method_4_code 51 = .ok (.if_icmp .lt 42, 3) := by decide +kernel
theorem d_K_samplePart_54 : decode prog_2_method_4_code 54 = .ok (.aload_n 0, 1) := by decide +kernel
theorem d_K_samplePart_55 : decode prog_2_method_4_code 55 = .ok (.getfield 9, 3) := by decide +kernel
theorem d_K_samplePart_58 : decode prog_2_method_4_code 58 = .ok (.aload_n 0, 1) := by decide +kernel
theorem d_K_samplePart_59 : decode prog_2_method_4_code 59 = .ok (.getfield 18, 3) := by decide +kernel
theorem d_K_samplePart_62 : decode prog_2_method_4_code 62 = .ok (.iconst 1, 1) := by decide +kernel
theorem d_K_samplePart_63 : decode prog_2_method_4_code 63 = .ok (.isub, 1) := by decide +kernel
theorem d_K_samplePart_64 : decode prog_2_method_4_code 64 = .ok (.laload, 1) := by decide +kernel
theorem d_K_samplePart_65 : decode prog_2_method_4_code 65 = .ok (.aload_n 0, 1) := by decide +kernel
theorem d_K_samplePart_66 : decode prog_2_method_4_code 66 = .ok (.getfield 15, 3) := by decide +kernel
theorem d_K_samplePart_69 : decode prog_2_method_4_code 69 = .ok (.aload_n 0, 1) := by decide +kernel
theorem d_K_samplePart_70 : decode prog_2_method_4_code 70 = .ok (.getfield 18, 3) := by decide +kernel
theorem d_K_samplePart_73 : decode prog_2_method_4_code 73 = .ok (.iconst 1, 1) := by decide +kernel
theorem d_K_samplePart_74 : decode prog_2_method_4_code 74 = .ok (.isub, 1) := by decide +kernel
theorem d_K_samplePart_75 : decode prog_2_method_4_code 75 = .ok (.laload, 1) := by decide +kernel
theorem d_K_samplePart_76 : decode prog_2_method_4_code 76 = .ok (.ladd, 1) := by decide +kernel
theorem d_K_samplePart_77 : decode prog_2_method_4_code 77 = .ok (.aload_n 0, 1) := by decide +kernel
theorem d_K_samplePart_78 : decode prog_2_method_4_code 78 = .ok (.getfield 15, 3) := by decide +kernel
theorem d_K_samplePart_81 : decode prog_2_method_4_code 81 = .ok (.aload_n 0, 1) := by decide +kernel
theorem d_K_samplePart_82 : decode prog_2_method_4_code 82 = .ok (.getfield 18, 3) := by decide +kernel
theorem d_K_samplePart_85 : decode prog_2_method_4_code 85 = .ok (.iconst 1, 1) := by decide +kernel
theorem d_K_samplePart_86 : decode prog_2_method_4_code 86 = .ok (.isub, 1) := by decide +kernel
theorem d_K_samplePart_87 : decode prog_2_method_4_code 87 = .ok (.laload, 1) := by decide +kernel
theorem d_K_samplePart_88 : decode prog_2_method_4_code 88 = .ok (.iload_n 2, 1) := by decide +kernel
theorem d_K_samplePart_89 : decode prog_2_method_4_code 89 = .ok (.invokestatic 31, 3) := by decide +kernel
theorem d_K_samplePart_92 : decode prog_2_method_4_code 92 = .ok (.lreturn, 1) := by decide +kernel
theorem d_K_samplePart_93 : decode prog_2_method_4_code 93 = .ok (.iload_n 1, 1) := by decide +kernel
theorem d_K_samplePart_94 : decode prog_2_method_4_code 94 = .ok (.iconst 2, 1) := by decide +kernel
theorem d_K_samplePart_95 : decode prog_2_method_4_code 95 = .ok (.irem, 1) := by decide +kernel
theorem d_K_samplePart_96 : decode prog_2_method_4_code 96 = .ok (.iconst 1, 1) := by decide +kernel
theorem d_K_samplePart_97 : decode prog_2_method_4_code 97 = .ok (.if_icmp .ne 20, 3) := by decide +kernel
theorem d_K_samplePart_100 : decode prog_2_method_4_code 100 = .ok (.aload_n 0, 1) := by decide +kernel
theorem d_K_samplePart_101 : decode prog_2_method_4_code 101 = .ok (.getfield 9, 3) := by decide +kernel
theorem d_K_samplePart_104 : decode prog_2_method_4_code 104 = .ok (.iload_n 3, 1) := by decide +kernel
theorem d_K_samplePart_105 : decode prog_2_method_4_code 105 = .ok (.laload, 1) := by decide +kernel
theorem d_K_samplePart_106 : decode prog_2_method_4_code 106 = .ok (.aload_n 0, 1) := by decide +kernel
theorem d_K_samplePart_107 : decode prog_2_method_4_code 107 = .ok (.getfield 15, 3) := by decide +kernel
theorem d_K_samplePart_110 : decode prog_2_method_4_code 110 = .ok (.iload_n 3, 1) := by decide +kernel
theorem d_K_samplePart_111 : decode prog_2_method_4_code 111 = .ok (.laload, 1) := by decide +kernel
theorem d_K_samplePart_112 : decode prog_2_method_4_code 112 = .ok (.iload_n 2, 1) := by decide +kernel
theorem d_K_samplePart_113 : decode prog_2_method_4_code 113 = .ok (.invokestatic 31, 3) := by decide +kernel
theorem d_K_samplePart_116 : decode prog_2_method_4_code 116 = .ok (.lreturn, 1) := by decide +kernel
theorem d_K_samplePart_117 : decode prog_2_method_4_code 117 = .ok (.aload_n 0, 1) := by decide +kernel
theorem d_K_samplePart_118 : decode prog_2_method_4_code 118 = .ok (.getfield 9, 3) := by decide +kernel
theorem d_K_samplePart_121 : decode prog_2_method_4_code 121 = .ok (.iload_n 3, 1) := by decide +kernel
theorem d_K_samplePart_122 : decode prog_2_method_4_code 122 = .ok (.iconst 1, 1) := by decide +kernel
theorem d_K_samplePart_123 : decode prog_2_method_4_code 123 = .ok (.isub, 1) := by decide +kernel
theorem d_K_samplePart_124 : decode prog_2_method_4_code 124 = .ok (.laload, 1) := by decide +kernel
theorem d_K_samplePart_125 : decode prog_2_method_4_code 125 = .ok (.aload_n 0, 1) := by decide +kernel
theorem d_K_samplePart_126 : decode prog_2_method_4_code 126 = .ok (.getfield 15, 3) := by decide +kernel
theorem d_K_samplePart_129 : decode prog_2_method_4_code 129 = .ok (.iload_n 3, 1) := by decide +kernel
theorem d_K_samplePart_130 : decode prog_2_method_4_code 130 = .ok (.laload, 1) := by decide +kernel
theorem d_K_samplePart_131 : decode prog_2_method_4_code 131 = .ok (.lmul, 1) := by decide +kernel
theorem d_K_samplePart_132 : decode prog_2_method_4_code 132 = .ok (.aload_n 0, 1) := by decide +kernel
theorem d_K_samplePart_133 : decode prog_2_method_4_code 133 = .ok (.getfield 9, 3) := by decide +kernel
theorem d_K_samplePart_136 : decode prog_2_method_4_code 136 = .ok (.iload_n 3, 1) := by decide +kernel
theorem d_K_samplePart_137 : decode prog_2_method_4_code 137 = .ok (.laload, 1) := by decide +kernel
theorem d_K_samplePart_138 : decode prog_2_method_4_code 138 = .ok (.aload_n 0, 1) := by decide +kernel
theorem d_K_samplePart_139 : decode prog_2_method_4_code 139 = .ok (.getfield 15, 3) := by decide +kernel
theorem d_K_samplePart_142 : decode prog_2_method_4_code 142 = .ok (.iload_n 3, 1) := by decide +kernel
theorem d_K_samplePart_143 : decode prog_2_method_4_code 143 = .ok (.iconst 1, 1) := by decide +kernel
theorem d_K_samplePart_144 : decode prog_2_method_4_code 144 = .ok (.isub, 1) := by decide +kernel
theorem d_K_samplePart_145 : decode prog_2_method_4_code 145 = .ok (.laload, 1) := by decide +kernel
theorem d_K_samplePart_146 : decode prog_2_method_4_code 146 = .ok (.lmul, 1) := by decide +kernel
theorem d_K_samplePart_147 : decode prog_2_method_4_code 147 = .ok (.ladd, 1) := by decide +kernel
theorem d_K_samplePart_148 : decode prog_2_method_4_code 148 = .ok (.lstore 4, 2) := by decide +kernel
theorem d_K_samplePart_150 : decode prog_2_method_4_code 150 = .ok (.lload 4, 2) := by decide +kernel
theorem d_K_samplePart_152 : decode prog_2_method_4_code 152 = .ok (.ldc2_w 35, 3) := by decide +kernel
theorem d_K_samplePart_155 : decode prog_2_method_4_code 155 = .ok (.aload_n 0, 1) := by decide +kernel
theorem d_K_samplePart_156 : decode prog_2_method_4_code 156 = .ok (.getfield 15, 3) := by decide +kernel
theorem d_K_samplePart_159 : decode prog_2_method_4_code 159 = .ok (.iload_n 3, 1) := by decide +kernel
theorem d_K_samplePart_160 : decode prog_2_method_4_code 160 = .ok (.iconst 1, 1) := by decide +kernel
theorem d_K_samplePart_161 : decode prog_2_method_4_code 161 = .ok (.isub, 1) := by decide +kernel
theorem d_K_samplePart_162 : decode prog_2_method_4_code 162 = .ok (.laload, 1) := by decide +kernel
theorem d_K_samplePart_163 : decode prog_2_method_4_code 163 = .ok (.lmul, 1) := by decide +kernel
theorem d_K_samplePart_164 : decode prog_2_method_4_code 164 = .ok (.aload_n 0, 1) := by decide +kernel
theorem d_K_samplePart_165 : decode prog_2_method_4_code 165 = .ok (.getfield 15, 3) := by decide +kernel
theorem d_K_samplePart_168 : decode prog_2_method_4_code 168 = .ok (.iload_n 3, 1) := by decide +kernel
theorem d_K_samplePart_169 : decode prog_2_method_4_code 169 = .ok (.laload, 1) := by decide +kernel
theorem d_K_samplePart_170 : decode prog_2_method_4_code 170 = .ok (.lmul, 1) := by decide +kernel
theorem d_K_samplePart_171 : decode prog_2_method_4_code 171 = .ok (.iload_n 2, 1) := by decide +kernel
theorem d_K_samplePart_172 : decode prog_2_method_4_code 172 = .ok (.invokestatic 31, 3) := by decide +kernel
theorem d_K_samplePart_175 : decode prog_2_method_4_code 175 = .ok (.lreturn, 1) := by decide +kernel
theorem d_K_reduced_0 : decode prog_2_method_5_code 0 = .ok (.lload_n 0, 1) := by decide +kernel
theorem d_K_reduced_1 : decode prog_2_method_5_code 1 = .ok (.invokestatic 37, 3) := by decide +kernel
theorem d_K_reduced_4 : decode prog_2_method_5_code 4 = .ok (.lload_n 2, 1) := by decide +kernel
theorem d_K_reduced_5 : decode prog_2_method_5_code 5 = .ok (.invokestatic 43, 3) := by decide +kernel
theorem d_K_reduced_8 : decode prog_2_method_5_code 8 = .ok (.lstore 5, 2) := by decide +kernel
theorem d_K_reduced_10 : decode prog_2_method_5_code 10 = .ok (.iload 4, 2) := by decide +kernel
theorem d_K_reduced_12 : decode prog_2_method_5_code 12 = .ok (.ifCond .ne 7, 3) := by decide +kernel
theorem d_K_reduced_15 : decode prog_2_method_5_code 15 = .ok (.lload_n 0, 1) := by decide +kernel
theorem d_K_reduced_16 : decode prog_2_method_5_code 16 = .ok (.goto 4, 3) := by decide +kernel
theorem d_K_reduced_19 : decode prog_2_method_5_code 19 = .ok (.lload_n 2, 1) := by decide +kernel
theorem d_K_reduced_20 : decode prog_2_method_5_code 20 = .ok (.lload 5, 2) := by decide +kernel
theorem d_K_reduced_22 : decode prog_2_method_5_code 22 = .ok (.ldiv, 1) := by decide +kernel
theorem d_K_reduced_23 : decode prog_2_method_5_code 23 = .ok (.lreturn, 1) := by decide +kernel
theorem d_K_commonDivisor_0 : decode prog_2_method_6_code 0 = .ok (.lload_n 0, 1) := by decide +kernel
theorem d_K_commonDivisor_1 : decode prog_2_method_6_code 1 = .ok (.lstore 4, 2) := by decide +kernel
theorem d_K_commonDivisor_3 : decode prog_2_method_6_code 3 = .ok (.lload_n 2, 1) := by decide +kernel
theorem d_K_commonDivisor_4 : decode prog_2_method_6_code 4 = .ok (.lstore 6, 2) := by decide +kernel
theorem d_K_commonDivisor_6 : decode prog_2_method_6_code 6 = .ok (.iconst 0, 1) := by decide +kernel
theorem d_K_commonDivisor_7 : decode prog_2_method_6_code 7 = .ok (.istore 8, 2) := by decide +kernel
theorem d_K_commonDivisor_9 : decode prog_2_method_6_code 9 = .ok (.iload 8, 2) := by decide +kernel
theorem d_K_commonDivisor_11 : decode prog_2_method_6_code 11 = .ok (.bipush 100, 2) := by decide +kernel
theorem d_K_commonDivisor_13 : decode prog_2_method_6_code 13 = .ok (.if_icmp .ge 31, 3) := by decide +kernel
theorem d_K_commonDivisor_16 : decode prog_2_method_6_code 16 = .ok (.lload 6, 2) := by decide +kernel
theorem d_K_commonDivisor_18 : decode prog_2_method_6_code 18 = .ok (.lconst 0, 1) := by decide +kernel
theorem d_K_commonDivisor_19 : decode prog_2_method_6_code 19 = .ok (.lcmp, 1) := by decide +kernel
theorem d_K_commonDivisor_20 : decode prog_2_method_6_code 20 = .ok (.ifCond .eq 24, 3) := by decide +kernel
theorem d_K_commonDivisor_23 : decode prog_2_method_6_code 23 = .ok (.lload 4, 2) := by decide +kernel
theorem d_K_commonDivisor_25 : decode prog_2_method_6_code 25 = .ok (.lload 6, 2) := by decide +kernel
theorem d_K_commonDivisor_27 : decode prog_2_method_6_code 27 = .ok (.lrem, 1) := by decide +kernel
theorem d_K_commonDivisor_28 : decode prog_2_method_6_code 28 = .ok (.lstore 9, 2) := by decide +kernel
theorem d_K_commonDivisor_30 : decode prog_2_method_6_code 30 = .ok (.lload 6, 2) := by decide +kernel
theorem d_K_commonDivisor_32 : decode prog_2_method_6_code 32 = .ok (.lstore 4, 2) := by decide +kernel
theorem d_K_commonDivisor_34 : decode prog_2_method_6_code 34 = .ok (.lload 9, 2) := by decide +kernel
theorem d_K_commonDivisor_36 : decode prog_2_method_6_code 36 = .ok (.lstore 6, 2) := by decide +kernel
theorem d_K_commonDivisor_38 : decode prog_2_method_6_code 38 = .ok (.iinc 8 1, 3) := by decide +kernel
theorem d_K_commonDivisor_41 : decode prog_2_method_6_code 41 = .ok (.goto (-32), 3) := by decide +kernel
theorem d_K_commonDivisor_44 : decode prog_2_method_6_code 44 = .ok (.lload 4, 2) := by decide +kernel
theorem d_K_commonDivisor_46 : decode prog_2_method_6_code 46 = .ok (.lconst 1, 1) := by decide +kernel
theorem d_K_commonDivisor_47 : decode prog_2_method_6_code 47 = .ok (.invokestatic 47, 3) := by decide +kernel
theorem d_K_commonDivisor_50 : decode prog_2_method_6_code 50 = .ok (.lreturn, 1) := by decide +kernel
theorem d_JL_compare_0 : decode prog_9_method_42_code 0 = .ok (.lload_n 0, 1) := by decide +kernel
theorem d_JL_compare_1 : decode prog_9_method_42_code 1 = .ok (.lload_n 2, 1) := by decide +kernel
theorem d_JL_compare_2 : decode prog_9_method_42_code 2 = .ok (.lcmp, 1) := by decide +kernel
theorem d_JL_compare_3 : decode prog_9_method_42_code 3 = .ok (.ifCond .ge 7, 3) := by decide +kernel
theorem d_JL_compare_6 : decode prog_9_method_42_code 6 = .ok (.iconst (-1), 1) := by decide +kernel
theorem d_JL_compare_7 : decode prog_9_method_42_code 7 = .ok (.goto 14, 3) := by decide +kernel
theorem d_JL_compare_10 : decode prog_9_method_42_code 10 = .ok (.lload_n 0, 1) := by decide +kernel
theorem d_JL_compare_11 : decode prog_9_method_42_code 11 = .ok (.lload_n 2, 1) := by decide +kernel
theorem d_JL_compare_12 : decode prog_9_method_42_code 12 = .ok (.lcmp, 1) := by decide +kernel
theorem d_JL_compare_13 : decode prog_9_method_42_code 13 = .ok (.ifCond .ne 7, 3) := by decide +kernel
theorem d_JL_compare_16 : decode prog_9_method_42_code 16 = .ok (.iconst 0, 1) := by decide +kernel
theorem d_JL_compare_17 : decode prog_9_method_42_code 17 = .ok (.goto 4, 3) := by decide +kernel
theorem d_JL_compare_20 : decode prog_9_method_42_code 20 = .ok (.iconst 1, 1) := by decide +kernel
theorem d_JL_compare_21 : decode prog_9_method_42_code 21 = .ok (.ireturn, 1) := by decide +kernel
theorem d_JM_absI_0 : decode prog_10_method_59_code 0 = .ok (.iload_n 0, 1) := by decide +kernel
theorem d_JM_absI_1 : decode prog_10_method_59_code 1 = .ok (.ifCond .ge 8, 3) := by decide +kernel
theorem d_JM_absI_4 : decode prog_10_method_59_code 4 = .ok (.iload_n 0, 1) := by decide +kernel
theorem d_JM_absI_5 : decode prog_10_method_59_code 5 = .ok (.ineg, 1) := by decide +kernel
theorem d_JM_absI_6 : decode prog_10_method_59_code 6 = .ok (.goto 4, 3) := by decide +kernel
theorem d_JM_absI_9 : decode prog_10_method_59_code 9 = .ok (.iload_n 0, 1) := by decide +kernel
theorem d_JM_absI_10 : decode prog_10_method_59_code 10 = .ok (.ireturn, 1) := by decide +kernel
theorem d_JM_absJ_0 : decode prog_10_method_61_code 0 = .ok (.lload_n 0, 1) := by decide +kernel
theorem d_JM_absJ_1 : decode prog_10_method_61_code 1 = .ok (.lconst 0, 1) := by decide +kernel
theorem d_JM_absJ_2 : decode prog_10_method_61_code 2 = .ok (.lcmp, 1) := by decide +kernel
theorem d_JM_absJ_3 : decode prog_10_method_61_code 3 = .ok (.ifCond .ge 8, 3) := by decide +kernel
theorem d_JM_absJ_6 : decode prog_10_method_61_code 6 = .ok (.lload_n 0, 1) := by decide +kernel
theorem d_JM_absJ_7 : decode prog_10_method_61_code 7 = .ok (.lneg, 1) := by decide +kernel
theorem d_JM_absJ_8 : decode prog_10_method_61_code 8 = .ok (.goto 4, 3) := by decide +kernel
theorem d_JM_absJ_11 : decode prog_10_method_61_code 11 = .ok (.lload_n 0, 1) := by decide +kernel
theorem d_JM_absJ_12 : decode prog_10_method_61_code 12 = .ok (.lreturn, 1) := by decide +kernel
theorem d_JM_maxJ_0 : decode prog_10_method_66_code 0 = .ok (.lload_n 0, 1) := by decide +kernel
theorem d_JM_maxJ_1 : decode prog_10_method_66_code 1 = .ok (.lload_n 2, 1) := by decide +kernel
theorem d_JM_maxJ_2 : decode prog_10_method_66_code 2 = .ok (.lcmp, 1) := by decide +kernel
theorem d_JM_maxJ_3 : decode prog_10_method_66_code 3 = .ok (.ifCond .lt 7, 3) := by decide +kernel
theorem d_JM_maxJ_6 : decode prog_10_method_66_code 6 = .ok (.lload_n 0, 1) := by decide +kernel
theorem d_JM_maxJ_7 : decode prog_10_method_66_code 7 = .ok (.goto 4, 3) := by decide +kernel
theorem d_JM_maxJ_10 : decode prog_10_method_66_code 10 = .ok (.lload_n 2, 1) := by decide +kernel
theorem d_JM_maxJ_11 : decode prog_10_method_66_code 11 = .ok (.lreturn, 1) := by decide +kernel
