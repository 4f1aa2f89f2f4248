theorem d_0_0 : decode prog_1_method_1_code 0 = .ok (.aload_n 0, 1) := by decide +kernel
theorem d_0_1 : decode prog_1_method_1_code 1 = .ok (.invokespecial 3, 3) := by decide +kernel
theorem d_0_4 : decode prog_1_method_1_code 4 = .ok (.aload_n 0, 1) := by decide +kernel
theorem d_0_5 : decode prog_1_method_1_code 5 = .ok (.new 9, 3) := by decide +kernel
theorem d_0_8 : decode prog_1_method_1_code 8 = .ok (.dup, 1) := by decide +kernel
theorem d_0_9 : decode prog_1_method_1_code 9 = .ok (.invokespecial 11, 3) := by decide +kernel
theorem d_0_12 : decode prog_1_method_1_code 12 = .ok (.putfield 12, 3) := by decide +kernel
theorem d_0_15 : decode prog_1_method_1_code 15 = .ok (.aload_n 0, 1) := by decide +kernel
theorem d_0_16 : decode prog_1_method_1_code 16 = .ok (.new 16, 3) := by decide +kernel
theorem d_0_19 : decode prog_1_method_1_code 19 = .ok (.dup, 1) := by decide +kernel
theorem d_0_20 : decode prog_1_method_1_code 20 = .ok (.invokespecial 18, 3) := by decide +kernel
theorem d_0_23 : decode prog_1_method_1_code 23 = .ok (.putfield 19, 3) := by decide +kernel
theorem d_0_26 : decode prog_1_method_1_code 26 = .ok (.aload_n 0, 1) := by decide +kernel
theorem d_0_27 : decode prog_1_method_1_code 27 = .ok (.new 23, 3) := by decide +kernel
theorem d_0_30 : decode prog_1_method_1_code 30 = .ok (.dup, 1) := by decide +kernel
theorem d_0_31 : decode prog_1_method_1_code 31 = .ok (.invokespecial 25, 3) := by decide +kernel
theorem d_0_34 : decode prog_1_method_1_code 34 = .ok (.putfield 26, 3) := by decide +kernel
theorem d_0_37 : decode prog_1_method_1_code 37 = .ok (.aload_n 0, 1) := by decide +kernel
theorem d_0_38 : decode prog_1_method_1_code 38 = .ok (.new 30, 3) := by decide +kernel
theorem d_0_41 : decode prog_1_method_1_code 41 = .ok (.dup, 1) := by decide +kernel
theorem d_0_42 : decode prog_1_method_1_code 42 = .ok (.invokespecial 32, 3) := by decide +kernel
theorem d_0_45 : decode prog_1_method_1_code 45 = .ok (.putfield 33, 3) := by decide +kernel
theorem d_0_48 : decode prog_1_method_1_code 48 = .ok (.aload_n 0, 1) := by decide +kernel
theorem d_0_49 : decode prog_1_method_1_code 49 = .ok (.new 37, 3) := by decide +kernel
theorem d_0_52 : decode prog_1_method_1_code 52 = .ok (.dup, 1) := by decide +kernel
theorem d_0_53 : decode prog_1_method_1_code 53 = .ok (.invokespecial 39, 3) := by decide +kernel
theorem d_0_56 : decode prog_1_method_1_code 56 = .ok (.putfield 40, 3) := by decide +kernel
theorem d_0_59 : decode prog_1_method_1_code 59 = .ok (.aload_n 0, 1) := by decide +kernel
theorem d_0_60 : decode prog_1_method_1_code 60 = .ok (.bipush 21, 2) := by decide +kernel
theorem d_0_62 : decode prog_1_method_1_code 62 = .ok (.anewarray 44, 3) := by decide +kernel
theorem d_0_65 : decode prog_1_method_1_code 65 = .ok (.putfield 46, 3) := by decide +kernel
theorem d_0_68 : decode prog_1_method_1_code 68 = .ok (.aload_n 0, 1) := by decide +kernel
theorem d_0_69 : decode prog_1_method_1_code 69 = .ok (.iconst 0, 1) := by decide +kernel
theorem d_0_70 : decode prog_1_method_1_code 70 = .ok (.putfield 50, 3) := by decide +kernel
theorem d_0_73 : decode prog_1_method_1_code 73 = .ok (.aload_n 0, 1) := by decide +kernel
theorem d_0_74 : decode prog_1_method_1_code 74 = .ok (.iconst (-1), 1) := by decide +kernel
theorem d_0_75 : decode prog_1_method_1_code 75 = .ok (.putfield 54, 3) := by decide +kernel
theorem d_0_78 : decode prog_1_method_1_code 78 = .ok (.iconst 0, 1) := by decide +kernel
theorem d_0_79 : decode prog_1_method_1_code 79 = .ok (.istore_n 1, 1) := by decide +kernel
theorem d_0_80 : decode prog_1_method_1_code 80 = .ok (.iload_n 1, 1) := by decide +kernel
theorem d_0_81 : decode prog_1_method_1_code 81 = .ok (.aload_n 0, 1) := by decide +kernel
theorem d_0_82 : decode prog_1_method_1_code 82 = .ok (.getfield 46, 3) := by decide +kernel
theorem d_0_85 : decode prog_1_method_1_code 85 = .ok (.arraylength, 1) := by decide +kernel
theorem d_0_86 : decode prog_1_method_1_code 86 = .ok (.if_icmp .ge 22, 3) := by decide +kernel
theorem d_0_89 : decode prog_1_method_1_code 89 = .ok (.aload_n 0, 1) := by decide +kernel
theorem d_0_90 : decode prog_1_method_1_code 90 = .ok (.getfield 46, 3) := by decide +kernel
theorem d_0_93 : decode prog_1_method_1_code 93 = .ok (.iload_n 1, 1) := by decide +kernel
theorem d_0_94 : decode prog_1_method_1_code 94 = .ok (.new 44, 3) := by decide +kernel
theorem d_0_97 : decode prog_1_method_1_code 97 = .ok (.dup, 1) := by decide +kernel
theorem d_0_98 : decode prog_1_method_1_code 98 = .ok (.invokespecial 57, 3) := by decide +kernel
theorem d_0_101 : decode prog_1_method_1_code 101 = .ok (.aastore, 1) := by decide +kernel
theorem d_0_102 : decode prog_1_method_1_code 102 = .ok (.iinc 1 1, 3) := by decide +kernel
theorem d_0_105 : decode prog_1_method_1_code 105 = .ok (.goto (-25), 3) := by decide +kernel
theorem d_0_108 : decode prog_1_method_1_code 108 = .ok (.return_, 1) := by decide +kernel
theorem d_1_0 : decode prog_1_method_2_code 0 = .ok (.iconst 0, 1) := by decide +kernel
theorem d_1_1 : decode prog_1_method_2_code 1 = .ok (.istore_n 3, 1) := by decide +kernel
theorem d_1_2 : decode prog_1_method_2_code 2 = .ok (.iconst 0, 1) := by decide +kernel
theorem d_1_3 : decode prog_1_method_2_code 3 = .ok (.istore 4, 2) := by decide +kernel
theorem d_1_5 : decode prog_1_method_2_code 5 = .ok (.iload 4, 2) := by decide +kernel
theorem d_1_7 : decode prog_1_method_2_code 7 = .ok (.bipush 8, 2) := by decide +kernel
theorem d_1_9 : decode prog_1_method_2_code 9 = .ok (.if_icmp .ge 21, 3) := by decide +kernel
theorem d_1_12 : decode prog_1_method_2_code 12 = .ok (.lload_n 1, 1) := by decide +kernel
theorem d_1_13 : decode prog_1_method_2_code 13 = .ok (.iload 4, 2) := by decide +kernel
theorem d_1_15 : decode prog_1_method_2_code 15 = .ok (.invokestatic 58, 3) := by decide +kernel
theorem d_1_18 : decode prog_1_method_2_code 18 = .ok (.ifCond .eq 6, 3) := by decide +kernel
theorem d_1_21 : decode prog_1_method_2_code 21 = .ok (.iinc 3 1, 3) := by decide +kernel
theorem d_1_24 : decode prog_1_method_2_code 24 = .ok (.iinc 4 1, 3) := by decide +kernel
theorem d_1_27 : decode prog_1_method_2_code 27 = .ok (.goto (-22), 3) := by decide +kernel
theorem d_1_30 : decode prog_1_method_2_code 30 = .ok (.aload_n 0, 1) := by decide +kernel
theorem d_1_31 : decode prog_1_method_2_code 31 = .ok (.getfield 12, 3) := by decide +kernel
theorem d_1_34 : decode prog_1_method_2_code 34 = .ok (.getfield 62, 3) := by decide +kernel
theorem d_1_37 : decode prog_1_method_2_code 37 = .ok (.iload_n 3, 1) := by decide +kernel
theorem d_1_38 : decode prog_1_method_2_code 38 = .ok (.iadd, 1) := by decide +kernel
theorem d_1_39 : decode prog_1_method_2_code 39 = .ok (.bipush 40, 2) := by decide +kernel
theorem d_1_41 : decode prog_1_method_2_code 41 = .ok (.if_icmp .le 5, 3) := by decide +kernel
theorem d_1_44 : decode prog_1_method_2_code 44 = .ok (.iconst (-1), 1) := by decide +kernel
theorem d_1_45 : decode prog_1_method_2_code 45 = .ok (.ireturn, 1) := by decide +kernel
theorem d_1_46 : decode prog_1_method_2_code 46 = .ok (.iconst 0, 1) := by decide +kernel
theorem d_1_47 : decode prog_1_method_2_code 47 = .ok (.istore 4, 2) := by decide +kernel
theorem d_1_49 : decode prog_1_method_2_code 49 = .ok (.iload 4, 2) := by decide +kernel
theorem d_1_51 : decode prog_1_method_2_code 51 = .ok (.bipush 8, 2) := by decide +kernel
theorem d_1_53 : decode prog_1_method_2_code 53 = .ok (.if_icmp .ge 52, 3) := by decide +kernel
theorem d_1_56 : decode prog_1_method_2_code 56 = .ok (.lload_n 1, 1) := by decide +kernel
theorem d_1_57 : decode prog_1_method_2_code 57 = .ok (.iload 4, 2) := by decide +kernel
theorem d_1_59 : decode prog_1_method_2_code 59 = .ok (.invokestatic 58, 3) := by decide +kernel
theorem d_1_62 : decode prog_1_method_2_code 62 = .ok (.istore 5, 2) := by decide +kernel
theorem d_1_64 : decode prog_1_method_2_code 64 = .ok (.iload 5, 2) := by decide +kernel
theorem d_1_66 : decode prog_1_method_2_code 66 = .ok (.ifCond .eq 33, 3) := by decide +kernel
theorem d_1_69 : decode prog_1_method_2_code 69 = .ok (.aload_n 0, 1) := by decide +kernel
theorem d_1_70 : decode prog_1_method_2_code 70 = .ok (.getfield 12, 3) := by decide +kernel
theorem d_1_73 : decode prog_1_method_2_code 73 = .ok (.getfield 65, 3) := by decide +kernel
theorem d_1_76 : decode prog_1_method_2_code 76 = .ok (.aload_n 0, 1) := by decide +kernel
theorem d_1_77 : decode prog_1_method_2_code 77 = .ok (.getfield 12, 3) := by decide +kernel
theorem d_1_80 : decode prog_1_method_2_code 80 = .ok (.getfield 62, 3) := by decide +kernel
theorem d_1_83 : decode prog_1_method_2_code 83 = .ok (.iload 5, 2) := by decide +kernel
theorem d_1_85 : decode prog_1_method_2_code 85 = .ok (.iastore, 1) := by decide +kernel
theorem d_1_86 : decode prog_1_method_2_code 86 = .ok (.aload_n 0, 1) := by decide +kernel
theorem d_1_87 : decode prog_1_method_2_code 87 = .ok (.getfield 12, 3) := by decide +kernel
theorem d_1_90 : decode prog_1_method_2_code 90 = .ok (.dup, 1) := by decide +kernel
theorem d_1_91 : decode prog_1_method_2_code 91 = .ok (.getfield 62, 3) := by decide +kernel
theorem d_1_94 : decode prog_1_method_2_code 94 = .ok (.iconst 1, 1) := by decide +kernel
theorem d_1_95 : decode prog_1_method_2_code 95 = .ok (.iadd, 1) := by decide +kernel
theorem d_1_96 : decode prog_1_method_2_code 96 = .ok (.putfield 62, 3) := by decide +kernel
theorem d_1_99 : decode prog_1_method_2_code 99 = .ok (.iinc 4 1, 3) := by decide +kernel
theorem d_1_102 : decode prog_1_method_2_code 102 = .ok (.goto (-53), 3) := by decide +kernel
theorem d_1_105 : decode prog_1_method_2_code 105 = .ok (.aload_n 0, 1) := by decide +kernel
theorem d_1_106 : decode prog_1_method_2_code 106 = .ok (.getfield 12, 3) := by decide +kernel
theorem d_1_109 : decode prog_1_method_2_code 109 = .ok (.getfield 62, 3) := by decide +kernel
theorem d_1_112 : decode prog_1_method_2_code 112 = .ok (.ireturn, 1) := by decide +kernel
theorem d_2_0 : decode prog_1_method_3_code 0 = .ok (.aload_n 0, 1) := by decide +kernel
theorem d_2_1 : decode prog_1_method_3_code 1 = .ok (.getfield 12, 3) := by decide +kernel
theorem d_2_4 : decode prog_1_method_3_code 4 = .ok (.getfield 62, 3) := by decide +kernel
theorem d_2_7 : decode prog_1_method_3_code 7 = .ok (.istore_n 1, 1) := by decide +kernel
theorem d_2_8 : decode prog_1_method_3_code 8 = .ok (.aload_n 0, 1) := by decide +kernel
theorem d_2_9 : decode prog_1_method_3_code 9 = .ok (.getfield 12, 3) := by decide +kernel
theorem d_2_12 : decode prog_1_method_3_code 12 = .ok (.iconst 0, 1) := by decide +kernel
theorem d_2_13 : decode prog_1_method_3_code 13 = .ok (.putfield 62, 3) := by decide +kernel
theorem d_2_16 : decode prog_1_method_3_code 16 = .ok (.iload_n 1, 1) := by decide +kernel
theorem d_2_17 : decode prog_1_method_3_code 17 = .ok (.ireturn, 1) := by decide +kernel
theorem d_3_0 : decode prog_1_method_4_code 0 = .ok (.iload_n 1, 1) := by decide +kernel
theorem d_3_1 : decode prog_1_method_4_code 1 = .ok (.iconst 1, 1) := by decide +kernel
theorem d_3_2 : decode prog_1_method_4_code 2 = .ok (.if_icmp .lt 9, 3) := by decide +kernel
theorem d_3_5 : decode prog_1_method_4_code 5 = .ok (.iload_n 1, 1) := by decide +kernel
theorem d_3_6 : decode prog_1_method_4_code 6 = .ok (.bipush 16, 2) := by decide +kernel
theorem d_3_8 : decode prog_1_method_4_code 8 = .ok (.if_icmp .le 13, 3) := by decide +kernel
theorem d_3_11 : decode prog_1_method_4_code 11 = .ok (.new 69, 3) := by decide +kernel
theorem d_3_14 : decode prog_1_method_4_code 14 = .ok (.dup, 1) := by decide +kernel
theorem d_3_15 : decode prog_1_method_4_code 15 = .ok (.ldc 71, 2) := by decide +kernel
theorem d_3_17 : decode prog_1_method_4_code 17 = .ok (.invokespecial 73, 3) := by decide +kernel
theorem d_3_20 : decode prog_1_method_4_code 20 = .ok (.athrow, 1) := by decide +kernel
theorem d_3_21 : decode prog_1_method_4_code 21 = .ok (.aload_n 0, 1) := by decide +kernel
theorem d_3_22 : decode prog_1_method_4_code 22 = .ok (.getfield 46, 3) := by decide +kernel
theorem d_3_25 : decode prog_1_method_4_code 25 = .ok (.iconst 0, 1) := by decide +kernel
theorem d_3_26 : decode prog_1_method_4_code 26 = .ok (.aaload, 1) := by decide +kernel
theorem d_3_27 : decode prog_1_method_4_code 27 = .ok (.astore_n 2, 1) := by decide +kernel
theorem d_3_28 : decode prog_1_method_4_code 28 = .ok (.aload_n 2, 1) := by decide +kernel
theorem d_3_29 : decode prog_1_method_4_code 29 = .ok (.iload_n 1, 1) := by decide +kernel
theorem d_3_30 : decode prog_1_method_4_code 30 = .ok (.invokevirtual 76, 3) := by decide +kernel
theorem d_3_33 : decode prog_1_method_4_code 33 = .ok (.iconst 0, 1) := by decide +kernel
theorem d_3_34 : decode prog_1_method_4_code 34 = .ok (.istore_n 3, 1) := by decide +kernel
theorem d_3_35 : decode prog_1_method_4_code 35 = .ok (.iload_n 3, 1) := by decide +kernel
theorem d_3_36 : decode prog_1_method_4_code 36 = .ok (.iload_n 1, 1) := by decide +kernel
theorem d_3_37 : decode prog_1_method_4_code 37 = .ok (.if_icmp .ge 34, 3) := by decide +kernel
theorem d_3_40 : decode prog_1_method_4_code 40 = .ok (.aload_n 0, 1) := by decide +kernel
theorem d_3_41 : decode prog_1_method_4_code 41 = .ok (.getfield 33, 3) := by decide +kernel
theorem d_3_44 : decode prog_1_method_4_code 44 = .ok (.iload_n 3, 1) := by decide +kernel
theorem d_3_45 : decode prog_1_method_4_code 45 = .ok (.iconst 0, 1) := by decide +kernel
theorem d_3_46 : decode prog_1_method_4_code 46 = .ok (.iload_n 3, 1) := by decide +kernel
theorem d_3_47 : decode prog_1_method_4_code 47 = .ok (.iconst 0, 1) := by decide +kernel
theorem d_3_48 : decode prog_1_method_4_code 48 = .ok (.iconst 0, 1) := by decide +kernel
theorem d_3_49 : decode prog_1_method_4_code 49 = .ok (.invokevirtual 80, 3) := by decide +kernel
theorem d_3_52 : decode prog_1_method_4_code 52 = .ok (.aload_n 2, 1) := by decide +kernel
theorem d_3_53 : decode prog_1_method_4_code 53 = .ok (.getfield 84, 3) := by decide +kernel
theorem d_3_56 : decode prog_1_method_4_code 56 = .ok (.iload_n 3, 1) := by decide +kernel
theorem d_3_57 : decode prog_1_method_4_code 57 = .ok (.iconst 0, 1) := by decide +kernel
theorem d_3_58 : decode prog_1_method_4_code 58 = .ok (.iastore, 1) := by decide +kernel
theorem d_3_59 : decode prog_1_method_4_code 59 = .ok (.aload_n 2, 1) := by decide +kernel
theorem d_3_60 : decode prog_1_method_4_code 60 = .ok (.iload_n 3, 1) := by decide +kernel
theorem d_3_61 : decode prog_1_method_4_code 61 = .ok (.iload_n 3, 1) := by decide +kernel
theorem d_3_62 : decode prog_1_method_4_code 62 = .ok (.invokevirtual 87, 3) := by decide +kernel
theorem d_3_65 : decode prog_1_method_4_code 65 = .ok (.iinc 3 1, 3) := by decide +kernel
theorem d_3_68 : decode prog_1_method_4_code 68 = .ok (.goto (-33), 3) := by decide +kernel
theorem d_3_71 : decode prog_1_method_4_code 71 = .ok (.aload_n 2, 1) := by decide +kernel
theorem d_3_72 : decode prog_1_method_4_code 72 = .ok (.iload_n 1, 1) := by decide +kernel
theorem d_3_73 : decode prog_1_method_4_code 73 = .ok (.putfield 91, 3) := by decide +kernel
theorem d_3_76 : decode prog_1_method_4_code 76 = .ok (.aload_n 2, 1) := by decide +kernel
theorem d_3_77 : decode prog_1_method_4_code 77 = .ok (.iconst 0, 1) := by decide +kernel
theorem d_3_78 : decode prog_1_method_4_code 78 = .ok (.putfield 93, 3) := by decide +kernel
theorem d_3_81 : decode prog_1_method_4_code 81 = .ok (.aload_n 2, 1) := by decide +kernel
theorem d_3_82 : decode prog_1_method_4_code 82 = .ok (.iconst 0, 1) := by decide +kernel
theorem d_3_83 : decode prog_1_method_4_code 83 = .ok (.putfield 96, 3) := by decide +kernel
theorem d_3_86 : decode prog_1_method_4_code 86 = .ok (.aload_n 2, 1) := by decide +kernel
theorem d_3_87 : decode prog_1_method_4_code 87 = .ok (.getfield 98, 3) := by decide +kernel
theorem d_3_90 : decode prog_1_method_4_code 90 = .ok (.iconst 0, 1) := by decide +kernel
theorem d_3_91 : decode prog_1_method_4_code 91 = .ok (.iconst 1, 1) := by decide +kernel
theorem d_3_92 : decode prog_1_method_4_code 92 = .ok (.iastore, 1) := by decide +kernel
theorem d_3_93 : decode prog_1_method_4_code 93 = .ok (.aload_n 2, 1) := by decide +kernel
theorem d_3_94 : decode prog_1_method_4_code 94 = .ok (.getfield 98, 3) := by decide +kernel
theorem d_3_97 : decode prog_1_method_4_code 97 = .ok (.iconst 1, 1) := by decide +kernel
theorem d_3_98 : decode prog_1_method_4_code 98 = .ok (.iconst (-1), 1) := by decide +kernel
theorem d_3_99 : decode prog_1_method_4_code 99 = .ok (.iastore, 1) := by decide +kernel
theorem d_3_100 : decode prog_1_method_4_code 100 = .ok (.aload_n 2, 1) := by decide +kernel
theorem d_3_101 : decode prog_1_method_4_code 101 = .ok (.getfield 98, 3) := by decide +kernel
theorem d_3_104 : decode prog_1_method_4_code 104 = .ok (.iconst 2, 1) := by decide +kernel
theorem d_3_105 : decode prog_1_method_4_code 105 = .ok (.iconst (-1), 1) := by decide +kernel
theorem d_3_106 : decode prog_1_method_4_code 106 = .ok (.iastore, 1) := by decide +kernel
theorem d_3_107 : decode prog_1_method_4_code 107 = .ok (.aload_n 0, 1) := by decide +kernel
theorem d_3_108 : decode prog_1_method_4_code 108 = .ok (.iconst 0, 1) := by decide +kernel
theorem d_3_109 : decode prog_1_method_4_code 109 = .ok (.putfield 50, 3) := by decide +kernel
theorem d_3_112 : decode prog_1_method_4_code 112 = .ok (.return_, 1) := by decide +kernel
theorem d_4_0 : decode prog_1_method_5_code 0 = .ok (.aload_n 0, 1) := by decide +kernel
theorem d_4_1 : decode prog_1_method_5_code 1 = .ok (.getfield 46, 3) := by decide +kernel
theorem d_4_4 : decode prog_1_method_5_code 4 = .ok (.iconst 0, 1) := by decide +kernel
theorem d_4_5 : decode prog_1_method_5_code 5 = .ok (.aaload, 1) := by decide +kernel
theorem d_4_6 : decode prog_1_method_5_code 6 = .ok (.getfield 101, 3) := by decide +kernel
theorem d_4_9 : decode prog_1_method_5_code 9 = .ok (.ifCond .ne 13, 3) := by decide +kernel
theorem d_4_12 : decode prog_1_method_5_code 12 = .ok (.new 104, 3) := by decide +kernel
theorem d_4_15 : decode prog_1_method_5_code 15 = .ok (.dup, 1) := by decide +kernel
theorem d_4_16 : decode prog_1_method_5_code 16 = .ok (.ldc 106, 2) := by decide +kernel
theorem d_4_18 : decode prog_1_method_5_code 18 = .ok (.invokespecial 108, 3) := by decide +kernel
theorem d_4_21 : decode prog_1_method_5_code 21 = .ok (.athrow, 1) := by decide +kernel
theorem d_4_22 : decode prog_1_method_5_code 22 = .ok (.iload_n 1, 1) := by decide +kernel
theorem d_4_23 : decode prog_1_method_5_code 23 = .ok (.invokestatic 109, 3) := by decide +kernel
theorem d_4_26 : decode prog_1_method_5_code 26 = .ok (.ifCond .ne 13, 3) := by decide +kernel
theorem d_4_29 : decode prog_1_method_5_code 29 = .ok (.new 69, 3) := by decide +kernel
theorem d_4_32 : decode prog_1_method_5_code 32 = .ok (.dup, 1) := by decide +kernel
theorem d_4_33 : decode prog_1_method_5_code 33 = .ok (.ldc 113, 2) := by decide +kernel
theorem d_4_35 : decode prog_1_method_5_code 35 = .ok (.invokespecial 73, 3) := by decide +kernel
theorem d_4_38 : decode prog_1_method_5_code 38 = .ok (.athrow, 1) := by decide +kernel
theorem d_4_39 : decode prog_1_method_5_code 39 = .ok (.aload_n 0, 1) := by decide +kernel
theorem d_4_40 : decode prog_1_method_5_code 40 = .ok (.iconst (-1), 1) := by decide +kernel
theorem d_4_41 : decode prog_1_method_5_code 41 = .ok (.putfield 54, 3) := by decide +kernel
theorem d_4_44 : decode prog_1_method_5_code 44 = .ok (.aload_n 0, 1) := by decide +kernel
theorem d_4_45 : decode prog_1_method_5_code 45 = .ok (.invokevirtual 115, 3) := by decide +kernel
theorem d_4_48 : decode prog_1_method_5_code 48 = .ok (.istore_n 2, 1) := by decide +kernel
theorem d_4_49 : decode prog_1_method_5_code 49 = .ok (.iload_n 2, 1) := by decide +kernel
theorem d_4_50 : decode prog_1_method_5_code 50 = .ok (.ifCond .ne 9, 3) := by decide +kernel
theorem d_4_53 : decode prog_1_method_5_code 53 = .ok (.aload_n 0, 1) := by decide +kernel
theorem d_4_54 : decode prog_1_method_5_code 54 = .ok (.iload_n 1, 1) := by decide +kernel
theorem d_4_55 : decode prog_1_method_5_code 55 = .ok (.invokevirtual 119, 3) := by decide +kernel
theorem d_4_58 : decode prog_1_method_5_code 58 = .ok (.istore_n 2, 1) := by decide +kernel
theorem d_4_59 : decode prog_1_method_5_code 59 = .ok (.iload_n 2, 1) := by decide +kernel
theorem d_4_60 : decode prog_1_method_5_code 60 = .ok (.ifCond .ne 16, 3) := by decide +kernel
theorem d_4_63 : decode prog_1_method_5_code 63 = .ok (.aload_n 0, 1) := by decide +kernel
theorem d_4_64 : decode prog_1_method_5_code 64 = .ok (.iload_n 1, 1) := by decide +kernel
theorem d_4_65 : decode prog_1_method_5_code 65 = .ok (.invokevirtual 123, 3) := by decide +kernel
theorem d_4_68 : decode prog_1_method_5_code 68 = .ok (.aload_n 0, 1) := by decide +kernel
theorem d_4_69 : decode prog_1_method_5_code 69 = .ok (.getfield 12, 3) := by decide +kernel
theorem d_4_72 : decode prog_1_method_5_code 72 = .ok (.iconst 0, 1) := by decide +kernel
theorem d_4_73 : decode prog_1_method_5_code 73 = .ok (.putfield 62, 3) := by decide +kernel
theorem d_4_76 : decode prog_1_method_5_code 76 = .ok (.iload_n 2, 1) := by decide +kernel
theorem d_4_77 : decode prog_1_method_5_code 77 = .ok (.ireturn, 1) := by decide +kernel
theorem d_5_0 : decode prog_1_method_6_code 0 = .ok (.aload_n 0, 1) := by decide +kernel
theorem d_5_1 : decode prog_1_method_6_code 1 = .ok (.getfield 54, 3) := by decide +kernel
theorem d_5_4 : decode prog_1_method_6_code 4 = .ok (.ireturn, 1) := by decide +kernel
theorem d_6_0 : decode prog_1_method_7_code 0 = .ok (.aload_n 0, 1) := by decide +kernel
theorem d_6_1 : decode prog_1_method_7_code 1 = .ok (.getfield 50, 3) := by decide +kernel
theorem d_6_4 : decode prog_1_method_7_code 4 = .ok (.ifCond .ne 5, 3) := by decide +kernel
theorem d_6_7 : decode prog_1_method_7_code 7 = .ok (.iconst (-1), 1) := by decide +kernel
theorem d_6_8 : decode prog_1_method_7_code 8 = .ok (.ireturn, 1) := by decide +kernel
theorem d_6_9 : decode prog_1_method_7_code 9 = .ok (.aload_n 0, 1) := by decide +kernel
theorem d_6_10 : decode prog_1_method_7_code 10 = .ok (.dup, 1) := by decide +kernel
theorem d_6_11 : decode prog_1_method_7_code 11 = .ok (.getfield 50, 3) := by decide +kernel
theorem d_6_14 : decode prog_1_method_7_code 14 = .ok (.iconst 1, 1) := by decide +kernel
theorem d_6_15 : decode prog_1_method_7_code 15 = .ok (.isub, 1) := by decide +kernel
theorem d_6_16 : decode prog_1_method_7_code 16 = .ok (.putfield 50, 3) := by decide +kernel
theorem d_6_19 : decode prog_1_method_7_code 19 = .ok (.aload_n 0, 1) := by decide +kernel
theorem d_6_20 : decode prog_1_method_7_code 20 = .ok (.getfield 46, 3) := by decide +kernel
theorem d_6_23 : decode prog_1_method_7_code 23 = .ok (.aload_n 0, 1) := by decide +kernel
theorem d_6_24 : decode prog_1_method_7_code 24 = .ok (.getfield 50, 3) := by decide +kernel
theorem d_6_27 : decode prog_1_method_7_code 27 = .ok (.aaload, 1) := by decide +kernel
theorem d_6_28 : decode prog_1_method_7_code 28 = .ok (.astore_n 1, 1) := by decide +kernel
theorem d_6_29 : decode prog_1_method_7_code 29 = .ok (.iconst 0, 1) := by decide +kernel
theorem d_6_30 : decode prog_1_method_7_code 30 = .ok (.istore_n 2, 1) := by decide +kernel
theorem d_6_31 : decode prog_1_method_7_code 31 = .ok (.iload_n 2, 1) := by decide +kernel
theorem d_6_32 : decode prog_1_method_7_code 32 = .ok (.aload_n 1, 1) := by decide +kernel
theorem d_6_33 : decode prog_1_method_7_code 33 = .ok (.getfield 101, 3) := by decide +kernel
theorem d_6_36 : decode prog_1_method_7_code 36 = .ok (.if_icmp .ge 42, 3) := by decide +kernel
theorem d_6_39 : decode prog_1_method_7_code 39 = .ok (.iconst 0, 1) := by decide +kernel
theorem d_6_40 : decode prog_1_method_7_code 40 = .ok (.istore_n 3, 1) := by decide +kernel
theorem d_6_41 : decode prog_1_method_7_code 41 = .ok (.iload_n 3, 1) := by decide +kernel
theorem d_6_42 : decode prog_1_method_7_code 42 = .ok (.aload_n 1, 1) := by decide +kernel
theorem d_6_43 : decode prog_1_method_7_code 43 = .ok (.getfield 126, 3) := by decide +kernel
theorem d_6_46 : decode prog_1_method_7_code 46 = .ok (.iload_n 2, 1) := by decide +kernel
theorem d_6_47 : decode prog_1_method_7_code 47 = .ok (.iaload, 1) := by decide +kernel
theorem d_6_48 : decode prog_1_method_7_code 48 = .ok (.if_icmp .ge 24, 3) := by decide +kernel
theorem d_6_51 : decode prog_1_method_7_code 51 = .ok (.aload_n 0, 1) := by decide +kernel
theorem d_6_52 : decode prog_1_method_7_code 52 = .ok (.getfield 33, 3) := by decide +kernel
theorem d_6_55 : decode prog_1_method_7_code 55 = .ok (.getfield 129, 3) := by decide +kernel
theorem d_6_58 : decode prog_1_method_7_code 58 = .ok (.aload_n 1, 1) := by decide +kernel
theorem d_6_59 : decode prog_1_method_7_code 59 = .ok (.iload_n 2, 1) := by decide +kernel
theorem d_6_60 : decode prog_1_method_7_code 60 = .ok (.iload_n 3, 1) := by decide +kernel
theorem d_6_61 : decode prog_1_method_7_code 61 = .ok (.invokevirtual 132, 3) := by decide +kernel
theorem d_6_64 : decode prog_1_method_7_code 64 = .ok (.iload_n 2, 1) := by decide +kernel
theorem d_6_65 : decode prog_1_method_7_code 65 = .ok (.iastore, 1) := by decide +kernel
theorem d_6_66 : decode prog_1_method_7_code 66 = .ok (.iinc 3 1, 3) := by decide +kernel
theorem d_6_69 : decode prog_1_method_7_code 69 = .ok (.goto (-28), 3) := by decide +kernel
theorem d_6_72 : decode prog_1_method_7_code 72 = .ok (.iinc 2 1, 3) := by decide +kernel
theorem d_6_75 : decode prog_1_method_7_code 75 = .ok (.goto (-44), 3) := by decide +kernel
theorem d_6_78 : decode prog_1_method_7_code 78 = .ok (.aload_n 0, 1) := by decide +kernel
theorem d_6_79 : decode prog_1_method_7_code 79 = .ok (.getfield 50, 3) := by decide +kernel
theorem d_6_82 : decode prog_1_method_7_code 82 = .ok (.ireturn, 1) := by decide +kernel
theorem d_7_0 : decode prog_1_method_8_code 0 = .ok (.aload_n 0, 1) := by decide +kernel
theorem d_7_1 : decode prog_1_method_8_code 1 = .ok (.getfield 46, 3) := by decide +kernel
theorem d_7_4 : decode prog_1_method_8_code 4 = .ok (.aload_n 0, 1) := by decide +kernel
theorem d_7_5 : decode prog_1_method_8_code 5 = .ok (.getfield 50, 3) := by decide +kernel
theorem d_7_8 : decode prog_1_method_8_code 8 = .ok (.aaload, 1) := by decide +kernel
theorem d_7_9 : decode prog_1_method_8_code 9 = .ok (.astore_n 2, 1) := by decide +kernel
theorem d_7_10 : decode prog_1_method_8_code 10 = .ok (.iload_n 1, 1) := by decide +kernel
theorem d_7_11 : decode prog_1_method_8_code 11 = .ok (.tableswitch 49 0 3 #[29, 34, 39, 44], 29) := by decide +kernel
theorem d_7_40 : decode prog_1_method_8_code 40 = .ok (.aload_n 0, 1) := by decide +kernel
theorem d_7_41 : decode prog_1_method_8_code 41 = .ok (.getfield 50, 3) := by decide +kernel
theorem d_7_44 : decode prog_1_method_8_code 44 = .ok (.ireturn, 1) := by decide +kernel
theorem d_7_45 : decode prog_1_method_8_code 45 = .ok (.aload_n 2, 1) := by decide +kernel
theorem d_7_46 : decode prog_1_method_8_code 46 = .ok (.getfield 101, 3) := by decide +kernel
theorem d_7_49 : decode prog_1_method_8_code 49 = .ok (.ireturn, 1) := by decide +kernel
theorem d_7_50 : decode prog_1_method_8_code 50 = .ok (.aload_n 2, 1) := by decide +kernel
theorem d_7_51 : decode prog_1_method_8_code 51 = .ok (.getfield 91, 3) := by decide +kernel
theorem d_7_54 : decode prog_1_method_8_code 54 = .ok (.ireturn, 1) := by decide +kernel
theorem d_7_55 : decode prog_1_method_8_code 55 = .ok (.aload_n 2, 1) := by decide +kernel
theorem d_7_56 : decode prog_1_method_8_code 56 = .ok (.getfield 93, 3) := by decide +kernel
theorem d_7_59 : decode prog_1_method_8_code 59 = .ok (.ireturn, 1) := by decide +kernel
theorem d_7_60 : decode prog_1_method_8_code 60 = .ok (.iconst (-1), 1) := by decide +kernel
theorem d_7_61 : decode prog_1_method_8_code 61 = .ok (.ireturn, 1) := by decide +kernel
theorem d_8_0 : decode prog_1_method_9_code 0 = .ok (.aload_n 0, 1) := by decide +kernel
theorem d_8_1 : decode prog_1_method_9_code 1 = .ok (.iload_n 1, 1) := by decide +kernel
theorem d_8_2 : decode prog_1_method_9_code 2 = .ok (.invokevirtual 136, 3) := by decide +kernel
theorem d_8_5 : decode prog_1_method_9_code 5 = .ok (.ifCond .ne 13, 3) := by decide +kernel
theorem d_8_8 : decode prog_1_method_9_code 8 = .ok (.new 139, 3) := by decide +kernel
theorem d_8_11 : decode prog_1_method_9_code 11 = .ok (.dup, 1) := by decide +kernel
theorem d_8_12 : decode prog_1_method_9_code 12 = .ok (.ldc 141, 2) := by decide +kernel
theorem d_8_14 : decode prog_1_method_9_code 14 = .ok (.invokespecial 143, 3) := by decide +kernel
theorem d_8_17 : decode prog_1_method_9_code 17 = .ok (.athrow, 1) := by decide +kernel
theorem d_8_18 : decode prog_1_method_9_code 18 = .ok (.aload_n 0, 1) := by decide +kernel
theorem d_8_19 : decode prog_1_method_9_code 19 = .ok (.getfield 46, 3) := by decide +kernel
theorem d_8_22 : decode prog_1_method_9_code 22 = .ok (.iload_n 1, 1) := by decide +kernel
theorem d_8_23 : decode prog_1_method_9_code 23 = .ok (.aaload, 1) := by decide +kernel
theorem d_8_24 : decode prog_1_method_9_code 24 = .ok (.astore_n 3, 1) := by decide +kernel
theorem d_8_25 : decode prog_1_method_9_code 25 = .ok (.iload_n 2, 1) := by decide +kernel
theorem d_8_26 : decode prog_1_method_9_code 26 = .ok (.tableswitch 59 0 4 #[34, 39, 44, 49, 54], 34) := by decide +kernel
theorem d_8_60 : decode prog_1_method_9_code 60 = .ok (.aload_n 3, 1) := by decide +kernel
theorem d_8_61 : decode prog_1_method_9_code 61 = .ok (.getfield 144, 3) := by decide +kernel
theorem d_8_64 : decode prog_1_method_9_code 64 = .ok (.ireturn, 1) := by decide +kernel
theorem d_8_65 : decode prog_1_method_9_code 65 = .ok (.aload_n 3, 1) := by decide +kernel
theorem d_8_66 : decode prog_1_method_9_code 66 = .ok (.getfield 147, 3) := by decide +kernel
theorem d_8_69 : decode prog_1_method_9_code 69 = .ok (.ireturn, 1) := by decide +kernel
theorem d_8_70 : decode prog_1_method_9_code 70 = .ok (.aload_n 3, 1) := by decide +kernel
theorem d_8_71 : decode prog_1_method_9_code 71 = .ok (.getfield 150, 3) := by decide +kernel
theorem d_8_74 : decode prog_1_method_9_code 74 = .ok (.ireturn, 1) := by decide +kernel
theorem d_8_75 : decode prog_1_method_9_code 75 = .ok (.aload_n 3, 1) := by decide +kernel
theorem d_8_76 : decode prog_1_method_9_code 76 = .ok (.getfield 153, 3) := by decide +kernel
theorem d_8_79 : decode prog_1_method_9_code 79 = .ok (.ireturn, 1) := by decide +kernel
theorem d_8_80 : decode prog_1_method_9_code 80 = .ok (.aload_n 3, 1) := by decide +kernel
theorem d_8_81 : decode prog_1_method_9_code 81 = .ok (.getfield 156, 3) := by decide +kernel
theorem d_8_84 : decode prog_1_method_9_code 84 = .ok (.ireturn, 1) := by decide +kernel
theorem d_8_85 : decode prog_1_method_9_code 85 = .ok (.new 69, 3) := by decide +kernel
theorem d_8_88 : decode prog_1_method_9_code 88 = .ok (.dup, 1) := by decide +kernel
theorem d_8_89 : decode prog_1_method_9_code 89 = .ok (.ldc 159, 2) := by decide +kernel
theorem d_8_91 : decode prog_1_method_9_code 91 = .ok (.invokespecial 73, 3) := by decide +kernel
theorem d_8_94 : decode prog_1_method_9_code 94 = .ok (.athrow, 1) := by decide +kernel
theorem d_9_0 : decode prog_1_method_10_code 0 = .ok (.aload_n 0, 1) := by decide +kernel
theorem d_9_1 : decode prog_1_method_10_code 1 = .ok (.iload_n 1, 1) := by decide +kernel
theorem d_9_2 : decode prog_1_method_10_code 2 = .ok (.invokevirtual 161, 3) := by decide +kernel
theorem d_9_5 : decode prog_1_method_10_code 5 = .ok (.ifCond .ne 13, 3) := by decide +kernel
theorem d_9_8 : decode prog_1_method_10_code 8 = .ok (.new 139, 3) := by decide +kernel
theorem d_9_11 : decode prog_1_method_10_code 11 = .ok (.dup, 1) := by decide +kernel
theorem d_9_12 : decode prog_1_method_10_code 12 = .ok (.ldc 164, 2) := by decide +kernel
theorem d_9_14 : decode prog_1_method_10_code 14 = .ok (.invokespecial 143, 3) := by decide +kernel
theorem d_9_17 : decode prog_1_method_10_code 17 = .ok (.athrow, 1) := by decide +kernel
theorem d_9_18 : decode prog_1_method_10_code 18 = .ok (.iload_n 2, 1) := by decide +kernel
theorem d_9_19 : decode prog_1_method_10_code 19 = .ok (.ifCond .lt 8, 3) := by decide +kernel
theorem d_9_22 : decode prog_1_method_10_code 22 = .ok (.iload_n 2, 1) := by decide +kernel
theorem d_9_23 : decode prog_1_method_10_code 23 = .ok (.iconst 4, 1) := by decide +kernel
theorem d_9_24 : decode prog_1_method_10_code 24 = .ok (.if_icmp .lt 7, 3) := by decide +kernel
theorem d_9_27 : decode prog_1_method_10_code 27 = .ok (.iconst (-1), 1) := by decide +kernel
theorem d_9_28 : decode prog_1_method_10_code 28 = .ok (.goto 16, 3) := by decide +kernel
theorem d_9_31 : decode prog_1_method_10_code 31 = .ok (.aload_n 0, 1) := by decide +kernel
theorem d_9_32 : decode prog_1_method_10_code 32 = .ok (.getfield 33, 3) := by decide +kernel
theorem d_9_35 : decode prog_1_method_10_code 35 = .ok (.getfield 166, 3) := by decide +kernel
theorem d_9_38 : decode prog_1_method_10_code 38 = .ok (.iload_n 1, 1) := by decide +kernel
theorem d_9_39 : decode prog_1_method_10_code 39 = .ok (.iconst 4, 1) := by decide +kernel
theorem d_9_40 : decode prog_1_method_10_code 40 = .ok (.imul, 1) := by decide +kernel
theorem d_9_41 : decode prog_1_method_10_code 41 = .ok (.iload_n 2, 1) := by decide +kernel
theorem d_9_42 : decode prog_1_method_10_code 42 = .ok (.iadd, 1) := by decide +kernel
theorem d_9_43 : decode prog_1_method_10_code 43 = .ok (.iaload, 1) := by decide +kernel
theorem d_9_44 : decode prog_1_method_10_code 44 = .ok (.ireturn, 1) := by decide +kernel
theorem d_10_0 : decode prog_1_method_11_code 0 = .ok (.aload_n 0, 1) := by decide +kernel
theorem d_10_1 : decode prog_1_method_11_code 1 = .ok (.iload_n 1, 1) := by decide +kernel
theorem d_10_2 : decode prog_1_method_11_code 2 = .ok (.invokevirtual 161, 3) := by decide +kernel
theorem d_10_5 : decode prog_1_method_11_code 5 = .ok (.ifCond .ne 13, 3) := by decide +kernel
theorem d_10_8 : decode prog_1_method_11_code 8 = .ok (.new 139, 3) := by decide +kernel
theorem d_10_11 : decode prog_1_method_11_code 11 = .ok (.dup, 1) := by decide +kernel
theorem d_10_12 : decode prog_1_method_11_code 12 = .ok (.ldc 164, 2) := by decide +kernel
theorem d_10_14 : decode prog_1_method_11_code 14 = .ok (.invokespecial 143, 3) := by decide +kernel
theorem d_10_17 : decode prog_1_method_11_code 17 = .ok (.athrow, 1) := by decide +kernel
theorem d_10_18 : decode prog_1_method_11_code 18 = .ok (.iload_n 2, 1) := by decide +kernel
theorem d_10_19 : decode prog_1_method_11_code 19 = .ok (.tableswitch 83 0 4 #[33, 43, 53, 63, 73], 33) := by decide +kernel
theorem d_10_52 : decode prog_1_method_11_code 52 = .ok (.aload_n 0, 1) := by decide +kernel
theorem d_10_53 : decode prog_1_method_11_code 53 = .ok (.getfield 33, 3) := by decide +kernel
theorem d_10_56 : decode prog_1_method_11_code 56 = .ok (.getfield 169, 3) := by decide +kernel
theorem d_10_59 : decode prog_1_method_11_code 59 = .ok (.iload_n 1, 1) := by decide +kernel
theorem d_10_60 : decode prog_1_method_11_code 60 = .ok (.iaload, 1) := by decide +kernel
theorem d_10_61 : decode prog_1_method_11_code 61 = .ok (.ireturn, 1) := by decide +kernel
theorem d_10_62 : decode prog_1_method_11_code 62 = .ok (.aload_n 0, 1) := by decide +kernel
theorem d_10_63 : decode prog_1_method_11_code 63 = .ok (.getfield 33, 3) := by decide +kernel
theorem d_10_66 : decode prog_1_method_11_code 66 = .ok (.getfield 172, 3) := by decide +kernel
theorem d_10_69 : decode prog_1_method_11_code 69 = .ok (.iload_n 1, 1) := by decide +kernel
theorem d_10_70 : decode prog_1_method_11_code 70 = .ok (.iaload, 1) := by decide +kernel
theorem d_10_71 : decode prog_1_method_11_code 71 = .ok (.ireturn, 1) := by decide +kernel
theorem d_10_72 : decode prog_1_method_11_code 72 = .ok (.aload_n 0, 1) := by decide +kernel
theorem d_10_73 : decode prog_1_method_11_code 73 = .ok (.getfield 33, 3) := by decide +kernel
theorem d_10_76 : decode prog_1_method_11_code 76 = .ok (.getfield 175, 3) := by decide +kernel
theorem d_10_79 : decode prog_1_method_11_code 79 = .ok (.iload_n 1, 1) := by decide +kernel
theorem d_10_80 : decode prog_1_method_11_code 80 = .ok (.iaload, 1) := by decide +kernel
theorem d_10_81 : decode prog_1_method_11_code 81 = .ok (.ireturn, 1) := by decide +kernel
theorem d_10_82 : decode prog_1_method_11_code 82 = .ok (.aload_n 0, 1) := by decide +kernel
theorem d_10_83 : decode prog_1_method_11_code 83 = .ok (.getfield 33, 3) := by decide +kernel
theorem d_10_86 : decode prog_1_method_11_code 86 = .ok (.getfield 178, 3) := by decide +kernel
theorem d_10_89 : decode prog_1_method_11_code 89 = .ok (.iload_n 1, 1) := by decide +kernel
theorem d_10_90 : decode prog_1_method_11_code 90 = .ok (.iaload, 1) := by decide +kernel
theorem d_10_91 : decode prog_1_method_11_code 91 = .ok (.ireturn, 1) := by decide +kernel
theorem d_10_92 : decode prog_1_method_11_code 92 = .ok (.aload_n 0, 1) := by decide +kernel
theorem d_10_93 : decode prog_1_method_11_code 93 = .ok (.getfield 33, 3) := by decide +kernel
theorem d_10_96 : decode prog_1_method_11_code 96 = .ok (.getfield 129, 3) := by decide +kernel
theorem d_10_99 : decode prog_1_method_11_code 99 = .ok (.iload_n 1, 1) := by decide +kernel
theorem d_10_100 : decode prog_1_method_11_code 100 = .ok (.iaload, 1) := by decide +kernel
theorem d_10_101 : decode prog_1_method_11_code 101 = .ok (.ireturn, 1) := by decide +kernel
theorem d_10_102 : decode prog_1_method_11_code 102 = .ok (.new 69, 3) := by decide +kernel
theorem d_10_105 : decode prog_1_method_11_code 105 = .ok (.dup, 1) := by decide +kernel
theorem d_10_106 : decode prog_1_method_11_code 106 = .ok (.ldc 159, 2) := by decide +kernel
theorem d_10_108 : decode prog_1_method_11_code 108 = .ok (.invokespecial 73, 3) := by decide +kernel
theorem d_10_111 : decode prog_1_method_11_code 111 = .ok (.athrow, 1) := by decide +kernel
theorem d_11_0 : decode prog_1_method_12_code 0 = .ok (.aload_n 0, 1) := by decide +kernel
theorem d_11_1 : decode prog_1_method_12_code 1 = .ok (.iload_n 1, 1) := by decide +kernel
theorem d_11_2 : decode prog_1_method_12_code 2 = .ok (.invokevirtual 136, 3) := by decide +kernel
theorem d_11_5 : decode prog_1_method_12_code 5 = .ok (.ifCond .ne 13, 3) := by decide +kernel
theorem d_11_8 : decode prog_1_method_12_code 8 = .ok (.new 139, 3) := by decide +kernel
theorem d_11_11 : decode prog_1_method_12_code 11 = .ok (.dup, 1) := by decide +kernel
theorem d_11_12 : decode prog_1_method_12_code 12 = .ok (.ldc 141, 2) := by decide +kernel
theorem d_11_14 : decode prog_1_method_12_code 14 = .ok (.invokespecial 143, 3) := by decide +kernel
theorem d_11_17 : decode prog_1_method_12_code 17 = .ok (.athrow, 1) := by decide +kernel
theorem d_11_18 : decode prog_1_method_12_code 18 = .ok (.aload_n 0, 1) := by decide +kernel
theorem d_11_19 : decode prog_1_method_12_code 19 = .ok (.getfield 46, 3) := by decide +kernel
theorem d_11_22 : decode prog_1_method_12_code 22 = .ok (.iload_n 1, 1) := by decide +kernel
theorem d_11_23 : decode prog_1_method_12_code 23 = .ok (.iconst 1, 1) := by decide +kernel
theorem d_11_24 : decode prog_1_method_12_code 24 = .ok (.isub, 1) := by decide +kernel
theorem d_11_25 : decode prog_1_method_12_code 25 = .ok (.aaload, 1) := by decide +kernel
theorem d_11_26 : decode prog_1_method_12_code 26 = .ok (.astore_n 3, 1) := by decide +kernel
theorem d_11_27 : decode prog_1_method_12_code 27 = .ok (.iload_n 2, 1) := by decide +kernel
theorem d_11_28 : decode prog_1_method_12_code 28 = .ok (.istore 4, 2) := by decide +kernel
theorem d_11_30 : decode prog_1_method_12_code 30 = .ok (.aload_n 3, 1) := by decide +kernel
theorem d_11_31 : decode prog_1_method_12_code 31 = .ok (.getfield 96, 3) := by decide +kernel
theorem d_11_34 : decode prog_1_method_12_code 34 = .ok (.istore 5, 2) := by decide +kernel
theorem d_11_36 : decode prog_1_method_12_code 36 = .ok (.iload 5, 2) := by decide +kernel
theorem d_11_38 : decode prog_1_method_12_code 38 = .ok (.aload_n 0, 1) := by decide +kernel
theorem d_11_39 : decode prog_1_method_12_code 39 = .ok (.getfield 46, 3) := by decide +kernel
theorem d_11_42 : decode prog_1_method_12_code 42 = .ok (.iload_n 1, 1) := by decide +kernel
theorem d_11_43 : decode prog_1_method_12_code 43 = .ok (.aaload, 1) := by decide +kernel
theorem d_11_44 : decode prog_1_method_12_code 44 = .ok (.getfield 96, 3) := by decide +kernel
theorem d_11_47 : decode prog_1_method_12_code 47 = .ok (.if_icmp .ge 53, 3) := by decide +kernel
theorem d_11_50 : decode prog_1_method_12_code 50 = .ok (.iload 4, 2) := by decide +kernel
theorem d_11_52 : decode prog_1_method_12_code 52 = .ok (.ifCond .lt 48, 3) := by decide +kernel
theorem d_11_55 : decode prog_1_method_12_code 55 = .ok (.aload_n 0, 1) := by decide +kernel
theorem d_11_56 : decode prog_1_method_12_code 56 = .ok (.getfield 40, 3) := by decide +kernel
theorem d_11_59 : decode prog_1_method_12_code 59 = .ok (.iload 5, 2) := by decide +kernel
theorem d_11_61 : decode prog_1_method_12_code 61 = .ok (.aload_n 3, 1) := by decide +kernel
theorem d_11_62 : decode prog_1_method_12_code 62 = .ok (.invokevirtual 181, 3) := by decide +kernel
theorem d_11_65 : decode prog_1_method_12_code 65 = .ok (.istore 6, 2) := by decide +kernel
theorem d_11_67 : decode prog_1_method_12_code 67 = .ok (.iload 4, 2) := by decide +kernel
theorem d_11_69 : decode prog_1_method_12_code 69 = .ok (.iload 6, 2) := by decide +kernel
theorem d_11_71 : decode prog_1_method_12_code 71 = .ok (.if_icmp .ge 16, 3) := by decide +kernel
theorem d_11_74 : decode prog_1_method_12_code 74 = .ok (.aload_n 0, 1) := by decide +kernel
theorem d_11_75 : decode prog_1_method_12_code 75 = .ok (.getfield 40, 3) := by decide +kernel
theorem d_11_78 : decode prog_1_method_12_code 78 = .ok (.iload 5, 2) := by decide +kernel
theorem d_11_80 : decode prog_1_method_12_code 80 = .ok (.aload_n 3, 1) := by decide +kernel
theorem d_11_81 : decode prog_1_method_12_code 81 = .ok (.iload 4, 2) := by decide +kernel
theorem d_11_83 : decode prog_1_method_12_code 83 = .ok (.invokevirtual 185, 3) := by decide +kernel
theorem d_11_86 : decode prog_1_method_12_code 86 = .ok (.ireturn, 1) := by decide +kernel
theorem d_11_87 : decode prog_1_method_12_code 87 = .ok (.iload 4, 2) := by decide +kernel
theorem d_11_89 : decode prog_1_method_12_code 89 = .ok (.iload 6, 2) := by decide +kernel
theorem d_11_91 : decode prog_1_method_12_code 91 = .ok (.isub, 1) := by decide +kernel
theorem d_11_92 : decode prog_1_method_12_code 92 = .ok (.istore 4, 2) := by decide +kernel
theorem d_11_94 : decode prog_1_method_12_code 94 = .ok (.iinc 5 1, 3) := by decide +kernel
theorem d_11_97 : decode prog_1_method_12_code 97 = .ok (.goto (-61), 3) := by decide +kernel
theorem d_11_100 : decode prog_1_method_12_code 100 = .ok (.iconst (-1), 1) := by decide +kernel
theorem d_11_101 : decode prog_1_method_12_code 101 = .ok (.ireturn, 1) := by decide +kernel
theorem d_12_0 : decode prog_1_method_13_code 0 = .ok (.aload_n 0, 1) := by decide +kernel
theorem d_12_1 : decode prog_1_method_13_code 1 = .ok (.getfield 46, 3) := by decide +kernel
theorem d_12_4 : decode prog_1_method_13_code 4 = .ok (.aload_n 0, 1) := by decide +kernel
theorem d_12_5 : decode prog_1_method_13_code 5 = .ok (.getfield 50, 3) := by decide +kernel
theorem d_12_8 : decode prog_1_method_13_code 8 = .ok (.aaload, 1) := by decide +kernel
theorem d_12_9 : decode prog_1_method_13_code 9 = .ok (.astore_n 3, 1) := by decide +kernel
theorem d_12_10 : decode prog_1_method_13_code 10 = .ok (.aload_n 3, 1) := by decide +kernel
theorem d_12_11 : decode prog_1_method_13_code 11 = .ok (.iload_n 1, 1) := by decide +kernel
theorem d_12_12 : decode prog_1_method_13_code 12 = .ok (.invokevirtual 189, 3) := by decide +kernel
theorem d_12_15 : decode prog_1_method_13_code 15 = .ok (.ifCond .eq 17, 3) := by decide +kernel
theorem d_12_18 : decode prog_1_method_13_code 18 = .ok (.iload_n 2, 1) := by decide +kernel
theorem d_12_19 : decode prog_1_method_13_code 19 = .ok (.ifCond .lt 13, 3) := by decide +kernel
theorem d_12_22 : decode prog_1_method_13_code 22 = .ok (.iload_n 2, 1) := by decide +kernel
theorem d_12_23 : decode prog_1_method_13_code 23 = .ok (.aload_n 3, 1) := by decide +kernel
theorem d_12_24 : decode prog_1_method_13_code 24 = .ok (.getfield 126, 3) := by decide +kernel
theorem d_12_27 : decode prog_1_method_13_code 27 = .ok (.iload_n 1, 1) := by decide +kernel
theorem d_12_28 : decode prog_1_method_13_code 28 = .ok (.iaload, 1) := by decide +kernel
theorem d_12_29 : decode prog_1_method_13_code 29 = .ok (.if_icmp .lt 5, 3) := by decide +kernel
theorem d_12_32 : decode prog_1_method_13_code 32 = .ok (.iconst (-1), 1) := by decide +kernel
theorem d_12_33 : decode prog_1_method_13_code 33 = .ok (.ireturn, 1) := by decide +kernel
theorem d_12_34 : decode prog_1_method_13_code 34 = .ok (.aload_n 3, 1) := by decide +kernel
theorem d_12_35 : decode prog_1_method_13_code 35 = .ok (.iload_n 1, 1) := by decide +kernel
theorem d_12_36 : decode prog_1_method_13_code 36 = .ok (.iload_n 2, 1) := by decide +kernel
theorem d_12_37 : decode prog_1_method_13_code 37 = .ok (.invokevirtual 132, 3) := by decide +kernel
theorem d_12_40 : decode prog_1_method_13_code 40 = .ok (.ireturn, 1) := by decide +kernel
theorem d_13_0 : decode prog_1_method_14_code 0 = .ok (.aload_n 0, 1) := by decide +kernel
theorem d_13_1 : decode prog_1_method_14_code 1 = .ok (.getfield 46, 3) := by decide +kernel
theorem d_13_4 : decode prog_1_method_14_code 4 = .ok (.aload_n 0, 1) := by decide +kernel
theorem d_13_5 : decode prog_1_method_14_code 5 = .ok (.getfield 50, 3) := by decide +kernel
theorem d_13_8 : decode prog_1_method_14_code 8 = .ok (.aaload, 1) := by decide +kernel
theorem d_13_9 : decode prog_1_method_14_code 9 = .ok (.astore_n 2, 1) := by decide +kernel
theorem d_13_10 : decode prog_1_method_14_code 10 = .ok (.aload_n 2, 1) := by decide +kernel
theorem d_13_11 : decode prog_1_method_14_code 11 = .ok (.iload_n 1, 1) := by decide +kernel
theorem d_13_12 : decode prog_1_method_14_code 12 = .ok (.invokevirtual 189, 3) := by decide +kernel
theorem d_13_15 : decode prog_1_method_14_code 15 = .ok (.ifCond .eq 12, 3) := by decide +kernel
theorem d_13_18 : decode prog_1_method_14_code 18 = .ok (.aload_n 2, 1) := by decide +kernel
theorem d_13_19 : decode prog_1_method_14_code 19 = .ok (.getfield 84, 3) := by decide +kernel
theorem d_13_22 : decode prog_1_method_14_code 22 = .ok (.iload_n 1, 1) := by decide +kernel
theorem d_13_23 : decode prog_1_method_14_code 23 = .ok (.iaload, 1) := by decide +kernel
theorem d_13_24 : decode prog_1_method_14_code 24 = .ok (.goto 4, 3) := by decide +kernel
theorem d_13_27 : decode prog_1_method_14_code 27 = .ok (.iconst (-1), 1) := by decide +kernel
theorem d_13_28 : decode prog_1_method_14_code 28 = .ok (.ireturn, 1) := by decide +kernel
theorem d_14_0 : decode prog_1_method_15_code 0 = .ok (.iload_n 1, 1) := by decide +kernel
theorem d_14_1 : decode prog_1_method_15_code 1 = .ok (.invokestatic 109, 3) := by decide +kernel
theorem d_14_4 : decode prog_1_method_15_code 4 = .ok (.ifCond .eq 20, 3) := by decide +kernel
theorem d_14_7 : decode prog_1_method_15_code 7 = .ok (.aload_n 0, 1) := by decide +kernel
theorem d_14_8 : decode prog_1_method_15_code 8 = .ok (.getfield 46, 3) := by decide +kernel
theorem d_14_11 : decode prog_1_method_15_code 11 = .ok (.aload_n 0, 1) := by decide +kernel
theorem d_14_12 : decode prog_1_method_15_code 12 = .ok (.getfield 50, 3) := by decide +kernel
theorem d_14_15 : decode prog_1_method_15_code 15 = .ok (.aaload, 1) := by decide +kernel
theorem d_14_16 : decode prog_1_method_15_code 16 = .ok (.getfield 98, 3) := by decide +kernel
theorem d_14_19 : decode prog_1_method_15_code 19 = .ok (.iload_n 1, 1) := by decide +kernel
theorem d_14_20 : decode prog_1_method_15_code 20 = .ok (.iaload, 1) := by decide +kernel
theorem d_14_21 : decode prog_1_method_15_code 21 = .ok (.goto 4, 3) := by decide +kernel
theorem d_14_24 : decode prog_1_method_15_code 24 = .ok (.iconst (-1), 1) := by decide +kernel
theorem d_14_25 : decode prog_1_method_15_code 25 = .ok (.ireturn, 1) := by decide +kernel
theorem d_15_0 : decode prog_1_method_16_code 0 = .ok (.iload_n 1, 1) := by decide +kernel
theorem d_15_1 : decode prog_1_method_16_code 1 = .ok (.iconst 1, 1) := by decide +kernel
theorem d_15_2 : decode prog_1_method_16_code 2 = .ok (.if_icmp .lt 15, 3) := by decide +kernel
theorem d_15_5 : decode prog_1_method_16_code 5 = .ok (.iload_n 1, 1) := by decide +kernel
theorem d_15_6 : decode prog_1_method_16_code 6 = .ok (.aload_n 0, 1) := by decide +kernel
theorem d_15_7 : decode prog_1_method_16_code 7 = .ok (.getfield 50, 3) := by decide +kernel
theorem d_15_10 : decode prog_1_method_16_code 10 = .ok (.if_icmp .gt 7, 3) := by decide +kernel
theorem d_15_13 : decode prog_1_method_16_code 13 = .ok (.iconst 1, 1) := by decide +kernel
theorem d_15_14 : decode prog_1_method_16_code 14 = .ok (.goto 4, 3) := by decide +kernel
theorem d_15_17 : decode prog_1_method_16_code 17 = .ok (.iconst 0, 1) := by decide +kernel
theorem d_15_18 : decode prog_1_method_16_code 18 = .ok (.ireturn, 1) := by decide +kernel
theorem d_16_0 : decode prog_1_method_17_code 0 = .ok (.iload_n 1, 1) := by decide +kernel
theorem d_16_1 : decode prog_1_method_17_code 1 = .ok (.ifCond .lt 23, 3) := by decide +kernel
theorem d_16_4 : decode prog_1_method_17_code 4 = .ok (.iload_n 1, 1) := by decide +kernel
theorem d_16_5 : decode prog_1_method_17_code 5 = .ok (.aload_n 0, 1) := by decide +kernel
theorem d_16_6 : decode prog_1_method_17_code 6 = .ok (.getfield 46, 3) := by decide +kernel
theorem d_16_9 : decode prog_1_method_17_code 9 = .ok (.aload_n 0, 1) := by decide +kernel
theorem d_16_10 : decode prog_1_method_17_code 10 = .ok (.getfield 50, 3) := by decide +kernel
theorem d_16_13 : decode prog_1_method_17_code 13 = .ok (.aaload, 1) := by decide +kernel
theorem d_16_14 : decode prog_1_method_17_code 14 = .ok (.getfield 91, 3) := by decide +kernel
theorem d_16_17 : decode prog_1_method_17_code 17 = .ok (.if_icmp .ge 7, 3) := by decide +kernel
theorem d_16_20 : decode prog_1_method_17_code 20 = .ok (.iconst 1, 1) := by decide +kernel
theorem d_16_21 : decode prog_1_method_17_code 21 = .ok (.goto 4, 3) := by decide +kernel
theorem d_16_24 : decode prog_1_method_17_code 24 = .ok (.iconst 0, 1) := by decide +kernel
theorem d_16_25 : decode prog_1_method_17_code 25 = .ok (.ireturn, 1) := by decide +kernel
theorem d_17_0 : decode prog_1_method_18_code 0 = .ok (.iload_n 0, 1) := by decide +kernel
theorem d_17_1 : decode prog_1_method_18_code 1 = .ok (.ifCond .lt 12, 3) := by decide +kernel
theorem d_17_4 : decode prog_1_method_18_code 4 = .ok (.iload_n 0, 1) := by decide +kernel
theorem d_17_5 : decode prog_1_method_18_code 5 = .ok (.iconst 3, 1) := by decide +kernel
theorem d_17_6 : decode prog_1_method_18_code 6 = .ok (.if_icmp .ge 7, 3) := by decide +kernel
theorem d_17_9 : decode prog_1_method_18_code 9 = .ok (.iconst 1, 1) := by decide +kernel
theorem d_17_10 : decode prog_1_method_18_code 10 = .ok (.goto 4, 3) := by decide +kernel
theorem d_17_13 : decode prog_1_method_18_code 13 = .ok (.iconst 0, 1) := by decide +kernel
theorem d_17_14 : decode prog_1_method_18_code 14 = .ok (.ireturn, 1) := by decide +kernel
theorem d_18_0 : decode prog_1_method_19_code 0 = .ok (.lload_n 0, 1) := by decide +kernel
theorem d_18_1 : decode prog_1_method_19_code 1 = .ok (.bipush 8, 2) := by decide +kernel
theorem d_18_3 : decode prog_1_method_19_code 3 = .ok (.iload_n 2, 1) := by decide +kernel
theorem d_18_4 : decode prog_1_method_19_code 4 = .ok (.imul, 1) := by decide +kernel
theorem d_18_5 : decode prog_1_method_19_code 5 = .ok (.lushr, 1) := by decide +kernel
theorem d_18_6 : decode prog_1_method_19_code 6 = .ok (.ldc2_w 192, 3) := by decide +kernel
theorem d_18_9 : decode prog_1_method_19_code 9 = .ok (.land, 1) := by decide +kernel
theorem d_18_10 : decode prog_1_method_19_code 10 = .ok (.l2i, 1) := by decide +kernel
theorem d_18_11 : decode prog_1_method_19_code 11 = .ok (.ireturn, 1) := by decide +kernel
theorem d_19_0 : decode prog_1_method_20_code 0 = .ok (.iload_n 0, 1) := by decide +kernel
theorem d_19_1 : decode prog_1_method_20_code 1 = .ok (.iconst 2, 1) := by decide +kernel
theorem d_19_2 : decode prog_1_method_20_code 2 = .ok (.irem, 1) := by decide +kernel
theorem d_19_3 : decode prog_1_method_20_code 3 = .ok (.iconst 1, 1) := by decide +kernel
theorem d_19_4 : decode prog_1_method_20_code 4 = .ok (.if_icmp .ne 7, 3) := by decide +kernel
theorem d_19_7 : decode prog_1_method_20_code 7 = .ok (.iconst 0, 1) := by decide +kernel
theorem d_19_8 : decode prog_1_method_20_code 8 = .ok (.goto 4, 3) := by decide +kernel
theorem d_19_11 : decode prog_1_method_20_code 11 = .ok (.iconst 1, 1) := by decide +kernel
theorem d_19_12 : decode prog_1_method_20_code 12 = .ok (.ireturn, 1) := by decide +kernel
theorem d_20_0 : decode prog_1_method_21_code 0 = .ok (.aload_n 0, 1) := by decide +kernel
theorem d_20_1 : decode prog_1_method_21_code 1 = .ok (.getfield 46, 3) := by decide +kernel
theorem d_20_4 : decode prog_1_method_21_code 4 = .ok (.aload_n 0, 1) := by decide +kernel
theorem d_20_5 : decode prog_1_method_21_code 5 = .ok (.getfield 50, 3) := by decide +kernel
theorem d_20_8 : decode prog_1_method_21_code 8 = .ok (.aaload, 1) := by decide +kernel
theorem d_20_9 : decode prog_1_method_21_code 9 = .ok (.astore_n 1, 1) := by decide +kernel
theorem d_20_10 : decode prog_1_method_21_code 10 = .ok (.aload_n 0, 1) := by decide +kernel
theorem d_20_11 : decode prog_1_method_21_code 11 = .ok (.getfield 12, 3) := by decide +kernel
theorem d_20_14 : decode prog_1_method_21_code 14 = .ok (.invokevirtual 194, 3) := by decide +kernel
theorem d_20_17 : decode prog_1_method_21_code 17 = .ok (.istore_n 2, 1) := by decide +kernel
theorem d_20_18 : decode prog_1_method_21_code 18 = .ok (.iload_n 2, 1) := by decide +kernel
theorem d_20_19 : decode prog_1_method_21_code 19 = .ok (.iconst (-1), 1) := by decide +kernel
theorem d_20_20 : decode prog_1_method_21_code 20 = .ok (.if_icmp .eq 10, 3) := by decide +kernel
theorem d_20_23 : decode prog_1_method_21_code 23 = .ok (.aload_n 0, 1) := by decide +kernel
theorem d_20_24 : decode prog_1_method_21_code 24 = .ok (.iload_n 2, 1) := by decide +kernel
theorem d_20_25 : decode prog_1_method_21_code 25 = .ok (.putfield 54, 3) := by decide +kernel
theorem d_20_28 : decode prog_1_method_21_code 28 = .ok (.iconst 1, 1) := by decide +kernel
theorem d_20_29 : decode prog_1_method_21_code 29 = .ok (.ireturn, 1) := by decide +kernel
theorem d_20_30 : decode prog_1_method_21_code 30 = .ok (.aload_n 0, 1) := by decide +kernel
theorem d_20_31 : decode prog_1_method_21_code 31 = .ok (.getfield 12, 3) := by decide +kernel
theorem d_20_34 : decode prog_1_method_21_code 34 = .ok (.getfield 197, 3) := by decide +kernel
theorem d_20_37 : decode prog_1_method_21_code 37 = .ok (.aload_n 1, 1) := by decide +kernel
theorem d_20_38 : decode prog_1_method_21_code 38 = .ok (.getfield 101, 3) := by decide +kernel
theorem d_20_41 : decode prog_1_method_21_code 41 = .ok (.if_icmp .eq 5, 3) := by decide +kernel
theorem d_20_44 : decode prog_1_method_21_code 44 = .ok (.iconst 2, 1) := by decide +kernel
theorem d_20_45 : decode prog_1_method_21_code 45 = .ok (.ireturn, 1) := by decide +kernel
theorem d_20_46 : decode prog_1_method_21_code 46 = .ok (.aload_n 0, 1) := by decide +kernel
theorem d_20_47 : decode prog_1_method_21_code 47 = .ok (.getfield 12, 3) := by decide +kernel
theorem d_20_50 : decode prog_1_method_21_code 50 = .ok (.getfield 200, 3) := by decide +kernel
theorem d_20_53 : decode prog_1_method_21_code 53 = .ok (.iconst 1, 1) := by decide +kernel
theorem d_20_54 : decode prog_1_method_21_code 54 = .ok (.if_icmp .lt 15, 3) := by decide +kernel
theorem d_20_57 : decode prog_1_method_21_code 57 = .ok (.aload_n 0, 1) := by decide +kernel
theorem d_20_58 : decode prog_1_method_21_code 58 = .ok (.getfield 12, 3) := by decide +kernel
theorem d_20_61 : decode prog_1_method_21_code 61 = .ok (.getfield 200, 3) := by decide +kernel
theorem d_20_64 : decode prog_1_method_21_code 64 = .ok (.bipush 16, 2) := by decide +kernel
theorem d_20_66 : decode prog_1_method_21_code 66 = .ok (.if_icmp .le 5, 3) := by decide +kernel
theorem d_20_69 : decode prog_1_method_21_code 69 = .ok (.iconst 3, 1) := by decide +kernel
theorem d_20_70 : decode prog_1_method_21_code 70 = .ok (.ireturn, 1) := by decide +kernel
theorem d_20_71 : decode prog_1_method_21_code 71 = .ok (.aload_n 0, 1) := by decide +kernel
theorem d_20_72 : decode prog_1_method_21_code 72 = .ok (.getfield 19, 3) := by decide +kernel
theorem d_20_75 : decode prog_1_method_21_code 75 = .ok (.aload_n 0, 1) := by decide +kernel
theorem d_20_76 : decode prog_1_method_21_code 76 = .ok (.getfield 12, 3) := by decide +kernel
theorem d_20_79 : decode prog_1_method_21_code 79 = .ok (.invokevirtual 203, 3) := by decide +kernel
theorem d_20_82 : decode prog_1_method_21_code 82 = .ok (.aload_n 0, 1) := by decide +kernel
theorem d_20_83 : decode prog_1_method_21_code 83 = .ok (.getfield 12, 3) := by decide +kernel
theorem d_20_86 : decode prog_1_method_21_code 86 = .ok (.aload_n 1, 1) := by decide +kernel
theorem d_20_87 : decode prog_1_method_21_code 87 = .ok (.invokevirtual 206, 3) := by decide +kernel
theorem d_20_90 : decode prog_1_method_21_code 90 = .ok (.istore_n 3, 1) := by decide +kernel
theorem d_20_91 : decode prog_1_method_21_code 91 = .ok (.iload_n 3, 1) := by decide +kernel
theorem d_20_92 : decode prog_1_method_21_code 92 = .ok (.iconst (-1), 1) := by decide +kernel
theorem d_20_93 : decode prog_1_method_21_code 93 = .ok (.if_icmp .eq 10, 3) := by decide +kernel
theorem d_20_96 : decode prog_1_method_21_code 96 = .ok (.aload_n 0, 1) := by decide +kernel
theorem d_20_97 : decode prog_1_method_21_code 97 = .ok (.iload_n 3, 1) := by decide +kernel
theorem d_20_98 : decode prog_1_method_21_code 98 = .ok (.putfield 54, 3) := by decide +kernel
theorem d_20_101 : decode prog_1_method_21_code 101 = .ok (.iconst 4, 1) := by decide +kernel
theorem d_20_102 : decode prog_1_method_21_code 102 = .ok (.ireturn, 1) := by decide +kernel
theorem d_20_103 : decode prog_1_method_21_code 103 = .ok (.aload_n 0, 1) := by decide +kernel
theorem d_20_104 : decode prog_1_method_21_code 104 = .ok (.getfield 19, 3) := by decide +kernel
theorem d_20_107 : decode prog_1_method_21_code 107 = .ok (.invokevirtual 210, 3) := by decide +kernel
theorem d_20_110 : decode prog_1_method_21_code 110 = .ok (.istore 4, 2) := by decide +kernel
theorem d_20_112 : decode prog_1_method_21_code 112 = .ok (.iload 4, 2) := by decide +kernel
theorem d_20_114 : decode prog_1_method_21_code 114 = .ok (.iconst (-1), 1) := by decide +kernel
theorem d_20_115 : decode prog_1_method_21_code 115 = .ok (.if_icmp .eq 11, 3) := by decide +kernel
theorem d_20_118 : decode prog_1_method_21_code 118 = .ok (.aload_n 0, 1) := by decide +kernel
theorem d_20_119 : decode prog_1_method_21_code 119 = .ok (.iload 4, 2) := by decide +kernel
theorem d_20_121 : decode prog_1_method_21_code 121 = .ok (.putfield 54, 3) := by decide +kernel
theorem d_20_124 : decode prog_1_method_21_code 124 = .ok (.iconst 5, 1) := by decide +kernel
theorem d_20_125 : decode prog_1_method_21_code 125 = .ok (.ireturn, 1) := by decide +kernel
theorem d_20_126 : decode prog_1_method_21_code 126 = .ok (.iconst 0, 1) := by decide +kernel
theorem d_20_127 : decode prog_1_method_21_code 127 = .ok (.ireturn, 1) := by decide +kernel
theorem d_21_0 : decode prog_1_method_22_code 0 = .ok (.aload_n 0, 1) := by decide +kernel
theorem d_21_1 : decode prog_1_method_22_code 1 = .ok (.getfield 46, 3) := by decide +kernel
theorem d_21_4 : decode prog_1_method_22_code 4 = .ok (.aload_n 0, 1) := by decide +kernel
theorem d_21_5 : decode prog_1_method_22_code 5 = .ok (.getfield 50, 3) := by decide +kernel
theorem d_21_8 : decode prog_1_method_22_code 8 = .ok (.aaload, 1) := by decide +kernel
theorem d_21_9 : decode prog_1_method_22_code 9 = .ok (.astore_n 2, 1) := by decide +kernel
theorem d_21_10 : decode prog_1_method_22_code 10 = .ok (.aload_n 2, 1) := by decide +kernel
theorem d_21_11 : decode prog_1_method_22_code 11 = .ok (.getfield 98, 3) := by decide +kernel
theorem d_21_14 : decode prog_1_method_22_code 14 = .ok (.iload_n 1, 1) := by decide +kernel
theorem d_21_15 : decode prog_1_method_22_code 15 = .ok (.iaload, 1) := by decide +kernel
theorem d_21_16 : decode prog_1_method_22_code 16 = .ok (.aload_n 0, 1) := by decide +kernel
theorem d_21_17 : decode prog_1_method_22_code 17 = .ok (.getfield 50, 3) := by decide +kernel
theorem d_21_20 : decode prog_1_method_22_code 20 = .ok (.iconst 1, 1) := by decide +kernel
theorem d_21_21 : decode prog_1_method_22_code 21 = .ok (.iadd, 1) := by decide +kernel
theorem d_21_22 : decode prog_1_method_22_code 22 = .ok (.invokestatic 213, 3) := by decide +kernel
theorem d_21_25 : decode prog_1_method_22_code 25 = .ok (.if_icmp .ne 6, 3) := by decide +kernel
theorem d_21_28 : decode prog_1_method_22_code 28 = .ok (.bipush 6, 2) := by decide +kernel
theorem d_21_30 : decode prog_1_method_22_code 30 = .ok (.ireturn, 1) := by decide +kernel
theorem d_21_31 : decode prog_1_method_22_code 31 = .ok (.aload_n 0, 1) := by decide +kernel
theorem d_21_32 : decode prog_1_method_22_code 32 = .ok (.getfield 50, 3) := by decide +kernel
theorem d_21_35 : decode prog_1_method_22_code 35 = .ok (.bipush 20, 2) := by decide +kernel
theorem d_21_37 : decode prog_1_method_22_code 37 = .ok (.if_icmp .lt 6, 3) := by decide +kernel
theorem d_21_40 : decode prog_1_method_22_code 40 = .ok (.bipush 7, 2) := by decide +kernel
theorem d_21_42 : decode prog_1_method_22_code 42 = .ok (.ireturn, 1) := by decide +kernel
theorem d_21_43 : decode prog_1_method_22_code 43 = .ok (.aload_n 2, 1) := by decide +kernel
theorem d_21_44 : decode prog_1_method_22_code 44 = .ok (.getfield 91, 3) := by decide +kernel
theorem d_21_47 : decode prog_1_method_22_code 47 = .ok (.aload_n 0, 1) := by decide +kernel
theorem d_21_48 : decode prog_1_method_22_code 48 = .ok (.getfield 12, 3) := by decide +kernel
theorem d_21_51 : decode prog_1_method_22_code 51 = .ok (.getfield 216, 3) := by decide +kernel
theorem d_21_54 : decode prog_1_method_22_code 54 = .ok (.iadd, 1) := by decide +kernel
theorem d_21_55 : decode prog_1_method_22_code 55 = .ok (.sipush 300, 3) := by decide +kernel
theorem d_21_58 : decode prog_1_method_22_code 58 = .ok (.if_icmp .le 6, 3) := by decide +kernel
theorem d_21_61 : decode prog_1_method_22_code 61 = .ok (.bipush 8, 2) := by decide +kernel
theorem d_21_63 : decode prog_1_method_22_code 63 = .ok (.ireturn, 1) := by decide +kernel
theorem d_21_64 : decode prog_1_method_22_code 64 = .ok (.iconst 0, 1) := by decide +kernel
theorem d_21_65 : decode prog_1_method_22_code 65 = .ok (.ireturn, 1) := by decide +kernel
theorem d_22_0 : decode prog_1_method_23_code 0 = .ok (.aload_n 0, 1) := by decide +kernel
theorem d_22_1 : decode prog_1_method_23_code 1 = .ok (.getfield 46, 3) := by decide +kernel
theorem d_22_4 : decode prog_1_method_23_code 4 = .ok (.aload_n 0, 1) := by decide +kernel
theorem d_22_5 : decode prog_1_method_23_code 5 = .ok (.getfield 50, 3) := by decide +kernel
theorem d_22_8 : decode prog_1_method_23_code 8 = .ok (.aaload, 1) := by decide +kernel
theorem d_22_9 : decode prog_1_method_23_code 9 = .ok (.astore_n 2, 1) := by decide +kernel
theorem d_22_10 : decode prog_1_method_23_code 10 = .ok (.aload_n 0, 1) := by decide +kernel
theorem d_22_11 : decode prog_1_method_23_code 11 = .ok (.dup, 1) := by decide +kernel
theorem d_22_12 : decode prog_1_method_23_code 12 = .ok (.getfield 50, 3) := by decide +kernel
theorem d_22_15 : decode prog_1_method_23_code 15 = .ok (.iconst 1, 1) := by decide +kernel
theorem d_22_16 : decode prog_1_method_23_code 16 = .ok (.iadd, 1) := by decide +kernel
theorem d_22_17 : decode prog_1_method_23_code 17 = .ok (.putfield 50, 3) := by decide +kernel
theorem d_22_20 : decode prog_1_method_23_code 20 = .ok (.aload_n 0, 1) := by decide +kernel
theorem d_22_21 : decode prog_1_method_23_code 21 = .ok (.getfield 46, 3) := by decide +kernel
theorem d_22_24 : decode prog_1_method_23_code 24 = .ok (.aload_n 0, 1) := by decide +kernel
theorem d_22_25 : decode prog_1_method_23_code 25 = .ok (.getfield 50, 3) := by decide +kernel
theorem d_22_28 : decode prog_1_method_23_code 28 = .ok (.aaload, 1) := by decide +kernel
theorem d_22_29 : decode prog_1_method_23_code 29 = .ok (.astore_n 3, 1) := by decide +kernel
theorem d_22_30 : decode prog_1_method_23_code 30 = .ok (.aload_n 3, 1) := by decide +kernel
theorem d_22_31 : decode prog_1_method_23_code 31 = .ok (.aload_n 0, 1) := by decide +kernel
theorem d_22_32 : decode prog_1_method_23_code 32 = .ok (.getfield 12, 3) := by decide +kernel
theorem d_22_35 : decode prog_1_method_23_code 35 = .ok (.getfield 200, 3) := by decide +kernel
theorem d_22_38 : decode prog_1_method_23_code 38 = .ok (.invokevirtual 76, 3) := by decide +kernel
theorem d_22_41 : decode prog_1_method_23_code 41 = .ok (.aload_n 3, 1) := by decide +kernel
theorem d_22_42 : decode prog_1_method_23_code 42 = .ok (.aload_n 0, 1) := by decide +kernel
theorem d_22_43 : decode prog_1_method_23_code 43 = .ok (.getfield 12, 3) := by decide +kernel
theorem d_22_46 : decode prog_1_method_23_code 46 = .ok (.getfield 216, 3) := by decide +kernel
theorem d_22_49 : decode prog_1_method_23_code 49 = .ok (.putfield 153, 3) := by decide +kernel
theorem d_22_52 : decode prog_1_method_23_code 52 = .ok (.aload_n 0, 1) := by decide +kernel
theorem d_22_53 : decode prog_1_method_23_code 53 = .ok (.getfield 26, 3) := by decide +kernel
theorem d_22_56 : decode prog_1_method_23_code 56 = .ok (.aload_n 0, 1) := by decide +kernel
theorem d_22_57 : decode prog_1_method_23_code 57 = .ok (.getfield 19, 3) := by decide +kernel
theorem d_22_60 : decode prog_1_method_23_code 60 = .ok (.aload_n 2, 1) := by decide +kernel
theorem d_22_61 : decode prog_1_method_23_code 61 = .ok (.invokevirtual 217, 3) := by decide +kernel
theorem d_22_64 : decode prog_1_method_23_code 64 = .ok (.aload_n 3, 1) := by decide +kernel
theorem d_22_65 : decode prog_1_method_23_code 65 = .ok (.aload_n 0, 1) := by decide +kernel
theorem d_22_66 : decode prog_1_method_23_code 66 = .ok (.getfield 26, 3) := by decide +kernel
theorem d_22_69 : decode prog_1_method_23_code 69 = .ok (.getfield 221, 3) := by decide +kernel
theorem d_22_72 : decode prog_1_method_23_code 72 = .ok (.putfield 144, 3) := by decide +kernel
theorem d_22_75 : decode prog_1_method_23_code 75 = .ok (.aload_n 3, 1) := by decide +kernel
theorem d_22_76 : decode prog_1_method_23_code 76 = .ok (.aload_n 0, 1) := by decide +kernel
theorem d_22_77 : decode prog_1_method_23_code 77 = .ok (.getfield 26, 3) := by decide +kernel
theorem d_22_80 : decode prog_1_method_23_code 80 = .ok (.getfield 222, 3) := by decide +kernel
theorem d_22_83 : decode prog_1_method_23_code 83 = .ok (.putfield 147, 3) := by decide +kernel
theorem d_22_86 : decode prog_1_method_23_code 86 = .ok (.aload_n 0, 1) := by decide +kernel
theorem d_22_87 : decode prog_1_method_23_code 87 = .ok (.aload_n 2, 1) := by decide +kernel
theorem d_22_88 : decode prog_1_method_23_code 88 = .ok (.aload_n 3, 1) := by decide +kernel
theorem d_22_89 : decode prog_1_method_23_code 89 = .ok (.invokevirtual 223, 3) := by decide +kernel
theorem d_22_92 : decode prog_1_method_23_code 92 = .ok (.aload_n 0, 1) := by decide +kernel
theorem d_22_93 : decode prog_1_method_23_code 93 = .ok (.aload_n 2, 1) := by decide +kernel
theorem d_22_94 : decode prog_1_method_23_code 94 = .ok (.aload_n 3, 1) := by decide +kernel
theorem d_22_95 : decode prog_1_method_23_code 95 = .ok (.iconst 0, 1) := by decide +kernel
theorem d_22_96 : decode prog_1_method_23_code 96 = .ok (.invokevirtual 227, 3) := by decide +kernel
theorem d_22_99 : decode prog_1_method_23_code 99 = .ok (.aload_n 0, 1) := by decide +kernel
theorem d_22_100 : decode prog_1_method_23_code 100 = .ok (.aload_n 2, 1) := by decide +kernel
theorem d_22_101 : decode prog_1_method_23_code 101 = .ok (.aload_n 3, 1) := by decide +kernel
theorem d_22_102 : decode prog_1_method_23_code 102 = .ok (.iconst 1, 1) := by decide +kernel
theorem d_22_103 : decode prog_1_method_23_code 103 = .ok (.invokevirtual 227, 3) := by decide +kernel
theorem d_22_106 : decode prog_1_method_23_code 106 = .ok (.aload_n 0, 1) := by decide +kernel
theorem d_22_107 : decode prog_1_method_23_code 107 = .ok (.aload_n 2, 1) := by decide +kernel
theorem d_22_108 : decode prog_1_method_23_code 108 = .ok (.aload_n 3, 1) := by decide +kernel
theorem d_22_109 : decode prog_1_method_23_code 109 = .ok (.invokevirtual 231, 3) := by decide +kernel
theorem d_22_112 : decode prog_1_method_23_code 112 = .ok (.aload_n 0, 1) := by decide +kernel
theorem d_22_113 : decode prog_1_method_23_code 113 = .ok (.aload_n 2, 1) := by decide +kernel
theorem d_22_114 : decode prog_1_method_23_code 114 = .ok (.aload_n 3, 1) := by decide +kernel
theorem d_22_115 : decode prog_1_method_23_code 115 = .ok (.iload_n 1, 1) := by decide +kernel
theorem d_22_116 : decode prog_1_method_23_code 116 = .ok (.invokevirtual 234, 3) := by decide +kernel
theorem d_22_119 : decode prog_1_method_23_code 119 = .ok (.iconst 0, 1) := by decide +kernel
theorem d_22_120 : decode prog_1_method_23_code 120 = .ok (.istore 4, 2) := by decide +kernel
theorem d_22_122 : decode prog_1_method_23_code 122 = .ok (.iload 4, 2) := by decide +kernel
theorem d_22_124 : decode prog_1_method_23_code 124 = .ok (.iconst 3, 1) := by decide +kernel
theorem d_22_125 : decode prog_1_method_23_code 125 = .ok (.if_icmp .ge 23, 3) := by decide +kernel
theorem d_22_128 : decode prog_1_method_23_code 128 = .ok (.aload_n 3, 1) := by decide +kernel
theorem d_22_129 : decode prog_1_method_23_code 129 = .ok (.getfield 98, 3) := by decide +kernel
theorem d_22_132 : decode prog_1_method_23_code 132 = .ok (.iload 4, 2) := by decide +kernel
theorem d_22_134 : decode prog_1_method_23_code 134 = .ok (.aload_n 2, 1) := by decide +kernel
theorem d_22_135 : decode prog_1_method_23_code 135 = .ok (.getfield 98, 3) := by decide +kernel
theorem d_22_138 : decode prog_1_method_23_code 138 = .ok (.iload 4, 2) := by decide +kernel
theorem d_22_140 : decode prog_1_method_23_code 140 = .ok (.iaload, 1) := by decide +kernel
theorem d_22_141 : decode prog_1_method_23_code 141 = .ok (.iastore, 1) := by decide +kernel
theorem d_22_142 : decode prog_1_method_23_code 142 = .ok (.iinc 4 1, 3) := by decide +kernel
theorem d_22_145 : decode prog_1_method_23_code 145 = .ok (.goto (-23), 3) := by decide +kernel
theorem d_22_148 : decode prog_1_method_23_code 148 = .ok (.aload_n 3, 1) := by decide +kernel
theorem d_22_149 : decode prog_1_method_23_code 149 = .ok (.getfield 98, 3) := by decide +kernel
theorem d_22_152 : decode prog_1_method_23_code 152 = .ok (.iload_n 1, 1) := by decide +kernel
theorem d_22_153 : decode prog_1_method_23_code 153 = .ok (.aload_n 0, 1) := by decide +kernel
theorem d_22_154 : decode prog_1_method_23_code 154 = .ok (.getfield 50, 3) := by decide +kernel
theorem d_22_157 : decode prog_1_method_23_code 157 = .ok (.invokestatic 213, 3) := by decide +kernel
theorem d_22_160 : decode prog_1_method_23_code 160 = .ok (.iastore, 1) := by decide +kernel
theorem d_22_161 : decode prog_1_method_23_code 161 = .ok (.return_, 1) := by decide +kernel
theorem d_23_0 : decode prog_1_method_24_code 0 = .ok (.aload_n 2, 1) := by decide +kernel
theorem d_23_1 : decode prog_1_method_24_code 1 = .ok (.iconst 0, 1) := by decide +kernel
theorem d_23_2 : decode prog_1_method_24_code 2 = .ok (.putfield 150, 3) := by decide +kernel
theorem d_23_5 : decode prog_1_method_24_code 5 = .ok (.aload_n 2, 1) := by decide +kernel
theorem d_23_6 : decode prog_1_method_24_code 6 = .ok (.aload_n 1, 1) := by decide +kernel
theorem d_23_7 : decode prog_1_method_24_code 7 = .ok (.getfield 93, 3) := by decide +kernel
theorem d_23_10 : decode prog_1_method_24_code 10 = .ok (.putfield 93, 3) := by decide +kernel
theorem d_23_13 : decode prog_1_method_24_code 13 = .ok (.iconst 0, 1) := by decide +kernel
theorem d_23_14 : decode prog_1_method_24_code 14 = .ok (.istore_n 3, 1) := by decide +kernel
theorem d_23_15 : decode prog_1_method_24_code 15 = .ok (.iload_n 3, 1) := by decide +kernel
theorem d_23_16 : decode prog_1_method_24_code 16 = .ok (.aload_n 0, 1) := by decide +kernel
theorem d_23_17 : decode prog_1_method_24_code 17 = .ok (.getfield 19, 3) := by decide +kernel
theorem d_23_20 : decode prog_1_method_24_code 20 = .ok (.getfield 238, 3) := by decide +kernel
theorem d_23_23 : decode prog_1_method_24_code 23 = .ok (.if_icmp .ge 84, 3) := by decide +kernel
theorem d_23_26 : decode prog_1_method_24_code 26 = .ok (.aload_n 0, 1) := by decide +kernel
theorem d_23_27 : decode prog_1_method_24_code 27 = .ok (.getfield 19, 3) := by decide +kernel
theorem d_23_30 : decode prog_1_method_24_code 30 = .ok (.getfield 239, 3) := by decide +kernel
theorem d_23_33 : decode prog_1_method_24_code 33 = .ok (.iload_n 3, 1) := by decide +kernel
theorem d_23_34 : decode prog_1_method_24_code 34 = .ok (.iaload, 1) := by decide +kernel
theorem d_23_35 : decode prog_1_method_24_code 35 = .ok (.iconst (-1), 1) := by decide +kernel
theorem d_23_36 : decode prog_1_method_24_code 36 = .ok (.if_icmp .ne 65, 3) := by decide +kernel
theorem d_23_39 : decode prog_1_method_24_code 39 = .ok (.aload_n 2, 1) := by decide +kernel
theorem d_23_40 : decode prog_1_method_24_code 40 = .ok (.dup, 1) := by decide +kernel
theorem d_23_41 : decode prog_1_method_24_code 41 = .ok (.getfield 150, 3) := by decide +kernel
theorem d_23_44 : decode prog_1_method_24_code 44 = .ok (.iconst 1, 1) := by decide +kernel
theorem d_23_45 : decode prog_1_method_24_code 45 = .ok (.iadd, 1) := by decide +kernel
theorem d_23_46 : decode prog_1_method_24_code 46 = .ok (.putfield 150, 3) := by decide +kernel
theorem d_23_49 : decode prog_1_method_24_code 49 = .ok (.aload_n 2, 1) := by decide +kernel
theorem d_23_50 : decode prog_1_method_24_code 50 = .ok (.dup, 1) := by decide +kernel
theorem d_23_51 : decode prog_1_method_24_code 51 = .ok (.getfield 93, 3) := by decide +kernel
theorem d_23_54 : decode prog_1_method_24_code 54 = .ok (.aload_n 1, 1) := by decide +kernel
theorem d_23_55 : decode prog_1_method_24_code 55 = .ok (.getfield 126, 3) := by decide +kernel
theorem d_23_58 : decode prog_1_method_24_code 58 = .ok (.iload_n 3, 1) := by decide +kernel
theorem d_23_59 : decode prog_1_method_24_code 59 = .ok (.iaload, 1) := by decide +kernel
theorem d_23_60 : decode prog_1_method_24_code 60 = .ok (.iadd, 1) := by decide +kernel
theorem d_23_61 : decode prog_1_method_24_code 61 = .ok (.putfield 93, 3) := by decide +kernel
theorem d_23_64 : decode prog_1_method_24_code 64 = .ok (.iconst 0, 1) := by decide +kernel
theorem d_23_65 : decode prog_1_method_24_code 65 = .ok (.istore 4, 2) := by decide +kernel
theorem d_23_67 : decode prog_1_method_24_code 67 = .ok (.iload 4, 2) := by decide +kernel
theorem d_23_69 : decode prog_1_method_24_code 69 = .ok (.aload_n 1, 1) := by decide +kernel
theorem d_23_70 : decode prog_1_method_24_code 70 = .ok (.getfield 126, 3) := by decide +kernel
theorem d_23_73 : decode prog_1_method_24_code 73 = .ok (.iload_n 3, 1) := by decide +kernel
theorem d_23_74 : decode prog_1_method_24_code 74 = .ok (.iaload, 1) := by decide +kernel
theorem d_23_75 : decode prog_1_method_24_code 75 = .ok (.if_icmp .ge 26, 3) := by decide +kernel
theorem d_23_78 : decode prog_1_method_24_code 78 = .ok (.aload_n 0, 1) := by decide +kernel
theorem d_23_79 : decode prog_1_method_24_code 79 = .ok (.getfield 33, 3) := by decide +kernel
theorem d_23_82 : decode prog_1_method_24_code 82 = .ok (.getfield 129, 3) := by decide +kernel
theorem d_23_85 : decode prog_1_method_24_code 85 = .ok (.aload_n 1, 1) := by decide +kernel
theorem d_23_86 : decode prog_1_method_24_code 86 = .ok (.iload_n 3, 1) := by decide +kernel
theorem d_23_87 : decode prog_1_method_24_code 87 = .ok (.iload 4, 2) := by decide +kernel
theorem d_23_89 : decode prog_1_method_24_code 89 = .ok (.invokevirtual 132, 3) := by decide +kernel
theorem d_23_92 : decode prog_1_method_24_code 92 = .ok (.bipush (-2), 2) := by decide +kernel
theorem d_23_94 : decode prog_1_method_24_code 94 = .ok (.iastore, 1) := by decide +kernel
theorem d_23_95 : decode prog_1_method_24_code 95 = .ok (.iinc 4 1, 3) := by decide +kernel
theorem d_23_98 : decode prog_1_method_24_code 98 = .ok (.goto (-31), 3) := by decide +kernel
theorem d_23_101 : decode prog_1_method_24_code 101 = .ok (.iinc 3 1, 3) := by decide +kernel
theorem d_23_104 : decode prog_1_method_24_code 104 = .ok (.goto (-89), 3) := by decide +kernel
theorem d_23_107 : decode prog_1_method_24_code 107 = .ok (.return_, 1) := by decide +kernel
theorem d_24_0 : decode prog_1_method_25_code 0 = .ok (.iconst 0, 1) := by decide +kernel
theorem d_24_1 : decode prog_1_method_25_code 1 = .ok (.istore 4, 2) := by decide +kernel
theorem d_24_3 : decode prog_1_method_25_code 3 = .ok (.iload 4, 2) := by decide +kernel
theorem d_24_5 : decode prog_1_method_25_code 5 = .ok (.aload_n 0, 1) := by decide +kernel
theorem d_24_6 : decode prog_1_method_25_code 6 = .ok (.getfield 19, 3) := by decide +kernel
theorem d_24_9 : decode prog_1_method_25_code 9 = .ok (.getfield 238, 3) := by decide +kernel
theorem d_24_12 : decode prog_1_method_25_code 12 = .ok (.if_icmp .ge 92, 3) := by decide +kernel
theorem d_24_15 : decode prog_1_method_25_code 15 = .ok (.aload_n 0, 1) := by decide +kernel
theorem d_24_16 : decode prog_1_method_25_code 16 = .ok (.getfield 19, 3) := by decide +kernel
theorem d_24_19 : decode prog_1_method_25_code 19 = .ok (.getfield 239, 3) := by decide +kernel
theorem d_24_22 : decode prog_1_method_25_code 22 = .ok (.iload 4, 2) := by decide +kernel
theorem d_24_24 : decode prog_1_method_25_code 24 = .ok (.iaload, 1) := by decide +kernel
theorem d_24_25 : decode prog_1_method_25_code 25 = .ok (.istore 5, 2) := by decide +kernel
theorem d_24_27 : decode prog_1_method_25_code 27 = .ok (.iload 5, 2) := by decide +kernel
theorem d_24_29 : decode prog_1_method_25_code 29 = .ok (.iconst (-1), 1) := by decide +kernel
theorem d_24_30 : decode prog_1_method_25_code 30 = .ok (.if_icmp .eq 68, 3) := by decide +kernel
theorem d_24_33 : decode prog_1_method_25_code 33 = .ok (.aload_n 0, 1) := by decide +kernel
theorem d_24_34 : decode prog_1_method_25_code 34 = .ok (.getfield 19, 3) := by decide +kernel
theorem d_24_37 : decode prog_1_method_25_code 37 = .ok (.getfield 242, 3) := by decide +kernel
theorem d_24_40 : decode prog_1_method_25_code 40 = .ok (.iload 4, 2) := by decide +kernel
theorem d_24_42 : decode prog_1_method_25_code 42 = .ok (.baload, 1) := by decide +kernel
theorem d_24_43 : decode prog_1_method_25_code 43 = .ok (.iload_n 3, 1) := by decide +kernel
theorem d_24_44 : decode prog_1_method_25_code 44 = .ok (.if_icmp .ne 54, 3) := by decide +kernel
theorem d_24_47 : decode prog_1_method_25_code 47 = .ok (.iconst 0, 1) := by decide +kernel
theorem d_24_48 : decode prog_1_method_25_code 48 = .ok (.istore 6, 2) := by decide +kernel
theorem d_24_50 : decode prog_1_method_25_code 50 = .ok (.iload 6, 2) := by decide +kernel
theorem d_24_52 : decode prog_1_method_25_code 52 = .ok (.aload_n 1, 1) := by decide +kernel
theorem d_24_53 : decode prog_1_method_25_code 53 = .ok (.getfield 126, 3) := by decide +kernel
theorem d_24_56 : decode prog_1_method_25_code 56 = .ok (.iload 4, 2) := by decide +kernel
theorem d_24_58 : decode prog_1_method_25_code 58 = .ok (.iaload, 1) := by decide +kernel
theorem d_24_59 : decode prog_1_method_25_code 59 = .ok (.if_icmp .ge 39, 3) := by decide +kernel
theorem d_24_62 : decode prog_1_method_25_code 62 = .ok (.aload_n 1, 1) := by decide +kernel
theorem d_24_63 : decode prog_1_method_25_code 63 = .ok (.iload 4, 2) := by decide +kernel
theorem d_24_65 : decode prog_1_method_25_code 65 = .ok (.iload 6, 2) := by decide +kernel
theorem d_24_67 : decode prog_1_method_25_code 67 = .ok (.invokevirtual 132, 3) := by decide +kernel
theorem d_24_70 : decode prog_1_method_25_code 70 = .ok (.istore 7, 2) := by decide +kernel
theorem d_24_72 : decode prog_1_method_25_code 72 = .ok (.aload_n 2, 1) := by decide +kernel
theorem d_24_73 : decode prog_1_method_25_code 73 = .ok (.iload 5, 2) := by decide +kernel
theorem d_24_75 : decode prog_1_method_25_code 75 = .ok (.iload 7, 2) := by decide +kernel
theorem d_24_77 : decode prog_1_method_25_code 77 = .ok (.invokevirtual 87, 3) := by decide +kernel
theorem d_24_80 : decode prog_1_method_25_code 80 = .ok (.aload_n 0, 1) := by decide +kernel
theorem d_24_81 : decode prog_1_method_25_code 81 = .ok (.getfield 33, 3) := by decide +kernel
theorem d_24_84 : decode prog_1_method_25_code 84 = .ok (.getfield 129, 3) := by decide +kernel
theorem d_24_87 : decode prog_1_method_25_code 87 = .ok (.iload 7, 2) := by decide +kernel
theorem d_24_89 : decode prog_1_method_25_code 89 = .ok (.iload 5, 2) := by decide +kernel
theorem d_24_91 : decode prog_1_method_25_code 91 = .ok (.iastore, 1) := by decide +kernel
theorem d_24_92 : decode prog_1_method_25_code 92 = .ok (.iinc 6 1, 3) := by decide +kernel
theorem d_24_95 : decode prog_1_method_25_code 95 = .ok (.goto (-45), 3) := by decide +kernel
theorem d_24_98 : decode prog_1_method_25_code 98 = .ok (.iinc 4 1, 3) := by decide +kernel
theorem d_24_101 : decode prog_1_method_25_code 101 = .ok (.goto (-98), 3) := by decide +kernel
theorem d_24_104 : decode prog_1_method_25_code 104 = .ok (.return_, 1) := by decide +kernel
theorem d_25_0 : decode prog_1_method_26_code 0 = .ok (.aload_n 2, 1) := by decide +kernel
theorem d_25_1 : decode prog_1_method_26_code 1 = .ok (.aload_n 1, 1) := by decide +kernel
theorem d_25_2 : decode prog_1_method_26_code 2 = .ok (.getfield 96, 3) := by decide +kernel
theorem d_25_5 : decode prog_1_method_26_code 5 = .ok (.putfield 96, 3) := by decide +kernel
theorem d_25_8 : decode prog_1_method_26_code 8 = .ok (.aload_n 2, 1) := by decide +kernel
theorem d_25_9 : decode prog_1_method_26_code 9 = .ok (.iconst 0, 1) := by decide +kernel
theorem d_25_10 : decode prog_1_method_26_code 10 = .ok (.putfield 156, 3) := by decide +kernel
theorem d_25_13 : decode prog_1_method_26_code 13 = .ok (.iconst 0, 1) := by decide +kernel
theorem d_25_14 : decode prog_1_method_26_code 14 = .ok (.istore_n 3, 1) := by decide +kernel
theorem d_25_15 : decode prog_1_method_26_code 15 = .ok (.iload_n 3, 1) := by decide +kernel
theorem d_25_16 : decode prog_1_method_26_code 16 = .ok (.aload_n 0, 1) := by decide +kernel
theorem d_25_17 : decode prog_1_method_26_code 17 = .ok (.getfield 12, 3) := by decide +kernel
theorem d_25_20 : decode prog_1_method_26_code 20 = .ok (.getfield 246, 3) := by decide +kernel
theorem d_25_23 : decode prog_1_method_26_code 23 = .ok (.if_icmp .ge 75, 3) := by decide +kernel
theorem d_25_26 : decode prog_1_method_26_code 26 = .ok (.aload_n 0, 1) := by decide +kernel
theorem d_25_27 : decode prog_1_method_26_code 27 = .ok (.getfield 12, 3) := by decide +kernel
theorem d_25_30 : decode prog_1_method_26_code 30 = .ok (.getfield 249, 3) := by decide +kernel
theorem d_25_33 : decode prog_1_method_26_code 33 = .ok (.iload_n 3, 1) := by decide +kernel
theorem d_25_34 : decode prog_1_method_26_code 34 = .ok (.aaload, 1) := by decide +kernel
theorem d_25_35 : decode prog_1_method_26_code 35 = .ok (.invokevirtual 253, 3) := by decide +kernel
theorem d_25_38 : decode prog_1_method_26_code 38 = .ok (.ifCond .eq 54, 3) := by decide +kernel
theorem d_25_41 : decode prog_1_method_26_code 41 = .ok (.aload_n 0, 1) := by decide +kernel
theorem d_25_42 : decode prog_1_method_26_code 42 = .ok (.getfield 40, 3) := by decide +kernel
theorem d_25_45 : decode prog_1_method_26_code 45 = .ok (.aload_n 2, 1) := by decide +kernel
theorem d_25_46 : decode prog_1_method_26_code 46 = .ok (.getfield 96, 3) := by decide +kernel
theorem d_25_49 : decode prog_1_method_26_code 49 = .ok (.aload_n 0, 1) := by decide +kernel
theorem d_25_50 : decode prog_1_method_26_code 50 = .ok (.getfield 12, 3) := by decide +kernel
theorem d_25_53 : decode prog_1_method_26_code 53 = .ok (.getfield 249, 3) := by decide +kernel
theorem d_25_56 : decode prog_1_method_26_code 56 = .ok (.iload_n 3, 1) := by decide +kernel
theorem d_25_57 : decode prog_1_method_26_code 57 = .ok (.aaload, 1) := by decide +kernel
theorem d_25_58 : decode prog_1_method_26_code 58 = .ok (.invokevirtual 259, 3) := by decide +kernel
theorem d_25_61 : decode prog_1_method_26_code 61 = .ok (.aload_n 2, 1) := by decide +kernel
theorem d_25_62 : decode prog_1_method_26_code 62 = .ok (.dup, 1) := by decide +kernel
theorem d_25_63 : decode prog_1_method_26_code 63 = .ok (.getfield 156, 3) := by decide +kernel
theorem d_25_66 : decode prog_1_method_26_code 66 = .ok (.aload_n 0, 1) := by decide +kernel
theorem d_25_67 : decode prog_1_method_26_code 67 = .ok (.getfield 40, 3) := by decide +kernel
theorem d_25_70 : decode prog_1_method_26_code 70 = .ok (.aload_n 2, 1) := by decide +kernel
theorem d_25_71 : decode prog_1_method_26_code 71 = .ok (.getfield 96, 3) := by decide +kernel
theorem d_25_74 : decode prog_1_method_26_code 74 = .ok (.aload_n 1, 1) := by decide +kernel
theorem d_25_75 : decode prog_1_method_26_code 75 = .ok (.invokevirtual 181, 3) := by decide +kernel
theorem d_25_78 : decode prog_1_method_26_code 78 = .ok (.iadd, 1) := by decide +kernel
theorem d_25_79 : decode prog_1_method_26_code 79 = .ok (.putfield 156, 3) := by decide +kernel
theorem d_25_82 : decode prog_1_method_26_code 82 = .ok (.aload_n 2, 1) := by decide +kernel
theorem d_25_83 : decode prog_1_method_26_code 83 = .ok (.dup, 1) := by decide +kernel
theorem d_25_84 : decode prog_1_method_26_code 84 = .ok (.getfield 96, 3) := by decide +kernel
theorem d_25_87 : decode prog_1_method_26_code 87 = .ok (.iconst 1, 1) := by decide +kernel
theorem d_25_88 : decode prog_1_method_26_code 88 = .ok (.iadd, 1) := by decide +kernel
theorem d_25_89 : decode prog_1_method_26_code 89 = .ok (.putfield 96, 3) := by decide +kernel
theorem d_25_92 : decode prog_1_method_26_code 92 = .ok (.iinc 3 1, 3) := by decide +kernel
theorem d_25_95 : decode prog_1_method_26_code 95 = .ok (.goto (-80), 3) := by decide +kernel
theorem d_25_98 : decode prog_1_method_26_code 98 = .ok (.return_, 1) := by decide +kernel
theorem d_26_0 : decode prog_1_method_27_code 0 = .ok (.aload_n 2, 1) := by decide +kernel
theorem d_26_1 : decode prog_1_method_27_code 1 = .ok (.aload_n 1, 1) := by decide +kernel
theorem d_26_2 : decode prog_1_method_27_code 2 = .ok (.getfield 91, 3) := by decide +kernel
theorem d_26_5 : decode prog_1_method_27_code 5 = .ok (.putfield 91, 3) := by decide +kernel
theorem d_26_8 : decode prog_1_method_27_code 8 = .ok (.iconst 0, 1) := by decide +kernel
theorem d_26_9 : decode prog_1_method_27_code 9 = .ok (.istore 4, 2) := by decide +kernel
theorem d_26_11 : decode prog_1_method_27_code 11 = .ok (.iload 4, 2) := by decide +kernel
theorem d_26_13 : decode prog_1_method_27_code 13 = .ok (.aload_n 2, 1) := by decide +kernel
theorem d_26_14 : decode prog_1_method_27_code 14 = .ok (.getfield 101, 3) := by decide +kernel
theorem d_26_17 : decode prog_1_method_27_code 17 = .ok (.if_icmp .ge 132, 3) := by decide +kernel
theorem d_26_20 : decode prog_1_method_27_code 20 = .ok (.aload_n 0, 1) := by decide +kernel
theorem d_26_21 : decode prog_1_method_27_code 21 = .ok (.getfield 50, 3) := by decide +kernel
theorem d_26_24 : decode prog_1_method_27_code 24 = .ok (.invokestatic 213, 3) := by decide +kernel
theorem d_26_27 : decode prog_1_method_27_code 27 = .ok (.ifCond .ne 15, 3) := by decide +kernel
theorem d_26_30 : decode prog_1_method_27_code 30 = .ok (.aload_n 2, 1) := by decide +kernel
theorem d_26_31 : decode prog_1_method_27_code 31 = .ok (.getfield 101, 3) := by decide +kernel
theorem d_26_34 : decode prog_1_method_27_code 34 = .ok (.iconst 1, 1) := by decide +kernel
theorem d_26_35 : decode prog_1_method_27_code 35 = .ok (.isub, 1) := by decide +kernel
theorem d_26_36 : decode prog_1_method_27_code 36 = .ok (.iload 4, 2) := by decide +kernel
theorem d_26_38 : decode prog_1_method_27_code 38 = .ok (.isub, 1) := by decide +kernel
theorem d_26_39 : decode prog_1_method_27_code 39 = .ok (.goto 5, 3) := by decide +kernel
theorem d_26_42 : decode prog_1_method_27_code 42 = .ok (.iload 4, 2) := by decide +kernel
theorem d_26_44 : decode prog_1_method_27_code 44 = .ok (.istore 5, 2) := by decide +kernel
theorem d_26_46 : decode prog_1_method_27_code 46 = .ok (.aload_n 0, 1) := by decide +kernel
theorem d_26_47 : decode prog_1_method_27_code 47 = .ok (.getfield 19, 3) := by decide +kernel
theorem d_26_50 : decode prog_1_method_27_code 50 = .ok (.getfield 263, 3) := by decide +kernel
theorem d_26_53 : decode prog_1_method_27_code 53 = .ok (.iload 5, 2) := by decide +kernel
theorem d_26_55 : decode prog_1_method_27_code 55 = .ok (.aaload, 1) := by decide +kernel
theorem d_26_56 : decode prog_1_method_27_code 56 = .ok (.astore 6, 2) := by decide +kernel
theorem d_26_58 : decode prog_1_method_27_code 58 = .ok (.aload_n 2, 1) := by decide +kernel
theorem d_26_59 : decode prog_1_method_27_code 59 = .ok (.getfield 84, 3) := by decide +kernel
theorem d_26_62 : decode prog_1_method_27_code 62 = .ok (.iload 5, 2) := by decide +kernel
theorem d_26_64 : decode prog_1_method_27_code 64 = .ok (.aload 6, 2) := by decide +kernel
theorem d_26_66 : decode prog_1_method_27_code 66 = .ok (.aload_n 1, 1) := by decide +kernel
theorem d_26_67 : decode prog_1_method_27_code 67 = .ok (.invokevirtual 266, 3) := by decide +kernel
theorem d_26_70 : decode prog_1_method_27_code 70 = .ok (.iastore, 1) := by decide +kernel
theorem d_26_71 : decode prog_1_method_27_code 71 = .ok (.aload 6, 2) := by decide +kernel
theorem d_26_73 : decode prog_1_method_27_code 73 = .ok (.invokevirtual 269, 3) := by decide +kernel
theorem d_26_76 : decode prog_1_method_27_code 76 = .ok (.ifCond .eq 67, 3) := by decide +kernel
theorem d_26_79 : decode prog_1_method_27_code 79 = .ok (.aload_n 2, 1) := by decide +kernel
theorem d_26_80 : decode prog_1_method_27_code 80 = .ok (.getfield 91, 3) := by decide +kernel
theorem d_26_83 : decode prog_1_method_27_code 83 = .ok (.istore 7, 2) := by decide +kernel
theorem d_26_85 : decode prog_1_method_27_code 85 = .ok (.aload_n 0, 1) := by decide +kernel
theorem d_26_86 : decode prog_1_method_27_code 86 = .ok (.getfield 33, 3) := by decide +kernel
theorem d_26_89 : decode prog_1_method_27_code 89 = .ok (.iload 7, 2) := by decide +kernel
theorem d_26_91 : decode prog_1_method_27_code 91 = .ok (.aload_n 0, 1) := by decide +kernel
theorem d_26_92 : decode prog_1_method_27_code 92 = .ok (.getfield 50, 3) := by decide +kernel
theorem d_26_95 : decode prog_1_method_27_code 95 = .ok (.iload 5, 2) := by decide +kernel
theorem d_26_97 : decode prog_1_method_27_code 97 = .ok (.aload_n 2, 1) := by decide +kernel
theorem d_26_98 : decode prog_1_method_27_code 98 = .ok (.getfield 84, 3) := by decide +kernel
theorem d_26_101 : decode prog_1_method_27_code 101 = .ok (.iload 5, 2) := by decide +kernel
theorem d_26_103 : decode prog_1_method_27_code 103 = .ok (.iaload, 1) := by decide +kernel
theorem d_26_104 : decode prog_1_method_27_code 104 = .ok (.iload_n 3, 1) := by decide +kernel
theorem d_26_105 : decode prog_1_method_27_code 105 = .ok (.invokevirtual 80, 3) := by decide +kernel
theorem d_26_108 : decode prog_1_method_27_code 108 = .ok (.aload 6, 2) := by decide +kernel
theorem d_26_110 : decode prog_1_method_27_code 110 = .ok (.invokevirtual 272, 3) := by decide +kernel
theorem d_26_113 : decode prog_1_method_27_code 113 = .ok (.ifCond .ne 12, 3) := by decide +kernel
theorem d_26_116 : decode prog_1_method_27_code 116 = .ok (.aload_n 0, 1) := by decide +kernel
theorem d_26_117 : decode prog_1_method_27_code 117 = .ok (.aload_n 2, 1) := by decide +kernel
theorem d_26_118 : decode prog_1_method_27_code 118 = .ok (.iload 5, 2) := by decide +kernel
theorem d_26_120 : decode prog_1_method_27_code 120 = .ok (.iload 7, 2) := by decide +kernel
theorem d_26_122 : decode prog_1_method_27_code 122 = .ok (.invokevirtual 275, 3) := by decide +kernel
theorem d_26_125 : decode prog_1_method_27_code 125 = .ok (.aload_n 2, 1) := by decide +kernel
theorem d_26_126 : decode prog_1_method_27_code 126 = .ok (.iload 5, 2) := by decide +kernel
theorem d_26_128 : decode prog_1_method_27_code 128 = .ok (.iload 7, 2) := by decide +kernel
theorem d_26_130 : decode prog_1_method_27_code 130 = .ok (.invokevirtual 87, 3) := by decide +kernel
theorem d_26_133 : decode prog_1_method_27_code 133 = .ok (.aload_n 2, 1) := by decide +kernel
theorem d_26_134 : decode prog_1_method_27_code 134 = .ok (.dup, 1) := by decide +kernel
theorem d_26_135 : decode prog_1_method_27_code 135 = .ok (.getfield 91, 3) := by decide +kernel
theorem d_26_138 : decode prog_1_method_27_code 138 = .ok (.iconst 1, 1) := by decide +kernel
theorem d_26_139 : decode prog_1_method_27_code 139 = .ok (.iadd, 1) := by decide +kernel
theorem d_26_140 : decode prog_1_method_27_code 140 = .ok (.putfield 91, 3) := by decide +kernel
theorem d_26_143 : decode prog_1_method_27_code 143 = .ok (.iinc 4 1, 3) := by decide +kernel
theorem d_26_146 : decode prog_1_method_27_code 146 = .ok (.goto (-135), 3) := by decide +kernel
theorem d_26_149 : decode prog_1_method_27_code 149 = .ok (.return_, 1) := by decide +kernel
theorem d_27_0 : decode prog_1_method_28_code 0 = .ok (.iconst 0, 1) := by decide +kernel
theorem d_27_1 : decode prog_1_method_28_code 1 = .ok (.istore 4, 2) := by decide +kernel
theorem d_27_3 : decode prog_1_method_28_code 3 = .ok (.iload 4, 2) := by decide +kernel
theorem d_27_5 : decode prog_1_method_28_code 5 = .ok (.aload_n 1, 1) := by decide +kernel
theorem d_27_6 : decode prog_1_method_28_code 6 = .ok (.getfield 126, 3) := by decide +kernel
theorem d_27_9 : decode prog_1_method_28_code 9 = .ok (.iload_n 2, 1) := by decide +kernel
theorem d_27_10 : decode prog_1_method_28_code 10 = .ok (.iaload, 1) := by decide +kernel
theorem d_27_11 : decode prog_1_method_28_code 11 = .ok (.if_icmp .ge 45, 3) := by decide +kernel
theorem d_27_14 : decode prog_1_method_28_code 14 = .ok (.aload_n 1, 1) := by decide +kernel
theorem d_27_15 : decode prog_1_method_28_code 15 = .ok (.iload_n 2, 1) := by decide +kernel
theorem d_27_16 : decode prog_1_method_28_code 16 = .ok (.iload 4, 2) := by decide +kernel
theorem d_27_18 : decode prog_1_method_28_code 18 = .ok (.invokevirtual 132, 3) := by decide +kernel
theorem d_27_21 : decode prog_1_method_28_code 21 = .ok (.istore 5, 2) := by decide +kernel
theorem d_27_23 : decode prog_1_method_28_code 23 = .ok (.aload_n 0, 1) := by decide +kernel
theorem d_27_24 : decode prog_1_method_28_code 24 = .ok (.getfield 33, 3) := by decide +kernel
theorem d_27_27 : decode prog_1_method_28_code 27 = .ok (.getfield 166, 3) := by decide +kernel
theorem d_27_30 : decode prog_1_method_28_code 30 = .ok (.iload_n 3, 1) := by decide +kernel
theorem d_27_31 : decode prog_1_method_28_code 31 = .ok (.iconst 4, 1) := by decide +kernel
theorem d_27_32 : decode prog_1_method_28_code 32 = .ok (.imul, 1) := by decide +kernel
theorem d_27_33 : decode prog_1_method_28_code 33 = .ok (.iload 4, 2) := by decide +kernel
theorem d_27_35 : decode prog_1_method_28_code 35 = .ok (.iadd, 1) := by decide +kernel
theorem d_27_36 : decode prog_1_method_28_code 36 = .ok (.iload 5, 2) := by decide +kernel
theorem d_27_38 : decode prog_1_method_28_code 38 = .ok (.iastore, 1) := by decide +kernel
theorem d_27_39 : decode prog_1_method_28_code 39 = .ok (.aload_n 0, 1) := by decide +kernel
theorem d_27_40 : decode prog_1_method_28_code 40 = .ok (.getfield 33, 3) := by decide +kernel
theorem d_27_43 : decode prog_1_method_28_code 43 = .ok (.getfield 129, 3) := by decide +kernel
theorem d_27_46 : decode prog_1_method_28_code 46 = .ok (.iload 5, 2) := by decide +kernel
theorem d_27_48 : decode prog_1_method_28_code 48 = .ok (.iconst (-1), 1) := by decide +kernel
theorem d_27_49 : decode prog_1_method_28_code 49 = .ok (.iastore, 1) := by decide +kernel
theorem d_27_50 : decode prog_1_method_28_code 50 = .ok (.iinc 4 1, 3) := by decide +kernel
theorem d_27_53 : decode prog_1_method_28_code 53 = .ok (.goto (-50), 3) := by decide +kernel
theorem d_27_56 : decode prog_1_method_28_code 56 = .ok (.aload_n 1, 1) := by decide +kernel
theorem d_27_57 : decode prog_1_method_28_code 57 = .ok (.getfield 126, 3) := by decide +kernel
theorem d_27_60 : decode prog_1_method_28_code 60 = .ok (.iload_n 2, 1) := by decide +kernel
theorem d_27_61 : decode prog_1_method_28_code 61 = .ok (.iconst 0, 1) := by decide +kernel
theorem d_27_62 : decode prog_1_method_28_code 62 = .ok (.iastore, 1) := by decide +kernel
theorem d_27_63 : decode prog_1_method_28_code 63 = .ok (.return_, 1) := by decide +kernel
