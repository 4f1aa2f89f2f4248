theorem d_28_0 : decode prog_2_method_1_code 0 = .ok (.aload_n 0, 1) := by decide +kernel
theorem d_28_1 : decode prog_2_method_1_code 1 = .ok (.invokespecial 3, 3) := by decide +kernel
theorem d_28_4 : decode prog_2_method_1_code 4 = .ok (.aload_n 0, 1) := by decide +kernel
theorem d_28_5 : decode prog_2_method_1_code 5 = .ok (.bipush 40, 2) := by decide +kernel
theorem d_28_7 : decode prog_2_method_1_code 7 = .ok (.newarray .int, 2) := by decide +kernel
theorem d_28_9 : decode prog_2_method_1_code 9 = .ok (.putfield 9, 3) := by decide +kernel
theorem d_28_12 : decode prog_2_method_1_code 12 = .ok (.aload_n 0, 1) := by decide +kernel
theorem d_28_13 : decode prog_2_method_1_code 13 = .ok (.iconst 0, 1) := by decide +kernel
theorem d_28_14 : decode prog_2_method_1_code 14 = .ok (.putfield 15, 3) := by decide +kernel
theorem d_28_17 : decode prog_2_method_1_code 17 = .ok (.aload_n 0, 1) := by decide +kernel
theorem d_28_18 : decode prog_2_method_1_code 18 = .ok (.bipush 40, 2) := by decide +kernel
theorem d_28_20 : decode prog_2_method_1_code 20 = .ok (.anewarray 19, 3) := by decide +kernel
theorem d_28_23 : decode prog_2_method_1_code 23 = .ok (.putfield 21, 3) := by decide +kernel
theorem d_28_26 : decode prog_2_method_1_code 26 = .ok (.aload_n 0, 1) := by decide +kernel
theorem d_28_27 : decode prog_2_method_1_code 27 = .ok (.iconst 0, 1) := by decide +kernel
theorem d_28_28 : decode prog_2_method_1_code 28 = .ok (.putfield 25, 3) := by decide +kernel
theorem d_28_31 : decode prog_2_method_1_code 31 = .ok (.aload_n 0, 1) := by decide +kernel
theorem d_28_32 : decode prog_2_method_1_code 32 = .ok (.iconst 0, 1) := by decide +kernel
theorem d_28_33 : decode prog_2_method_1_code 33 = .ok (.putfield 28, 3) := by decide +kernel
theorem d_28_36 : decode prog_2_method_1_code 36 = .ok (.aload_n 0, 1) := by decide +kernel
theorem d_28_37 : decode prog_2_method_1_code 37 = .ok (.iconst 0, 1) := by decide +kernel
theorem d_28_38 : decode prog_2_method_1_code 38 = .ok (.putfield 31, 3) := by decide +kernel
theorem d_28_41 : decode prog_2_method_1_code 41 = .ok (.aload_n 0, 1) := by decide +kernel
theorem d_28_42 : decode prog_2_method_1_code 42 = .ok (.iconst 0, 1) := by decide +kernel
theorem d_28_43 : decode prog_2_method_1_code 43 = .ok (.putfield 34, 3) := by decide +kernel
theorem d_28_46 : decode prog_2_method_1_code 46 = .ok (.iconst 0, 1) := by decide +kernel
theorem d_28_47 : decode prog_2_method_1_code 47 = .ok (.istore_n 1, 1) := by decide +kernel
theorem d_28_48 : decode prog_2_method_1_code 48 = .ok (.iload_n 1, 1) := by decide +kernel
theorem d_28_49 : decode prog_2_method_1_code 49 = .ok (.aload_n 0, 1) := by decide +kernel
theorem d_28_50 : decode prog_2_method_1_code 50 = .ok (.getfield 21, 3) := by decide +kernel
theorem d_28_53 : decode prog_2_method_1_code 53 = .ok (.arraylength, 1) := by decide +kernel
theorem d_28_54 : decode prog_2_method_1_code 54 = .ok (.if_icmp .ge 22, 3) := by decide +kernel
theorem d_28_57 : decode prog_2_method_1_code 57 = .ok (.aload_n 0, 1) := by decide +kernel
theorem d_28_58 : decode prog_2_method_1_code 58 = .ok (.getfield 21, 3) := by decide +kernel
theorem d_28_61 : decode prog_2_method_1_code 61 = .ok (.iload_n 1, 1) := by decide +kernel
theorem d_28_62 : decode prog_2_method_1_code 62 = .ok (.new 19, 3) := by decide +kernel
theorem d_28_65 : decode prog_2_method_1_code 65 = .ok (.dup, 1) := by decide +kernel
theorem d_28_66 : decode prog_2_method_1_code 66 = .ok (.invokespecial 37, 3) := by decide +kernel
theorem d_28_69 : decode prog_2_method_1_code 69 = .ok (.aastore, 1) := by decide +kernel
theorem d_28_70 : decode prog_2_method_1_code 70 = .ok (.iinc 1 1, 3) := by decide +kernel
theorem d_28_73 : decode prog_2_method_1_code 73 = .ok (.goto (-25), 3) := by decide +kernel
theorem d_28_76 : decode prog_2_method_1_code 76 = .ok (.return_, 1) := by decide +kernel
theorem d_29_0 : decode prog_2_method_2_code 0 = .ok (.aload_n 0, 1) := by decide +kernel
theorem d_29_1 : decode prog_2_method_2_code 1 = .ok (.iconst 0, 1) := by decide +kernel
theorem d_29_2 : decode prog_2_method_2_code 2 = .ok (.putfield 25, 3) := by decide +kernel
theorem d_29_5 : decode prog_2_method_2_code 5 = .ok (.aload_n 0, 1) := by decide +kernel
theorem d_29_6 : decode prog_2_method_2_code 6 = .ok (.iconst 0, 1) := by decide +kernel
theorem d_29_7 : decode prog_2_method_2_code 7 = .ok (.putfield 28, 3) := by decide +kernel
theorem d_29_10 : decode prog_2_method_2_code 10 = .ok (.aload_n 0, 1) := by decide +kernel
theorem d_29_11 : decode prog_2_method_2_code 11 = .ok (.iconst 0, 1) := by decide +kernel
theorem d_29_12 : decode prog_2_method_2_code 12 = .ok (.putfield 31, 3) := by decide +kernel
theorem d_29_15 : decode prog_2_method_2_code 15 = .ok (.aload_n 0, 1) := by decide +kernel
theorem d_29_16 : decode prog_2_method_2_code 16 = .ok (.iconst 0, 1) := by decide +kernel
theorem d_29_17 : decode prog_2_method_2_code 17 = .ok (.putfield 34, 3) := by decide +kernel
theorem d_29_20 : decode prog_2_method_2_code 20 = .ok (.iconst 0, 1) := by decide +kernel
theorem d_29_21 : decode prog_2_method_2_code 21 = .ok (.istore_n 1, 1) := by decide +kernel
theorem d_29_22 : decode prog_2_method_2_code 22 = .ok (.iload_n 1, 1) := by decide +kernel
theorem d_29_23 : decode prog_2_method_2_code 23 = .ok (.aload_n 0, 1) := by decide +kernel
theorem d_29_24 : decode prog_2_method_2_code 24 = .ok (.getfield 15, 3) := by decide +kernel
theorem d_29_27 : decode prog_2_method_2_code 27 = .ok (.if_icmp .ge 84, 3) := by decide +kernel
theorem d_29_30 : decode prog_2_method_2_code 30 = .ok (.aload_n 0, 1) := by decide +kernel
theorem d_29_31 : decode prog_2_method_2_code 31 = .ok (.getfield 9, 3) := by decide +kernel
theorem d_29_34 : decode prog_2_method_2_code 34 = .ok (.iload_n 1, 1) := by decide +kernel
theorem d_29_35 : decode prog_2_method_2_code 35 = .ok (.iaload, 1) := by decide +kernel
theorem d_29_36 : decode prog_2_method_2_code 36 = .ok (.invokestatic 38, 3) := by decide +kernel
theorem d_29_39 : decode prog_2_method_2_code 39 = .ok (.ifCond .ne 5, 3) := by decide +kernel
theorem d_29_42 : decode prog_2_method_2_code 42 = .ok (.iload_n 1, 1) := by decide +kernel
theorem d_29_43 : decode prog_2_method_2_code 43 = .ok (.ireturn, 1) := by decide +kernel
theorem d_29_44 : decode prog_2_method_2_code 44 = .ok (.aload_n 0, 1) := by decide +kernel
theorem d_29_45 : decode prog_2_method_2_code 45 = .ok (.getfield 9, 3) := by decide +kernel
theorem d_29_48 : decode prog_2_method_2_code 48 = .ok (.iload_n 1, 1) := by decide +kernel
theorem d_29_49 : decode prog_2_method_2_code 49 = .ok (.iaload, 1) := by decide +kernel
theorem d_29_50 : decode prog_2_method_2_code 50 = .ok (.invokestatic 42, 3) := by decide +kernel
theorem d_29_53 : decode prog_2_method_2_code 53 = .ok (.istore_n 2, 1) := by decide +kernel
theorem d_29_54 : decode prog_2_method_2_code 54 = .ok (.iload_n 2, 1) := by decide +kernel
theorem d_29_55 : decode prog_2_method_2_code 55 = .ok (.ifCond .eq 17, 3) := by decide +kernel
theorem d_29_58 : decode prog_2_method_2_code 58 = .ok (.aload_n 0, 1) := by decide +kernel
theorem d_29_59 : decode prog_2_method_2_code 59 = .ok (.iload_n 1, 1) := by decide +kernel
theorem d_29_60 : decode prog_2_method_2_code 60 = .ok (.iconst 1, 1) := by decide +kernel
theorem d_29_61 : decode prog_2_method_2_code 61 = .ok (.iadd, 1) := by decide +kernel
theorem d_29_62 : decode prog_2_method_2_code 62 = .ok (.invokevirtual 45, 3) := by decide +kernel
theorem d_29_65 : decode prog_2_method_2_code 65 = .ok (.ifCond .ne 7, 3) := by decide +kernel
theorem d_29_68 : decode prog_2_method_2_code 68 = .ok (.iload_n 1, 1) := by decide +kernel
theorem d_29_69 : decode prog_2_method_2_code 69 = .ok (.iconst 1, 1) := by decide +kernel
theorem d_29_70 : decode prog_2_method_2_code 70 = .ok (.iadd, 1) := by decide +kernel
theorem d_29_71 : decode prog_2_method_2_code 71 = .ok (.ireturn, 1) := by decide +kernel
theorem d_29_72 : decode prog_2_method_2_code 72 = .ok (.iload_n 2, 1) := by decide +kernel
theorem d_29_73 : decode prog_2_method_2_code 73 = .ok (.ifCond .eq 17, 3) := by decide +kernel
theorem d_29_76 : decode prog_2_method_2_code 76 = .ok (.aload_n 0, 1) := by decide +kernel
theorem d_29_77 : decode prog_2_method_2_code 77 = .ok (.iload_n 1, 1) := by decide +kernel
theorem d_29_78 : decode prog_2_method_2_code 78 = .ok (.iconst 2, 1) := by decide +kernel
theorem d_29_79 : decode prog_2_method_2_code 79 = .ok (.iadd, 1) := by decide +kernel
theorem d_29_80 : decode prog_2_method_2_code 80 = .ok (.invokevirtual 45, 3) := by decide +kernel
theorem d_29_83 : decode prog_2_method_2_code 83 = .ok (.ifCond .ne 7, 3) := by decide +kernel
theorem d_29_86 : decode prog_2_method_2_code 86 = .ok (.iload_n 1, 1) := by decide +kernel
theorem d_29_87 : decode prog_2_method_2_code 87 = .ok (.iconst 2, 1) := by decide +kernel
theorem d_29_88 : decode prog_2_method_2_code 88 = .ok (.iadd, 1) := by decide +kernel
theorem d_29_89 : decode prog_2_method_2_code 89 = .ok (.ireturn, 1) := by decide +kernel
theorem d_29_90 : decode prog_2_method_2_code 90 = .ok (.aload_n 0, 1) := by decide +kernel
theorem d_29_91 : decode prog_2_method_2_code 91 = .ok (.iload_n 1, 1) := by decide +kernel
theorem d_29_92 : decode prog_2_method_2_code 92 = .ok (.iload_n 2, 1) := by decide +kernel
theorem d_29_93 : decode prog_2_method_2_code 93 = .ok (.invokevirtual 49, 3) := by decide +kernel
theorem d_29_96 : decode prog_2_method_2_code 96 = .ok (.iload_n 1, 1) := by decide +kernel
theorem d_29_97 : decode prog_2_method_2_code 97 = .ok (.iload_n 2, 1) := by decide +kernel
theorem d_29_98 : decode prog_2_method_2_code 98 = .ok (.ifCond .eq 7, 3) := by decide +kernel
theorem d_29_101 : decode prog_2_method_2_code 101 = .ok (.iconst 3, 1) := by decide +kernel
theorem d_29_102 : decode prog_2_method_2_code 102 = .ok (.goto 4, 3) := by decide +kernel
theorem d_29_105 : decode prog_2_method_2_code 105 = .ok (.iconst 1, 1) := by decide +kernel
theorem d_29_106 : decode prog_2_method_2_code 106 = .ok (.iadd, 1) := by decide +kernel
theorem d_29_107 : decode prog_2_method_2_code 107 = .ok (.istore_n 1, 1) := by decide +kernel
theorem d_29_108 : decode prog_2_method_2_code 108 = .ok (.goto (-86), 3) := by decide +kernel
theorem d_29_111 : decode prog_2_method_2_code 111 = .ok (.aload_n 0, 1) := by decide +kernel
theorem d_29_112 : decode prog_2_method_2_code 112 = .ok (.getfield 15, 3) := by decide +kernel
theorem d_29_115 : decode prog_2_method_2_code 115 = .ok (.ifCond .ne 7, 3) := by decide +kernel
theorem d_29_118 : decode prog_2_method_2_code 118 = .ok (.iconst 0, 1) := by decide +kernel
theorem d_29_119 : decode prog_2_method_2_code 119 = .ok (.goto 4, 3) := by decide +kernel
theorem d_29_122 : decode prog_2_method_2_code 122 = .ok (.iconst (-1), 1) := by decide +kernel
theorem d_29_123 : decode prog_2_method_2_code 123 = .ok (.ireturn, 1) := by decide +kernel
theorem d_30_0 : decode prog_2_method_3_code 0 = .ok (.iload_n 1, 1) := by decide +kernel
theorem d_30_1 : decode prog_2_method_3_code 1 = .ok (.aload_n 0, 1) := by decide +kernel
theorem d_30_2 : decode prog_2_method_3_code 2 = .ok (.getfield 15, 3) := by decide +kernel
theorem d_30_5 : decode prog_2_method_3_code 5 = .ok (.if_icmp .ge 37, 3) := by decide +kernel
theorem d_30_8 : decode prog_2_method_3_code 8 = .ok (.aload_n 0, 1) := by decide +kernel
theorem d_30_9 : decode prog_2_method_3_code 9 = .ok (.getfield 9, 3) := by decide +kernel
theorem d_30_12 : decode prog_2_method_3_code 12 = .ok (.iload_n 1, 1) := by decide +kernel
theorem d_30_13 : decode prog_2_method_3_code 13 = .ok (.iaload, 1) := by decide +kernel
theorem d_30_14 : decode prog_2_method_3_code 14 = .ok (.bipush 49, 2) := by decide +kernel
theorem d_30_16 : decode prog_2_method_3_code 16 = .ok (.if_icmp .lt 26, 3) := by decide +kernel
theorem d_30_19 : decode prog_2_method_3_code 19 = .ok (.aload_n 0, 1) := by decide +kernel
theorem d_30_20 : decode prog_2_method_3_code 20 = .ok (.getfield 9, 3) := by decide +kernel
theorem d_30_23 : decode prog_2_method_3_code 23 = .ok (.iload_n 1, 1) := by decide +kernel
theorem d_30_24 : decode prog_2_method_3_code 24 = .ok (.iaload, 1) := by decide +kernel
theorem d_30_25 : decode prog_2_method_3_code 25 = .ok (.bipush 52, 2) := by decide +kernel
theorem d_30_27 : decode prog_2_method_3_code 27 = .ok (.if_icmp .gt 15, 3) := by decide +kernel
theorem d_30_30 : decode prog_2_method_3_code 30 = .ok (.aload_n 0, 1) := by decide +kernel
theorem d_30_31 : decode prog_2_method_3_code 31 = .ok (.getfield 9, 3) := by decide +kernel
theorem d_30_34 : decode prog_2_method_3_code 34 = .ok (.iload_n 1, 1) := by decide +kernel
theorem d_30_35 : decode prog_2_method_3_code 35 = .ok (.iaload, 1) := by decide +kernel
theorem d_30_36 : decode prog_2_method_3_code 36 = .ok (.bipush 48, 2) := by decide +kernel
theorem d_30_38 : decode prog_2_method_3_code 38 = .ok (.isub, 1) := by decide +kernel
theorem d_30_39 : decode prog_2_method_3_code 39 = .ok (.goto 4, 3) := by decide +kernel
theorem d_30_42 : decode prog_2_method_3_code 42 = .ok (.iconst 0, 1) := by decide +kernel
theorem d_30_43 : decode prog_2_method_3_code 43 = .ok (.ireturn, 1) := by decide +kernel
theorem d_31_0 : decode prog_2_method_4_code 0 = .ok (.aload_n 0, 1) := by decide +kernel
theorem d_31_1 : decode prog_2_method_4_code 1 = .ok (.getfield 21, 3) := by decide +kernel
theorem d_31_4 : decode prog_2_method_4_code 4 = .ok (.aload_n 0, 1) := by decide +kernel
theorem d_31_5 : decode prog_2_method_4_code 5 = .ok (.getfield 25, 3) := by decide +kernel
theorem d_31_8 : decode prog_2_method_4_code 8 = .ok (.aaload, 1) := by decide +kernel
theorem d_31_9 : decode prog_2_method_4_code 9 = .ok (.astore_n 3, 1) := by decide +kernel
theorem d_31_10 : decode prog_2_method_4_code 10 = .ok (.aload_n 3, 1) := by decide +kernel
theorem d_31_11 : decode prog_2_method_4_code 11 = .ok (.aload_n 0, 1) := by decide +kernel
theorem d_31_12 : decode prog_2_method_4_code 12 = .ok (.getfield 9, 3) := by decide +kernel
theorem d_31_15 : decode prog_2_method_4_code 15 = .ok (.iload_n 1, 1) := by decide +kernel
theorem d_31_16 : decode prog_2_method_4_code 16 = .ok (.iaload, 1) := by decide +kernel
theorem d_31_17 : decode prog_2_method_4_code 17 = .ok (.putfield 53, 3) := by decide +kernel
theorem d_31_20 : decode prog_2_method_4_code 20 = .ok (.aload_n 3, 1) := by decide +kernel
theorem d_31_21 : decode prog_2_method_4_code 21 = .ok (.iload_n 1, 1) := by decide +kernel
theorem d_31_22 : decode prog_2_method_4_code 22 = .ok (.putfield 56, 3) := by decide +kernel
theorem d_31_25 : decode prog_2_method_4_code 25 = .ok (.aload_n 3, 1) := by decide +kernel
theorem d_31_26 : decode prog_2_method_4_code 26 = .ok (.iload_n 2, 1) := by decide +kernel
theorem d_31_27 : decode prog_2_method_4_code 27 = .ok (.ifCond .eq 13, 3) := by decide +kernel
theorem d_31_30 : decode prog_2_method_4_code 30 = .ok (.aload_n 0, 1) := by decide +kernel
theorem d_31_31 : decode prog_2_method_4_code 31 = .ok (.iload_n 1, 1) := by decide +kernel
theorem d_31_32 : decode prog_2_method_4_code 32 = .ok (.iconst 1, 1) := by decide +kernel
theorem d_31_33 : decode prog_2_method_4_code 33 = .ok (.iadd, 1) := by decide +kernel
theorem d_31_34 : decode prog_2_method_4_code 34 = .ok (.invokevirtual 45, 3) := by decide +kernel
theorem d_31_37 : decode prog_2_method_4_code 37 = .ok (.goto 4, 3) := by decide +kernel
theorem d_31_40 : decode prog_2_method_4_code 40 = .ok (.iconst 0, 1) := by decide +kernel
theorem d_31_41 : decode prog_2_method_4_code 41 = .ok (.putfield 59, 3) := by decide +kernel
theorem d_31_44 : decode prog_2_method_4_code 44 = .ok (.aload_n 3, 1) := by decide +kernel
theorem d_31_45 : decode prog_2_method_4_code 45 = .ok (.iload_n 2, 1) := by decide +kernel
theorem d_31_46 : decode prog_2_method_4_code 46 = .ok (.ifCond .eq 13, 3) := by decide +kernel
theorem d_31_49 : decode prog_2_method_4_code 49 = .ok (.aload_n 0, 1) := by decide +kernel
theorem d_31_50 : decode prog_2_method_4_code 50 = .ok (.iload_n 1, 1) := by decide +kernel
theorem d_31_51 : decode prog_2_method_4_code 51 = .ok (.iconst 2, 1) := by decide +kernel
theorem d_31_52 : decode prog_2_method_4_code 52 = .ok (.iadd, 1) := by decide +kernel
theorem d_31_53 : decode prog_2_method_4_code 53 = .ok (.invokevirtual 45, 3) := by decide +kernel
theorem d_31_56 : decode prog_2_method_4_code 56 = .ok (.goto 4, 3) := by decide +kernel
theorem d_31_59 : decode prog_2_method_4_code 59 = .ok (.iconst 0, 1) := by decide +kernel
theorem d_31_60 : decode prog_2_method_4_code 60 = .ok (.putfield 62, 3) := by decide +kernel
theorem d_31_63 : decode prog_2_method_4_code 63 = .ok (.aload_n 3, 1) := by decide +kernel
theorem d_31_64 : decode prog_2_method_4_code 64 = .ok (.aload_n 0, 1) := by decide +kernel
theorem d_31_65 : decode prog_2_method_4_code 65 = .ok (.getfield 28, 3) := by decide +kernel
theorem d_31_68 : decode prog_2_method_4_code 68 = .ok (.putfield 65, 3) := by decide +kernel
theorem d_31_71 : decode prog_2_method_4_code 71 = .ok (.aload_n 3, 1) := by decide +kernel
theorem d_31_72 : decode prog_2_method_4_code 72 = .ok (.aload_n 0, 1) := by decide +kernel
theorem d_31_73 : decode prog_2_method_4_code 73 = .ok (.getfield 31, 3) := by decide +kernel
theorem d_31_76 : decode prog_2_method_4_code 76 = .ok (.putfield 68, 3) := by decide +kernel
theorem d_31_79 : decode prog_2_method_4_code 79 = .ok (.aload_n 0, 1) := by decide +kernel
theorem d_31_80 : decode prog_2_method_4_code 80 = .ok (.dup, 1) := by decide +kernel
theorem d_31_81 : decode prog_2_method_4_code 81 = .ok (.getfield 25, 3) := by decide +kernel
theorem d_31_84 : decode prog_2_method_4_code 84 = .ok (.iconst 1, 1) := by decide +kernel
theorem d_31_85 : decode prog_2_method_4_code 85 = .ok (.iadd, 1) := by decide +kernel
theorem d_31_86 : decode prog_2_method_4_code 86 = .ok (.putfield 25, 3) := by decide +kernel
theorem d_31_89 : decode prog_2_method_4_code 89 = .ok (.aload_n 0, 1) := by decide +kernel
theorem d_31_90 : decode prog_2_method_4_code 90 = .ok (.dup, 1) := by decide +kernel
theorem d_31_91 : decode prog_2_method_4_code 91 = .ok (.getfield 28, 3) := by decide +kernel
theorem d_31_94 : decode prog_2_method_4_code 94 = .ok (.aload_n 3, 1) := by decide +kernel
theorem d_31_95 : decode prog_2_method_4_code 95 = .ok (.invokevirtual 71, 3) := by decide +kernel
theorem d_31_98 : decode prog_2_method_4_code 98 = .ok (.iadd, 1) := by decide +kernel
theorem d_31_99 : decode prog_2_method_4_code 99 = .ok (.putfield 28, 3) := by decide +kernel
theorem d_31_102 : decode prog_2_method_4_code 102 = .ok (.aload_n 0, 1) := by decide +kernel
theorem d_31_103 : decode prog_2_method_4_code 103 = .ok (.dup, 1) := by decide +kernel
theorem d_31_104 : decode prog_2_method_4_code 104 = .ok (.getfield 31, 3) := by decide +kernel
theorem d_31_107 : decode prog_2_method_4_code 107 = .ok (.aload_n 3, 1) := by decide +kernel
theorem d_31_108 : decode prog_2_method_4_code 108 = .ok (.invokevirtual 75, 3) := by decide +kernel
theorem d_31_111 : decode prog_2_method_4_code 111 = .ok (.iadd, 1) := by decide +kernel
theorem d_31_112 : decode prog_2_method_4_code 112 = .ok (.putfield 31, 3) := by decide +kernel
theorem d_31_115 : decode prog_2_method_4_code 115 = .ok (.aload_n 0, 1) := by decide +kernel
theorem d_31_116 : decode prog_2_method_4_code 116 = .ok (.dup, 1) := by decide +kernel
theorem d_31_117 : decode prog_2_method_4_code 117 = .ok (.getfield 34, 3) := by decide +kernel
theorem d_31_120 : decode prog_2_method_4_code 120 = .ok (.aload_n 3, 1) := by decide +kernel
theorem d_31_121 : decode prog_2_method_4_code 121 = .ok (.invokevirtual 78, 3) := by decide +kernel
theorem d_31_124 : decode prog_2_method_4_code 124 = .ok (.ifCond .eq 10, 3) := by decide +kernel
theorem d_31_127 : decode prog_2_method_4_code 127 = .ok (.aload_n 3, 1) := by decide +kernel
theorem d_31_128 : decode prog_2_method_4_code 128 = .ok (.invokevirtual 75, 3) := by decide +kernel
theorem d_31_131 : decode prog_2_method_4_code 131 = .ok (.goto 4, 3) := by decide +kernel
theorem d_31_134 : decode prog_2_method_4_code 134 = .ok (.iconst 0, 1) := by decide +kernel
theorem d_31_135 : decode prog_2_method_4_code 135 = .ok (.iadd, 1) := by decide +kernel
theorem d_31_136 : decode prog_2_method_4_code 136 = .ok (.putfield 34, 3) := by decide +kernel
theorem d_31_139 : decode prog_2_method_4_code 139 = .ok (.return_, 1) := by decide +kernel
theorem d_32_0 : decode prog_2_method_5_code 0 = .ok (.iconst 0, 1) := by decide +kernel
theorem d_32_1 : decode prog_2_method_5_code 1 = .ok (.istore_n 2, 1) := by decide +kernel
theorem d_32_2 : decode prog_2_method_5_code 2 = .ok (.iload_n 2, 1) := by decide +kernel
theorem d_32_3 : decode prog_2_method_5_code 3 = .ok (.aload_n 0, 1) := by decide +kernel
theorem d_32_4 : decode prog_2_method_5_code 4 = .ok (.getfield 25, 3) := by decide +kernel
theorem d_32_7 : decode prog_2_method_5_code 7 = .ok (.if_icmp .ge 85, 3) := by decide +kernel
theorem d_32_10 : decode prog_2_method_5_code 10 = .ok (.aload_n 0, 1) := by decide +kernel
theorem d_32_11 : decode prog_2_method_5_code 11 = .ok (.getfield 21, 3) := by decide +kernel
theorem d_32_14 : decode prog_2_method_5_code 14 = .ok (.iload_n 2, 1) := by decide +kernel
theorem d_32_15 : decode prog_2_method_5_code 15 = .ok (.aaload, 1) := by decide +kernel
theorem d_32_16 : decode prog_2_method_5_code 16 = .ok (.astore_n 3, 1) := by decide +kernel
theorem d_32_17 : decode prog_2_method_5_code 17 = .ok (.aload_n 3, 1) := by decide +kernel
theorem d_32_18 : decode prog_2_method_5_code 18 = .ok (.getfield 53, 3) := by decide +kernel
theorem d_32_21 : decode prog_2_method_5_code 21 = .ok (.bipush 116, 2) := by decide +kernel
theorem d_32_23 : decode prog_2_method_5_code 23 = .ok (.if_icmp .ne 7, 3) := by decide +kernel
theorem d_32_26 : decode prog_2_method_5_code 26 = .ok (.iconst 1, 1) := by decide +kernel
theorem d_32_27 : decode prog_2_method_5_code 27 = .ok (.goto 4, 3) := by decide +kernel
theorem d_32_30 : decode prog_2_method_5_code 30 = .ok (.iconst 0, 1) := by decide +kernel
theorem d_32_31 : decode prog_2_method_5_code 31 = .ok (.istore 4, 2) := by decide +kernel
theorem d_32_33 : decode prog_2_method_5_code 33 = .ok (.iconst 0, 1) := by decide +kernel
theorem d_32_34 : decode prog_2_method_5_code 34 = .ok (.istore 5, 2) := by decide +kernel
theorem d_32_36 : decode prog_2_method_5_code 36 = .ok (.iload 5, 2) := by decide +kernel
theorem d_32_38 : decode prog_2_method_5_code 38 = .ok (.aload_n 3, 1) := by decide +kernel
theorem d_32_39 : decode prog_2_method_5_code 39 = .ok (.invokevirtual 71, 3) := by decide +kernel
theorem d_32_42 : decode prog_2_method_5_code 42 = .ok (.if_icmp .ge 26, 3) := by decide +kernel
theorem d_32_45 : decode prog_2_method_5_code 45 = .ok (.iload 4, 2) := by decide +kernel
theorem d_32_47 : decode prog_2_method_5_code 47 = .ok (.aload_n 1, 1) := by decide +kernel
theorem d_32_48 : decode prog_2_method_5_code 48 = .ok (.getfield 82, 3) := by decide +kernel
theorem d_32_51 : decode prog_2_method_5_code 51 = .ok (.aload_n 3, 1) := by decide +kernel
theorem d_32_52 : decode prog_2_method_5_code 52 = .ok (.getfield 65, 3) := by decide +kernel
theorem d_32_55 : decode prog_2_method_5_code 55 = .ok (.iload 5, 2) := by decide +kernel
theorem d_32_57 : decode prog_2_method_5_code 57 = .ok (.iadd, 1) := by decide +kernel
theorem d_32_58 : decode prog_2_method_5_code 58 = .ok (.iaload, 1) := by decide +kernel
theorem d_32_59 : decode prog_2_method_5_code 59 = .ok (.iadd, 1) := by decide +kernel
theorem d_32_60 : decode prog_2_method_5_code 60 = .ok (.istore 4, 2) := by decide +kernel
theorem d_32_62 : decode prog_2_method_5_code 62 = .ok (.iinc 5 1, 3) := by decide +kernel
theorem d_32_65 : decode prog_2_method_5_code 65 = .ok (.goto (-29), 3) := by decide +kernel
theorem d_32_68 : decode prog_2_method_5_code 68 = .ok (.iload 4, 2) := by decide +kernel
theorem d_32_70 : decode prog_2_method_5_code 70 = .ok (.iconst 4, 1) := by decide +kernel
theorem d_32_71 : decode prog_2_method_5_code 71 = .ok (.if_icmp .le 15, 3) := by decide +kernel
theorem d_32_74 : decode prog_2_method_5_code 74 = .ok (.aload_n 3, 1) := by decide +kernel
theorem d_32_75 : decode prog_2_method_5_code 75 = .ok (.invokevirtual 87, 3) := by decide +kernel
theorem d_32_78 : decode prog_2_method_5_code 78 = .ok (.ifCond .ne 8, 3) := by decide +kernel
theorem d_32_81 : decode prog_2_method_5_code 81 = .ok (.aload_n 3, 1) := by decide +kernel
theorem d_32_82 : decode prog_2_method_5_code 82 = .ok (.getfield 56, 3) := by decide +kernel
theorem d_32_85 : decode prog_2_method_5_code 85 = .ok (.ireturn, 1) := by decide +kernel
theorem d_32_86 : decode prog_2_method_5_code 86 = .ok (.iinc 2 1, 3) := by decide +kernel
theorem d_32_89 : decode prog_2_method_5_code 89 = .ok (.goto (-87), 3) := by decide +kernel
theorem d_32_92 : decode prog_2_method_5_code 92 = .ok (.iconst (-1), 1) := by decide +kernel
theorem d_32_93 : decode prog_2_method_5_code 93 = .ok (.ireturn, 1) := by decide +kernel
theorem d_33_0 : decode prog_3_method_1_code 0 = .ok (.aload_n 0, 1) := by decide +kernel
theorem d_33_1 : decode prog_3_method_1_code 1 = .ok (.invokespecial 3, 3) := by decide +kernel
theorem d_33_4 : decode prog_3_method_1_code 4 = .ok (.aload_n 0, 1) := by decide +kernel
theorem d_33_5 : decode prog_3_method_1_code 5 = .ok (.sipush 160, 3) := by decide +kernel
theorem d_33_8 : decode prog_3_method_1_code 8 = .ok (.newarray .int, 2) := by decide +kernel
theorem d_33_10 : decode prog_3_method_1_code 10 = .ok (.putfield 9, 3) := by decide +kernel
theorem d_33_13 : decode prog_3_method_1_code 13 = .ok (.aload_n 0, 1) := by decide +kernel
theorem d_33_14 : decode prog_3_method_1_code 14 = .ok (.sipush 160, 3) := by decide +kernel
theorem d_33_17 : decode prog_3_method_1_code 17 = .ok (.newarray .int, 2) := by decide +kernel
theorem d_33_19 : decode prog_3_method_1_code 19 = .ok (.putfield 15, 3) := by decide +kernel
theorem d_33_22 : decode prog_3_method_1_code 22 = .ok (.aload_n 0, 1) := by decide +kernel
theorem d_33_23 : decode prog_3_method_1_code 23 = .ok (.sipush 160, 3) := by decide +kernel
theorem d_33_26 : decode prog_3_method_1_code 26 = .ok (.newarray .int, 2) := by decide +kernel
theorem d_33_28 : decode prog_3_method_1_code 28 = .ok (.putfield 18, 3) := by decide +kernel
theorem d_33_31 : decode prog_3_method_1_code 31 = .ok (.aload_n 0, 1) := by decide +kernel
theorem d_33_32 : decode prog_3_method_1_code 32 = .ok (.sipush 160, 3) := by decide +kernel
theorem d_33_35 : decode prog_3_method_1_code 35 = .ok (.newarray .int, 2) := by decide +kernel
theorem d_33_37 : decode prog_3_method_1_code 37 = .ok (.putfield 21, 3) := by decide +kernel
theorem d_33_40 : decode prog_3_method_1_code 40 = .ok (.return_, 1) := by decide +kernel
theorem d_34_0 : decode prog_3_method_2_code 0 = .ok (.aload_n 0, 1) := by decide +kernel
theorem d_34_1 : decode prog_3_method_2_code 1 = .ok (.getfield 9, 3) := by decide +kernel
theorem d_34_4 : decode prog_3_method_2_code 4 = .ok (.iload_n 1, 1) := by decide +kernel
theorem d_34_5 : decode prog_3_method_2_code 5 = .ok (.aload_n 2, 1) := by decide +kernel
theorem d_34_6 : decode prog_3_method_2_code 6 = .ok (.getfield 24, 3) := by decide +kernel
theorem d_34_9 : decode prog_3_method_2_code 9 = .ok (.iastore, 1) := by decide +kernel
theorem d_34_10 : decode prog_3_method_2_code 10 = .ok (.aload_n 0, 1) := by decide +kernel
theorem d_34_11 : decode prog_3_method_2_code 11 = .ok (.getfield 15, 3) := by decide +kernel
theorem d_34_14 : decode prog_3_method_2_code 14 = .ok (.iload_n 1, 1) := by decide +kernel
theorem d_34_15 : decode prog_3_method_2_code 15 = .ok (.aload_n 2, 1) := by decide +kernel
theorem d_34_16 : decode prog_3_method_2_code 16 = .ok (.getfield 30, 3) := by decide +kernel
theorem d_34_19 : decode prog_3_method_2_code 19 = .ok (.iastore, 1) := by decide +kernel
theorem d_34_20 : decode prog_3_method_2_code 20 = .ok (.aload_n 0, 1) := by decide +kernel
theorem d_34_21 : decode prog_3_method_2_code 21 = .ok (.getfield 18, 3) := by decide +kernel
theorem d_34_24 : decode prog_3_method_2_code 24 = .ok (.iload_n 1, 1) := by decide +kernel
theorem d_34_25 : decode prog_3_method_2_code 25 = .ok (.aload_n 2, 1) := by decide +kernel
theorem d_34_26 : decode prog_3_method_2_code 26 = .ok (.getfield 32, 3) := by decide +kernel
theorem d_34_29 : decode prog_3_method_2_code 29 = .ok (.iastore, 1) := by decide +kernel
theorem d_34_30 : decode prog_3_method_2_code 30 = .ok (.aload_n 0, 1) := by decide +kernel
theorem d_34_31 : decode prog_3_method_2_code 31 = .ok (.getfield 21, 3) := by decide +kernel
theorem d_34_34 : decode prog_3_method_2_code 34 = .ok (.iload_n 1, 1) := by decide +kernel
theorem d_34_35 : decode prog_3_method_2_code 35 = .ok (.aload_n 2, 1) := by decide +kernel
theorem d_34_36 : decode prog_3_method_2_code 36 = .ok (.getfield 34, 3) := by decide +kernel
theorem d_34_39 : decode prog_3_method_2_code 39 = .ok (.bipush 60, 2) := by decide +kernel
theorem d_34_41 : decode prog_3_method_2_code 41 = .ok (.if_icmp .ne 7, 3) := by decide +kernel
theorem d_34_44 : decode prog_3_method_2_code 44 = .ok (.iconst 1, 1) := by decide +kernel
theorem d_34_45 : decode prog_3_method_2_code 45 = .ok (.goto 4, 3) := by decide +kernel
theorem d_34_48 : decode prog_3_method_2_code 48 = .ok (.iconst 0, 1) := by decide +kernel
theorem d_34_49 : decode prog_3_method_2_code 49 = .ok (.iastore, 1) := by decide +kernel
theorem d_34_50 : decode prog_3_method_2_code 50 = .ok (.return_, 1) := by decide +kernel
theorem d_35_0 : decode prog_3_method_3_code 0 = .ok (.aload_n 2, 1) := by decide +kernel
theorem d_35_1 : decode prog_3_method_3_code 1 = .ok (.aload_n 0, 1) := by decide +kernel
theorem d_35_2 : decode prog_3_method_3_code 2 = .ok (.getfield 9, 3) := by decide +kernel
theorem d_35_5 : decode prog_3_method_3_code 5 = .ok (.iload_n 1, 1) := by decide +kernel
theorem d_35_6 : decode prog_3_method_3_code 6 = .ok (.iaload, 1) := by decide +kernel
theorem d_35_7 : decode prog_3_method_3_code 7 = .ok (.aload_n 0, 1) := by decide +kernel
theorem d_35_8 : decode prog_3_method_3_code 8 = .ok (.getfield 15, 3) := by decide +kernel
theorem d_35_11 : decode prog_3_method_3_code 11 = .ok (.iload_n 1, 1) := by decide +kernel
theorem d_35_12 : decode prog_3_method_3_code 12 = .ok (.iaload, 1) := by decide +kernel
theorem d_35_13 : decode prog_3_method_3_code 13 = .ok (.invokestatic 37, 3) := by decide +kernel
theorem d_35_16 : decode prog_3_method_3_code 16 = .ok (.aload_n 2, 1) := by decide +kernel
theorem d_35_17 : decode prog_3_method_3_code 17 = .ok (.aload_n 0, 1) := by decide +kernel
theorem d_35_18 : decode prog_3_method_3_code 18 = .ok (.getfield 9, 3) := by decide +kernel
theorem d_35_21 : decode prog_3_method_3_code 21 = .ok (.iload_n 1, 1) := by decide +kernel
theorem d_35_22 : decode prog_3_method_3_code 22 = .ok (.iaload, 1) := by decide +kernel
theorem d_35_23 : decode prog_3_method_3_code 23 = .ok (.aload_n 0, 1) := by decide +kernel
theorem d_35_24 : decode prog_3_method_3_code 24 = .ok (.getfield 15, 3) := by decide +kernel
theorem d_35_27 : decode prog_3_method_3_code 27 = .ok (.iload_n 1, 1) := by decide +kernel
theorem d_35_28 : decode prog_3_method_3_code 28 = .ok (.iaload, 1) := by decide +kernel
theorem d_35_29 : decode prog_3_method_3_code 29 = .ok (.iadd, 1) := by decide +kernel
theorem d_35_30 : decode prog_3_method_3_code 30 = .ok (.aload_n 0, 1) := by decide +kernel
theorem d_35_31 : decode prog_3_method_3_code 31 = .ok (.getfield 18, 3) := by decide +kernel
theorem d_35_34 : decode prog_3_method_3_code 34 = .ok (.iload_n 1, 1) := by decide +kernel
theorem d_35_35 : decode prog_3_method_3_code 35 = .ok (.iaload, 1) := by decide +kernel
theorem d_35_36 : decode prog_3_method_3_code 36 = .ok (.invokestatic 37, 3) := by decide +kernel
theorem d_35_39 : decode prog_3_method_3_code 39 = .ok (.imul, 1) := by decide +kernel
theorem d_35_40 : decode prog_3_method_3_code 40 = .ok (.ireturn, 1) := by decide +kernel
theorem d_36_0 : decode prog_3_method_4_code 0 = .ok (.aload_n 0, 1) := by decide +kernel
theorem d_36_1 : decode prog_3_method_4_code 1 = .ok (.getfield 9, 3) := by decide +kernel
theorem d_36_4 : decode prog_3_method_4_code 4 = .ok (.iload_n 1, 1) := by decide +kernel
theorem d_36_5 : decode prog_3_method_4_code 5 = .ok (.iaload, 1) := by decide +kernel
theorem d_36_6 : decode prog_3_method_4_code 6 = .ok (.aload_n 0, 1) := by decide +kernel
theorem d_36_7 : decode prog_3_method_4_code 7 = .ok (.getfield 15, 3) := by decide +kernel
theorem d_36_10 : decode prog_3_method_4_code 10 = .ok (.iload_n 1, 1) := by decide +kernel
theorem d_36_11 : decode prog_3_method_4_code 11 = .ok (.iaload, 1) := by decide +kernel
theorem d_36_12 : decode prog_3_method_4_code 12 = .ok (.iadd, 1) := by decide +kernel
theorem d_36_13 : decode prog_3_method_4_code 13 = .ok (.istore 4, 2) := by decide +kernel
theorem d_36_15 : decode prog_3_method_4_code 15 = .ok (.iconst 1, 1) := by decide +kernel
theorem d_36_16 : decode prog_3_method_4_code 16 = .ok (.aload_n 2, 1) := by decide +kernel
theorem d_36_17 : decode prog_3_method_4_code 17 = .ok (.iload 4, 2) := by decide +kernel
theorem d_36_19 : decode prog_3_method_4_code 19 = .ok (.aload_n 0, 1) := by decide +kernel
theorem d_36_20 : decode prog_3_method_4_code 20 = .ok (.getfield 18, 3) := by decide +kernel
theorem d_36_23 : decode prog_3_method_4_code 23 = .ok (.iload_n 1, 1) := by decide +kernel
theorem d_36_24 : decode prog_3_method_4_code 24 = .ok (.iaload, 1) := by decide +kernel
theorem d_36_25 : decode prog_3_method_4_code 25 = .ok (.invokestatic 37, 3) := by decide +kernel
theorem d_36_28 : decode prog_3_method_4_code 28 = .ok (.invokestatic 41, 3) := by decide +kernel
theorem d_36_31 : decode prog_3_method_4_code 31 = .ok (.istore 5, 2) := by decide +kernel
theorem d_36_33 : decode prog_3_method_4_code 33 = .ok (.aload_n 2, 1) := by decide +kernel
theorem d_36_34 : decode prog_3_method_4_code 34 = .ok (.aload_n 0, 1) := by decide +kernel
theorem d_36_35 : decode prog_3_method_4_code 35 = .ok (.getfield 9, 3) := by decide +kernel
theorem d_36_38 : decode prog_3_method_4_code 38 = .ok (.iload_n 1, 1) := by decide +kernel
theorem d_36_39 : decode prog_3_method_4_code 39 = .ok (.iaload, 1) := by decide +kernel
theorem d_36_40 : decode prog_3_method_4_code 40 = .ok (.aload_n 0, 1) := by decide +kernel
theorem d_36_41 : decode prog_3_method_4_code 41 = .ok (.getfield 15, 3) := by decide +kernel
theorem d_36_44 : decode prog_3_method_4_code 44 = .ok (.iload_n 1, 1) := by decide +kernel
theorem d_36_45 : decode prog_3_method_4_code 45 = .ok (.iaload, 1) := by decide +kernel
theorem d_36_46 : decode prog_3_method_4_code 46 = .ok (.iload_n 3, 1) := by decide +kernel
theorem d_36_47 : decode prog_3_method_4_code 47 = .ok (.iload 5, 2) := by decide +kernel
theorem d_36_49 : decode prog_3_method_4_code 49 = .ok (.idiv, 1) := by decide +kernel
theorem d_36_50 : decode prog_3_method_4_code 50 = .ok (.invokestatic 47, 3) := by decide +kernel
theorem d_36_53 : decode prog_3_method_4_code 53 = .ok (.istore 6, 2) := by decide +kernel
theorem d_36_55 : decode prog_3_method_4_code 55 = .ok (.aload_n 2, 1) := by decide +kernel
theorem d_36_56 : decode prog_3_method_4_code 56 = .ok (.iload 4, 2) := by decide +kernel
theorem d_36_58 : decode prog_3_method_4_code 58 = .ok (.aload_n 0, 1) := by decide +kernel
theorem d_36_59 : decode prog_3_method_4_code 59 = .ok (.getfield 18, 3) := by decide +kernel
theorem d_36_62 : decode prog_3_method_4_code 62 = .ok (.iload_n 1, 1) := by decide +kernel
theorem d_36_63 : decode prog_3_method_4_code 63 = .ok (.iaload, 1) := by decide +kernel
theorem d_36_64 : decode prog_3_method_4_code 64 = .ok (.iload_n 3, 1) := by decide +kernel
theorem d_36_65 : decode prog_3_method_4_code 65 = .ok (.iload 5, 2) := by decide +kernel
theorem d_36_67 : decode prog_3_method_4_code 67 = .ok (.irem, 1) := by decide +kernel
theorem d_36_68 : decode prog_3_method_4_code 68 = .ok (.invokestatic 47, 3) := by decide +kernel
theorem d_36_71 : decode prog_3_method_4_code 71 = .ok (.istore 7, 2) := by decide +kernel
theorem d_36_73 : decode prog_3_method_4_code 73 = .ok (.sipush 1024, 3) := by decide +kernel
theorem d_36_76 : decode prog_3_method_4_code 76 = .ok (.iload 6, 2) := by decide +kernel
theorem d_36_78 : decode prog_3_method_4_code 78 = .ok (.imul, 1) := by decide +kernel
theorem d_36_79 : decode prog_3_method_4_code 79 = .ok (.iconst 2, 1) := by decide +kernel
theorem d_36_80 : decode prog_3_method_4_code 80 = .ok (.iload 7, 2) := by decide +kernel
theorem d_36_82 : decode prog_3_method_4_code 82 = .ok (.imul, 1) := by decide +kernel
theorem d_36_83 : decode prog_3_method_4_code 83 = .ok (.iadd, 1) := by decide +kernel
theorem d_36_84 : decode prog_3_method_4_code 84 = .ok (.aload_n 0, 1) := by decide +kernel
theorem d_36_85 : decode prog_3_method_4_code 85 = .ok (.getfield 21, 3) := by decide +kernel
theorem d_36_88 : decode prog_3_method_4_code 88 = .ok (.iload_n 1, 1) := by decide +kernel
theorem d_36_89 : decode prog_3_method_4_code 89 = .ok (.iaload, 1) := by decide +kernel
theorem d_36_90 : decode prog_3_method_4_code 90 = .ok (.iadd, 1) := by decide +kernel
theorem d_36_91 : decode prog_3_method_4_code 91 = .ok (.ireturn, 1) := by decide +kernel
theorem d_37_0 : decode prog_3_method_5_code 0 = .ok (.iconst 0, 1) := by decide +kernel
theorem d_37_1 : decode prog_3_method_5_code 1 = .ok (.istore_n 3, 1) := by decide +kernel
theorem d_37_2 : decode prog_3_method_5_code 2 = .ok (.iload_n 1, 1) := by decide +kernel
theorem d_37_3 : decode prog_3_method_5_code 3 = .ok (.istore 4, 2) := by decide +kernel
theorem d_37_5 : decode prog_3_method_5_code 5 = .ok (.iload 4, 2) := by decide +kernel
theorem d_37_7 : decode prog_3_method_5_code 7 = .ok (.iload_n 1, 1) := by decide +kernel
theorem d_37_8 : decode prog_3_method_5_code 8 = .ok (.iload_n 2, 1) := by decide +kernel
theorem d_37_9 : decode prog_3_method_5_code 9 = .ok (.iadd, 1) := by decide +kernel
theorem d_37_10 : decode prog_3_method_5_code 10 = .ok (.if_icmp .ge 19, 3) := by decide +kernel
theorem d_37_13 : decode prog_3_method_5_code 13 = .ok (.iload_n 3, 1) := by decide +kernel
theorem d_37_14 : decode prog_3_method_5_code 14 = .ok (.aload_n 0, 1) := by decide +kernel
theorem d_37_15 : decode prog_3_method_5_code 15 = .ok (.getfield 51, 3) := by decide +kernel
theorem d_37_18 : decode prog_3_method_5_code 18 = .ok (.iload 4, 2) := by decide +kernel
theorem d_37_20 : decode prog_3_method_5_code 20 = .ok (.iaload, 1) := by decide +kernel
theorem d_37_21 : decode prog_3_method_5_code 21 = .ok (.iadd, 1) := by decide +kernel
theorem d_37_22 : decode prog_3_method_5_code 22 = .ok (.istore_n 3, 1) := by decide +kernel
theorem d_37_23 : decode prog_3_method_5_code 23 = .ok (.iinc 4 1, 3) := by decide +kernel
theorem d_37_26 : decode prog_3_method_5_code 26 = .ok (.goto (-21), 3) := by decide +kernel
theorem d_37_29 : decode prog_3_method_5_code 29 = .ok (.iload_n 3, 1) := by decide +kernel
theorem d_37_30 : decode prog_3_method_5_code 30 = .ok (.ireturn, 1) := by decide +kernel
theorem d_38_0 : decode prog_3_method_6_code 0 = .ok (.iload_n 3, 1) := by decide +kernel
theorem d_38_1 : decode prog_3_method_6_code 1 = .ok (.istore 4, 2) := by decide +kernel
theorem d_38_3 : decode prog_3_method_6_code 3 = .ok (.iload_n 1, 1) := by decide +kernel
theorem d_38_4 : decode prog_3_method_6_code 4 = .ok (.istore 5, 2) := by decide +kernel
theorem d_38_6 : decode prog_3_method_6_code 6 = .ok (.iload 5, 2) := by decide +kernel
theorem d_38_8 : decode prog_3_method_6_code 8 = .ok (.iload_n 1, 1) := by decide +kernel
theorem d_38_9 : decode prog_3_method_6_code 9 = .ok (.iload_n 2, 1) := by decide +kernel
theorem d_38_10 : decode prog_3_method_6_code 10 = .ok (.iadd, 1) := by decide +kernel
theorem d_38_11 : decode prog_3_method_6_code 11 = .ok (.if_icmp .ge 42, 3) := by decide +kernel
theorem d_38_14 : decode prog_3_method_6_code 14 = .ok (.iload 4, 2) := by decide +kernel
theorem d_38_16 : decode prog_3_method_6_code 16 = .ok (.aload_n 0, 1) := by decide +kernel
theorem d_38_17 : decode prog_3_method_6_code 17 = .ok (.getfield 51, 3) := by decide +kernel
theorem d_38_20 : decode prog_3_method_6_code 20 = .ok (.iload 5, 2) := by decide +kernel
theorem d_38_22 : decode prog_3_method_6_code 22 = .ok (.iaload, 1) := by decide +kernel
theorem d_38_23 : decode prog_3_method_6_code 23 = .ok (.if_icmp .ge 12, 3) := by decide +kernel
theorem d_38_26 : decode prog_3_method_6_code 26 = .ok (.aload_n 0, 1) := by decide +kernel
theorem d_38_27 : decode prog_3_method_6_code 27 = .ok (.iload 5, 2) := by decide +kernel
theorem d_38_29 : decode prog_3_method_6_code 29 = .ok (.iload 4, 2) := by decide +kernel
theorem d_38_31 : decode prog_3_method_6_code 31 = .ok (.invokevirtual 56, 3) := by decide +kernel
theorem d_38_34 : decode prog_3_method_6_code 34 = .ok (.ireturn, 1) := by decide +kernel
theorem d_38_35 : decode prog_3_method_6_code 35 = .ok (.iload 4, 2) := by decide +kernel
theorem d_38_37 : decode prog_3_method_6_code 37 = .ok (.aload_n 0, 1) := by decide +kernel
theorem d_38_38 : decode prog_3_method_6_code 38 = .ok (.getfield 51, 3) := by decide +kernel
theorem d_38_41 : decode prog_3_method_6_code 41 = .ok (.iload 5, 2) := by decide +kernel
theorem d_38_43 : decode prog_3_method_6_code 43 = .ok (.iaload, 1) := by decide +kernel
theorem d_38_44 : decode prog_3_method_6_code 44 = .ok (.isub, 1) := by decide +kernel
theorem d_38_45 : decode prog_3_method_6_code 45 = .ok (.istore 4, 2) := by decide +kernel
theorem d_38_47 : decode prog_3_method_6_code 47 = .ok (.iinc 5 1, 3) := by decide +kernel
theorem d_38_50 : decode prog_3_method_6_code 50 = .ok (.goto (-44), 3) := by decide +kernel
theorem d_38_53 : decode prog_3_method_6_code 53 = .ok (.iconst (-1), 1) := by decide +kernel
theorem d_38_54 : decode prog_3_method_6_code 54 = .ok (.ireturn, 1) := by decide +kernel
theorem d_39_0 : decode prog_4_method_1_code 0 = .ok (.aload_n 0, 1) := by decide +kernel
theorem d_39_1 : decode prog_4_method_1_code 1 = .ok (.invokespecial 3, 3) := by decide +kernel
theorem d_39_4 : decode prog_4_method_1_code 4 = .ok (.aload_n 0, 1) := by decide +kernel
theorem d_39_5 : decode prog_4_method_1_code 5 = .ok (.sipush 300, 3) := by decide +kernel
theorem d_39_8 : decode prog_4_method_1_code 8 = .ok (.newarray .int, 2) := by decide +kernel
theorem d_39_10 : decode prog_4_method_1_code 10 = .ok (.putfield 9, 3) := by decide +kernel
theorem d_39_13 : decode prog_4_method_1_code 13 = .ok (.aload_n 0, 1) := by decide +kernel
theorem d_39_14 : decode prog_4_method_1_code 14 = .ok (.sipush 300, 3) := by decide +kernel
theorem d_39_17 : decode prog_4_method_1_code 17 = .ok (.newarray .int, 2) := by decide +kernel
theorem d_39_19 : decode prog_4_method_1_code 19 = .ok (.putfield 15, 3) := by decide +kernel
theorem d_39_22 : decode prog_4_method_1_code 22 = .ok (.aload_n 0, 1) := by decide +kernel
theorem d_39_23 : decode prog_4_method_1_code 23 = .ok (.sipush 300, 3) := by decide +kernel
theorem d_39_26 : decode prog_4_method_1_code 26 = .ok (.newarray .int, 2) := by decide +kernel
theorem d_39_28 : decode prog_4_method_1_code 28 = .ok (.putfield 18, 3) := by decide +kernel
theorem d_39_31 : decode prog_4_method_1_code 31 = .ok (.aload_n 0, 1) := by decide +kernel
theorem d_39_32 : decode prog_4_method_1_code 32 = .ok (.sipush 300, 3) := by decide +kernel
theorem d_39_35 : decode prog_4_method_1_code 35 = .ok (.newarray .int, 2) := by decide +kernel
theorem d_39_37 : decode prog_4_method_1_code 37 = .ok (.putfield 21, 3) := by decide +kernel
theorem d_39_40 : decode prog_4_method_1_code 40 = .ok (.aload_n 0, 1) := by decide +kernel
theorem d_39_41 : decode prog_4_method_1_code 41 = .ok (.sipush 300, 3) := by decide +kernel
theorem d_39_44 : decode prog_4_method_1_code 44 = .ok (.newarray .int, 2) := by decide +kernel
theorem d_39_46 : decode prog_4_method_1_code 46 = .ok (.putfield 24, 3) := by decide +kernel
theorem d_39_49 : decode prog_4_method_1_code 49 = .ok (.aload_n 0, 1) := by decide +kernel
theorem d_39_50 : decode prog_4_method_1_code 50 = .ok (.sipush 1200, 3) := by decide +kernel
theorem d_39_53 : decode prog_4_method_1_code 53 = .ok (.newarray .int, 2) := by decide +kernel
theorem d_39_55 : decode prog_4_method_1_code 55 = .ok (.putfield 27, 3) := by decide +kernel
theorem d_39_58 : decode prog_4_method_1_code 58 = .ok (.return_, 1) := by decide +kernel
theorem d_40_0 : decode prog_4_method_2_code 0 = .ok (.aload_n 0, 1) := by decide +kernel
theorem d_40_1 : decode prog_4_method_2_code 1 = .ok (.getfield 9, 3) := by decide +kernel
theorem d_40_4 : decode prog_4_method_2_code 4 = .ok (.iload_n 1, 1) := by decide +kernel
theorem d_40_5 : decode prog_4_method_2_code 5 = .ok (.iload_n 2, 1) := by decide +kernel
theorem d_40_6 : decode prog_4_method_2_code 6 = .ok (.iastore, 1) := by decide +kernel
theorem d_40_7 : decode prog_4_method_2_code 7 = .ok (.aload_n 0, 1) := by decide +kernel
theorem d_40_8 : decode prog_4_method_2_code 8 = .ok (.getfield 15, 3) := by decide +kernel
theorem d_40_11 : decode prog_4_method_2_code 11 = .ok (.iload_n 1, 1) := by decide +kernel
theorem d_40_12 : decode prog_4_method_2_code 12 = .ok (.iload_n 3, 1) := by decide +kernel
theorem d_40_13 : decode prog_4_method_2_code 13 = .ok (.iastore, 1) := by decide +kernel
theorem d_40_14 : decode prog_4_method_2_code 14 = .ok (.aload_n 0, 1) := by decide +kernel
theorem d_40_15 : decode prog_4_method_2_code 15 = .ok (.getfield 18, 3) := by decide +kernel
theorem d_40_18 : decode prog_4_method_2_code 18 = .ok (.iload_n 1, 1) := by decide +kernel
theorem d_40_19 : decode prog_4_method_2_code 19 = .ok (.iload 4, 2) := by decide +kernel
theorem d_40_21 : decode prog_4_method_2_code 21 = .ok (.iastore, 1) := by decide +kernel
theorem d_40_22 : decode prog_4_method_2_code 22 = .ok (.aload_n 0, 1) := by decide +kernel
theorem d_40_23 : decode prog_4_method_2_code 23 = .ok (.getfield 21, 3) := by decide +kernel
theorem d_40_26 : decode prog_4_method_2_code 26 = .ok (.iload_n 1, 1) := by decide +kernel
theorem d_40_27 : decode prog_4_method_2_code 27 = .ok (.iload 5, 2) := by decide +kernel
theorem d_40_29 : decode prog_4_method_2_code 29 = .ok (.iastore, 1) := by decide +kernel
theorem d_40_30 : decode prog_4_method_2_code 30 = .ok (.aload_n 0, 1) := by decide +kernel
theorem d_40_31 : decode prog_4_method_2_code 31 = .ok (.getfield 24, 3) := by decide +kernel
theorem d_40_34 : decode prog_4_method_2_code 34 = .ok (.iload_n 1, 1) := by decide +kernel
theorem d_40_35 : decode prog_4_method_2_code 35 = .ok (.iload_n 3, 1) := by decide +kernel
theorem d_40_36 : decode prog_4_method_2_code 36 = .ok (.iastore, 1) := by decide +kernel
theorem d_40_37 : decode prog_4_method_2_code 37 = .ok (.iconst 0, 1) := by decide +kernel
theorem d_40_38 : decode prog_4_method_2_code 38 = .ok (.istore 6, 2) := by decide +kernel
theorem d_40_40 : decode prog_4_method_2_code 40 = .ok (.iload 6, 2) := by decide +kernel
theorem d_40_42 : decode prog_4_method_2_code 42 = .ok (.iconst 4, 1) := by decide +kernel
theorem d_40_43 : decode prog_4_method_2_code 43 = .ok (.if_icmp .ge 21, 3) := by decide +kernel
theorem d_40_46 : decode prog_4_method_2_code 46 = .ok (.aload_n 0, 1) := by decide +kernel
theorem d_40_47 : decode prog_4_method_2_code 47 = .ok (.getfield 27, 3) := by decide +kernel
theorem d_40_50 : decode prog_4_method_2_code 50 = .ok (.iload_n 1, 1) := by decide +kernel
theorem d_40_51 : decode prog_4_method_2_code 51 = .ok (.iconst 4, 1) := by decide +kernel
theorem d_40_52 : decode prog_4_method_2_code 52 = .ok (.imul, 1) := by decide +kernel
theorem d_40_53 : decode prog_4_method_2_code 53 = .ok (.iload 6, 2) := by decide +kernel
theorem d_40_55 : decode prog_4_method_2_code 55 = .ok (.iadd, 1) := by decide +kernel
theorem d_40_56 : decode prog_4_method_2_code 56 = .ok (.iconst (-1), 1) := by decide +kernel
theorem d_40_57 : decode prog_4_method_2_code 57 = .ok (.iastore, 1) := by decide +kernel
theorem d_40_58 : decode prog_4_method_2_code 58 = .ok (.iinc 6 1, 3) := by decide +kernel
theorem d_40_61 : decode prog_4_method_2_code 61 = .ok (.goto (-21), 3) := by decide +kernel
theorem d_40_64 : decode prog_4_method_2_code 64 = .ok (.return_, 1) := by decide +kernel
theorem d_41_0 : decode prog_5_method_1_code 0 = .ok (.aload_n 0, 1) := by decide +kernel
theorem d_41_1 : decode prog_5_method_1_code 1 = .ok (.invokespecial 3, 3) := by decide +kernel
theorem d_41_4 : decode prog_5_method_1_code 4 = .ok (.aload_n 0, 1) := by decide +kernel
theorem d_41_5 : decode prog_5_method_1_code 5 = .ok (.iconst 0, 1) := by decide +kernel
theorem d_41_6 : decode prog_5_method_1_code 6 = .ok (.putfield 9, 3) := by decide +kernel
theorem d_41_9 : decode prog_5_method_1_code 9 = .ok (.aload_n 0, 1) := by decide +kernel
theorem d_41_10 : decode prog_5_method_1_code 10 = .ok (.iconst 0, 1) := by decide +kernel
theorem d_41_11 : decode prog_5_method_1_code 11 = .ok (.putfield 15, 3) := by decide +kernel
theorem d_41_14 : decode prog_5_method_1_code 14 = .ok (.aload_n 0, 1) := by decide +kernel
theorem d_41_15 : decode prog_5_method_1_code 15 = .ok (.iconst 0, 1) := by decide +kernel
theorem d_41_16 : decode prog_5_method_1_code 16 = .ok (.putfield 18, 3) := by decide +kernel
theorem d_41_19 : decode prog_5_method_1_code 19 = .ok (.return_, 1) := by decide +kernel
theorem d_42_0 : decode prog_5_method_2_code 0 = .ok (.aload_n 0, 1) := by decide +kernel
theorem d_42_1 : decode prog_5_method_2_code 1 = .ok (.iconst 0, 1) := by decide +kernel
theorem d_42_2 : decode prog_5_method_2_code 2 = .ok (.putfield 9, 3) := by decide +kernel
theorem d_42_5 : decode prog_5_method_2_code 5 = .ok (.aload_n 0, 1) := by decide +kernel
theorem d_42_6 : decode prog_5_method_2_code 6 = .ok (.iconst 0, 1) := by decide +kernel
theorem d_42_7 : decode prog_5_method_2_code 7 = .ok (.putfield 15, 3) := by decide +kernel
theorem d_42_10 : decode prog_5_method_2_code 10 = .ok (.aload_n 0, 1) := by decide +kernel
theorem d_42_11 : decode prog_5_method_2_code 11 = .ok (.iconst 0, 1) := by decide +kernel
theorem d_42_12 : decode prog_5_method_2_code 12 = .ok (.putfield 18, 3) := by decide +kernel
theorem d_42_15 : decode prog_5_method_2_code 15 = .ok (.aload_n 1, 1) := by decide +kernel
theorem d_42_16 : decode prog_5_method_2_code 16 = .ok (.invokevirtual 21, 3) := by decide +kernel
theorem d_42_19 : decode prog_5_method_2_code 19 = .ok (.ifCond .eq 30, 3) := by decide +kernel
theorem d_42_22 : decode prog_5_method_2_code 22 = .ok (.aload_n 0, 1) := by decide +kernel
theorem d_42_23 : decode prog_5_method_2_code 23 = .ok (.aload_n 1, 1) := by decide +kernel
theorem d_42_24 : decode prog_5_method_2_code 24 = .ok (.aload_n 2, 1) := by decide +kernel
theorem d_42_25 : decode prog_5_method_2_code 25 = .ok (.invokevirtual 27, 3) := by decide +kernel
theorem d_42_28 : decode prog_5_method_2_code 28 = .ok (.aload_n 0, 1) := by decide +kernel
theorem d_42_29 : decode prog_5_method_2_code 29 = .ok (.aload_n 1, 1) := by decide +kernel
theorem d_42_30 : decode prog_5_method_2_code 30 = .ok (.iconst 0, 1) := by decide +kernel
theorem d_42_31 : decode prog_5_method_2_code 31 = .ok (.invokevirtual 31, 3) := by decide +kernel
theorem d_42_34 : decode prog_5_method_2_code 34 = .ok (.aload_n 0, 1) := by decide +kernel
theorem d_42_35 : decode prog_5_method_2_code 35 = .ok (.aload_n 1, 1) := by decide +kernel
theorem d_42_36 : decode prog_5_method_2_code 36 = .ok (.iconst 1, 1) := by decide +kernel
theorem d_42_37 : decode prog_5_method_2_code 37 = .ok (.invokevirtual 31, 3) := by decide +kernel
theorem d_42_40 : decode prog_5_method_2_code 40 = .ok (.aload_n 0, 1) := by decide +kernel
theorem d_42_41 : decode prog_5_method_2_code 41 = .ok (.aload_n 1, 1) := by decide +kernel
theorem d_42_42 : decode prog_5_method_2_code 42 = .ok (.aload_n 2, 1) := by decide +kernel
theorem d_42_43 : decode prog_5_method_2_code 43 = .ok (.invokevirtual 35, 3) := by decide +kernel
theorem d_42_46 : decode prog_5_method_2_code 46 = .ok (.goto 9, 3) := by decide +kernel
theorem d_42_49 : decode prog_5_method_2_code 49 = .ok (.aload_n 0, 1) := by decide +kernel
theorem d_42_50 : decode prog_5_method_2_code 50 = .ok (.aload_n 1, 1) := by decide +kernel
theorem d_42_51 : decode prog_5_method_2_code 51 = .ok (.aload_n 2, 1) := by decide +kernel
theorem d_42_52 : decode prog_5_method_2_code 52 = .ok (.invokevirtual 38, 3) := by decide +kernel
theorem d_42_55 : decode prog_5_method_2_code 55 = .ok (.aload_n 0, 1) := by decide +kernel
theorem d_42_56 : decode prog_5_method_2_code 56 = .ok (.iconst 0, 1) := by decide +kernel
theorem d_42_57 : decode prog_5_method_2_code 57 = .ok (.invokevirtual 41, 3) := by decide +kernel
theorem d_42_60 : decode prog_5_method_2_code 60 = .ok (.return_, 1) := by decide +kernel
theorem d_43_0 : decode prog_5_method_3_code 0 = .ok (.iconst 0, 1) := by decide +kernel
theorem d_43_1 : decode prog_5_method_3_code 1 = .ok (.istore_n 3, 1) := by decide +kernel
theorem d_43_2 : decode prog_5_method_3_code 2 = .ok (.iload_n 3, 1) := by decide +kernel
theorem d_43_3 : decode prog_5_method_3_code 3 = .ok (.aload_n 1, 1) := by decide +kernel
theorem d_43_4 : decode prog_5_method_3_code 4 = .ok (.getfield 45, 3) := by decide +kernel
theorem d_43_7 : decode prog_5_method_3_code 7 = .ok (.if_icmp .ge 33, 3) := by decide +kernel
theorem d_43_10 : decode prog_5_method_3_code 10 = .ok (.aload_n 1, 1) := by decide +kernel
theorem d_43_11 : decode prog_5_method_3_code 11 = .ok (.getfield 48, 3) := by decide +kernel
theorem d_43_14 : decode prog_5_method_3_code 14 = .ok (.iload_n 3, 1) := by decide +kernel
theorem d_43_15 : decode prog_5_method_3_code 15 = .ok (.iaload, 1) := by decide +kernel
theorem d_43_16 : decode prog_5_method_3_code 16 = .ok (.iconst (-1), 1) := by decide +kernel
theorem d_43_17 : decode prog_5_method_3_code 17 = .ok (.if_icmp .eq 17, 3) := by decide +kernel
theorem d_43_20 : decode prog_5_method_3_code 20 = .ok (.aload_n 2, 1) := by decide +kernel
theorem d_43_21 : decode prog_5_method_3_code 21 = .ok (.getfield 52, 3) := by decide +kernel
theorem d_43_24 : decode prog_5_method_3_code 24 = .ok (.iload_n 3, 1) := by decide +kernel
theorem d_43_25 : decode prog_5_method_3_code 25 = .ok (.iaload, 1) := by decide +kernel
theorem d_43_26 : decode prog_5_method_3_code 26 = .ok (.ifCond .ne 8, 3) := by decide +kernel
theorem d_43_29 : decode prog_5_method_3_code 29 = .ok (.aload_n 0, 1) := by decide +kernel
theorem d_43_30 : decode prog_5_method_3_code 30 = .ok (.iconst 0, 1) := by decide +kernel
theorem d_43_31 : decode prog_5_method_3_code 31 = .ok (.invokevirtual 57, 3) := by decide +kernel
theorem d_43_34 : decode prog_5_method_3_code 34 = .ok (.iinc 3 1, 3) := by decide +kernel
theorem d_43_37 : decode prog_5_method_3_code 37 = .ok (.goto (-35), 3) := by decide +kernel
theorem d_43_40 : decode prog_5_method_3_code 40 = .ok (.return_, 1) := by decide +kernel
theorem d_44_0 : decode prog_5_method_4_code 0 = .ok (.iconst 0, 1) := by decide +kernel
theorem d_44_1 : decode prog_5_method_4_code 1 = .ok (.istore_n 3, 1) := by decide +kernel
theorem d_44_2 : decode prog_5_method_4_code 2 = .ok (.iload_n 3, 1) := by decide +kernel
theorem d_44_3 : decode prog_5_method_4_code 3 = .ok (.aload_n 1, 1) := by decide +kernel
theorem d_44_4 : decode prog_5_method_4_code 4 = .ok (.getfield 45, 3) := by decide +kernel
theorem d_44_7 : decode prog_5_method_4_code 7 = .ok (.if_icmp .ge 41, 3) := by decide +kernel
theorem d_44_10 : decode prog_5_method_4_code 10 = .ok (.aload_n 1, 1) := by decide +kernel
theorem d_44_11 : decode prog_5_method_4_code 11 = .ok (.getfield 48, 3) := by decide +kernel
theorem d_44_14 : decode prog_5_method_4_code 14 = .ok (.iload_n 3, 1) := by decide +kernel
theorem d_44_15 : decode prog_5_method_4_code 15 = .ok (.iaload, 1) := by decide +kernel
theorem d_44_16 : decode prog_5_method_4_code 16 = .ok (.iconst (-1), 1) := by decide +kernel
theorem d_44_17 : decode prog_5_method_4_code 17 = .ok (.if_icmp .eq 25, 3) := by decide +kernel
theorem d_44_20 : decode prog_5_method_4_code 20 = .ok (.aload_n 1, 1) := by decide +kernel
theorem d_44_21 : decode prog_5_method_4_code 21 = .ok (.getfield 60, 3) := by decide +kernel
theorem d_44_24 : decode prog_5_method_4_code 24 = .ok (.iload_n 3, 1) := by decide +kernel
theorem d_44_25 : decode prog_5_method_4_code 25 = .ok (.baload, 1) := by decide +kernel
theorem d_44_26 : decode prog_5_method_4_code 26 = .ok (.iload_n 2, 1) := by decide +kernel
theorem d_44_27 : decode prog_5_method_4_code 27 = .ok (.if_icmp .ne 15, 3) := by decide +kernel
theorem d_44_30 : decode prog_5_method_4_code 30 = .ok (.aload_n 0, 1) := by decide +kernel
theorem d_44_31 : decode prog_5_method_4_code 31 = .ok (.aload_n 1, 1) := by decide +kernel
theorem d_44_32 : decode prog_5_method_4_code 32 = .ok (.getfield 48, 3) := by decide +kernel
theorem d_44_35 : decode prog_5_method_4_code 35 = .ok (.iload_n 3, 1) := by decide +kernel
theorem d_44_36 : decode prog_5_method_4_code 36 = .ok (.iaload, 1) := by decide +kernel
theorem d_44_37 : decode prog_5_method_4_code 37 = .ok (.iload_n 3, 1) := by decide +kernel
theorem d_44_38 : decode prog_5_method_4_code 38 = .ok (.isub, 1) := by decide +kernel
theorem d_44_39 : decode prog_5_method_4_code 39 = .ok (.invokevirtual 57, 3) := by decide +kernel
theorem d_44_42 : decode prog_5_method_4_code 42 = .ok (.iinc 3 1, 3) := by decide +kernel
theorem d_44_45 : decode prog_5_method_4_code 45 = .ok (.goto (-43), 3) := by decide +kernel
theorem d_44_48 : decode prog_5_method_4_code 48 = .ok (.return_, 1) := by decide +kernel
theorem d_45_0 : decode prog_5_method_5_code 0 = .ok (.iconst 0, 1) := by decide +kernel
theorem d_45_1 : decode prog_5_method_5_code 1 = .ok (.istore_n 3, 1) := by decide +kernel
theorem d_45_2 : decode prog_5_method_5_code 2 = .ok (.iload_n 3, 1) := by decide +kernel
theorem d_45_3 : decode prog_5_method_5_code 3 = .ok (.aload_n 1, 1) := by decide +kernel
theorem d_45_4 : decode prog_5_method_5_code 4 = .ok (.getfield 45, 3) := by decide +kernel
theorem d_45_7 : decode prog_5_method_5_code 7 = .ok (.if_icmp .ge 38, 3) := by decide +kernel
theorem d_45_10 : decode prog_5_method_5_code 10 = .ok (.aload_n 1, 1) := by decide +kernel
theorem d_45_11 : decode prog_5_method_5_code 11 = .ok (.getfield 48, 3) := by decide +kernel
theorem d_45_14 : decode prog_5_method_5_code 14 = .ok (.iload_n 3, 1) := by decide +kernel
theorem d_45_15 : decode prog_5_method_5_code 15 = .ok (.iaload, 1) := by decide +kernel
theorem d_45_16 : decode prog_5_method_5_code 16 = .ok (.iconst (-1), 1) := by decide +kernel
theorem d_45_17 : decode prog_5_method_5_code 17 = .ok (.if_icmp .eq 22, 3) := by decide +kernel
theorem d_45_20 : decode prog_5_method_5_code 20 = .ok (.aload_n 1, 1) := by decide +kernel
theorem d_45_21 : decode prog_5_method_5_code 21 = .ok (.getfield 64, 3) := by decide +kernel
theorem d_45_24 : decode prog_5_method_5_code 24 = .ok (.iload_n 3, 1) := by decide +kernel
theorem d_45_25 : decode prog_5_method_5_code 25 = .ok (.aaload, 1) := by decide +kernel
theorem d_45_26 : decode prog_5_method_5_code 26 = .ok (.aload_n 2, 1) := by decide +kernel
theorem d_45_27 : decode prog_5_method_5_code 27 = .ok (.invokevirtual 68, 3) := by decide +kernel
theorem d_45_30 : decode prog_5_method_5_code 30 = .ok (.iconst 1, 1) := by decide +kernel
theorem d_45_31 : decode prog_5_method_5_code 31 = .ok (.if_icmp .ne 8, 3) := by decide +kernel
theorem d_45_34 : decode prog_5_method_5_code 34 = .ok (.aload_n 0, 1) := by decide +kernel
theorem d_45_35 : decode prog_5_method_5_code 35 = .ok (.iconst 0, 1) := by decide +kernel
theorem d_45_36 : decode prog_5_method_5_code 36 = .ok (.invokevirtual 57, 3) := by decide +kernel
theorem d_45_39 : decode prog_5_method_5_code 39 = .ok (.iinc 3 1, 3) := by decide +kernel
theorem d_45_42 : decode prog_5_method_5_code 42 = .ok (.goto (-40), 3) := by decide +kernel
theorem d_45_45 : decode prog_5_method_5_code 45 = .ok (.return_, 1) := by decide +kernel
theorem d_46_0 : decode prog_5_method_6_code 0 = .ok (.iconst 0, 1) := by decide +kernel
theorem d_46_1 : decode prog_5_method_6_code 1 = .ok (.istore_n 3, 1) := by decide +kernel
theorem d_46_2 : decode prog_5_method_6_code 2 = .ok (.iload_n 3, 1) := by decide +kernel
theorem d_46_3 : decode prog_5_method_6_code 3 = .ok (.aload_n 1, 1) := by decide +kernel
theorem d_46_4 : decode prog_5_method_6_code 4 = .ok (.getfield 45, 3) := by decide +kernel
theorem d_46_7 : decode prog_5_method_6_code 7 = .ok (.if_icmp .ge 43, 3) := by decide +kernel
theorem d_46_10 : decode prog_5_method_6_code 10 = .ok (.aload_n 1, 1) := by decide +kernel
theorem d_46_11 : decode prog_5_method_6_code 11 = .ok (.getfield 48, 3) := by decide +kernel
theorem d_46_14 : decode prog_5_method_6_code 14 = .ok (.iload_n 3, 1) := by decide +kernel
theorem d_46_15 : decode prog_5_method_6_code 15 = .ok (.iaload, 1) := by decide +kernel
theorem d_46_16 : decode prog_5_method_6_code 16 = .ok (.iconst (-1), 1) := by decide +kernel
theorem d_46_17 : decode prog_5_method_6_code 17 = .ok (.if_icmp .eq 27, 3) := by decide +kernel
theorem d_46_20 : decode prog_5_method_6_code 20 = .ok (.aload_n 1, 1) := by decide +kernel
theorem d_46_21 : decode prog_5_method_6_code 21 = .ok (.getfield 64, 3) := by decide +kernel
theorem d_46_24 : decode prog_5_method_6_code 24 = .ok (.iload_n 3, 1) := by decide +kernel
theorem d_46_25 : decode prog_5_method_6_code 25 = .ok (.aaload, 1) := by decide +kernel
theorem d_46_26 : decode prog_5_method_6_code 26 = .ok (.aload_n 2, 1) := by decide +kernel
theorem d_46_27 : decode prog_5_method_6_code 27 = .ok (.invokevirtual 68, 3) := by decide +kernel
theorem d_46_30 : decode prog_5_method_6_code 30 = .ok (.aload_n 2, 1) := by decide +kernel
theorem d_46_31 : decode prog_5_method_6_code 31 = .ok (.getfield 52, 3) := by decide +kernel
theorem d_46_34 : decode prog_5_method_6_code 34 = .ok (.iload_n 3, 1) := by decide +kernel
theorem d_46_35 : decode prog_5_method_6_code 35 = .ok (.iaload, 1) := by decide +kernel
theorem d_46_36 : decode prog_5_method_6_code 36 = .ok (.if_icmp .eq 8, 3) := by decide +kernel
theorem d_46_39 : decode prog_5_method_6_code 39 = .ok (.aload_n 0, 1) := by decide +kernel
theorem d_46_40 : decode prog_5_method_6_code 40 = .ok (.iconst 0, 1) := by decide +kernel
theorem d_46_41 : decode prog_5_method_6_code 41 = .ok (.invokevirtual 57, 3) := by decide +kernel
theorem d_46_44 : decode prog_5_method_6_code 44 = .ok (.iinc 3 1, 3) := by decide +kernel
theorem d_46_47 : decode prog_5_method_6_code 47 = .ok (.goto (-45), 3) := by decide +kernel
theorem d_46_50 : decode prog_5_method_6_code 50 = .ok (.return_, 1) := by decide +kernel
theorem d_47_0 : decode prog_5_method_7_code 0 = .ok (.aload_n 0, 1) := by decide +kernel
theorem d_47_1 : decode prog_5_method_7_code 1 = .ok (.iload_n 1, 1) := by decide +kernel
theorem d_47_2 : decode prog_5_method_7_code 2 = .ok (.invokevirtual 41, 3) := by decide +kernel
theorem d_47_5 : decode prog_5_method_7_code 5 = .ok (.aload_n 0, 1) := by decide +kernel
theorem d_47_6 : decode prog_5_method_7_code 6 = .ok (.dup, 1) := by decide +kernel
theorem d_47_7 : decode prog_5_method_7_code 7 = .ok (.getfield 15, 3) := by decide +kernel
theorem d_47_10 : decode prog_5_method_7_code 10 = .ok (.iconst 1, 1) := by decide +kernel
theorem d_47_11 : decode prog_5_method_7_code 11 = .ok (.iadd, 1) := by decide +kernel
theorem d_47_12 : decode prog_5_method_7_code 12 = .ok (.putfield 15, 3) := by decide +kernel
theorem d_47_15 : decode prog_5_method_7_code 15 = .ok (.return_, 1) := by decide +kernel
theorem d_48_0 : decode prog_5_method_8_code 0 = .ok (.aload_n 0, 1) := by decide +kernel
theorem d_48_1 : decode prog_5_method_8_code 1 = .ok (.getfield 9, 3) := by decide +kernel
theorem d_48_4 : decode prog_5_method_8_code 4 = .ok (.iload_n 1, 1) := by decide +kernel
theorem d_48_5 : decode prog_5_method_8_code 5 = .ok (.if_icmp .eq 18, 3) := by decide +kernel
theorem d_48_8 : decode prog_5_method_8_code 8 = .ok (.aload_n 0, 1) := by decide +kernel
theorem d_48_9 : decode prog_5_method_8_code 9 = .ok (.iload_n 1, 1) := by decide +kernel
theorem d_48_10 : decode prog_5_method_8_code 10 = .ok (.putfield 9, 3) := by decide +kernel
theorem d_48_13 : decode prog_5_method_8_code 13 = .ok (.aload_n 0, 1) := by decide +kernel
theorem d_48_14 : decode prog_5_method_8_code 14 = .ok (.dup, 1) := by decide +kernel
theorem d_48_15 : decode prog_5_method_8_code 15 = .ok (.getfield 18, 3) := by decide +kernel
theorem d_48_18 : decode prog_5_method_8_code 18 = .ok (.iconst 1, 1) := by decide +kernel
theorem d_48_19 : decode prog_5_method_8_code 19 = .ok (.iadd, 1) := by decide +kernel
theorem d_48_20 : decode prog_5_method_8_code 20 = .ok (.putfield 18, 3) := by decide +kernel
theorem d_48_23 : decode prog_5_method_8_code 23 = .ok (.return_, 1) := by decide +kernel
theorem d_49_0 : decode prog_6_method_1_code 0 = .ok (.aload_n 0, 1) := by decide +kernel
theorem d_49_1 : decode prog_6_method_1_code 1 = .ok (.invokespecial 3, 3) := by decide +kernel
theorem d_49_4 : decode prog_6_method_1_code 4 = .ok (.aload_n 0, 1) := by decide +kernel
theorem d_49_5 : decode prog_6_method_1_code 5 = .ok (.iconst 0, 1) := by decide +kernel
theorem d_49_6 : decode prog_6_method_1_code 6 = .ok (.putfield 9, 3) := by decide +kernel
theorem d_49_9 : decode prog_6_method_1_code 9 = .ok (.aload_n 0, 1) := by decide +kernel
theorem d_49_10 : decode prog_6_method_1_code 10 = .ok (.bipush 16, 2) := by decide +kernel
theorem d_49_12 : decode prog_6_method_1_code 12 = .ok (.anewarray 15, 3) := by decide +kernel
theorem d_49_15 : decode prog_6_method_1_code 15 = .ok (.putfield 17, 3) := by decide +kernel
theorem d_49_18 : decode prog_6_method_1_code 18 = .ok (.aload_n 0, 1) := by decide +kernel
theorem d_49_19 : decode prog_6_method_1_code 19 = .ok (.bipush 16, 2) := by decide +kernel
theorem d_49_21 : decode prog_6_method_1_code 21 = .ok (.newarray .int, 2) := by decide +kernel
theorem d_49_23 : decode prog_6_method_1_code 23 = .ok (.putfield 21, 3) := by decide +kernel
theorem d_49_26 : decode prog_6_method_1_code 26 = .ok (.aload_n 0, 1) := by decide +kernel
theorem d_49_27 : decode prog_6_method_1_code 27 = .ok (.bipush 16, 2) := by decide +kernel
theorem d_49_29 : decode prog_6_method_1_code 29 = .ok (.newarray .boolean, 2) := by decide +kernel
theorem d_49_31 : decode prog_6_method_1_code 31 = .ok (.putfield 25, 3) := by decide +kernel
theorem d_49_34 : decode prog_6_method_1_code 34 = .ok (.aload_n 0, 1) := by decide +kernel
theorem d_49_35 : decode prog_6_method_1_code 35 = .ok (.bipush 16, 2) := by decide +kernel
theorem d_49_37 : decode prog_6_method_1_code 37 = .ok (.anewarray 15, 3) := by decide +kernel
theorem d_49_40 : decode prog_6_method_1_code 40 = .ok (.putfield 29, 3) := by decide +kernel
theorem d_49_43 : decode prog_6_method_1_code 43 = .ok (.new 15, 3) := by decide +kernel
theorem d_49_46 : decode prog_6_method_1_code 46 = .ok (.dup, 1) := by decide +kernel
theorem d_49_47 : decode prog_6_method_1_code 47 = .ok (.invokespecial 32, 3) := by decide +kernel
theorem d_49_50 : decode prog_6_method_1_code 50 = .ok (.astore_n 1, 1) := by decide +kernel
theorem d_49_51 : decode prog_6_method_1_code 51 = .ok (.iconst 0, 1) := by decide +kernel
theorem d_49_52 : decode prog_6_method_1_code 52 = .ok (.istore_n 2, 1) := by decide +kernel
theorem d_49_53 : decode prog_6_method_1_code 53 = .ok (.iload_n 2, 1) := by decide +kernel
theorem d_49_54 : decode prog_6_method_1_code 54 = .ok (.bipush 16, 2) := by decide +kernel
theorem d_49_56 : decode prog_6_method_1_code 56 = .ok (.if_icmp .ge 23, 3) := by decide +kernel
theorem d_49_59 : decode prog_6_method_1_code 59 = .ok (.aload_n 0, 1) := by decide +kernel
theorem d_49_60 : decode prog_6_method_1_code 60 = .ok (.getfield 17, 3) := by decide +kernel
theorem d_49_63 : decode prog_6_method_1_code 63 = .ok (.iload_n 2, 1) := by decide +kernel
theorem d_49_64 : decode prog_6_method_1_code 64 = .ok (.aload_n 1, 1) := by decide +kernel
theorem d_49_65 : decode prog_6_method_1_code 65 = .ok (.aastore, 1) := by decide +kernel
theorem d_49_66 : decode prog_6_method_1_code 66 = .ok (.aload_n 0, 1) := by decide +kernel
theorem d_49_67 : decode prog_6_method_1_code 67 = .ok (.getfield 29, 3) := by decide +kernel
theorem d_49_70 : decode prog_6_method_1_code 70 = .ok (.iload_n 2, 1) := by decide +kernel
theorem d_49_71 : decode prog_6_method_1_code 71 = .ok (.aload_n 1, 1) := by decide +kernel
theorem d_49_72 : decode prog_6_method_1_code 72 = .ok (.aastore, 1) := by decide +kernel
theorem d_49_73 : decode prog_6_method_1_code 73 = .ok (.iinc 2 1, 3) := by decide +kernel
theorem d_49_76 : decode prog_6_method_1_code 76 = .ok (.goto (-23), 3) := by decide +kernel
theorem d_49_79 : decode prog_6_method_1_code 79 = .ok (.return_, 1) := by decide +kernel
theorem d_50_0 : decode prog_6_method_2_code 0 = .ok (.aload_n 0, 1) := by decide +kernel
theorem d_50_1 : decode prog_6_method_2_code 1 = .ok (.aload_n 1, 1) := by decide +kernel
theorem d_50_2 : decode prog_6_method_2_code 2 = .ok (.getfield 33, 3) := by decide +kernel
theorem d_50_5 : decode prog_6_method_2_code 5 = .ok (.putfield 9, 3) := by decide +kernel
theorem d_50_8 : decode prog_6_method_2_code 8 = .ok (.iconst 0, 1) := by decide +kernel
theorem d_50_9 : decode prog_6_method_2_code 9 = .ok (.istore_n 2, 1) := by decide +kernel
theorem d_50_10 : decode prog_6_method_2_code 10 = .ok (.iload_n 2, 1) := by decide +kernel
theorem d_50_11 : decode prog_6_method_2_code 11 = .ok (.aload_n 1, 1) := by decide +kernel
theorem d_50_12 : decode prog_6_method_2_code 12 = .ok (.getfield 38, 3) := by decide +kernel
theorem d_50_15 : decode prog_6_method_2_code 15 = .ok (.if_icmp .ge 108, 3) := by decide +kernel
theorem d_50_18 : decode prog_6_method_2_code 18 = .ok (.aload_n 1, 1) := by decide +kernel
theorem d_50_19 : decode prog_6_method_2_code 19 = .ok (.getfield 41, 3) := by decide +kernel
theorem d_50_22 : decode prog_6_method_2_code 22 = .ok (.iload_n 2, 1) := by decide +kernel
theorem d_50_23 : decode prog_6_method_2_code 23 = .ok (.aaload, 1) := by decide +kernel
theorem d_50_24 : decode prog_6_method_2_code 24 = .ok (.astore_n 3, 1) := by decide +kernel
theorem d_50_25 : decode prog_6_method_2_code 25 = .ok (.iconst 0, 1) := by decide +kernel
theorem d_50_26 : decode prog_6_method_2_code 26 = .ok (.istore 4, 2) := by decide +kernel
theorem d_50_28 : decode prog_6_method_2_code 28 = .ok (.iload 4, 2) := by decide +kernel
theorem d_50_30 : decode prog_6_method_2_code 30 = .ok (.aload_n 3, 1) := by decide +kernel
theorem d_50_31 : decode prog_6_method_2_code 31 = .ok (.invokevirtual 44, 3) := by decide +kernel
theorem d_50_34 : decode prog_6_method_2_code 34 = .ok (.if_icmp .ge 52, 3) := by decide +kernel
theorem d_50_37 : decode prog_6_method_2_code 37 = .ok (.aload_n 3, 1) := by decide +kernel
theorem d_50_38 : decode prog_6_method_2_code 38 = .ok (.getfield 48, 3) := by decide +kernel
theorem d_50_41 : decode prog_6_method_2_code 41 = .ok (.iload 4, 2) := by decide +kernel
theorem d_50_43 : decode prog_6_method_2_code 43 = .ok (.iadd, 1) := by decide +kernel
theorem d_50_44 : decode prog_6_method_2_code 44 = .ok (.istore 5, 2) := by decide +kernel
theorem d_50_46 : decode prog_6_method_2_code 46 = .ok (.aload_n 0, 1) := by decide +kernel
theorem d_50_47 : decode prog_6_method_2_code 47 = .ok (.getfield 17, 3) := by decide +kernel
theorem d_50_50 : decode prog_6_method_2_code 50 = .ok (.iload 5, 2) := by decide +kernel
theorem d_50_52 : decode prog_6_method_2_code 52 = .ok (.aload_n 3, 1) := by decide +kernel
theorem d_50_53 : decode prog_6_method_2_code 53 = .ok (.aastore, 1) := by decide +kernel
theorem d_50_54 : decode prog_6_method_2_code 54 = .ok (.aload_n 0, 1) := by decide +kernel
theorem d_50_55 : decode prog_6_method_2_code 55 = .ok (.getfield 21, 3) := by decide +kernel
theorem d_50_58 : decode prog_6_method_2_code 58 = .ok (.iload 5, 2) := by decide +kernel
theorem d_50_60 : decode prog_6_method_2_code 60 = .ok (.aload_n 3, 1) := by decide +kernel
theorem d_50_61 : decode prog_6_method_2_code 61 = .ok (.iload 5, 2) := by decide +kernel
theorem d_50_63 : decode prog_6_method_2_code 63 = .ok (.invokevirtual 51, 3) := by decide +kernel
theorem d_50_66 : decode prog_6_method_2_code 66 = .ok (.iastore, 1) := by decide +kernel
theorem d_50_67 : decode prog_6_method_2_code 67 = .ok (.aload_n 0, 1) := by decide +kernel
theorem d_50_68 : decode prog_6_method_2_code 68 = .ok (.getfield 25, 3) := by decide +kernel
theorem d_50_71 : decode prog_6_method_2_code 71 = .ok (.iload 5, 2) := by decide +kernel
theorem d_50_73 : decode prog_6_method_2_code 73 = .ok (.aload_n 3, 1) := by decide +kernel
theorem d_50_74 : decode prog_6_method_2_code 74 = .ok (.iload 5, 2) := by decide +kernel
theorem d_50_76 : decode prog_6_method_2_code 76 = .ok (.invokevirtual 55, 3) := by decide +kernel
theorem d_50_79 : decode prog_6_method_2_code 79 = .ok (.bastore, 1) := by decide +kernel
theorem d_50_80 : decode prog_6_method_2_code 80 = .ok (.iinc 4 1, 3) := by decide +kernel
theorem d_50_83 : decode prog_6_method_2_code 83 = .ok (.goto (-55), 3) := by decide +kernel
theorem d_50_86 : decode prog_6_method_2_code 86 = .ok (.iconst 0, 1) := by decide +kernel
theorem d_50_87 : decode prog_6_method_2_code 87 = .ok (.istore 4, 2) := by decide +kernel
theorem d_50_89 : decode prog_6_method_2_code 89 = .ok (.iload 4, 2) := by decide +kernel
theorem d_50_91 : decode prog_6_method_2_code 91 = .ok (.aload_n 3, 1) := by decide +kernel
theorem d_50_92 : decode prog_6_method_2_code 92 = .ok (.invokevirtual 59, 3) := by decide +kernel
theorem d_50_95 : decode prog_6_method_2_code 95 = .ok (.if_icmp .ge 22, 3) := by decide +kernel
theorem d_50_98 : decode prog_6_method_2_code 98 = .ok (.aload_n 0, 1) := by decide +kernel
theorem d_50_99 : decode prog_6_method_2_code 99 = .ok (.getfield 29, 3) := by decide +kernel
theorem d_50_102 : decode prog_6_method_2_code 102 = .ok (.aload_n 3, 1) := by decide +kernel
theorem d_50_103 : decode prog_6_method_2_code 103 = .ok (.getfield 62, 3) := by decide +kernel
theorem d_50_106 : decode prog_6_method_2_code 106 = .ok (.iload 4, 2) := by decide +kernel
theorem d_50_108 : decode prog_6_method_2_code 108 = .ok (.iadd, 1) := by decide +kernel
theorem d_50_109 : decode prog_6_method_2_code 109 = .ok (.aload_n 3, 1) := by decide +kernel
theorem d_50_110 : decode prog_6_method_2_code 110 = .ok (.aastore, 1) := by decide +kernel
theorem d_50_111 : decode prog_6_method_2_code 111 = .ok (.iinc 4 1, 3) := by decide +kernel
theorem d_50_114 : decode prog_6_method_2_code 114 = .ok (.goto (-25), 3) := by decide +kernel
theorem d_50_117 : decode prog_6_method_2_code 117 = .ok (.iinc 2 1, 3) := by decide +kernel
theorem d_50_120 : decode prog_6_method_2_code 120 = .ok (.goto (-110), 3) := by decide +kernel
theorem d_50_123 : decode prog_6_method_2_code 123 = .ok (.return_, 1) := by decide +kernel
theorem d_51_0 : decode prog_6_method_3_code 0 = .ok (.iconst 0, 1) := by decide +kernel
theorem d_51_1 : decode prog_6_method_3_code 1 = .ok (.istore_n 1, 1) := by decide +kernel
theorem d_51_2 : decode prog_6_method_3_code 2 = .ok (.iload_n 1, 1) := by decide +kernel
theorem d_51_3 : decode prog_6_method_3_code 3 = .ok (.aload_n 0, 1) := by decide +kernel
theorem d_51_4 : decode prog_6_method_3_code 4 = .ok (.getfield 9, 3) := by decide +kernel
theorem d_51_7 : decode prog_6_method_3_code 7 = .ok (.if_icmp .ge 45, 3) := by decide +kernel
theorem d_51_10 : decode prog_6_method_3_code 10 = .ok (.aload_n 0, 1) := by decide +kernel
theorem d_51_11 : decode prog_6_method_3_code 11 = .ok (.getfield 21, 3) := by decide +kernel
theorem d_51_14 : decode prog_6_method_3_code 14 = .ok (.iload_n 1, 1) := by decide +kernel
theorem d_51_15 : decode prog_6_method_3_code 15 = .ok (.iaload, 1) := by decide +kernel
theorem d_51_16 : decode prog_6_method_3_code 16 = .ok (.iconst (-1), 1) := by decide +kernel
theorem d_51_17 : decode prog_6_method_3_code 17 = .ok (.if_icmp .eq 29, 3) := by decide +kernel
theorem d_51_20 : decode prog_6_method_3_code 20 = .ok (.aload_n 0, 1) := by decide +kernel
theorem d_51_21 : decode prog_6_method_3_code 21 = .ok (.getfield 21, 3) := by decide +kernel
theorem d_51_24 : decode prog_6_method_3_code 24 = .ok (.iload_n 1, 1) := by decide +kernel
theorem d_51_25 : decode prog_6_method_3_code 25 = .ok (.iaload, 1) := by decide +kernel
theorem d_51_26 : decode prog_6_method_3_code 26 = .ok (.iload_n 1, 1) := by decide +kernel
theorem d_51_27 : decode prog_6_method_3_code 27 = .ok (.isub, 1) := by decide +kernel
theorem d_51_28 : decode prog_6_method_3_code 28 = .ok (.invokestatic 65, 3) := by decide +kernel
theorem d_51_31 : decode prog_6_method_3_code 31 = .ok (.bipush 8, 2) := by decide +kernel
theorem d_51_33 : decode prog_6_method_3_code 33 = .ok (.if_icmp .le 13, 3) := by decide +kernel
theorem d_51_36 : decode prog_6_method_3_code 36 = .ok (.aload_n 0, 1) := by decide +kernel
theorem d_51_37 : decode prog_6_method_3_code 37 = .ok (.getfield 17, 3) := by decide +kernel
theorem d_51_40 : decode prog_6_method_3_code 40 = .ok (.iload_n 1, 1) := by decide +kernel
theorem d_51_41 : decode prog_6_method_3_code 41 = .ok (.aaload, 1) := by decide +kernel
theorem d_51_42 : decode prog_6_method_3_code 42 = .ok (.getfield 70, 3) := by decide +kernel
theorem d_51_45 : decode prog_6_method_3_code 45 = .ok (.ireturn, 1) := by decide +kernel
theorem d_51_46 : decode prog_6_method_3_code 46 = .ok (.iinc 1 1, 3) := by decide +kernel
theorem d_51_49 : decode prog_6_method_3_code 49 = .ok (.goto (-47), 3) := by decide +kernel
theorem d_51_52 : decode prog_6_method_3_code 52 = .ok (.iconst (-1), 1) := by decide +kernel
theorem d_51_53 : decode prog_6_method_3_code 53 = .ok (.ireturn, 1) := by decide +kernel
theorem d_52_0 : decode prog_6_method_4_code 0 = .ok (.iconst 0, 1) := by decide +kernel
theorem d_52_1 : decode prog_6_method_4_code 1 = .ok (.istore_n 1, 1) := by decide +kernel
theorem d_52_2 : decode prog_6_method_4_code 2 = .ok (.iload_n 1, 1) := by decide +kernel
theorem d_52_3 : decode prog_6_method_4_code 3 = .ok (.aload_n 0, 1) := by decide +kernel
theorem d_52_4 : decode prog_6_method_4_code 4 = .ok (.getfield 9, 3) := by decide +kernel
theorem d_52_7 : decode prog_6_method_4_code 7 = .ok (.if_icmp .ge 31, 3) := by decide +kernel
theorem d_52_10 : decode prog_6_method_4_code 10 = .ok (.aload_n 0, 1) := by decide +kernel
theorem d_52_11 : decode prog_6_method_4_code 11 = .ok (.getfield 21, 3) := by decide +kernel
theorem d_52_14 : decode prog_6_method_4_code 14 = .ok (.iload_n 1, 1) := by decide +kernel
theorem d_52_15 : decode prog_6_method_4_code 15 = .ok (.iaload, 1) := by decide +kernel
theorem d_52_16 : decode prog_6_method_4_code 16 = .ok (.iconst (-1), 1) := by decide +kernel
theorem d_52_17 : decode prog_6_method_4_code 17 = .ok (.if_icmp .eq 15, 3) := by decide +kernel
theorem d_52_20 : decode prog_6_method_4_code 20 = .ok (.aload_n 0, 1) := by decide +kernel
theorem d_52_21 : decode prog_6_method_4_code 21 = .ok (.getfield 21, 3) := by decide +kernel
theorem d_52_24 : decode prog_6_method_4_code 24 = .ok (.iload_n 1, 1) := by decide +kernel
theorem d_52_25 : decode prog_6_method_4_code 25 = .ok (.iaload, 1) := by decide +kernel
theorem d_52_26 : decode prog_6_method_4_code 26 = .ok (.iload_n 1, 1) := by decide +kernel
theorem d_52_27 : decode prog_6_method_4_code 27 = .ok (.if_icmp .eq 5, 3) := by decide +kernel
theorem d_52_30 : decode prog_6_method_4_code 30 = .ok (.iconst 1, 1) := by decide +kernel
theorem d_52_31 : decode prog_6_method_4_code 31 = .ok (.ireturn, 1) := by decide +kernel
theorem d_52_32 : decode prog_6_method_4_code 32 = .ok (.iinc 1 1, 3) := by decide +kernel
theorem d_52_35 : decode prog_6_method_4_code 35 = .ok (.goto (-33), 3) := by decide +kernel
theorem d_52_38 : decode prog_6_method_4_code 38 = .ok (.iconst 0, 1) := by decide +kernel
theorem d_52_39 : decode prog_6_method_4_code 39 = .ok (.ireturn, 1) := by decide +kernel
theorem d_53_0 : decode prog_7_method_1_code 0 = .ok (.aload_n 0, 1) := by decide +kernel
theorem d_53_1 : decode prog_7_method_1_code 1 = .ok (.invokespecial 3, 3) := by decide +kernel
theorem d_53_4 : decode prog_7_method_1_code 4 = .ok (.aload_n 0, 1) := by decide +kernel
theorem d_53_5 : decode prog_7_method_1_code 5 = .ok (.iconst 0, 1) := by decide +kernel
theorem d_53_6 : decode prog_7_method_1_code 6 = .ok (.putfield 9, 3) := by decide +kernel
theorem d_53_9 : decode prog_7_method_1_code 9 = .ok (.aload_n 0, 1) := by decide +kernel
theorem d_53_10 : decode prog_7_method_1_code 10 = .ok (.bipush 64, 2) := by decide +kernel
theorem d_53_12 : decode prog_7_method_1_code 12 = .ok (.newarray .int, 2) := by decide +kernel
theorem d_53_14 : decode prog_7_method_1_code 14 = .ok (.putfield 15, 3) := by decide +kernel
theorem d_53_17 : decode prog_7_method_1_code 17 = .ok (.aload_n 0, 1) := by decide +kernel
theorem d_53_18 : decode prog_7_method_1_code 18 = .ok (.bipush 16, 2) := by decide +kernel
theorem d_53_20 : decode prog_7_method_1_code 20 = .ok (.newarray .int, 2) := by decide +kernel
theorem d_53_22 : decode prog_7_method_1_code 22 = .ok (.putfield 19, 3) := by decide +kernel
theorem d_53_25 : decode prog_7_method_1_code 25 = .ok (.aload_n 0, 1) := by decide +kernel
theorem d_53_26 : decode prog_7_method_1_code 26 = .ok (.bipush 16, 2) := by decide +kernel
theorem d_53_28 : decode prog_7_method_1_code 28 = .ok (.newarray .int, 2) := by decide +kernel
theorem d_53_30 : decode prog_7_method_1_code 30 = .ok (.putfield 22, 3) := by decide +kernel
theorem d_53_33 : decode prog_7_method_1_code 33 = .ok (.aload_n 0, 1) := by decide +kernel
theorem d_53_34 : decode prog_7_method_1_code 34 = .ok (.iconst 3, 1) := by decide +kernel
theorem d_53_35 : decode prog_7_method_1_code 35 = .ok (.newarray .int, 2) := by decide +kernel
theorem d_53_37 : decode prog_7_method_1_code 37 = .ok (.dup, 1) := by decide +kernel
theorem d_53_38 : decode prog_7_method_1_code 38 = .ok (.iconst 0, 1) := by decide +kernel
theorem d_53_39 : decode prog_7_method_1_code 39 = .ok (.iconst (-1), 1) := by decide +kernel
theorem d_53_40 : decode prog_7_method_1_code 40 = .ok (.iastore, 1) := by decide +kernel
theorem d_53_41 : decode prog_7_method_1_code 41 = .ok (.dup, 1) := by decide +kernel
theorem d_53_42 : decode prog_7_method_1_code 42 = .ok (.iconst 1, 1) := by decide +kernel
theorem d_53_43 : decode prog_7_method_1_code 43 = .ok (.iconst (-1), 1) := by decide +kernel
theorem d_53_44 : decode prog_7_method_1_code 44 = .ok (.iastore, 1) := by decide +kernel
theorem d_53_45 : decode prog_7_method_1_code 45 = .ok (.dup, 1) := by decide +kernel
theorem d_53_46 : decode prog_7_method_1_code 46 = .ok (.iconst 2, 1) := by decide +kernel
theorem d_53_47 : decode prog_7_method_1_code 47 = .ok (.iconst (-1), 1) := by decide +kernel
theorem d_53_48 : decode prog_7_method_1_code 48 = .ok (.iastore, 1) := by decide +kernel
theorem d_53_49 : decode prog_7_method_1_code 49 = .ok (.putfield 25, 3) := by decide +kernel
theorem d_53_52 : decode prog_7_method_1_code 52 = .ok (.aload_n 0, 1) := by decide +kernel
theorem d_53_53 : decode prog_7_method_1_code 53 = .ok (.iconst 0, 1) := by decide +kernel
theorem d_53_54 : decode prog_7_method_1_code 54 = .ok (.putfield 28, 3) := by decide +kernel
theorem d_53_57 : decode prog_7_method_1_code 57 = .ok (.aload_n 0, 1) := by decide +kernel
theorem d_53_58 : decode prog_7_method_1_code 58 = .ok (.iconst 0, 1) := by decide +kernel
theorem d_53_59 : decode prog_7_method_1_code 59 = .ok (.putfield 31, 3) := by decide +kernel
theorem d_53_62 : decode prog_7_method_1_code 62 = .ok (.aload_n 0, 1) := by decide +kernel
theorem d_53_63 : decode prog_7_method_1_code 63 = .ok (.iconst 0, 1) := by decide +kernel
theorem d_53_64 : decode prog_7_method_1_code 64 = .ok (.putfield 34, 3) := by decide +kernel
theorem d_53_67 : decode prog_7_method_1_code 67 = .ok (.aload_n 0, 1) := by decide +kernel
theorem d_53_68 : decode prog_7_method_1_code 68 = .ok (.iconst 0, 1) := by decide +kernel
theorem d_53_69 : decode prog_7_method_1_code 69 = .ok (.putfield 37, 3) := by decide +kernel
theorem d_53_72 : decode prog_7_method_1_code 72 = .ok (.aload_n 0, 1) := by decide +kernel
theorem d_53_73 : decode prog_7_method_1_code 73 = .ok (.iconst 0, 1) := by decide +kernel
theorem d_53_74 : decode prog_7_method_1_code 74 = .ok (.putfield 40, 3) := by decide +kernel
theorem d_53_77 : decode prog_7_method_1_code 77 = .ok (.aload_n 0, 1) := by decide +kernel
theorem d_53_78 : decode prog_7_method_1_code 78 = .ok (.iconst 0, 1) := by decide +kernel
theorem d_53_79 : decode prog_7_method_1_code 79 = .ok (.putfield 43, 3) := by decide +kernel
theorem d_53_82 : decode prog_7_method_1_code 82 = .ok (.aload_n 0, 1) := by decide +kernel
theorem d_53_83 : decode prog_7_method_1_code 83 = .ok (.iconst 0, 1) := by decide +kernel
theorem d_53_84 : decode prog_7_method_1_code 84 = .ok (.putfield 46, 3) := by decide +kernel
theorem d_53_87 : decode prog_7_method_1_code 87 = .ok (.aload_n 0, 1) := by decide +kernel
theorem d_53_88 : decode prog_7_method_1_code 88 = .ok (.iconst 0, 1) := by decide +kernel
theorem d_53_89 : decode prog_7_method_1_code 89 = .ok (.putfield 49, 3) := by decide +kernel
theorem d_53_92 : decode prog_7_method_1_code 92 = .ok (.return_, 1) := by decide +kernel
theorem d_54_0 : decode prog_7_method_2_code 0 = .ok (.aload_n 0, 1) := by decide +kernel
theorem d_54_1 : decode prog_7_method_2_code 1 = .ok (.iload_n 1, 1) := by decide +kernel
theorem d_54_2 : decode prog_7_method_2_code 2 = .ok (.putfield 9, 3) := by decide +kernel
theorem d_54_5 : decode prog_7_method_2_code 5 = .ok (.iconst 0, 1) := by decide +kernel
theorem d_54_6 : decode prog_7_method_2_code 6 = .ok (.istore_n 2, 1) := by decide +kernel
theorem d_54_7 : decode prog_7_method_2_code 7 = .ok (.iload_n 2, 1) := by decide +kernel
theorem d_54_8 : decode prog_7_method_2_code 8 = .ok (.bipush 16, 2) := by decide +kernel
theorem d_54_10 : decode prog_7_method_2_code 10 = .ok (.if_icmp .ge 16, 3) := by decide +kernel
theorem d_54_13 : decode prog_7_method_2_code 13 = .ok (.aload_n 0, 1) := by decide +kernel
theorem d_54_14 : decode prog_7_method_2_code 14 = .ok (.getfield 19, 3) := by decide +kernel
theorem d_54_17 : decode prog_7_method_2_code 17 = .ok (.iload_n 2, 1) := by decide +kernel
theorem d_54_18 : decode prog_7_method_2_code 18 = .ok (.iconst 0, 1) := by decide +kernel
theorem d_54_19 : decode prog_7_method_2_code 19 = .ok (.iastore, 1) := by decide +kernel
theorem d_54_20 : decode prog_7_method_2_code 20 = .ok (.iinc 2 1, 3) := by decide +kernel
theorem d_54_23 : decode prog_7_method_2_code 23 = .ok (.goto (-16), 3) := by decide +kernel
theorem d_54_26 : decode prog_7_method_2_code 26 = .ok (.return_, 1) := by decide +kernel
theorem d_55_0 : decode prog_7_method_3_code 0 = .ok (.iload_n 1, 1) := by decide +kernel
theorem d_55_1 : decode prog_7_method_3_code 1 = .ok (.ifCond .lt 15, 3) := by decide +kernel
theorem d_55_4 : decode prog_7_method_3_code 4 = .ok (.iload_n 1, 1) := by decide +kernel
theorem d_55_5 : decode prog_7_method_3_code 5 = .ok (.aload_n 0, 1) := by decide +kernel
theorem d_55_6 : decode prog_7_method_3_code 6 = .ok (.getfield 9, 3) := by decide +kernel
theorem d_55_9 : decode prog_7_method_3_code 9 = .ok (.if_icmp .ge 7, 3) := by decide +kernel
theorem d_55_12 : decode prog_7_method_3_code 12 = .ok (.iconst 1, 1) := by decide +kernel
theorem d_55_13 : decode prog_7_method_3_code 13 = .ok (.goto 4, 3) := by decide +kernel
theorem d_55_16 : decode prog_7_method_3_code 16 = .ok (.iconst 0, 1) := by decide +kernel
theorem d_55_17 : decode prog_7_method_3_code 17 = .ok (.ireturn, 1) := by decide +kernel
theorem d_56_0 : decode prog_7_method_4_code 0 = .ok (.aload_n 0, 1) := by decide +kernel
theorem d_56_1 : decode prog_7_method_4_code 1 = .ok (.getfield 15, 3) := by decide +kernel
theorem d_56_4 : decode prog_7_method_4_code 4 = .ok (.iload_n 1, 1) := by decide +kernel
theorem d_56_5 : decode prog_7_method_4_code 5 = .ok (.iconst 4, 1) := by decide +kernel
theorem d_56_6 : decode prog_7_method_4_code 6 = .ok (.imul, 1) := by decide +kernel
theorem d_56_7 : decode prog_7_method_4_code 7 = .ok (.iload_n 2, 1) := by decide +kernel
theorem d_56_8 : decode prog_7_method_4_code 8 = .ok (.iadd, 1) := by decide +kernel
theorem d_56_9 : decode prog_7_method_4_code 9 = .ok (.iaload, 1) := by decide +kernel
theorem d_56_10 : decode prog_7_method_4_code 10 = .ok (.ireturn, 1) := by decide +kernel
theorem d_57_0 : decode prog_7_method_5_code 0 = .ok (.aload_n 0, 1) := by decide +kernel
theorem d_57_1 : decode prog_7_method_5_code 1 = .ok (.getfield 15, 3) := by decide +kernel
theorem d_57_4 : decode prog_7_method_5_code 4 = .ok (.iload_n 1, 1) := by decide +kernel
theorem d_57_5 : decode prog_7_method_5_code 5 = .ok (.iconst 4, 1) := by decide +kernel
theorem d_57_6 : decode prog_7_method_5_code 6 = .ok (.imul, 1) := by decide +kernel
theorem d_57_7 : decode prog_7_method_5_code 7 = .ok (.aload_n 0, 1) := by decide +kernel
theorem d_57_8 : decode prog_7_method_5_code 8 = .ok (.getfield 19, 3) := by decide +kernel
theorem d_57_11 : decode prog_7_method_5_code 11 = .ok (.iload_n 1, 1) := by decide +kernel
theorem d_57_12 : decode prog_7_method_5_code 12 = .ok (.iaload, 1) := by decide +kernel
theorem d_57_13 : decode prog_7_method_5_code 13 = .ok (.iadd, 1) := by decide +kernel
theorem d_57_14 : decode prog_7_method_5_code 14 = .ok (.iload_n 2, 1) := by decide +kernel
theorem d_57_15 : decode prog_7_method_5_code 15 = .ok (.iastore, 1) := by decide +kernel
theorem d_57_16 : decode prog_7_method_5_code 16 = .ok (.aload_n 0, 1) := by decide +kernel
theorem d_57_17 : decode prog_7_method_5_code 17 = .ok (.getfield 19, 3) := by decide +kernel
theorem d_57_20 : decode prog_7_method_5_code 20 = .ok (.iload_n 1, 1) := by decide +kernel
theorem d_57_21 : decode prog_7_method_5_code 21 = .ok (.dup2, 1) := by decide +kernel
theorem d_57_22 : decode prog_7_method_5_code 22 = .ok (.iaload, 1) := by decide +kernel
theorem d_57_23 : decode prog_7_method_5_code 23 = .ok (.iconst 1, 1) := by decide +kernel
theorem d_57_24 : decode prog_7_method_5_code 24 = .ok (.iadd, 1) := by decide +kernel
theorem d_57_25 : decode prog_7_method_5_code 25 = .ok (.iastore, 1) := by decide +kernel
theorem d_57_26 : decode prog_7_method_5_code 26 = .ok (.return_, 1) := by decide +kernel
theorem d_58_0 : decode prog_8_method_1_code 0 = .ok (.aload_n 0, 1) := by decide +kernel
theorem d_58_1 : decode prog_8_method_1_code 1 = .ok (.invokespecial 3, 3) := by decide +kernel
theorem d_58_4 : decode prog_8_method_1_code 4 = .ok (.return_, 1) := by decide +kernel
theorem d_59_0 : decode prog_8_method_2_code 0 = .ok (.iload_n 0, 1) := by decide +kernel
theorem d_59_1 : decode prog_8_method_2_code 1 = .ok (.lookupswitch 101 #[(60, 99), (62, 99), (99, 99), (107, 99), (108, 99), (109, 99), (111, 99), (112, 99), (114, 99), (116, 99), (120, 99)], 99) := by decide +kernel
theorem d_59_100 : decode prog_8_method_2_code 100 = .ok (.iconst 1, 1) := by decide +kernel
theorem d_59_101 : decode prog_8_method_2_code 101 = .ok (.ireturn, 1) := by decide +kernel
theorem d_59_102 : decode prog_8_method_2_code 102 = .ok (.iconst 0, 1) := by decide +kernel
theorem d_59_103 : decode prog_8_method_2_code 103 = .ok (.ireturn, 1) := by decide +kernel
theorem d_60_0 : decode prog_8_method_3_code 0 = .ok (.iload_n 0, 1) := by decide +kernel
theorem d_60_1 : decode prog_8_method_3_code 1 = .ok (.bipush 60, 2) := by decide +kernel
theorem d_60_3 : decode prog_8_method_3_code 3 = .ok (.if_icmp .eq 9, 3) := by decide +kernel
theorem d_60_6 : decode prog_8_method_3_code 6 = .ok (.iload_n 0, 1) := by decide +kernel
theorem d_60_7 : decode prog_8_method_3_code 7 = .ok (.bipush 62, 2) := by decide +kernel
theorem d_60_9 : decode prog_8_method_3_code 9 = .ok (.if_icmp .ne 7, 3) := by decide +kernel
theorem d_60_12 : decode prog_8_method_3_code 12 = .ok (.iconst 1, 1) := by decide +kernel
theorem d_60_13 : decode prog_8_method_3_code 13 = .ok (.goto 4, 3) := by decide +kernel
theorem d_60_16 : decode prog_8_method_3_code 16 = .ok (.iconst 0, 1) := by decide +kernel
theorem d_60_17 : decode prog_8_method_3_code 17 = .ok (.ireturn, 1) := by decide +kernel
theorem d_61_0 : decode prog_8_method_4_code 0 = .ok (.aload_n 0, 1) := by decide +kernel
theorem d_61_1 : decode prog_8_method_4_code 1 = .ok (.getfield 9, 3) := by decide +kernel
theorem d_61_4 : decode prog_8_method_4_code 4 = .ok (.invokestatic 15, 3) := by decide +kernel
theorem d_61_7 : decode prog_8_method_4_code 7 = .ok (.ireturn, 1) := by decide +kernel
theorem d_62_0 : decode prog_8_method_5_code 0 = .ok (.aload_n 0, 1) := by decide +kernel
theorem d_62_1 : decode prog_8_method_5_code 1 = .ok (.getfield 9, 3) := by decide +kernel
theorem d_62_4 : decode prog_8_method_5_code 4 = .ok (.lookupswitch 76 #[(60, 66), (62, 66), (99, 64), (108, 62), (111, 60), (114, 62)], 60) := by decide +kernel
theorem d_62_64 : decode prog_8_method_5_code 64 = .ok (.iconst 0, 1) := by decide +kernel
theorem d_62_65 : decode prog_8_method_5_code 65 = .ok (.ireturn, 1) := by decide +kernel
theorem d_62_66 : decode prog_8_method_5_code 66 = .ok (.iconst 2, 1) := by decide +kernel
theorem d_62_67 : decode prog_8_method_5_code 67 = .ok (.ireturn, 1) := by decide +kernel
theorem d_62_68 : decode prog_8_method_5_code 68 = .ok (.iconst 3, 1) := by decide +kernel
theorem d_62_69 : decode prog_8_method_5_code 69 = .ok (.ireturn, 1) := by decide +kernel
theorem d_62_70 : decode prog_8_method_5_code 70 = .ok (.aload_n 0, 1) := by decide +kernel
theorem d_62_71 : decode prog_8_method_5_code 71 = .ok (.getfield 19, 3) := by decide +kernel
theorem d_62_74 : decode prog_8_method_5_code 74 = .ok (.aload_n 0, 1) := by decide +kernel
theorem d_62_75 : decode prog_8_method_5_code 75 = .ok (.getfield 22, 3) := by decide +kernel
theorem d_62_78 : decode prog_8_method_5_code 78 = .ok (.iadd, 1) := by decide +kernel
theorem d_62_79 : decode prog_8_method_5_code 79 = .ok (.ireturn, 1) := by decide +kernel
theorem d_62_80 : decode prog_8_method_5_code 80 = .ok (.iconst 1, 1) := by decide +kernel
theorem d_62_81 : decode prog_8_method_5_code 81 = .ok (.ireturn, 1) := by decide +kernel
theorem d_63_0 : decode prog_8_method_6_code 0 = .ok (.aload_n 0, 1) := by decide +kernel
theorem d_63_1 : decode prog_8_method_6_code 1 = .ok (.getfield 9, 3) := by decide +kernel
theorem d_63_4 : decode prog_8_method_6_code 4 = .ok (.lookupswitch 48 #[(60, 38), (62, 38), (120, 36)], 36) := by decide +kernel
theorem d_63_40 : decode prog_8_method_6_code 40 = .ok (.iconst 0, 1) := by decide +kernel
theorem d_63_41 : decode prog_8_method_6_code 41 = .ok (.ireturn, 1) := by decide +kernel
theorem d_63_42 : decode prog_8_method_6_code 42 = .ok (.aload_n 0, 1) := by decide +kernel
theorem d_63_43 : decode prog_8_method_6_code 43 = .ok (.getfield 19, 3) := by decide +kernel
theorem d_63_46 : decode prog_8_method_6_code 46 = .ok (.aload_n 0, 1) := by decide +kernel
theorem d_63_47 : decode prog_8_method_6_code 47 = .ok (.getfield 22, 3) := by decide +kernel
theorem d_63_50 : decode prog_8_method_6_code 50 = .ok (.iadd, 1) := by decide +kernel
theorem d_63_51 : decode prog_8_method_6_code 51 = .ok (.ireturn, 1) := by decide +kernel
theorem d_63_52 : decode prog_8_method_6_code 52 = .ok (.iconst 1, 1) := by decide +kernel
theorem d_63_53 : decode prog_8_method_6_code 53 = .ok (.ireturn, 1) := by decide +kernel
theorem d_64_0 : decode prog_8_method_7_code 0 = .ok (.aload_n 0, 1) := by decide +kernel
theorem d_64_1 : decode prog_8_method_7_code 1 = .ok (.getfield 9, 3) := by decide +kernel
theorem d_64_4 : decode prog_8_method_7_code 4 = .ok (.bipush 109, 2) := by decide +kernel
theorem d_64_6 : decode prog_8_method_7_code 6 = .ok (.if_icmp .eq 16, 3) := by decide +kernel
theorem d_64_9 : decode prog_8_method_7_code 9 = .ok (.aload_n 0, 1) := by decide +kernel
theorem d_64_10 : decode prog_8_method_7_code 10 = .ok (.getfield 9, 3) := by decide +kernel
theorem d_64_13 : decode prog_8_method_7_code 13 = .ok (.bipush 120, 2) := by decide +kernel
theorem d_64_15 : decode prog_8_method_7_code 15 = .ok (.if_icmp .eq 7, 3) := by decide +kernel
theorem d_64_18 : decode prog_8_method_7_code 18 = .ok (.iconst 1, 1) := by decide +kernel
theorem d_64_19 : decode prog_8_method_7_code 19 = .ok (.goto 4, 3) := by decide +kernel
theorem d_64_22 : decode prog_8_method_7_code 22 = .ok (.iconst 0, 1) := by decide +kernel
theorem d_64_23 : decode prog_8_method_7_code 23 = .ok (.ireturn, 1) := by decide +kernel
theorem d_65_0 : decode prog_8_method_8_code 0 = .ok (.aload_n 0, 1) := by decide +kernel
theorem d_65_1 : decode prog_8_method_8_code 1 = .ok (.getfield 9, 3) := by decide +kernel
theorem d_65_4 : decode prog_8_method_8_code 4 = .ok (.bipush 116, 2) := by decide +kernel
theorem d_65_6 : decode prog_8_method_8_code 6 = .ok (.if_icmp .eq 12, 3) := by decide +kernel
theorem d_65_9 : decode prog_8_method_8_code 9 = .ok (.aload_n 0, 1) := by decide +kernel
theorem d_65_10 : decode prog_8_method_8_code 10 = .ok (.getfield 9, 3) := by decide +kernel
theorem d_65_13 : decode prog_8_method_8_code 13 = .ok (.bipush 109, 2) := by decide +kernel
theorem d_65_15 : decode prog_8_method_8_code 15 = .ok (.if_icmp .ne 7, 3) := by decide +kernel
theorem d_65_18 : decode prog_8_method_8_code 18 = .ok (.iconst 1, 1) := by decide +kernel
theorem d_65_19 : decode prog_8_method_8_code 19 = .ok (.goto 4, 3) := by decide +kernel
theorem d_65_22 : decode prog_8_method_8_code 22 = .ok (.iconst 0, 1) := by decide +kernel
theorem d_65_23 : decode prog_8_method_8_code 23 = .ok (.ireturn, 1) := by decide +kernel
theorem d_66_0 : decode prog_8_method_9_code 0 = .ok (.aload_n 0, 1) := by decide +kernel
theorem d_66_1 : decode prog_8_method_9_code 1 = .ok (.getfield 9, 3) := by decide +kernel
theorem d_66_4 : decode prog_8_method_9_code 4 = .ok (.bipush 120, 2) := by decide +kernel
theorem d_66_6 : decode prog_8_method_9_code 6 = .ok (.if_icmp .ne 5, 3) := by decide +kernel
theorem d_66_9 : decode prog_8_method_9_code 9 = .ok (.iconst (-1), 1) := by decide +kernel
theorem d_66_10 : decode prog_8_method_9_code 10 = .ok (.ireturn, 1) := by decide +kernel
theorem d_66_11 : decode prog_8_method_9_code 11 = .ok (.aload_n 0, 1) := by decide +kernel
theorem d_66_12 : decode prog_8_method_9_code 12 = .ok (.invokevirtual 25, 3) := by decide +kernel
theorem d_66_15 : decode prog_8_method_9_code 15 = .ok (.ifCond .ne 8, 3) := by decide +kernel
theorem d_66_18 : decode prog_8_method_9_code 18 = .ok (.aload_n 0, 1) := by decide +kernel
theorem d_66_19 : decode prog_8_method_9_code 19 = .ok (.getfield 29, 3) := by decide +kernel
theorem d_66_22 : decode prog_8_method_9_code 22 = .ok (.ireturn, 1) := by decide +kernel
theorem d_66_23 : decode prog_8_method_9_code 23 = .ok (.iload_n 1, 1) := by decide +kernel
theorem d_66_24 : decode prog_8_method_9_code 24 = .ok (.aload_n 0, 1) := by decide +kernel
theorem d_66_25 : decode prog_8_method_9_code 25 = .ok (.getfield 32, 3) := by decide +kernel
theorem d_66_28 : decode prog_8_method_9_code 28 = .ok (.isub, 1) := by decide +kernel
theorem d_66_29 : decode prog_8_method_9_code 29 = .ok (.istore_n 2, 1) := by decide +kernel
theorem d_66_30 : decode prog_8_method_9_code 30 = .ok (.iload_n 2, 1) := by decide +kernel
theorem d_66_31 : decode prog_8_method_9_code 31 = .ok (.aload_n 0, 1) := by decide +kernel
theorem d_66_32 : decode prog_8_method_9_code 32 = .ok (.getfield 19, 3) := by decide +kernel
theorem d_66_35 : decode prog_8_method_9_code 35 = .ok (.if_icmp .ge 17, 3) := by decide +kernel
theorem d_66_38 : decode prog_8_method_9_code 38 = .ok (.aload_n 0, 1) := by decide +kernel
theorem d_66_39 : decode prog_8_method_9_code 39 = .ok (.getfield 29, 3) := by decide +kernel
theorem d_66_42 : decode prog_8_method_9_code 42 = .ok (.aload_n 0, 1) := by decide +kernel
theorem d_66_43 : decode prog_8_method_9_code 43 = .ok (.getfield 22, 3) := by decide +kernel
theorem d_66_46 : decode prog_8_method_9_code 46 = .ok (.iadd, 1) := by decide +kernel
theorem d_66_47 : decode prog_8_method_9_code 47 = .ok (.iload_n 2, 1) := by decide +kernel
theorem d_66_48 : decode prog_8_method_9_code 48 = .ok (.iadd, 1) := by decide +kernel
theorem d_66_49 : decode prog_8_method_9_code 49 = .ok (.goto 14, 3) := by decide +kernel
theorem d_66_52 : decode prog_8_method_9_code 52 = .ok (.aload_n 0, 1) := by decide +kernel
theorem d_66_53 : decode prog_8_method_9_code 53 = .ok (.getfield 29, 3) := by decide +kernel
theorem d_66_56 : decode prog_8_method_9_code 56 = .ok (.iload_n 2, 1) := by decide +kernel
theorem d_66_57 : decode prog_8_method_9_code 57 = .ok (.iadd, 1) := by decide +kernel
theorem d_66_58 : decode prog_8_method_9_code 58 = .ok (.aload_n 0, 1) := by decide +kernel
theorem d_66_59 : decode prog_8_method_9_code 59 = .ok (.getfield 19, 3) := by decide +kernel
theorem d_66_62 : decode prog_8_method_9_code 62 = .ok (.isub, 1) := by decide +kernel
theorem d_66_63 : decode prog_8_method_9_code 63 = .ok (.ireturn, 1) := by decide +kernel
theorem d_67_0 : decode prog_8_method_10_code 0 = .ok (.iload_n 1, 1) := by decide +kernel
theorem d_67_1 : decode prog_8_method_10_code 1 = .ok (.aload_n 0, 1) := by decide +kernel
theorem d_67_2 : decode prog_8_method_10_code 2 = .ok (.getfield 32, 3) := by decide +kernel
theorem d_67_5 : decode prog_8_method_10_code 5 = .ok (.isub, 1) := by decide +kernel
theorem d_67_6 : decode prog_8_method_10_code 6 = .ok (.istore_n 2, 1) := by decide +kernel
theorem d_67_7 : decode prog_8_method_10_code 7 = .ok (.aload_n 0, 1) := by decide +kernel
theorem d_67_8 : decode prog_8_method_10_code 8 = .ok (.getfield 9, 3) := by decide +kernel
theorem d_67_11 : decode prog_8_method_10_code 11 = .ok (.lookupswitch 90 #[(60, 62), (62, 76), (99, 51), (108, 41)], 41) := by decide +kernel
theorem d_67_52 : decode prog_8_method_10_code 52 = .ok (.iload_n 2, 1) := by decide +kernel
theorem d_67_53 : decode prog_8_method_10_code 53 = .ok (.ifCond .ne 7, 3) := by decide +kernel
theorem d_67_56 : decode prog_8_method_10_code 56 = .ok (.iconst 1, 1) := by decide +kernel
theorem d_67_57 : decode prog_8_method_10_code 57 = .ok (.goto 4, 3) := by decide +kernel
theorem d_67_60 : decode prog_8_method_10_code 60 = .ok (.iconst 0, 1) := by decide +kernel
theorem d_67_61 : decode prog_8_method_10_code 61 = .ok (.ireturn, 1) := by decide +kernel
theorem d_67_62 : decode prog_8_method_10_code 62 = .ok (.iload_n 2, 1) := by decide +kernel
theorem d_67_63 : decode prog_8_method_10_code 63 = .ok (.iconst 1, 1) := by decide +kernel
theorem d_67_64 : decode prog_8_method_10_code 64 = .ok (.if_icmp .ne 7, 3) := by decide +kernel
theorem d_67_67 : decode prog_8_method_10_code 67 = .ok (.iconst 1, 1) := by decide +kernel
theorem d_67_68 : decode prog_8_method_10_code 68 = .ok (.goto 4, 3) := by decide +kernel
theorem d_67_71 : decode prog_8_method_10_code 71 = .ok (.iconst 0, 1) := by decide +kernel
theorem d_67_72 : decode prog_8_method_10_code 72 = .ok (.ireturn, 1) := by decide +kernel
theorem d_67_73 : decode prog_8_method_10_code 73 = .ok (.iload_n 2, 1) := by decide +kernel
theorem d_67_74 : decode prog_8_method_10_code 74 = .ok (.aload_n 0, 1) := by decide +kernel
theorem d_67_75 : decode prog_8_method_10_code 75 = .ok (.getfield 19, 3) := by decide +kernel
theorem d_67_78 : decode prog_8_method_10_code 78 = .ok (.if_icmp .lt 7, 3) := by decide +kernel
theorem d_67_81 : decode prog_8_method_10_code 81 = .ok (.iconst 1, 1) := by decide +kernel
theorem d_67_82 : decode prog_8_method_10_code 82 = .ok (.goto 4, 3) := by decide +kernel
theorem d_67_85 : decode prog_8_method_10_code 85 = .ok (.iconst 0, 1) := by decide +kernel
theorem d_67_86 : decode prog_8_method_10_code 86 = .ok (.ireturn, 1) := by decide +kernel
theorem d_67_87 : decode prog_8_method_10_code 87 = .ok (.iload_n 2, 1) := by decide +kernel
theorem d_67_88 : decode prog_8_method_10_code 88 = .ok (.aload_n 0, 1) := by decide +kernel
theorem d_67_89 : decode prog_8_method_10_code 89 = .ok (.getfield 19, 3) := by decide +kernel
theorem d_67_92 : decode prog_8_method_10_code 92 = .ok (.if_icmp .ge 7, 3) := by decide +kernel
theorem d_67_95 : decode prog_8_method_10_code 95 = .ok (.iconst 1, 1) := by decide +kernel
theorem d_67_96 : decode prog_8_method_10_code 96 = .ok (.goto 4, 3) := by decide +kernel
theorem d_67_99 : decode prog_8_method_10_code 99 = .ok (.iconst 0, 1) := by decide +kernel
theorem d_67_100 : decode prog_8_method_10_code 100 = .ok (.ireturn, 1) := by decide +kernel
theorem d_67_101 : decode prog_8_method_10_code 101 = .ok (.iconst 0, 1) := by decide +kernel
theorem d_67_102 : decode prog_8_method_10_code 102 = .ok (.ireturn, 1) := by decide +kernel
theorem d_68_0 : decode prog_8_method_11_code 0 = .ok (.aload_n 0, 1) := by decide +kernel
theorem d_68_1 : decode prog_8_method_11_code 1 = .ok (.getfield 9, 3) := by decide +kernel
theorem d_68_4 : decode prog_8_method_11_code 4 = .ok (.bipush 112, 2) := by decide +kernel
theorem d_68_6 : decode prog_8_method_11_code 6 = .ok (.if_icmp .ne 5, 3) := by decide +kernel
theorem d_68_9 : decode prog_8_method_11_code 9 = .ok (.iconst 1, 1) := by decide +kernel
theorem d_68_10 : decode prog_8_method_11_code 10 = .ok (.ireturn, 1) := by decide +kernel
theorem d_68_11 : decode prog_8_method_11_code 11 = .ok (.aload_n 0, 1) := by decide +kernel
theorem d_68_12 : decode prog_8_method_11_code 12 = .ok (.invokevirtual 35, 3) := by decide +kernel
theorem d_68_15 : decode prog_8_method_11_code 15 = .ok (.ifCond .eq 15, 3) := by decide +kernel
theorem d_68_18 : decode prog_8_method_11_code 18 = .ok (.aload_n 1, 1) := by decide +kernel
theorem d_68_19 : decode prog_8_method_11_code 19 = .ok (.getfield 38, 3) := by decide +kernel
theorem d_68_22 : decode prog_8_method_11_code 22 = .ok (.aload_n 0, 1) := by decide +kernel
theorem d_68_23 : decode prog_8_method_11_code 23 = .ok (.getfield 32, 3) := by decide +kernel
theorem d_68_26 : decode prog_8_method_11_code 26 = .ok (.iaload, 1) := by decide +kernel
theorem d_68_27 : decode prog_8_method_11_code 27 = .ok (.goto 4, 3) := by decide +kernel
theorem d_68_30 : decode prog_8_method_11_code 30 = .ok (.iconst 0, 1) := by decide +kernel
theorem d_68_31 : decode prog_8_method_11_code 31 = .ok (.ireturn, 1) := by decide +kernel
